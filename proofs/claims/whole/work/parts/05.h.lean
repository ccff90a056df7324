def inb (i : Int32) (n : Nat) : Bool := !(decide (i < 0)) && decide (i.toNatClampNeg < n)
theorem inb_in {i : Int32} {n : Nat} (h : inb i n = true) : vp_in i n := by
  simp only [inb, Bool.and_eq_true, Bool.not_eq_true', decide_eq_false_iff_not, decide_eq_true_eq] at h
  intro q
  rcases q with q | q
  · exact h.1 q
  · omega
/-- a class of the pool, by its number -/
def Cl (ci : Nat) (C : String) (T : u_T) (Nf : Nat) (ty : Nat → FieldType) : Prop := ci < 13 ∧ vwCl[ci]? = some (C, T, Nf) ∧ (∀ w ∈ u_ws C T Nf, w ∈ GT) ∧ (∀ k, k < Nf → parseFieldDescriptor (T k).2.2.1 = some (ty k)) ∧ (∀ a, a < Nf → ∀ b, b < Nf → a ≠ b → (T a).2.1 ≠ (T b).2.1)
/-- a field of a class, as an entry of another one's pool names it -/
def Fl (own : String) (index ci k : Nat) (fin : Bool) (fty : FieldType) (t : Nat) : Prop := ∃ (C : String) (T : u_T) (Nf : Nat) (ty : Nat → FieldType), Cl ci C T Nf ty ∧ k < Nf ∧ (fk ci)[k]? = some t ∧ Cond.fieldLink own index (T k).1 (T k).2.1 (T k).2.2.1 ∈ GT ∧ (T k).2.2.2 = fin ∧ ty k = fty ∧ (T k).1 = C
section
variable {z : Zx} {w : Px} {x : Cx} {nL cs ss : Nat} {ad : Nat → Nat} {n : Nat} {mm : Mem} {pc : Nat} {lv : List (Nat × Value)} {st : List Value} {cc : ByteArray} {own : String} {rm : Room}
theorem g_getI (X : OK z x cc own nL rm) {index ci k a : Nat} {fin : Bool} {fty : FieldType} (F : Fl own index ci k fin fty 0) (ha : a < n) (hk : w.1 a = ci) (hd : decode cc pc = .ok (.getfield index, 3)) (kk : G z w x nL cs ss ad n mm (pc + 3) lv (.int (mm.1 a k) :: st)) : G z w x nL cs ss ad n mm pc lv (.ref (ad a) :: st) := by
  obtain ⟨l, D, cy, aK, aV⟩ := z
  obtain ⟨p, e, R, s, m, args, below, meth, c, Q, ad0, n0⟩ := x
  obtain ⟨hx, hb, hml, hown, hts, hK, hR, hE⟩ := X
  intro H locs ls hP hD hS hl
  obtain ⟨C, T, Nf, ty, ⟨hc, hcl, hin, hty, hnm⟩, hkN, hf, hli, hfi, hft, hTC⟩ := F
  exact va_get (v := .int (mm.1 a k)) hx hb hts hin hown hK hP a (pw_obj ha hk hc) hcl k hkN (hts _ hli) (fun _ h => h) (fvs_at hf) hd (kk H locs ls hP hD hS hl)
theorem g_getJ (X : OK z x cc own nL rm) {index ci k a : Nat} {fin : Bool} {fty : FieldType} (F : Fl own index ci k fin fty 1) (ha : a < n) (hk : w.1 a = ci) (hd : decode cc pc = .ok (.getfield index, 3)) (kk : G z w x nL cs ss ad n mm (pc + 3) lv (.long (mm.2.1 a k) :: st)) : G z w x nL cs ss ad n mm pc lv (.ref (ad a) :: st) := by
  obtain ⟨l, D, cy, aK, aV⟩ := z
  obtain ⟨p, e, R, s, m, args, below, meth, c, Q, ad0, n0⟩ := x
  obtain ⟨hx, hb, hml, hown, hts, hK, hR, hE⟩ := X
  intro H locs ls hP hD hS hl
  obtain ⟨C, T, Nf, ty, ⟨hc, hcl, hin, hty, hnm⟩, hkN, hf, hli, hfi, hft, hTC⟩ := F
  exact va_get (v := .long (mm.2.1 a k)) hx hb hts hin hown hK hP a (pw_obj ha hk hc) hcl k hkN (hts _ hli) (fun _ h => h) (fvs_at hf) hd (kk H locs ls hP hD hS hl)
theorem g_getR (X : OK z x cc own nL rm) {index ci k a b : Nat} {fin : Bool} {fty : FieldType} (F : Fl own index ci k fin fty 2) (ha : a < n) (hk : w.1 a = ci) (hr : mm.2.2 a k = some b) (hd : decode cc pc = .ok (.getfield index, 3)) (kk : G z w x nL cs ss ad n mm (pc + 3) lv (.ref (ad b) :: st)) : G z w x nL cs ss ad n mm pc lv (.ref (ad a) :: st) := by
  obtain ⟨l, D, cy, aK, aV⟩ := z
  obtain ⟨p, e, R, s, m, args, below, meth, c, Q, ad0, n0⟩ := x
  obtain ⟨hx, hb, hml, hown, hts, hK, hR, hE⟩ := X
  intro H locs ls hP hD hS hl
  obtain ⟨C, T, Nf, ty, ⟨hc, hcl, hin, hty, hnm⟩, hkN, hf, hli, hfi, hft, hTC⟩ := F
  refine va_get (v := .ref (ad b)) hx hb hts hin hown hK hP a (pw_obj ha hk hc) hcl k hkN (hts _ hli) (fun _ h => h) ?_ hd (kk H locs ls hP hD hS hl)
  rw [fvs_at hf]
  simp [fv, hr, va_rf]
theorem g_putI (X : OK z x cc own nL rm) {index ci k a : Nat} {fty : FieldType} {v : Int32} (F : Fl own index ci k false fty 0) (ha : a < n) (hk : w.1 a = ci) (hn : narrow fty (.int v) = .int v) (hfit : fits fty (.int v) = true) (hd : decode cc pc = .ok (.putfield index, 3)) (kk : G z w x nL cs ss ad n (uI mm a k v) (pc + 3) lv st) : G z w x nL cs ss ad n mm pc lv (.int v :: .ref (ad a) :: st) := by
  obtain ⟨l, D, cy, aK, aV⟩ := z
  obtain ⟨p, e, R, s, m, args, below, meth, c, Q, ad0, n0⟩ := x
  obtain ⟨hx, hb, hml, hown, hts, hK, hR, hE⟩ := X
  intro H locs ls hP hD hS hl
  obtain ⟨C, T, Nf, ty, ⟨hc, hcl, hin, hty, hnm⟩, hkN, hf, hli, hfi, hft, hTC⟩ := F
  refine va_put (v := .int v) (ty := fty) hx hb hts hin ty hty hnm hown hK hP hD hS a (pw_obj ha hk hc) hcl k hkN (hts _ hli) (fun _ h => h) hfi (by rw [hty k hkN, hft]) hn hfit (fvs_lt hf) hd (fun H1 locs1 hP1 hD1 hS1 => ?_)
  rw [pw_uI hk hc hf] at hP1 hD1
  exact kk H1 locs1 ls hP1 hD1 hS1 hl
theorem g_putJ (X : OK z x cc own nL rm) {index ci k a : Nat} {fty : FieldType} {v : Int64} (F : Fl own index ci k false fty 1) (ha : a < n) (hk : w.1 a = ci) (hn : narrow fty (.long v) = .long v) (hfit : fits fty (.long v) = true) (hd : decode cc pc = .ok (.putfield index, 3)) (kk : G z w x nL cs ss ad n (uJ mm a k v) (pc + 3) lv st) : G z w x nL cs ss ad n mm pc lv (.long v :: .ref (ad a) :: st) := by
  obtain ⟨l, D, cy, aK, aV⟩ := z
  obtain ⟨p, e, R, s, m, args, below, meth, c, Q, ad0, n0⟩ := x
  obtain ⟨hx, hb, hml, hown, hts, hK, hR, hE⟩ := X
  intro H locs ls hP hD hS hl
  obtain ⟨C, T, Nf, ty, ⟨hc, hcl, hin, hty, hnm⟩, hkN, hf, hli, hfi, hft, hTC⟩ := F
  refine va_put (v := .long v) (ty := fty) hx hb hts hin ty hty hnm hown hK hP hD hS a (pw_obj ha hk hc) hcl k hkN (hts _ hli) (fun _ h => h) hfi (by rw [hty k hkN, hft]) hn hfit (fvs_lt hf) hd (fun H1 locs1 hP1 hD1 hS1 => ?_)
  rw [pw_uJ hk hc hf] at hP1 hD1
  exact kk H1 locs1 ls hP1 hD1 hS1 hl
theorem g_putR (X : OK z x cc own nL rm) {index ci k a v : Nat} {fty : FieldType} (F : Fl own index ci k false fty 2) (ha : a < n) (hk : w.1 a = ci) (hn : narrow fty (.ref (ad v)) = .ref (ad v)) (hfit : fits fty (.ref (ad v)) = true) (hd : decode cc pc = .ok (.putfield index, 3)) (kk : G z w x nL cs ss ad n (uR mm a k (some v)) (pc + 3) lv st) : G z w x nL cs ss ad n mm pc lv (.ref (ad v) :: .ref (ad a) :: st) := by
  obtain ⟨l, D, cy, aK, aV⟩ := z
  obtain ⟨p, e, R, s, m, args, below, meth, c, Q, ad0, n0⟩ := x
  obtain ⟨hx, hb, hml, hown, hts, hK, hR, hE⟩ := X
  intro H locs ls hP hD hS hl
  obtain ⟨C, T, Nf, ty, ⟨hc, hcl, hin, hty, hnm⟩, hkN, hf, hli, hfi, hft, hTC⟩ := F
  refine va_put (v := .ref (ad v)) (ty := fty) hx hb hts hin ty hty hnm hown hK hP hD hS a (pw_obj ha hk hc) hcl k hkN (hts _ hli) (fun _ h => h) hfi (by rw [hty k hkN, hft]) hn hfit (fvs_lt hf) hd (fun H1 locs1 hP1 hD1 hS1 => ?_)
  rw [pw_uR hk hc hf] at hP1 hD1
  exact kk H1 locs1 ls hP1 hD1 hS1 hl
theorem g_iald (X : OK z x cc own nL rm) {a : Nat} {i : Int32} (ha : a < n) (hk : w.1 a = 14) (hi : inb i (w.2 a) = true) (hd : decode cc pc = .ok (.iaload, 1)) (kk : G z w x nL cs ss ad n mm (pc + 1) lv (.int (mm.1 a i.toNatClampNeg) :: st)) : G z w x nL cs ss ad n mm pc lv (.int i :: .ref (ad a) :: st) := by
  obtain ⟨l, D, cy, aK, aV⟩ := z
  obtain ⟨p, e, R, s, m, args, below, meth, c, Q, ad0, n0⟩ := x
  obtain ⟨hx, hb, hml, hown, hts, hK, hR, hE⟩ := X
  intro H locs ls hP hD hS hl
  have h1 := pw_arr (cy := cy) (ad := ad) (m := mm) ha hk (by decide)
  rw [avs_i (by decide) (by decide)] at h1
  exact va_iald hx hb hK hP a 1 h1 rfl (inb_in hi) hd (kk H locs ls hP hD hS hl)
theorem g_bald (X : OK z x cc own nL rm) {a : Nat} {i : Int32} (ha : a < n) (hk : w.1 a = 13) (hi : inb i (w.2 a) = true) (hd : decode cc pc = .ok (.baload, 1)) (kk : G z w x nL cs ss ad n mm (pc + 1) lv (.int (mm.1 a i.toNatClampNeg) :: st)) : G z w x nL cs ss ad n mm pc lv (.int i :: .ref (ad a) :: st) := by
  obtain ⟨l, D, cy, aK, aV⟩ := z
  obtain ⟨p, e, R, s, m, args, below, meth, c, Q, ad0, n0⟩ := x
  obtain ⟨hx, hb, hml, hown, hts, hK, hR, hE⟩ := X
  intro H locs ls hP hD hS hl
  have h1 := pw_arr (cy := cy) (ad := ad) (m := mm) ha hk (by decide)
  rw [avs_i (by decide) (by decide)] at h1
  exact va_bald hx hb hK hP a 0 h1 rfl (inb_in hi) hd (kk H locs ls hP hD hS hl)
theorem g_zald (X : OK z x cc own nL rm) {a : Nat} {i : Int32} (ha : a < n) (hk : w.1 a = 16) (hi : inb i (w.2 a) = true) (hd : decode cc pc = .ok (.baload, 1)) (kk : G z w x nL cs ss ad n mm (pc + 1) lv (.int (mm.1 a i.toNatClampNeg) :: st)) : G z w x nL cs ss ad n mm pc lv (.int i :: .ref (ad a) :: st) := by
  obtain ⟨l, D, cy, aK, aV⟩ := z
  obtain ⟨p, e, R, s, m, args, below, meth, c, Q, ad0, n0⟩ := x
  obtain ⟨hx, hb, hml, hown, hts, hK, hR, hE⟩ := X
  intro H locs ls hP hD hS hl
  have h1 := pw_arr (cy := cy) (ad := ad) (m := mm) ha hk (by decide)
  rw [avs_i (by decide) (by decide)] at h1
  exact va_zald hx hb hK hP a 3 h1 rfl (inb_in hi) hd (kk H locs ls hP hD hS hl)
theorem g_lald (X : OK z x cc own nL rm) {a : Nat} {i : Int32} (ha : a < n) (hk : w.1 a = 15) (hi : inb i (w.2 a) = true) (hd : decode cc pc = .ok (.laload, 1)) (kk : G z w x nL cs ss ad n mm (pc + 1) lv (.long (mm.2.1 a i.toNatClampNeg) :: st)) : G z w x nL cs ss ad n mm pc lv (.int i :: .ref (ad a) :: st) := by
  obtain ⟨l, D, cy, aK, aV⟩ := z
  obtain ⟨p, e, R, s, m, args, below, meth, c, Q, ad0, n0⟩ := x
  obtain ⟨hx, hb, hml, hown, hts, hK, hR, hE⟩ := X
  intro H locs ls hP hD hS hl
  have h1 := pw_arr (cy := cy) (ad := ad) (m := mm) ha hk (by decide)
  rw [avs_j] at h1
  exact va_lald hx hb hK hP a 2 h1 rfl (inb_in hi) hd (kk H locs ls hP hD hS hl)
theorem g_aald (X : OK z x cc own nL rm) {a b ci : Nat} {i : Int32} (ha : a < n) (hk : w.1 a = ci) (hci : ci = 17 ∨ ci = 18) (hi : inb i (w.2 a) = true) (hr : mm.2.2 a i.toNatClampNeg = some b) (hd : decode cc pc = .ok (.aaload, 1)) (kk : G z w x nL cs ss ad n mm (pc + 1) lv (.ref (ad b) :: st)) : G z w x nL cs ss ad n mm pc lv (.int i :: .ref (ad a) :: st) := by
  obtain ⟨l, D, cy, aK, aV⟩ := z
  obtain ⟨p, e, R, s, m, args, below, meth, c, Q, ad0, n0⟩ := x
  obtain ⟨hx, hb, hml, hown, hts, hK, hR, hE⟩ := X
  intro H locs ls hP hD hS hl
  have hcn : ¬ ci < 13 := by omega
  have h1 := pw_arr (cy := cy) (ad := ad) (m := mm) ha hk hcn
  rw [avs_r (by omega) (by omega)] at h1
  have h2 : va_rf ((mm.2.2 a i.toNatClampNeg).map ad) = .ref (ad b) := by rw [hr]; rfl
  have kk2 := kk H locs ls hP hD hS hl
  rw [← h2] at kk2
  rcases hci with rfl | rfl
  · exact va_aldq hx hb hK hP a 4 h1 rfl (inb_in hi) hd kk2
  · exact va_aldq hx hb hK hP a 5 h1 rfl (inb_in hi) hd kk2
theorem g_iast (X : OK z x cc own nL rm) {a : Nat} {i v : Int32} (ha : a < n) (hk : w.1 a = 14) (hi : inb i (w.2 a) = true) (hd : decode cc pc = .ok (.iastore, 1)) (kk : G z w x nL cs ss ad n (uI mm a i.toNatClampNeg (v)) (pc + 1) lv st) : G z w x nL cs ss ad n mm pc lv (.int v :: .int i :: .ref (ad a) :: st) := by
  obtain ⟨l, D, cy, aK, aV⟩ := z
  obtain ⟨p, e, R, s, m, args, below, meth, c, Q, ad0, n0⟩ := x
  obtain ⟨hx, hb, hml, hown, hts, hK, hR, hE⟩ := X
  intro H locs ls hP hD hS hl
  have h1 := pw_arr (cy := cy) (ad := ad) (m := mm) ha hk (by decide)
  rw [avs_i (by decide) (by decide)] at h1
  refine va_iast hx hb hK hP hD hS a 1 h1 rfl (inb_in hi) hd (fun H1 locs1 hP1 hD1 hS1 => ?_)
  rw [pw_aI hk (by decide) (by decide) (by decide)] at hP1 hD1
  exact kk H1 locs1 ls hP1 hD1 hS1 hl
theorem g_bast (X : OK z x cc own nL rm) {a : Nat} {i v : Int32} (ha : a < n) (hk : w.1 a = 13) (hi : inb i (w.2 a) = true) (hd : decode cc pc = .ok (.bastore, 1)) (kk : G z w x nL cs ss ad n (uI mm a i.toNatClampNeg (vp_nar .byte v)) (pc + 1) lv st) : G z w x nL cs ss ad n mm pc lv (.int v :: .int i :: .ref (ad a) :: st) := by
  obtain ⟨l, D, cy, aK, aV⟩ := z
  obtain ⟨p, e, R, s, m, args, below, meth, c, Q, ad0, n0⟩ := x
  obtain ⟨hx, hb, hml, hown, hts, hK, hR, hE⟩ := X
  intro H locs ls hP hD hS hl
  have h1 := pw_arr (cy := cy) (ad := ad) (m := mm) ha hk (by decide)
  rw [avs_i (by decide) (by decide)] at h1
  refine va_bast hx hb hK hP hD hS a 0 h1 rfl (inb_in hi) hd (fun H1 locs1 hP1 hD1 hS1 => ?_)
  rw [pw_aI hk (by decide) (by decide) (by decide)] at hP1 hD1
  exact kk H1 locs1 ls hP1 hD1 hS1 hl
theorem g_zast (X : OK z x cc own nL rm) {a : Nat} {i v : Int32} (ha : a < n) (hk : w.1 a = 16) (hi : inb i (w.2 a) = true) (hd : decode cc pc = .ok (.bastore, 1)) (kk : G z w x nL cs ss ad n (uI mm a i.toNatClampNeg (vp_nar .boolean v)) (pc + 1) lv st) : G z w x nL cs ss ad n mm pc lv (.int v :: .int i :: .ref (ad a) :: st) := by
  obtain ⟨l, D, cy, aK, aV⟩ := z
  obtain ⟨p, e, R, s, m, args, below, meth, c, Q, ad0, n0⟩ := x
  obtain ⟨hx, hb, hml, hown, hts, hK, hR, hE⟩ := X
  intro H locs ls hP hD hS hl
  have h1 := pw_arr (cy := cy) (ad := ad) (m := mm) ha hk (by decide)
  rw [avs_i (by decide) (by decide)] at h1
  refine va_zast hx hb hK hP hD hS a 3 h1 rfl (inb_in hi) hd (fun H1 locs1 hP1 hD1 hS1 => ?_)
  rw [pw_aI hk (by decide) (by decide) (by decide)] at hP1 hD1
  exact kk H1 locs1 ls hP1 hD1 hS1 hl
theorem g_last (X : OK z x cc own nL rm) {a : Nat} {i : Int32} {v : Int64} (ha : a < n) (hk : w.1 a = 15) (hi : inb i (w.2 a) = true) (hd : decode cc pc = .ok (.lastore, 1)) (kk : G z w x nL cs ss ad n (uJ mm a i.toNatClampNeg v) (pc + 1) lv st) : G z w x nL cs ss ad n mm pc lv (.long v :: .int i :: .ref (ad a) :: st) := by
  obtain ⟨l, D, cy, aK, aV⟩ := z
  obtain ⟨p, e, R, s, m, args, below, meth, c, Q, ad0, n0⟩ := x
  obtain ⟨hx, hb, hml, hown, hts, hK, hR, hE⟩ := X
  intro H locs ls hP hD hS hl
  have h1 := pw_arr (cy := cy) (ad := ad) (m := mm) ha hk (by decide)
  rw [avs_j] at h1
  refine va_last hx hb hK hP hD hS a 2 h1 rfl (inb_in hi) hd (fun H1 locs1 hP1 hD1 hS1 => ?_)
  rw [pw_aJ hk] at hP1 hD1
  exact kk H1 locs1 ls hP1 hD1 hS1 hl
theorem g_alen (X : OK z x cc own nL rm) {a : Nat} (ha : a < n) (hk : w.1 a = 14) (hd : decode cc pc = .ok (.arraylength, 1)) (kk : G z w x nL cs ss ad n mm (pc + 1) lv (.int (Int32.ofNat (w.2 a)) :: st)) : G z w x nL cs ss ad n mm pc lv (.ref (ad a) :: st) := by
  obtain ⟨l, D, cy, aK, aV⟩ := z
  obtain ⟨p, e, R, s, m, args, below, meth, c, Q, ad0, n0⟩ := x
  obtain ⟨hx, hb, hml, hown, hts, hK, hR, hE⟩ := X
  intro H locs ls hP hD hS hl
  have h1 := pw_arr (cy := cy) (ad := ad) (m := mm) ha hk (by decide)
  exact va_alen hx hb hK hP a 1 h1 (ty := .int) rfl rfl hd (kk H locs ls hP hD hS hl)
theorem g_EAST_n (X : OK z x cc own nL rm) {index : Nat} {i : Int32} {q : Fin 4} {i2 : Nat} (hli : Cond.fieldLink own index "NobodySails$Waters" "EAST" "[I" ∈ GT) (hi : inb i 8 = true) (hd : decode cc pc = .ok (.getstatic index, 3)) (j : Nat) (hj : lv[j]? = some (i2, .int i)) (hq : (q : Nat) = i2) (hd1 : decode cc (pc + 3) = .ok (.iload_n q, 1)) (hd2 : decode cc (pc + 4) = .ok (.iaload, 1)) (kk : G z w x nL cs ss ad n mm (pc + 5) lv (.int (eastF.getD i.toNatClampNeg 0) :: st)) : G z w x nL cs ss ad n mm pc lv st := by
  obtain ⟨l, D, cy, aK, aV⟩ := z
  obtain ⟨p, e, R, s, m, args, below, meth, c, Q, ad0, n0⟩ := x
  obtain ⟨hx, hb, hml, hown, hts, hK, hR, hE⟩ := X
  intro H locs ls hP hD hS hl
  obtain ⟨h1, ⟨t2, h2, h2b⟩, ⟨t3, h3, h3b⟩, h4, h5, h6, h7, h8, h9⟩ := hE
  refine va_gets hx hb h2 hS hown (hts _ hli) (fun _ h => h) hd ?_
  refine lv_iload_n hx hb hd1 hq (lv_at hl j hj) ?_
  exact va_ti hx hb h2b hS (inb_in hi) rfl hd2 (kk H locs ls hP hD hS hl)
theorem g_EAST (X : OK z x cc own nL rm) {index : Nat} {i : Int32} {i2 : Nat} (hli : Cond.fieldLink own index "NobodySails$Waters" "EAST" "[I" ∈ GT) (hi : inb i 8 = true) (hd : decode cc pc = .ok (.getstatic index, 3)) (j : Nat) (hj : lv[j]? = some (i2, .int i)) (hd1 : decode cc (pc + 3) = .ok (.iload i2, 2)) (hd2 : decode cc (pc + 5) = .ok (.iaload, 1)) (kk : G z w x nL cs ss ad n mm (pc + 6) lv (.int (eastF.getD i.toNatClampNeg 0) :: st)) : G z w x nL cs ss ad n mm pc lv st := by
  obtain ⟨l, D, cy, aK, aV⟩ := z
  obtain ⟨p, e, R, s, m, args, below, meth, c, Q, ad0, n0⟩ := x
  obtain ⟨hx, hb, hml, hown, hts, hK, hR, hE⟩ := X
  intro H locs ls hP hD hS hl
  obtain ⟨h1, ⟨t2, h2, h2b⟩, ⟨t3, h3, h3b⟩, h4, h5, h6, h7, h8, h9⟩ := hE
  refine va_gets hx hb h2 hS hown (hts _ hli) (fun _ h => h) hd ?_
  refine lv_iload hx hb hd1 (lv_at hl j hj) ?_
  exact va_ti hx hb h2b hS (inb_in hi) rfl hd2 (kk H locs ls hP hD hS hl)
theorem g_SOUTH_n (X : OK z x cc own nL rm) {index : Nat} {i : Int32} {q : Fin 4} {i2 : Nat} (hli : Cond.fieldLink own index "NobodySails$Waters" "SOUTH" "[I" ∈ GT) (hi : inb i 8 = true) (hd : decode cc pc = .ok (.getstatic index, 3)) (j : Nat) (hj : lv[j]? = some (i2, .int i)) (hq : (q : Nat) = i2) (hd1 : decode cc (pc + 3) = .ok (.iload_n q, 1)) (hd2 : decode cc (pc + 4) = .ok (.iaload, 1)) (kk : G z w x nL cs ss ad n mm (pc + 5) lv (.int (southF.getD i.toNatClampNeg 0) :: st)) : G z w x nL cs ss ad n mm pc lv st := by
  obtain ⟨l, D, cy, aK, aV⟩ := z
  obtain ⟨p, e, R, s, m, args, below, meth, c, Q, ad0, n0⟩ := x
  obtain ⟨hx, hb, hml, hown, hts, hK, hR, hE⟩ := X
  intro H locs ls hP hD hS hl
  obtain ⟨h1, ⟨t2, h2, h2b⟩, ⟨t3, h3, h3b⟩, h4, h5, h6, h7, h8, h9⟩ := hE
  refine va_gets hx hb h3 hS hown (hts _ hli) (fun _ h => h) hd ?_
  refine lv_iload_n hx hb hd1 hq (lv_at hl j hj) ?_
  exact va_ti hx hb h3b hS (inb_in hi) rfl hd2 (kk H locs ls hP hD hS hl)
theorem g_SOUTH (X : OK z x cc own nL rm) {index : Nat} {i : Int32} {i2 : Nat} (hli : Cond.fieldLink own index "NobodySails$Waters" "SOUTH" "[I" ∈ GT) (hi : inb i 8 = true) (hd : decode cc pc = .ok (.getstatic index, 3)) (j : Nat) (hj : lv[j]? = some (i2, .int i)) (hd1 : decode cc (pc + 3) = .ok (.iload i2, 2)) (hd2 : decode cc (pc + 5) = .ok (.iaload, 1)) (kk : G z w x nL cs ss ad n mm (pc + 6) lv (.int (southF.getD i.toNatClampNeg 0) :: st)) : G z w x nL cs ss ad n mm pc lv st := by
  obtain ⟨l, D, cy, aK, aV⟩ := z
  obtain ⟨p, e, R, s, m, args, below, meth, c, Q, ad0, n0⟩ := x
  obtain ⟨hx, hb, hml, hown, hts, hK, hR, hE⟩ := X
  intro H locs ls hP hD hS hl
  obtain ⟨h1, ⟨t2, h2, h2b⟩, ⟨t3, h3, h3b⟩, h4, h5, h6, h7, h8, h9⟩ := hE
  refine va_gets hx hb h3 hS hown (hts _ hli) (fun _ h => h) hd ?_
  refine lv_iload hx hb hd1 (lv_at hl j hj) ?_
  exact va_ti hx hb h3b hS (inb_in hi) rfl hd2 (kk H locs ls hP hD hS hl)
theorem g_mmax (X : OK z x cc own nL rm) {index : Nat} {a b : Int32} (hli : Cond.methodLink own index Lib.Math.max.name ∈ GT) (hst : Cond.static Lib.Math.max.name ∈ GT) (hin : Cond.initialized "java/lang/Math" ∈ GT) (hco : Cond.code Lib.Math.max.name Lib.Math.max.code 2 (some .int) ∈ GT) (hf : 1 ≤ rm.frames) (hlo : (st.map fun v => v.category).sum + 13 ≤ rm.locals) (hc : cs ≤ rm.cells) (hs : ss ≤ rm.slots) (hd : decode cc pc = .ok (.invokestatic index, 3)) (kk : G z w x nL cs ss ad n mm (pc + 3) lv (.int (if a < b then b else a) :: st)) : G z w x nL cs ss ad n mm pc lv (.int b :: .int a :: st) := by
  obtain ⟨l, D, cy, aK, aV⟩ := z
  obtain ⟨p, e, R, s, m, args, below, meth, c, Q, ad0, n0⟩ := x
  obtain ⟨hx, hb, hml, hown, hts, hK, hR, hE⟩ := X
  intro H locs ls hP hD hS hl
  subst hR
  exact va_mmax hx hb (by rw [hml]; exact hl.1.symm) hown (hts _ hli) (hts _ hst) (hts _ hin) (hts _ hco) hf hlo hc hs hd (kk H locs ls hP hD hS hl)
theorem g_mmin (X : OK z x cc own nL rm) {index : Nat} {a b : Int32} (hli : Cond.methodLink own index Lib.Math.min.name ∈ GT) (hst : Cond.static Lib.Math.min.name ∈ GT) (hin : Cond.initialized "java/lang/Math" ∈ GT) (hco : Cond.code Lib.Math.min.name Lib.Math.min.code 2 (some .int) ∈ GT) (hf : 1 ≤ rm.frames) (hlo : (st.map fun v => v.category).sum + 13 ≤ rm.locals) (hc : cs ≤ rm.cells) (hs : ss ≤ rm.slots) (hd : decode cc pc = .ok (.invokestatic index, 3)) (kk : G z w x nL cs ss ad n mm (pc + 3) lv (.int (if b < a then b else a) :: st)) : G z w x nL cs ss ad n mm pc lv (.int b :: .int a :: st) := by
  obtain ⟨l, D, cy, aK, aV⟩ := z
  obtain ⟨p, e, R, s, m, args, below, meth, c, Q, ad0, n0⟩ := x
  obtain ⟨hx, hb, hml, hown, hts, hK, hR, hE⟩ := X
  intro H locs ls hP hD hS hl
  subst hR
  exact va_mmin hx hb (by rw [hml]; exact hl.1.symm) hown (hts _ hli) (hts _ hst) (hts _ hin) (hts _ hco) hf hlo hc hs hd (kk H locs ls hP hD hS hl)
theorem g_copyi (X : OK z x cc own nL rm) {index a b : Nat} {sp dp cn : Int32} (hli : Cond.methodLink own index arraycopyName ∈ GT) (hna : Cond.native arraycopyName ∈ GT) (hst : Cond.static arraycopyName ∈ GT) (hin : Cond.initialized "java/lang/System" ∈ GT) (ha : a < n) (hka : w.1 a = 14) (hb2 : b < n) (hkb : w.1 b = 14) (h1 : ¬ sp < 0) (h2 : ¬ dp < 0) (h3 : ¬ cn < 0) (h4 : sp.toNatClampNeg + cn.toNatClampNeg ≤ w.2 a) (h5 : dp.toNatClampNeg + cn.toNatClampNeg ≤ w.2 b) (hf : 1 ≤ rm.frames) (hlo : (st.map fun v => v.category).sum + (nativeFrameWords "java/lang/System" "arraycopy" 5 + 11) ≤ rm.locals) (hd : decode cc pc = .ok (.invokestatic index, 3))
    (kk : G z w x nL cs ss ad n (uX mm b (va_cpy (mm.1 a) (mm.1 b) sp.toNatClampNeg dp.toNatClampNeg cn.toNatClampNeg)) (pc + 3) lv st) : G z w x nL cs ss ad n mm pc lv (.int cn :: .int dp :: .ref (ad b) :: .int sp :: .ref (ad a) :: st) := by
  obtain ⟨l, D, cy, aK, aV⟩ := z
  obtain ⟨p, e, R, s, m, args, below, meth, c, Q, ad0, n0⟩ := x
  obtain ⟨hx, hb, hml, hown, hts, hK, hR, hE⟩ := X
  intro H locs ls hP hD hS hl
  subst hR
  have e1 := pw_arr (cy := cy) (ad := ad) (m := mm) ha hka (by decide)
  rw [avs_i (by decide) (by decide)] at e1
  have e2 := pw_arr (cy := cy) (ad := ad) (m := mm) hb2 hkb (by decide)
  rw [avs_i (by decide) (by decide)] at e2
  refine va_copyi hx hb (by rw [hml]; exact hl.1.symm) hown (hts _ hli) (hts _ hna) (hts _ hst) (hts _ hin) hK hP hD hS a b 1 1 e1 e2 rfl rfl rfl h1 h2 h3 h4 h5 (fun _ _ => rfl) hf hlo hd (fun H1 locs1 hP1 hD1 hS1 => ?_)
  rw [pw_aX hkb (by decide) (by decide) (by decide)] at hP1 hD1
  exact kk H1 locs1 ls hP1 hD1 hS1 hl
theorem g_ldcS (X : OK z x cc own nL rm) {index i : Nat} {tx : String} (hi : strT[i]? = some (own, index, tx)) (hd : decode cc pc = .ok (.ldc index, 2)) (kk : G z w x nL cs ss ad n mm (pc + 2) lv (.ref (z.2.2.2.1 i) :: st)) : G z w x nL cs ss ad n mm pc lv st := by
  obtain ⟨l, D, cy, aK, aV⟩ := z
  obtain ⟨p, e, R, s, m, args, below, meth, c, Q, ad0, n0⟩ := x
  obtain ⟨hx, hb, hml, hown, hts, hK, hR, hE⟩ := X
  intro H locs ls hP hD hS hl
  obtain ⟨h1, h2, h3, h4, h5, h6, h7, h8, h9⟩ := hE
  exact va_ldcS hx hb hown (h5 i _ hi) hd (kk H locs ls hP hD hS hl)
theorem g_lcmp (X : OK z x cc own nL rm) {a b : Int64} (hd : decode cc pc = .ok (.lcmp, 1)) (k : G z w x nL cs ss ad n mm (pc + 1) lv (.int (lg_cmp a b) :: st)) : G z w x nL cs ss ad n mm pc lv (.long b :: .long a :: st) := by
  obtain ⟨l, D, cy, aK, aV⟩ := z
  obtain ⟨p, e, R, s, m, args, below, meth, c, Q, ad0, n0⟩ := x
  obtain ⟨hx, hb, hml, hown, hts, hK, hR, hE⟩ := X
  intro H locs ls hP hD hS hl
  exact W.lcmp hx hb hd (k H locs ls hP hD hS hl)
end
theorem lgc_eq {a b : Int64} : lg_cmp a b = 0 ↔ a = b := by
  unfold lg_cmp
  by_cases h1 : b < a
  · simp only [h1, if_true]
    constructor
    · intro h; exact absurd h (by decide)
    · intro h; subst h; exact absurd h1 (Int64.lt_irrefl)
  · by_cases h2 : a = b
    · simp [h2, Int64.lt_irrefl]
    · simp only [h1, h2, if_false]
      constructor
      · intro h; exact absurd h (by decide)
      · intro h; exact h.elim
theorem lgc_lt {a b : Int64} : lg_cmp a b < 0 ↔ a < b := by
  unfold lg_cmp
  by_cases h1 : b < a
  · simp only [h1, if_true]
    constructor
    · intro h; exact absurd h (by decide)
    · intro h; exact absurd (Int64.lt_trans h h1) (Int64.lt_irrefl)
  · by_cases h2 : a = b
    · simp [h2, Int64.lt_irrefl]
    · simp only [h1, h2, if_false]
      constructor
      · intro _
        rcases Int64.lt_or_lt_of_ne h2 with h | h
        · exact h
        · exact absurd h h1
      · intro _; decide
theorem lgc_gt {a b : Int64} : 0 < lg_cmp a b ↔ b < a := by
  unfold lg_cmp
  by_cases h1 : b < a
  · simp only [h1, if_true]
    exact ⟨fun _ => trivial, fun _ => by decide⟩
  · by_cases h2 : a = b
    · simp [h2, Int64.lt_irrefl]
    · simp only [h1, h2, if_false]
      exact ⟨fun h => absurd h (by decide), fun h => h.elim⟩
theorem lgc_ge {a b : Int64} : 0 ≤ lg_cmp a b ↔ b ≤ a := by
  rw [← Int32.not_lt, lgc_lt, Int64.not_lt]
theorem lgc_le {a b : Int64} : lg_cmp a b ≤ 0 ↔ a ≤ b := by
  rw [← Int32.not_lt, lgc_gt, Int64.not_lt]
section
variable {z : Zx} {w : Px} {x : Cx} {nL cs ss : Nat} {ad : Nat → Nat} {n : Nat} {mm : Mem} {pc : Nat} {lv : List (Nat × Value)} {st : List Value} {cc : ByteArray} {own : String} {rm : Room}
theorem g_lcmp_eq (X : OK z x cc own nL rm) {a b : Int64} {off : Int} {tgt : Nat} (hd0 : decode cc pc = .ok (.lcmp, 1)) (hd : decode cc (pc + 1) = .ok (.ifCond .eq off, 3)) (ht : ((pc + 1 : Nat) : Int) + off = (tgt : Int)) (kt : a = b → G z w x nL cs ss ad n mm tgt lv st) (kf : ¬ a = b → G z w x nL cs ss ad n mm (pc + 4) lv st) : G z w x nL cs ss ad n mm pc lv (.long b :: .long a :: st) :=
  g_lcmp X hd0 (g_if_eq X hd ht (fun h => kt (lgc_eq.mp h)) (fun h => kf (fun q => h (lgc_eq.mpr q))))
theorem g_lcmp_lt (X : OK z x cc own nL rm) {a b : Int64} {off : Int} {tgt : Nat} (hd0 : decode cc pc = .ok (.lcmp, 1)) (hd : decode cc (pc + 1) = .ok (.ifCond .lt off, 3)) (ht : ((pc + 1 : Nat) : Int) + off = (tgt : Int)) (kt : a < b → G z w x nL cs ss ad n mm tgt lv st) (kf : ¬ a < b → G z w x nL cs ss ad n mm (pc + 4) lv st) : G z w x nL cs ss ad n mm pc lv (.long b :: .long a :: st) :=
  g_lcmp X hd0 (g_if_lt X hd ht (fun h => kt (lgc_lt.mp h)) (fun h => kf (fun q => h (lgc_lt.mpr q))))
theorem g_lcmp_ge (X : OK z x cc own nL rm) {a b : Int64} {off : Int} {tgt : Nat} (hd0 : decode cc pc = .ok (.lcmp, 1)) (hd : decode cc (pc + 1) = .ok (.ifCond .ge off, 3)) (ht : ((pc + 1 : Nat) : Int) + off = (tgt : Int)) (kt : b ≤ a → G z w x nL cs ss ad n mm tgt lv st) (kf : ¬ b ≤ a → G z w x nL cs ss ad n mm (pc + 4) lv st) : G z w x nL cs ss ad n mm pc lv (.long b :: .long a :: st) :=
  g_lcmp X hd0 (g_if_ge X hd ht (fun h => kt (lgc_ge.mp h)) (fun h => kf (fun q => h (lgc_ge.mpr q))))
theorem g_lcmp_gt (X : OK z x cc own nL rm) {a b : Int64} {off : Int} {tgt : Nat} (hd0 : decode cc pc = .ok (.lcmp, 1)) (hd : decode cc (pc + 1) = .ok (.ifCond .gt off, 3)) (ht : ((pc + 1 : Nat) : Int) + off = (tgt : Int)) (kt : b < a → G z w x nL cs ss ad n mm tgt lv st) (kf : ¬ b < a → G z w x nL cs ss ad n mm (pc + 4) lv st) : G z w x nL cs ss ad n mm pc lv (.long b :: .long a :: st) :=
  g_lcmp X hd0 (g_if_gt X hd ht (fun h => kt (lgc_gt.mp h)) (fun h => kf (fun q => h (lgc_gt.mpr q))))
theorem g_lcmp_le (X : OK z x cc own nL rm) {a b : Int64} {off : Int} {tgt : Nat} (hd0 : decode cc pc = .ok (.lcmp, 1)) (hd : decode cc (pc + 1) = .ok (.ifCond .le off, 3)) (ht : ((pc + 1 : Nat) : Int) + off = (tgt : Int)) (kt : a ≤ b → G z w x nL cs ss ad n mm tgt lv st) (kf : ¬ a ≤ b → G z w x nL cs ss ad n mm (pc + 4) lv st) : G z w x nL cs ss ad n mm pc lv (.long b :: .long a :: st) :=
  g_lcmp X hd0 (g_if_le X hd ht (fun h => kt (lgc_le.mp h)) (fun h => kf (fun q => h (lgc_le.mpr q))))
theorem g_lcmp_ne (X : OK z x cc own nL rm) {a b : Int64} {off : Int} {tgt : Nat} (hd0 : decode cc pc = .ok (.lcmp, 1)) (hd : decode cc (pc + 1) = .ok (.ifCond .ne off, 3)) (ht : ((pc + 1 : Nat) : Int) + off = (tgt : Int)) (kt : ¬ a = b → G z w x nL cs ss ad n mm tgt lv st) (kf : a = b → G z w x nL cs ss ad n mm (pc + 4) lv st) : G z w x nL cs ss ad n mm pc lv (.long b :: .long a :: st) :=
  g_lcmp X hd0 (g_if_ne X hd ht (fun h => kt (fun q => h (lgc_eq.mpr q))) (fun h => kf (lgc_eq.mp h)))
theorem g_lv (lv2 : List (Nat × Value)) (ks : List Nat) (h : lv_pick lv ks = lv2) (k : G z w x nL cs ss ad n mm pc lv2 st) : G z w x nL cs ss ad n mm pc lv st := by
  obtain ⟨l, D, cy, aK, aV⟩ := z
  obtain ⟨p, e, R, s, m, args, below, meth, c, Q, ad0, n0⟩ := x
  intro H locs ls hP hD hS hl
  exact k H locs ls hP hD hS (lv_sub hl ks h)
theorem g_pc (pc2 : Nat) (h : pc = pc2) (k : G z w x nL cs ss ad n mm pc2 lv st) : G z w x nL cs ss ad n mm pc lv st := h ▸ k
theorem g_tblOut (X : OK z x cc own nL rm) {dflt lo hi : Int} {offs : Array Int} {len : Nat} {a : Int32} {tgt : Nat} (hd : decode cc pc = .ok (.tableswitch dflt lo hi offs, len)) (h : a.toInt < lo ∨ hi < a.toInt) (ht : (pc : Int) + dflt = (tgt : Int)) (k : G z w x nL cs ss ad n mm tgt lv st) : G z w x nL cs ss ad n mm pc lv (.int a :: st) := by
  obtain ⟨l, D, cy, aK, aV⟩ := z
  obtain ⟨p, e, R, s, m, args, below, meth, c, Q, ad0, n0⟩ := x
  obtain ⟨hx, hb, hml, hown, hts, hK, hR, hE⟩ := X
  intro H locs ls hP hD hS hl
  exact lv_tableOut hx hb hd h ht (k H locs ls hP hD hS hl)
theorem g_tblIn (X : OK z x cc own nL rm) {dflt lo hi : Int} {offs : Array Int} {len : Nat} {a : Int32} {off : Int} {tgt : Nat} (hd : decode cc pc = .ok (.tableswitch dflt lo hi offs, len)) (h1 : ¬ a.toInt < lo) (h2 : ¬ hi < a.toInt) (ho : offs[(a.toInt - lo).toNat]? = some off) (ht : (pc : Int) + off = (tgt : Int)) (k : G z w x nL cs ss ad n mm tgt lv st) : G z w x nL cs ss ad n mm pc lv (.int a :: st) := by
  obtain ⟨l, D, cy, aK, aV⟩ := z
  obtain ⟨p, e, R, s, m, args, below, meth, c, Q, ad0, n0⟩ := x
  obtain ⟨hx, hb, hml, hown, hts, hK, hR, hE⟩ := X
  intro H locs ls hP hD hS hl
  exact lv_tableIn hx hb hd h1 h2 ho ht (k H locs ls hP hD hS hl)
end
/-- a method's room by its depth -/
def Rm (d : Nat) : Room := { frames := d, cells := 0, slots := 0, locals := 48 * d }
def WdP (z : Zx) (w : Px) (ad : Nat → Nat) (n : Nat) (mm : Mem) (sz : Nat) (U : State) : Prop := U.heap.size = sz ∧ va_P z.2.1 vwCl (Pw z.2.2.1 w ad n mm) U.heap ∧ va_K z.2.1 vwCl (tysW z.2.2.1) U ∧ va_D (fun _ => True) (Pw z.2.2.1 w ad n mm) ∧ EvC z (Ad ad n sz) U
def WdQ (z : Zx) (w : Px) (ad : Nat → Nat) (n : Nat) (A : Nat → Prop) (mm : Mem) (t : State) : Prop := va_P z.2.1 vwCl (Pw z.2.2.1 w ad n mm) t.heap ∧ va_K z.2.1 vwCl (tysW z.2.2.1) t ∧ va_D A (Pw z.2.2.1 w ad n mm)
theorem WdP.blind {z : Zx} {w : Px} {ad : Nat → Nat} {n : Nat} {mm : Mem} {sz : Nat} {av : List Value} : FrameBlind (va_Pc av (WdP z w ad n mm sz)) := by
  intro a U g mk q
  obtain ⟨h0, h1, h2, h3, h4, h5⟩ := q
  exact ⟨h0, h1, h2, va_K.moved (u := U) (U := U.calling g mk a) (Vm.Alike.refl U.vm) h3, h4, h5.blind g mk a⟩
/-- a method's names in the tables -/
def Mi (y : MethodName) (cc : ByteArray) (nL : Nat) (ret : Option FieldType) (na : Nat) : Prop := Cond.code y cc nL ret ∈ GT ∧ Cond.initialized y.cls ∈ GT ∧ y.cls ≠ "java/lang/invoke/MethodHandle" ∧ y.cls ≠ "java/lang/invoke/VarHandle" ∧ (parseMethodDescriptor y.desc).map (fun d => d.parameters.length) = some na ∧ plainName y.cls = true
def CtI (z : Zx) (w : Px) (y : MethodName) (cc : ByteArray) (nL : Nat) (ret : Option FieldType) (rm : Room) (ad : Nat → Nat) (n : Nat) (av : List Value) (mm mm2 : Mem) (r : Int32) : Prop := ∀ sz : Nat, Met z.1 y (Cond.code y cc nL ret :: GT) rm (va_Pc av (WdP z w ad n mm sz)) (va_Qi (fun r2 (u : Mem) => r2 = r ∧ u = mm2) (fun u t => WdQ z w ad n (Ad ad n sz) u t) (Ad ad n sz)) 0 0 (Ad ad n sz)
theorem ct_ofI {z : Zx} {w : Px} {y : MethodName} {cc : ByteArray} {nL : Nat} {rty : FieldType} {rm : Room} {ad : Nat → Nat} {n : Nat} {av : List Value} {mm mm2 : Mem} {r : Int32} {own : String} {na : Nat} (M : Mi y cc nL (some rty) na) (hown : y.cls = own) (hav : (lg_sl av).length ≤ nL) (body : ∀ x : Cx, OK z x cc own nL rm → (∀ pc lv, narrow rty (.int r) = .int r → decode cc pc = .ok (.ireturn, 1) → G z w x nL 0 0 ad n mm2 pc lv [.int r]) → G z w x nL 0 0 ad n mm 0 (lv_args 0 av) []) : CtI z w y cc nL (some rty) rm ad n av mm mm2 r := by
  obtain ⟨l, D, cy, aK, aV⟩ := z
  intro sz
  refine Met.ofW (cc := cc) (maxL := nL) (ret := some rty) M.2.2.2.2.2 rfl ?_
  intro p e s m args below meth c s₁ B hml hv
  obtain ⟨rfl, hsz, hP, hK, hD0, hE⟩ := hv
  have hx := B.exec
  have hb := B.bytes
  have hr := B.returns
  have hts := atoms_spec (ws := Cond.code y cc nL (some rty) :: GT) B.pre
  have hown2 : s.vm.findClass own = some m.cls := by rw [← hown]; exact findClass_of_methodNamed B.named
  have hlocks := B.notSynchronized
  subst hsz
  have hD : va_D (Ad ad n s.heap.size) (Pw cy w ad n mm) := ⟨hD0.1, fun k q hk => Or.inl (by
    have hkn : k < n := by
      have := (List.getElem?_eq_some_iff.mp hk).1
      simpa [Pw] using this
    have h2 := pw_get (cy := cy) (w := w) (ad := ad) (m := mm) hkn
    have h3 := Option.some.inj (h2.symm.trans hk)
    exact ⟨k, hkn, by rw [← h3]⟩)⟩
  have hl := lv_entry av (n := nL) hav
  rw [lg_entry_eq]
  refine body (p, e, (headSpec (Cond.code y cc nL (some rty) :: GT) rm).room, s, m, av.toArray, below, meth, c, _, ad, n) ⟨hx, hb, hml, hown2, fun w h => hts w (List.mem_cons_of_mem _ h), hK, rfl, hE⟩ ?_ s.heap [] _ hP hD va_S.rf hl
  intro pc lv hn hd H2 locs2 ls2 hP2 hD2 hS2 hl2
  have hx2 := hx
  have hb2 := hb
  exact W.zret hx2 hb2 hr (hn) (fun t ht hW => ⟨⟨r, mm2, rfl, ⟨rfl, rfl⟩, by rw [ht]; exact hP2, va_K.moved hW.alike hK, hD2⟩, hS2.F ht⟩) hS2.2.2 hd
def CtL (z : Zx) (w : Px) (y : MethodName) (cc : ByteArray) (nL : Nat) (ret : Option FieldType) (rm : Room) (ad : Nat → Nat) (n : Nat) (av : List Value) (mm mm2 : Mem) (r : Int64) : Prop := ∀ sz : Nat, Met z.1 y (Cond.code y cc nL ret :: GT) rm (va_Pc av (WdP z w ad n mm sz)) (va_Ql (fun r2 (u : Mem) => r2 = r ∧ u = mm2) (fun u t => WdQ z w ad n (Ad ad n sz) u t) (Ad ad n sz)) 0 0 (Ad ad n sz)
theorem ct_ofL {z : Zx} {w : Px} {y : MethodName} {cc : ByteArray} {nL : Nat} {rm : Room} {ad : Nat → Nat} {n : Nat} {av : List Value} {mm mm2 : Mem} {r : Int64} {own : String} {na : Nat} (M : Mi y cc nL (some .long) na) (hown : y.cls = own) (hav : (lg_sl av).length ≤ nL) (body : ∀ x : Cx, OK z x cc own nL rm → (∀ pc lv, decode cc pc = .ok (.lreturn, 1) → G z w x nL 0 0 ad n mm2 pc lv [.long r]) → G z w x nL 0 0 ad n mm 0 (lv_args 0 av) []) : CtL z w y cc nL (some .long) rm ad n av mm mm2 r := by
  obtain ⟨l, D, cy, aK, aV⟩ := z
  intro sz
  refine Met.ofW (cc := cc) (maxL := nL) (ret := some .long) M.2.2.2.2.2 rfl ?_
  intro p e s m args below meth c s₁ B hml hv
  obtain ⟨rfl, hsz, hP, hK, hD0, hE⟩ := hv
  have hx := B.exec
  have hb := B.bytes
  have hr := B.returns
  have hts := atoms_spec (ws := Cond.code y cc nL (some .long) :: GT) B.pre
  have hown2 : s.vm.findClass own = some m.cls := by rw [← hown]; exact findClass_of_methodNamed B.named
  have hlocks := B.notSynchronized
  subst hsz
  have hD : va_D (Ad ad n s.heap.size) (Pw cy w ad n mm) := ⟨hD0.1, fun k q hk => Or.inl (by
    have hkn : k < n := by
      have := (List.getElem?_eq_some_iff.mp hk).1
      simpa [Pw] using this
    have h2 := pw_get (cy := cy) (w := w) (ad := ad) (m := mm) hkn
    have h3 := Option.some.inj (h2.symm.trans hk)
    exact ⟨k, hkn, by rw [← h3]⟩)⟩
  have hl := lv_entry av (n := nL) hav
  rw [lg_entry_eq]
  refine body (p, e, (headSpec (Cond.code y cc nL (some .long) :: GT) rm).room, s, m, av.toArray, below, meth, c, _, ad, n) ⟨hx, hb, hml, hown2, fun w h => hts w (List.mem_cons_of_mem _ h), hK, rfl, hE⟩ ?_ s.heap [] _ hP hD va_S.rf hl
  intro pc lv hd H2 locs2 ls2 hP2 hD2 hS2 hl2
  have hx2 := hx
  have hb2 := hb
  exact W.lret hx2 hb2 hr (fun t ht hW => ⟨⟨r, mm2, rfl, ⟨rfl, rfl⟩, by rw [ht]; exact hP2, va_K.moved hW.alike hK, hD2⟩, hS2.F ht⟩) hS2.2.2 hd
def CtV (z : Zx) (w : Px) (y : MethodName) (cc : ByteArray) (nL : Nat) (ret : Option FieldType) (rm : Room) (ad : Nat → Nat) (n : Nat) (av : List Value) (mm mm2 : Mem) : Prop := ∀ sz : Nat, Met z.1 y (Cond.code y cc nL ret :: GT) rm (va_Pc av (WdP z w ad n mm sz)) (va_Qv (fun (u : Mem) => u = mm2) (fun u t => WdQ z w ad n (Ad ad n sz) u t) (Ad ad n sz)) 0 0 (Ad ad n sz)
theorem ct_ofV {z : Zx} {w : Px} {y : MethodName} {cc : ByteArray} {nL : Nat} {rm : Room} {ad : Nat → Nat} {n : Nat} {av : List Value} {mm mm2 : Mem}  {own : String} {na : Nat} (M : Mi y cc nL (none) na) (hown : y.cls = own) (hav : (lg_sl av).length ≤ nL) (body : ∀ x : Cx, OK z x cc own nL rm → (∀ pc lv, decode cc pc = .ok (.return_, 1) → G z w x nL 0 0 ad n mm2 pc lv []) → G z w x nL 0 0 ad n mm 0 (lv_args 0 av) []) : CtV z w y cc nL (none) rm ad n av mm mm2 := by
  obtain ⟨l, D, cy, aK, aV⟩ := z
  intro sz
  refine Met.ofW (cc := cc) (maxL := nL) (ret := none) M.2.2.2.2.2 rfl ?_
  intro p e s m args below meth c s₁ B hml hv
  obtain ⟨rfl, hsz, hP, hK, hD0, hE⟩ := hv
  have hx := B.exec
  have hb := B.bytes
  have hr := B.returns
  have hts := atoms_spec (ws := Cond.code y cc nL (none) :: GT) B.pre
  have hown2 : s.vm.findClass own = some m.cls := by rw [← hown]; exact findClass_of_methodNamed B.named
  have hlocks := B.notSynchronized
  subst hsz
  have hD : va_D (Ad ad n s.heap.size) (Pw cy w ad n mm) := ⟨hD0.1, fun k q hk => Or.inl (by
    have hkn : k < n := by
      have := (List.getElem?_eq_some_iff.mp hk).1
      simpa [Pw] using this
    have h2 := pw_get (cy := cy) (w := w) (ad := ad) (m := mm) hkn
    have h3 := Option.some.inj (h2.symm.trans hk)
    exact ⟨k, hkn, by rw [← h3]⟩)⟩
  have hl := lv_entry av (n := nL) hav
  rw [lg_entry_eq]
  refine body (p, e, (headSpec (Cond.code y cc nL (none) :: GT) rm).room, s, m, av.toArray, below, meth, c, _, ad, n) ⟨hx, hb, hml, hown2, fun w h => hts w (List.mem_cons_of_mem _ h), hK, rfl, hE⟩ ?_ s.heap [] _ hP hD va_S.rf hl
  intro pc lv hd H2 locs2 ls2 hP2 hD2 hS2 hl2
  have hx2 := hx
  have hb2 := hb
  exact W.vret hx2 hb2 hr (fun t ht hW => ⟨⟨mm2, rfl, rfl, by rw [ht]; exact hP2, va_K.moved hW.alike hK, hD2⟩, hS2.F ht⟩) hS2.2.2 hd
def CtS (z : Zx) (w : Px) (y : MethodName) (cc : ByteArray) (nL : Nat) (ret : Option FieldType) (rm : Room) (ad : Nat → Nat) (n : Nat) (av : List Value) (mm mm2 : Mem) (r : Nat) : Prop := ∀ sz : Nat, Met z.1 y (Cond.code y cc nL ret :: GT) rm (va_Pc av (WdP z w ad n mm sz)) (va_Qq (fun r2 (u : Mem) => r2 = some r ∧ u = mm2) (fun u t => WdQ z w ad n (Ad ad n sz) u t) (Ad ad n sz)) 0 0 (Ad ad n sz)
theorem ct_ofS {z : Zx} {w : Px} {y : MethodName} {cc : ByteArray} {nL : Nat} {rm : Room} {ad : Nat → Nat} {n : Nat} {av : List Value} {mm mm2 : Mem} {r : Nat} {own : String} {na : Nat} (M : Mi y cc nL (some (.object "java/lang/String")) na) (hown : y.cls = own) (hav : (lg_sl av).length ≤ nL) (body : ∀ x : Cx, OK z x cc own nL rm → (∀ pc lv, decode cc pc = .ok (.areturn, 1) → G z w x nL 0 0 ad n mm2 pc lv [.ref r]) → G z w x nL 0 0 ad n mm 0 (lv_args 0 av) []) : CtS z w y cc nL (some (.object "java/lang/String")) rm ad n av mm mm2 r := by
  obtain ⟨l, D, cy, aK, aV⟩ := z
  intro sz
  refine Met.ofW (cc := cc) (maxL := nL) (ret := some (.object "java/lang/String")) M.2.2.2.2.2 rfl ?_
  intro p e s m args below meth c s₁ B hml hv
  obtain ⟨rfl, hsz, hP, hK, hD0, hE⟩ := hv
  have hx := B.exec
  have hb := B.bytes
  have hr := B.returns
  have hts := atoms_spec (ws := Cond.code y cc nL (some (.object "java/lang/String")) :: GT) B.pre
  have hown2 : s.vm.findClass own = some m.cls := by rw [← hown]; exact findClass_of_methodNamed B.named
  have hlocks := B.notSynchronized
  subst hsz
  have hD : va_D (Ad ad n s.heap.size) (Pw cy w ad n mm) := ⟨hD0.1, fun k q hk => Or.inl (by
    have hkn : k < n := by
      have := (List.getElem?_eq_some_iff.mp hk).1
      simpa [Pw] using this
    have h2 := pw_get (cy := cy) (w := w) (ad := ad) (m := mm) hkn
    have h3 := Option.some.inj (h2.symm.trans hk)
    exact ⟨k, hkn, by rw [← h3]⟩)⟩
  have hl := lv_entry av (n := nL) hav
  rw [lg_entry_eq]
  refine body (p, e, (headSpec (Cond.code y cc nL (some (.object "java/lang/String")) :: GT) rm).room, s, m, av.toArray, below, meth, c, _, ad, n) ⟨hx, hb, hml, hown2, fun w h => hts w (List.mem_cons_of_mem _ h), hK, rfl, hE⟩ ?_ s.heap [] _ hP hD va_S.rf hl
  intro pc lv hd H2 locs2 ls2 hP2 hD2 hS2 hl2
  have hx2 := hx
  have hb2 := hb
  exact W.aret hx2 hb2 hr (Or.inl ⟨_, rfl⟩) (Or.inr ⟨_, rfl⟩) (fun t ht hW => ⟨⟨some r, mm2, rfl, ⟨rfl, rfl⟩, by rw [ht]; exact hP2, va_K.moved hW.alike hK, hD2⟩, hS2.F ht⟩) hS2.2.2 hd
section
variable {z : Zx} {w : Px} {x : Cx} {nL cs ss : Nat} {ad : Nat → Nat} {n : Nat} {mm : Mem} {pc : Nat} {lv : List (Nat × Value)} {st : List Value} {cc : ByteArray} {own : String} {rm : Room}
theorem ad_up {cy : Nat → ClassId} {A0 : Nat → Prop} {s : State} {H : Heap} {locs : List Loc} (hA0 : ∀ q, s.heap.size ≤ q → A0 q) (hD : va_D A0 (Pw cy w ad n mm)) (hS : va_S A0 s.heap H locs) : ∀ q, Ad ad n H.size q → A0 q := by
  intro q h
  rcases h with ⟨i, hi, rfl⟩ | h
  · exact hD.2 i _ (pw_get hi)
  · exact hA0 q (Nat.le_trans hS.1 h)
theorem g_callVI (X : OK z x cc own nL rm) {y : MethodName} {bytes : ByteArray} {maxL na index : Nat} {ret : Option FieldType} {rm2 : Room} {As rest : List Value} {mm2 : Mem} {r : Int32} (M : Mi y bytes maxL ret na) (hin : Cond.instanceMethod y ∈ GT) (hse : Cond.selects y.cls y y ∈ GT) {t ci Nf : Nat} {T : u_T} {ty : Nat → FieldType} (ha : t < n) (hk : w.1 t = ci) (Cq : Cl ci y.cls T Nf ty) (hli : Cond.methodLink own index y ∈ GT) (hc : CtI z w y bytes maxL ret rm2 ad n (.ref (ad t) :: As) mm mm2 r) (hna : As.length = na) (hst : st = As.reverse ++ .ref (ad t) :: rest) (hcat : (rest.map fun v => v.category).sum ≤ 8) (hrm : rm2.cells = 0 ∧ rm2.slots = 0 ∧ rm2.frames + 1 ≤ rm.frames ∧ 8 + (maxL + 11) + rm2.locals ≤ rm.locals ∧ cs ≤ rm.cells ∧ ss ≤ rm.slots) (hd : decode cc pc = .ok (.invokevirtual index, 3)) (kk : G z w x nL cs ss ad n mm2 (pc + 3) lv (.int r :: rest)) : G z w x nL cs ss ad n mm pc lv st := by
  obtain ⟨l, D, cy, aK, aV⟩ := z
  obtain ⟨p, e, R, s, m, args, below, meth, c, Q, ad0, n0⟩ := x
  obtain ⟨hx, hb, hml, hown, hts, hK, hR, hE⟩ := X
  intro H locs ls hP hD hS hl
  subst hR
  subst hst
  have hup : ∀ q, Ad ad n H.size q → Ad ad0 n0 s.heap.size q := ad_up (fun q h => Or.inr h) hD hS
  refine va_calli (va_runV (As := As) (rest := rest) (bytes := bytes) (maxL := maxL) (ret := ret) (n := na) ⟨hx, hb, hml, hown, hts⟩ (hc H.size) ⟨callB_of na hts (gt_in M.1) rfl hrm.1 hrm.2.1 (hts _ M.2.1) (hts _ hli) ⟨M.2.2.1, M.2.2.2.1, M.2.2.2.2.1⟩ ⟨hrm.2.2.1, hrm.2.2.2.1⟩, hts _ hin, hts _ hse⟩ ⟨WdP.blind, va_recv hK hP Cq.2.1 (pw_obj ha hk Cq.1), fun U hU hW => ⟨rfl, by rw [hU], by rw [hU]; exact hP, va_K.moved hW.alike hK, hD.weaken (fun _ _ _ _ => trivial), hE.mv hS hW hU hup⟩⟩ rfl hna hl.1 rfl (lv_room hcat) hd ⟨hrm.2.2.2.2.1, hrm.2.2.2.2.2⟩) hS (fun q _ h => hup q h) hup (fun r2 u t2 H1 locs1 ht hvm hw hB hz1 hk1 hS1 => ?_)
  obtain ⟨hP1, hK1, hD1⟩ := hB
  rw [ht] at hP1
  obtain ⟨rfl, rfl⟩ := hw
  exact kk H1 locs1 ls hP1 (hD1.weaken (fun _ q _ h => hup q.1 h)) hS1 hl
theorem g_callVL (X : OK z x cc own nL rm) {y : MethodName} {bytes : ByteArray} {maxL na index : Nat} {ret : Option FieldType} {rm2 : Room} {As rest : List Value} {mm2 : Mem} {r : Int64} (M : Mi y bytes maxL ret na) (hin : Cond.instanceMethod y ∈ GT) (hse : Cond.selects y.cls y y ∈ GT) {t ci Nf : Nat} {T : u_T} {ty : Nat → FieldType} (ha : t < n) (hk : w.1 t = ci) (Cq : Cl ci y.cls T Nf ty) (hli : Cond.methodLink own index y ∈ GT) (hc : CtL z w y bytes maxL ret rm2 ad n (.ref (ad t) :: As) mm mm2 r) (hna : As.length = na) (hst : st = As.reverse ++ .ref (ad t) :: rest) (hcat : (rest.map fun v => v.category).sum ≤ 8) (hrm : rm2.cells = 0 ∧ rm2.slots = 0 ∧ rm2.frames + 1 ≤ rm.frames ∧ 8 + (maxL + 11) + rm2.locals ≤ rm.locals ∧ cs ≤ rm.cells ∧ ss ≤ rm.slots) (hd : decode cc pc = .ok (.invokevirtual index, 3)) (kk : G z w x nL cs ss ad n mm2 (pc + 3) lv (.long r :: rest)) : G z w x nL cs ss ad n mm pc lv st := by
  obtain ⟨l, D, cy, aK, aV⟩ := z
  obtain ⟨p, e, R, s, m, args, below, meth, c, Q, ad0, n0⟩ := x
  obtain ⟨hx, hb, hml, hown, hts, hK, hR, hE⟩ := X
  intro H locs ls hP hD hS hl
  subst hR
  subst hst
  have hup : ∀ q, Ad ad n H.size q → Ad ad0 n0 s.heap.size q := ad_up (fun q h => Or.inr h) hD hS
  refine va_calll (va_runV (As := As) (rest := rest) (bytes := bytes) (maxL := maxL) (ret := ret) (n := na) ⟨hx, hb, hml, hown, hts⟩ (hc H.size) ⟨callB_of na hts (gt_in M.1) rfl hrm.1 hrm.2.1 (hts _ M.2.1) (hts _ hli) ⟨M.2.2.1, M.2.2.2.1, M.2.2.2.2.1⟩ ⟨hrm.2.2.1, hrm.2.2.2.1⟩, hts _ hin, hts _ hse⟩ ⟨WdP.blind, va_recv hK hP Cq.2.1 (pw_obj ha hk Cq.1), fun U hU hW => ⟨rfl, by rw [hU], by rw [hU]; exact hP, va_K.moved hW.alike hK, hD.weaken (fun _ _ _ _ => trivial), hE.mv hS hW hU hup⟩⟩ rfl hna hl.1 rfl (lv_room hcat) hd ⟨hrm.2.2.2.2.1, hrm.2.2.2.2.2⟩) hS (fun q _ h => hup q h) hup (fun r2 u t2 H1 locs1 ht hvm hw hB hz1 hk1 hS1 => ?_)
  obtain ⟨hP1, hK1, hD1⟩ := hB
  rw [ht] at hP1
  obtain ⟨rfl, rfl⟩ := hw
  exact kk H1 locs1 ls hP1 (hD1.weaken (fun _ q _ h => hup q.1 h)) hS1 hl
theorem g_callVV (X : OK z x cc own nL rm) {y : MethodName} {bytes : ByteArray} {maxL na index : Nat} {ret : Option FieldType} {rm2 : Room} {As rest : List Value} {mm2 : Mem} (M : Mi y bytes maxL ret na) (hin : Cond.instanceMethod y ∈ GT) (hse : Cond.selects y.cls y y ∈ GT) {t ci Nf : Nat} {T : u_T} {ty : Nat → FieldType} (ha : t < n) (hk : w.1 t = ci) (Cq : Cl ci y.cls T Nf ty) (hli : Cond.methodLink own index y ∈ GT) (hc : CtV z w y bytes maxL ret rm2 ad n (.ref (ad t) :: As) mm mm2) (hna : As.length = na) (hst : st = As.reverse ++ .ref (ad t) :: rest) (hcat : (rest.map fun v => v.category).sum ≤ 8) (hrm : rm2.cells = 0 ∧ rm2.slots = 0 ∧ rm2.frames + 1 ≤ rm.frames ∧ 8 + (maxL + 11) + rm2.locals ≤ rm.locals ∧ cs ≤ rm.cells ∧ ss ≤ rm.slots) (hd : decode cc pc = .ok (.invokevirtual index, 3)) (kk : G z w x nL cs ss ad n mm2 (pc + 3) lv rest) : G z w x nL cs ss ad n mm pc lv st := by
  obtain ⟨l, D, cy, aK, aV⟩ := z
  obtain ⟨p, e, R, s, m, args, below, meth, c, Q, ad0, n0⟩ := x
  obtain ⟨hx, hb, hml, hown, hts, hK, hR, hE⟩ := X
  intro H locs ls hP hD hS hl
  subst hR
  subst hst
  have hup : ∀ q, Ad ad n H.size q → Ad ad0 n0 s.heap.size q := ad_up (fun q h => Or.inr h) hD hS
  refine va_callv (va_runV (As := As) (rest := rest) (bytes := bytes) (maxL := maxL) (ret := ret) (n := na) ⟨hx, hb, hml, hown, hts⟩ (hc H.size) ⟨callB_of na hts (gt_in M.1) rfl hrm.1 hrm.2.1 (hts _ M.2.1) (hts _ hli) ⟨M.2.2.1, M.2.2.2.1, M.2.2.2.2.1⟩ ⟨hrm.2.2.1, hrm.2.2.2.1⟩, hts _ hin, hts _ hse⟩ ⟨WdP.blind, va_recv hK hP Cq.2.1 (pw_obj ha hk Cq.1), fun U hU hW => ⟨rfl, by rw [hU], by rw [hU]; exact hP, va_K.moved hW.alike hK, hD.weaken (fun _ _ _ _ => trivial), hE.mv hS hW hU hup⟩⟩ rfl hna hl.1 rfl (lv_room hcat) hd ⟨hrm.2.2.2.2.1, hrm.2.2.2.2.2⟩) hS (fun q _ h => hup q h) hup (fun u t2 H1 locs1 ht hvm hw hB hz1 hk1 hS1 => ?_)
  obtain ⟨hP1, hK1, hD1⟩ := hB
  rw [ht] at hP1
  obtain rfl := hw
  exact kk H1 locs1 ls hP1 (hD1.weaken (fun _ q _ h => hup q.1 h)) hS1 hl
theorem g_callSI (X : OK z x cc own nL rm) {y : MethodName} {bytes : ByteArray} {maxL na index : Nat} {ret : Option FieldType} {rm2 : Room} {As rest : List Value} {mm2 : Mem} {r : Int32} (M : Mi y bytes maxL ret na) (hstt : Cond.static y ∈ GT) (hli : Cond.methodLink own index y ∈ GT) (hc : CtI z w y bytes maxL ret rm2 ad n As mm mm2 r) (hna : As.length = na) (hst : st = As.reverse ++ rest) (hcat : (rest.map fun v => v.category).sum ≤ 8) (hrm : rm2.cells = 0 ∧ rm2.slots = 0 ∧ rm2.frames + 1 ≤ rm.frames ∧ 8 + (maxL + 11) + rm2.locals ≤ rm.locals ∧ cs ≤ rm.cells ∧ ss ≤ rm.slots) (hd : decode cc pc = .ok (.invokestatic index, 3)) (kk : G z w x nL cs ss ad n mm2 (pc + 3) lv (.int r :: rest)) : G z w x nL cs ss ad n mm pc lv st := by
  obtain ⟨l, D, cy, aK, aV⟩ := z
  obtain ⟨p, e, R, s, m, args, below, meth, c, Q, ad0, n0⟩ := x
  obtain ⟨hx, hb, hml, hown, hts, hK, hR, hE⟩ := X
  intro H locs ls hP hD hS hl
  subst hR
  subst hst
  have hup : ∀ q, Ad ad n H.size q → Ad ad0 n0 s.heap.size q := ad_up (fun q h => Or.inr h) hD hS
  refine va_calli (va_runS (As := As) (rest := rest) (bytes := bytes) (maxL := maxL) (ret := ret) (n := na) ⟨hx, hb, hml, hown, hts⟩ (hc H.size) ⟨callB_of na hts (gt_in M.1) rfl hrm.1 hrm.2.1 (hts _ M.2.1) (hts _ hli) ⟨M.2.2.1, M.2.2.2.1, M.2.2.2.2.1⟩ ⟨hrm.2.2.1, hrm.2.2.2.1⟩, hts _ hstt⟩ ⟨WdP.blind, fun U hU hW => ⟨rfl, by rw [hU], by rw [hU]; exact hP, va_K.moved hW.alike hK, hD.weaken (fun _ _ _ _ => trivial), hE.mv hS hW hU hup⟩⟩ rfl hna hl.1 rfl (lv_room hcat) hd ⟨hrm.2.2.2.2.1, hrm.2.2.2.2.2⟩) hS (fun q _ h => hup q h) hup (fun r2 u t2 H1 locs1 ht hvm hw hB hz1 hk1 hS1 => ?_)
  obtain ⟨hP1, hK1, hD1⟩ := hB
  rw [ht] at hP1
  obtain ⟨rfl, rfl⟩ := hw
  exact kk H1 locs1 ls hP1 (hD1.weaken (fun _ q _ h => hup q.1 h)) hS1 hl
theorem g_callSL (X : OK z x cc own nL rm) {y : MethodName} {bytes : ByteArray} {maxL na index : Nat} {ret : Option FieldType} {rm2 : Room} {As rest : List Value} {mm2 : Mem} {r : Int64} (M : Mi y bytes maxL ret na) (hstt : Cond.static y ∈ GT) (hli : Cond.methodLink own index y ∈ GT) (hc : CtL z w y bytes maxL ret rm2 ad n As mm mm2 r) (hna : As.length = na) (hst : st = As.reverse ++ rest) (hcat : (rest.map fun v => v.category).sum ≤ 8) (hrm : rm2.cells = 0 ∧ rm2.slots = 0 ∧ rm2.frames + 1 ≤ rm.frames ∧ 8 + (maxL + 11) + rm2.locals ≤ rm.locals ∧ cs ≤ rm.cells ∧ ss ≤ rm.slots) (hd : decode cc pc = .ok (.invokestatic index, 3)) (kk : G z w x nL cs ss ad n mm2 (pc + 3) lv (.long r :: rest)) : G z w x nL cs ss ad n mm pc lv st := by
  obtain ⟨l, D, cy, aK, aV⟩ := z
  obtain ⟨p, e, R, s, m, args, below, meth, c, Q, ad0, n0⟩ := x
  obtain ⟨hx, hb, hml, hown, hts, hK, hR, hE⟩ := X
  intro H locs ls hP hD hS hl
  subst hR
  subst hst
  have hup : ∀ q, Ad ad n H.size q → Ad ad0 n0 s.heap.size q := ad_up (fun q h => Or.inr h) hD hS
  refine va_calll (va_runS (As := As) (rest := rest) (bytes := bytes) (maxL := maxL) (ret := ret) (n := na) ⟨hx, hb, hml, hown, hts⟩ (hc H.size) ⟨callB_of na hts (gt_in M.1) rfl hrm.1 hrm.2.1 (hts _ M.2.1) (hts _ hli) ⟨M.2.2.1, M.2.2.2.1, M.2.2.2.2.1⟩ ⟨hrm.2.2.1, hrm.2.2.2.1⟩, hts _ hstt⟩ ⟨WdP.blind, fun U hU hW => ⟨rfl, by rw [hU], by rw [hU]; exact hP, va_K.moved hW.alike hK, hD.weaken (fun _ _ _ _ => trivial), hE.mv hS hW hU hup⟩⟩ rfl hna hl.1 rfl (lv_room hcat) hd ⟨hrm.2.2.2.2.1, hrm.2.2.2.2.2⟩) hS (fun q _ h => hup q h) hup (fun r2 u t2 H1 locs1 ht hvm hw hB hz1 hk1 hS1 => ?_)
  obtain ⟨hP1, hK1, hD1⟩ := hB
  rw [ht] at hP1
  obtain ⟨rfl, rfl⟩ := hw
  exact kk H1 locs1 ls hP1 (hD1.weaken (fun _ q _ h => hup q.1 h)) hS1 hl
theorem g_callSV (X : OK z x cc own nL rm) {y : MethodName} {bytes : ByteArray} {maxL na index : Nat} {ret : Option FieldType} {rm2 : Room} {As rest : List Value} {mm2 : Mem} (M : Mi y bytes maxL ret na) (hstt : Cond.static y ∈ GT) (hli : Cond.methodLink own index y ∈ GT) (hc : CtV z w y bytes maxL ret rm2 ad n As mm mm2) (hna : As.length = na) (hst : st = As.reverse ++ rest) (hcat : (rest.map fun v => v.category).sum ≤ 8) (hrm : rm2.cells = 0 ∧ rm2.slots = 0 ∧ rm2.frames + 1 ≤ rm.frames ∧ 8 + (maxL + 11) + rm2.locals ≤ rm.locals ∧ cs ≤ rm.cells ∧ ss ≤ rm.slots) (hd : decode cc pc = .ok (.invokestatic index, 3)) (kk : G z w x nL cs ss ad n mm2 (pc + 3) lv rest) : G z w x nL cs ss ad n mm pc lv st := by
  obtain ⟨l, D, cy, aK, aV⟩ := z
  obtain ⟨p, e, R, s, m, args, below, meth, c, Q, ad0, n0⟩ := x
  obtain ⟨hx, hb, hml, hown, hts, hK, hR, hE⟩ := X
  intro H locs ls hP hD hS hl
  subst hR
  subst hst
  have hup : ∀ q, Ad ad n H.size q → Ad ad0 n0 s.heap.size q := ad_up (fun q h => Or.inr h) hD hS
  refine va_callv (va_runS (As := As) (rest := rest) (bytes := bytes) (maxL := maxL) (ret := ret) (n := na) ⟨hx, hb, hml, hown, hts⟩ (hc H.size) ⟨callB_of na hts (gt_in M.1) rfl hrm.1 hrm.2.1 (hts _ M.2.1) (hts _ hli) ⟨M.2.2.1, M.2.2.2.1, M.2.2.2.2.1⟩ ⟨hrm.2.2.1, hrm.2.2.2.1⟩, hts _ hstt⟩ ⟨WdP.blind, fun U hU hW => ⟨rfl, by rw [hU], by rw [hU]; exact hP, va_K.moved hW.alike hK, hD.weaken (fun _ _ _ _ => trivial), hE.mv hS hW hU hup⟩⟩ rfl hna hl.1 rfl (lv_room hcat) hd ⟨hrm.2.2.2.2.1, hrm.2.2.2.2.2⟩) hS (fun q _ h => hup q h) hup (fun u t2 H1 locs1 ht hvm hw hB hz1 hk1 hS1 => ?_)
  obtain ⟨hP1, hK1, hD1⟩ := hB
  rw [ht] at hP1
  obtain rfl := hw
  exact kk H1 locs1 ls hP1 (hD1.weaken (fun _ q _ h => hup q.1 h)) hS1 hl
theorem g_callSS (X : OK z x cc own nL rm) {y : MethodName} {bytes : ByteArray} {maxL na index : Nat} {ret : Option FieldType} {rm2 : Room} {As rest : List Value} {mm2 : Mem} {r : Nat} (M : Mi y bytes maxL ret na) (hstt : Cond.static y ∈ GT) (hli : Cond.methodLink own index y ∈ GT) (hc : CtS z w y bytes maxL ret rm2 ad n As mm mm2 r) (hna : As.length = na) (hst : st = As.reverse ++ rest) (hcat : (rest.map fun v => v.category).sum ≤ 8) (hrm : rm2.cells = 0 ∧ rm2.slots = 0 ∧ rm2.frames + 1 ≤ rm.frames ∧ 8 + (maxL + 11) + rm2.locals ≤ rm.locals ∧ cs ≤ rm.cells ∧ ss ≤ rm.slots) (hd : decode cc pc = .ok (.invokestatic index, 3)) (kk : G z w x nL cs ss ad n mm2 (pc + 3) lv (.ref r :: rest)) : G z w x nL cs ss ad n mm pc lv st := by
  obtain ⟨l, D, cy, aK, aV⟩ := z
  obtain ⟨p, e, R, s, m, args, below, meth, c, Q, ad0, n0⟩ := x
  obtain ⟨hx, hb, hml, hown, hts, hK, hR, hE⟩ := X
  intro H locs ls hP hD hS hl
  subst hR
  subst hst
  have hup : ∀ q, Ad ad n H.size q → Ad ad0 n0 s.heap.size q := ad_up (fun q h => Or.inr h) hD hS
  refine va_callq (va_runS (As := As) (rest := rest) (bytes := bytes) (maxL := maxL) (ret := ret) (n := na) ⟨hx, hb, hml, hown, hts⟩ (hc H.size) ⟨callB_of na hts (gt_in M.1) rfl hrm.1 hrm.2.1 (hts _ M.2.1) (hts _ hli) ⟨M.2.2.1, M.2.2.2.1, M.2.2.2.2.1⟩ ⟨hrm.2.2.1, hrm.2.2.2.1⟩, hts _ hstt⟩ ⟨WdP.blind, fun U hU hW => ⟨rfl, by rw [hU], by rw [hU]; exact hP, va_K.moved hW.alike hK, hD.weaken (fun _ _ _ _ => trivial), hE.mv hS hW hU hup⟩⟩ rfl hna hl.1 rfl (lv_room hcat) hd ⟨hrm.2.2.2.2.1, hrm.2.2.2.2.2⟩) hS (fun q _ h => hup q h) hup (fun r2 u t2 H1 locs1 ht hvm hw hB hz1 hk1 hS1 => ?_)
  obtain ⟨hP1, hK1, hD1⟩ := hB
  rw [ht] at hP1
  obtain ⟨rfl, rfl⟩ := hw
  exact kk H1 locs1 ls hP1 (hD1.weaken (fun _ q _ h => hup q.1 h)) hS1 hl
theorem g_callVNI (X : OK z x cc own nL rm) {y : MethodName} {bytes : ByteArray} {maxL na index : Nat} {ret : Option FieldType} {rm2 : Room} {As rest : List Value} {mm2 : Mem} {r : Int32} (M : Mi y bytes maxL ret na) (hin : Cond.instanceMethod y ∈ GT) (hse : Cond.selects y.cls y y ∈ GT) {t ci Nf : Nat} {T : u_T} {ty : Nat → FieldType} (ha : t < n) (hk : w.1 t = ci) (Cq : Cl ci y.cls T Nf ty) {host : String} {q : Nat} (hli : nestW[q]? = some (own, index, y, host)) (hc : CtI z w y bytes maxL ret rm2 ad n (.ref (ad t) :: As) mm mm2 r) (hna : As.length = na) (hst : st = As.reverse ++ .ref (ad t) :: rest) (hcat : (rest.map fun v => v.category).sum ≤ 8) (hrm : rm2.cells = 0 ∧ rm2.slots = 0 ∧ rm2.frames + 1 ≤ rm.frames ∧ 8 + (maxL + 11) + rm2.locals ≤ rm.locals ∧ cs ≤ rm.cells ∧ ss ≤ rm.slots) (hd : decode cc pc = .ok (.invokevirtual index, 3)) (kk : G z w x nL cs ss ad n mm2 (pc + 3) lv (.int r :: rest)) : G z w x nL cs ss ad n mm pc lv st := by
  obtain ⟨l, D, cy, aK, aV⟩ := z
  obtain ⟨p, e, R, s, m, args, below, meth, c, Q, ad0, n0⟩ := x
  obtain ⟨hx, hb, hml, hown, hts, hK, hR, hE⟩ := X
  intro H locs ls hP hD hS hl
  subst hR
  subst hst
  have hup : ∀ q, Ad ad n H.size q → Ad ad0 n0 s.heap.size q := ad_up (fun q h => Or.inr h) hD hS
  refine va_calli (va_runVN (As := As) (rest := rest) (bytes := bytes) (maxL := maxL) (ret := ret) (n := na) ⟨hx, hb, hml, hown, hts⟩ (hc H.size) ⟨va_cnB na hts (gt_in M.1) rfl hrm.1 hrm.2.1 (hE.1 _ (List.mem_of_getElem? hli)) (hts _ M.2.1) ⟨M.2.2.1, M.2.2.2.1, M.2.2.2.2.1⟩ ⟨hrm.2.2.1, hrm.2.2.2.1⟩, hts _ hin, hts _ hse⟩ ⟨WdP.blind, va_recv hK hP Cq.2.1 (pw_obj ha hk Cq.1), fun U hU hW => ⟨rfl, by rw [hU], by rw [hU]; exact hP, va_K.moved hW.alike hK, hD.weaken (fun _ _ _ _ => trivial), hE.mv hS hW hU hup⟩⟩ rfl hna hl.1 rfl (lv_room hcat) hd ⟨hrm.2.2.2.2.1, hrm.2.2.2.2.2⟩) hS (fun q _ h => hup q h) hup (fun r2 u t2 H1 locs1 ht hvm hw hB hz1 hk1 hS1 => ?_)
  obtain ⟨hP1, hK1, hD1⟩ := hB
  rw [ht] at hP1
  obtain ⟨rfl, rfl⟩ := hw
  exact kk H1 locs1 ls hP1 (hD1.weaken (fun _ q _ h => hup q.1 h)) hS1 hl
theorem g_callVNL (X : OK z x cc own nL rm) {y : MethodName} {bytes : ByteArray} {maxL na index : Nat} {ret : Option FieldType} {rm2 : Room} {As rest : List Value} {mm2 : Mem} {r : Int64} (M : Mi y bytes maxL ret na) (hin : Cond.instanceMethod y ∈ GT) (hse : Cond.selects y.cls y y ∈ GT) {t ci Nf : Nat} {T : u_T} {ty : Nat → FieldType} (ha : t < n) (hk : w.1 t = ci) (Cq : Cl ci y.cls T Nf ty) {host : String} {q : Nat} (hli : nestW[q]? = some (own, index, y, host)) (hc : CtL z w y bytes maxL ret rm2 ad n (.ref (ad t) :: As) mm mm2 r) (hna : As.length = na) (hst : st = As.reverse ++ .ref (ad t) :: rest) (hcat : (rest.map fun v => v.category).sum ≤ 8) (hrm : rm2.cells = 0 ∧ rm2.slots = 0 ∧ rm2.frames + 1 ≤ rm.frames ∧ 8 + (maxL + 11) + rm2.locals ≤ rm.locals ∧ cs ≤ rm.cells ∧ ss ≤ rm.slots) (hd : decode cc pc = .ok (.invokevirtual index, 3)) (kk : G z w x nL cs ss ad n mm2 (pc + 3) lv (.long r :: rest)) : G z w x nL cs ss ad n mm pc lv st := by
  obtain ⟨l, D, cy, aK, aV⟩ := z
  obtain ⟨p, e, R, s, m, args, below, meth, c, Q, ad0, n0⟩ := x
  obtain ⟨hx, hb, hml, hown, hts, hK, hR, hE⟩ := X
  intro H locs ls hP hD hS hl
  subst hR
  subst hst
  have hup : ∀ q, Ad ad n H.size q → Ad ad0 n0 s.heap.size q := ad_up (fun q h => Or.inr h) hD hS
  refine va_calll (va_runVN (As := As) (rest := rest) (bytes := bytes) (maxL := maxL) (ret := ret) (n := na) ⟨hx, hb, hml, hown, hts⟩ (hc H.size) ⟨va_cnB na hts (gt_in M.1) rfl hrm.1 hrm.2.1 (hE.1 _ (List.mem_of_getElem? hli)) (hts _ M.2.1) ⟨M.2.2.1, M.2.2.2.1, M.2.2.2.2.1⟩ ⟨hrm.2.2.1, hrm.2.2.2.1⟩, hts _ hin, hts _ hse⟩ ⟨WdP.blind, va_recv hK hP Cq.2.1 (pw_obj ha hk Cq.1), fun U hU hW => ⟨rfl, by rw [hU], by rw [hU]; exact hP, va_K.moved hW.alike hK, hD.weaken (fun _ _ _ _ => trivial), hE.mv hS hW hU hup⟩⟩ rfl hna hl.1 rfl (lv_room hcat) hd ⟨hrm.2.2.2.2.1, hrm.2.2.2.2.2⟩) hS (fun q _ h => hup q h) hup (fun r2 u t2 H1 locs1 ht hvm hw hB hz1 hk1 hS1 => ?_)
  obtain ⟨hP1, hK1, hD1⟩ := hB
  rw [ht] at hP1
  obtain ⟨rfl, rfl⟩ := hw
  exact kk H1 locs1 ls hP1 (hD1.weaken (fun _ q _ h => hup q.1 h)) hS1 hl
theorem g_callVNV (X : OK z x cc own nL rm) {y : MethodName} {bytes : ByteArray} {maxL na index : Nat} {ret : Option FieldType} {rm2 : Room} {As rest : List Value} {mm2 : Mem} (M : Mi y bytes maxL ret na) (hin : Cond.instanceMethod y ∈ GT) (hse : Cond.selects y.cls y y ∈ GT) {t ci Nf : Nat} {T : u_T} {ty : Nat → FieldType} (ha : t < n) (hk : w.1 t = ci) (Cq : Cl ci y.cls T Nf ty) {host : String} {q : Nat} (hli : nestW[q]? = some (own, index, y, host)) (hc : CtV z w y bytes maxL ret rm2 ad n (.ref (ad t) :: As) mm mm2) (hna : As.length = na) (hst : st = As.reverse ++ .ref (ad t) :: rest) (hcat : (rest.map fun v => v.category).sum ≤ 8) (hrm : rm2.cells = 0 ∧ rm2.slots = 0 ∧ rm2.frames + 1 ≤ rm.frames ∧ 8 + (maxL + 11) + rm2.locals ≤ rm.locals ∧ cs ≤ rm.cells ∧ ss ≤ rm.slots) (hd : decode cc pc = .ok (.invokevirtual index, 3)) (kk : G z w x nL cs ss ad n mm2 (pc + 3) lv rest) : G z w x nL cs ss ad n mm pc lv st := by
  obtain ⟨l, D, cy, aK, aV⟩ := z
  obtain ⟨p, e, R, s, m, args, below, meth, c, Q, ad0, n0⟩ := x
  obtain ⟨hx, hb, hml, hown, hts, hK, hR, hE⟩ := X
  intro H locs ls hP hD hS hl
  subst hR
  subst hst
  have hup : ∀ q, Ad ad n H.size q → Ad ad0 n0 s.heap.size q := ad_up (fun q h => Or.inr h) hD hS
  refine va_callv (va_runVN (As := As) (rest := rest) (bytes := bytes) (maxL := maxL) (ret := ret) (n := na) ⟨hx, hb, hml, hown, hts⟩ (hc H.size) ⟨va_cnB na hts (gt_in M.1) rfl hrm.1 hrm.2.1 (hE.1 _ (List.mem_of_getElem? hli)) (hts _ M.2.1) ⟨M.2.2.1, M.2.2.2.1, M.2.2.2.2.1⟩ ⟨hrm.2.2.1, hrm.2.2.2.1⟩, hts _ hin, hts _ hse⟩ ⟨WdP.blind, va_recv hK hP Cq.2.1 (pw_obj ha hk Cq.1), fun U hU hW => ⟨rfl, by rw [hU], by rw [hU]; exact hP, va_K.moved hW.alike hK, hD.weaken (fun _ _ _ _ => trivial), hE.mv hS hW hU hup⟩⟩ rfl hna hl.1 rfl (lv_room hcat) hd ⟨hrm.2.2.2.2.1, hrm.2.2.2.2.2⟩) hS (fun q _ h => hup q h) hup (fun u t2 H1 locs1 ht hvm hw hB hz1 hk1 hS1 => ?_)
  obtain ⟨hP1, hK1, hD1⟩ := hB
  rw [ht] at hP1
  obtain rfl := hw
  exact kk H1 locs1 ls hP1 (hD1.weaken (fun _ q _ h => hup q.1 h)) hS1 hl
theorem g_callSNI (X : OK z x cc own nL rm) {y : MethodName} {bytes : ByteArray} {maxL na index : Nat} {ret : Option FieldType} {rm2 : Room} {As rest : List Value} {mm2 : Mem} {r : Int32} (M : Mi y bytes maxL ret na) (hstt : Cond.static y ∈ GT) {host : String} {q : Nat} (hli : nestW[q]? = some (own, index, y, host)) (hc : CtI z w y bytes maxL ret rm2 ad n As mm mm2 r) (hna : As.length = na) (hst : st = As.reverse ++ rest) (hcat : (rest.map fun v => v.category).sum ≤ 8) (hrm : rm2.cells = 0 ∧ rm2.slots = 0 ∧ rm2.frames + 1 ≤ rm.frames ∧ 8 + (maxL + 11) + rm2.locals ≤ rm.locals ∧ cs ≤ rm.cells ∧ ss ≤ rm.slots) (hd : decode cc pc = .ok (.invokestatic index, 3)) (kk : G z w x nL cs ss ad n mm2 (pc + 3) lv (.int r :: rest)) : G z w x nL cs ss ad n mm pc lv st := by
  obtain ⟨l, D, cy, aK, aV⟩ := z
  obtain ⟨p, e, R, s, m, args, below, meth, c, Q, ad0, n0⟩ := x
  obtain ⟨hx, hb, hml, hown, hts, hK, hR, hE⟩ := X
  intro H locs ls hP hD hS hl
  subst hR
  subst hst
  have hup : ∀ q, Ad ad n H.size q → Ad ad0 n0 s.heap.size q := ad_up (fun q h => Or.inr h) hD hS
  refine va_calli (va_runSN (As := As) (rest := rest) (bytes := bytes) (maxL := maxL) (ret := ret) (n := na) ⟨hx, hb, hml, hown, hts⟩ (hc H.size) ⟨va_cnB na hts (gt_in M.1) rfl hrm.1 hrm.2.1 (hE.1 _ (List.mem_of_getElem? hli)) (hts _ M.2.1) ⟨M.2.2.1, M.2.2.2.1, M.2.2.2.2.1⟩ ⟨hrm.2.2.1, hrm.2.2.2.1⟩, hts _ hstt, trivial⟩ ⟨WdP.blind, fun U hU hW => ⟨rfl, by rw [hU], by rw [hU]; exact hP, va_K.moved hW.alike hK, hD.weaken (fun _ _ _ _ => trivial), hE.mv hS hW hU hup⟩⟩ rfl hna hl.1 rfl (lv_room hcat) hd ⟨hrm.2.2.2.2.1, hrm.2.2.2.2.2⟩) hS (fun q _ h => hup q h) hup (fun r2 u t2 H1 locs1 ht hvm hw hB hz1 hk1 hS1 => ?_)
  obtain ⟨hP1, hK1, hD1⟩ := hB
  rw [ht] at hP1
  obtain ⟨rfl, rfl⟩ := hw
  exact kk H1 locs1 ls hP1 (hD1.weaken (fun _ q _ h => hup q.1 h)) hS1 hl
theorem g_callSNL (X : OK z x cc own nL rm) {y : MethodName} {bytes : ByteArray} {maxL na index : Nat} {ret : Option FieldType} {rm2 : Room} {As rest : List Value} {mm2 : Mem} {r : Int64} (M : Mi y bytes maxL ret na) (hstt : Cond.static y ∈ GT) {host : String} {q : Nat} (hli : nestW[q]? = some (own, index, y, host)) (hc : CtL z w y bytes maxL ret rm2 ad n As mm mm2 r) (hna : As.length = na) (hst : st = As.reverse ++ rest) (hcat : (rest.map fun v => v.category).sum ≤ 8) (hrm : rm2.cells = 0 ∧ rm2.slots = 0 ∧ rm2.frames + 1 ≤ rm.frames ∧ 8 + (maxL + 11) + rm2.locals ≤ rm.locals ∧ cs ≤ rm.cells ∧ ss ≤ rm.slots) (hd : decode cc pc = .ok (.invokestatic index, 3)) (kk : G z w x nL cs ss ad n mm2 (pc + 3) lv (.long r :: rest)) : G z w x nL cs ss ad n mm pc lv st := by
  obtain ⟨l, D, cy, aK, aV⟩ := z
  obtain ⟨p, e, R, s, m, args, below, meth, c, Q, ad0, n0⟩ := x
  obtain ⟨hx, hb, hml, hown, hts, hK, hR, hE⟩ := X
  intro H locs ls hP hD hS hl
  subst hR
  subst hst
  have hup : ∀ q, Ad ad n H.size q → Ad ad0 n0 s.heap.size q := ad_up (fun q h => Or.inr h) hD hS
  refine va_calll (va_runSN (As := As) (rest := rest) (bytes := bytes) (maxL := maxL) (ret := ret) (n := na) ⟨hx, hb, hml, hown, hts⟩ (hc H.size) ⟨va_cnB na hts (gt_in M.1) rfl hrm.1 hrm.2.1 (hE.1 _ (List.mem_of_getElem? hli)) (hts _ M.2.1) ⟨M.2.2.1, M.2.2.2.1, M.2.2.2.2.1⟩ ⟨hrm.2.2.1, hrm.2.2.2.1⟩, hts _ hstt, trivial⟩ ⟨WdP.blind, fun U hU hW => ⟨rfl, by rw [hU], by rw [hU]; exact hP, va_K.moved hW.alike hK, hD.weaken (fun _ _ _ _ => trivial), hE.mv hS hW hU hup⟩⟩ rfl hna hl.1 rfl (lv_room hcat) hd ⟨hrm.2.2.2.2.1, hrm.2.2.2.2.2⟩) hS (fun q _ h => hup q h) hup (fun r2 u t2 H1 locs1 ht hvm hw hB hz1 hk1 hS1 => ?_)
  obtain ⟨hP1, hK1, hD1⟩ := hB
  rw [ht] at hP1
  obtain ⟨rfl, rfl⟩ := hw
  exact kk H1 locs1 ls hP1 (hD1.weaken (fun _ q _ h => hup q.1 h)) hS1 hl
theorem g_callSNV (X : OK z x cc own nL rm) {y : MethodName} {bytes : ByteArray} {maxL na index : Nat} {ret : Option FieldType} {rm2 : Room} {As rest : List Value} {mm2 : Mem} (M : Mi y bytes maxL ret na) (hstt : Cond.static y ∈ GT) {host : String} {q : Nat} (hli : nestW[q]? = some (own, index, y, host)) (hc : CtV z w y bytes maxL ret rm2 ad n As mm mm2) (hna : As.length = na) (hst : st = As.reverse ++ rest) (hcat : (rest.map fun v => v.category).sum ≤ 8) (hrm : rm2.cells = 0 ∧ rm2.slots = 0 ∧ rm2.frames + 1 ≤ rm.frames ∧ 8 + (maxL + 11) + rm2.locals ≤ rm.locals ∧ cs ≤ rm.cells ∧ ss ≤ rm.slots) (hd : decode cc pc = .ok (.invokestatic index, 3)) (kk : G z w x nL cs ss ad n mm2 (pc + 3) lv rest) : G z w x nL cs ss ad n mm pc lv st := by
  obtain ⟨l, D, cy, aK, aV⟩ := z
  obtain ⟨p, e, R, s, m, args, below, meth, c, Q, ad0, n0⟩ := x
  obtain ⟨hx, hb, hml, hown, hts, hK, hR, hE⟩ := X
  intro H locs ls hP hD hS hl
  subst hR
  subst hst
  have hup : ∀ q, Ad ad n H.size q → Ad ad0 n0 s.heap.size q := ad_up (fun q h => Or.inr h) hD hS
  refine va_callv (va_runSN (As := As) (rest := rest) (bytes := bytes) (maxL := maxL) (ret := ret) (n := na) ⟨hx, hb, hml, hown, hts⟩ (hc H.size) ⟨va_cnB na hts (gt_in M.1) rfl hrm.1 hrm.2.1 (hE.1 _ (List.mem_of_getElem? hli)) (hts _ M.2.1) ⟨M.2.2.1, M.2.2.2.1, M.2.2.2.2.1⟩ ⟨hrm.2.2.1, hrm.2.2.2.1⟩, hts _ hstt, trivial⟩ ⟨WdP.blind, fun U hU hW => ⟨rfl, by rw [hU], by rw [hU]; exact hP, va_K.moved hW.alike hK, hD.weaken (fun _ _ _ _ => trivial), hE.mv hS hW hU hup⟩⟩ rfl hna hl.1 rfl (lv_room hcat) hd ⟨hrm.2.2.2.2.1, hrm.2.2.2.2.2⟩) hS (fun q _ h => hup q h) hup (fun u t2 H1 locs1 ht hvm hw hB hz1 hk1 hS1 => ?_)
  obtain ⟨hP1, hK1, hD1⟩ := hB
  rw [ht] at hP1
  obtain rfl := hw
  exact kk H1 locs1 ls hP1 (hD1.weaken (fun _ q _ h => hup q.1 h)) hS1 hl
theorem g_callSNS (X : OK z x cc own nL rm) {y : MethodName} {bytes : ByteArray} {maxL na index : Nat} {ret : Option FieldType} {rm2 : Room} {As rest : List Value} {mm2 : Mem} {r : Nat} (M : Mi y bytes maxL ret na) (hstt : Cond.static y ∈ GT) {host : String} {q : Nat} (hli : nestW[q]? = some (own, index, y, host)) (hc : CtS z w y bytes maxL ret rm2 ad n As mm mm2 r) (hna : As.length = na) (hst : st = As.reverse ++ rest) (hcat : (rest.map fun v => v.category).sum ≤ 8) (hrm : rm2.cells = 0 ∧ rm2.slots = 0 ∧ rm2.frames + 1 ≤ rm.frames ∧ 8 + (maxL + 11) + rm2.locals ≤ rm.locals ∧ cs ≤ rm.cells ∧ ss ≤ rm.slots) (hd : decode cc pc = .ok (.invokestatic index, 3)) (kk : G z w x nL cs ss ad n mm2 (pc + 3) lv (.ref r :: rest)) : G z w x nL cs ss ad n mm pc lv st := by
  obtain ⟨l, D, cy, aK, aV⟩ := z
  obtain ⟨p, e, R, s, m, args, below, meth, c, Q, ad0, n0⟩ := x
  obtain ⟨hx, hb, hml, hown, hts, hK, hR, hE⟩ := X
  intro H locs ls hP hD hS hl
  subst hR
  subst hst
  have hup : ∀ q, Ad ad n H.size q → Ad ad0 n0 s.heap.size q := ad_up (fun q h => Or.inr h) hD hS
  refine va_callq (va_runSN (As := As) (rest := rest) (bytes := bytes) (maxL := maxL) (ret := ret) (n := na) ⟨hx, hb, hml, hown, hts⟩ (hc H.size) ⟨va_cnB na hts (gt_in M.1) rfl hrm.1 hrm.2.1 (hE.1 _ (List.mem_of_getElem? hli)) (hts _ M.2.1) ⟨M.2.2.1, M.2.2.2.1, M.2.2.2.2.1⟩ ⟨hrm.2.2.1, hrm.2.2.2.1⟩, hts _ hstt, trivial⟩ ⟨WdP.blind, fun U hU hW => ⟨rfl, by rw [hU], by rw [hU]; exact hP, va_K.moved hW.alike hK, hD.weaken (fun _ _ _ _ => trivial), hE.mv hS hW hU hup⟩⟩ rfl hna hl.1 rfl (lv_room hcat) hd ⟨hrm.2.2.2.2.1, hrm.2.2.2.2.2⟩) hS (fun q _ h => hup q h) hup (fun r2 u t2 H1 locs1 ht hvm hw hB hz1 hk1 hS1 => ?_)
  obtain ⟨hP1, hK1, hD1⟩ := hB
  rw [ht] at hP1
  obtain ⟨rfl, rfl⟩ := hw
  exact kk H1 locs1 ls hP1 (hD1.weaken (fun _ q _ h => hup q.1 h)) hS1 hl
end
