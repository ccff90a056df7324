/-! making cells: a new one is put behind the pool, empty -/
def clr (m : Mem) (a : Nat) : Mem := (fun b j => if b = a then 0 else m.1 b j, fun b j => if b = a then 0 else m.2.1 b j, fun b j => if b = a then none else m.2.2 b j)
def Wf (n : Nat) (m : Mem) : Prop := ∀ i j b, m.2.2 i j = some b → b < n
theorem wf_mono {n k : Nat} {m : Mem} (h : Wf n m) (hk : n ≤ k) : Wf k m := fun i j b q => Nat.lt_of_lt_of_le (h i j b q) hk
theorem wf_clr {n a : Nat} {m : Mem} (h : Wf n m) : Wf (n + 1) (clr m a) := by
  intro i j b q
  simp only [clr] at q
  by_cases hi : i = a
  · rw [if_pos hi] at q; cases q
  · rw [if_neg hi] at q; exact Nat.lt_succ_of_lt (h i j b q)
theorem wf_uR {n a k v : Nat} {m : Mem} (h : Wf n m) (hv : v < n) : Wf n (uR m a k (some v)) := by
  intro i j b q
  simp only [uR] at q
  by_cases hi : i = a ∧ j = k
  · rw [if_pos hi] at q; cases q; exact hv
  · rw [if_neg hi] at q; exact h i j b q
theorem wf_uI {n a k : Nat} {v : Int32} {m : Mem} (h : Wf n m) : Wf n (uI m a k v) := fun i j b q => h i j b q
theorem ce_ad {cy : Nat → ClassId} {w : Px} {ad ad2 : Nat → Nat} {m : Mem} {i : Nat} (h : ∀ j b, m.2.2 i j = some b → ad2 b = ad b) : cE cy w ad2 m i = cE cy w ad m i := by
  have e : ∀ j, (m.2.2 i j).map ad2 = (m.2.2 i j).map ad := by
    intro j
    cases hq : m.2.2 i j with
    | none => rfl
    | some b => simp [h j b hq]
  simp only [cE, fvs, fv, avs, e]
theorem pw_push {cy : Nat → ClassId} {w : Px} {ad ad2 : Nat → Nat} {n q : Nat} {m : Mem} {e : va_E} (hw : Wf n m) (h2 : ∀ i, i < n → ad2 i = ad i) (hq : ad2 n = q) (he : cE cy w ad2 (clr m n) n = e) : Pw cy w ad n m ++ [(q, e)] = Pw cy w ad2 (n + 1) (clr m n) := by
  unfold Pw
  rw [List.range_succ, List.map_append, List.map_singleton, hq, he]
  congr 1
  apply List.map_congr_left
  intro i hi
  have hin : i < n := List.mem_range.mp hi
  have hne : i ≠ n := Nat.ne_of_lt hin
  rw [h2 i hin]
  congr 1
  rw [← ce_ad (ad := ad) (ad2 := ad2) (m := m) (fun j b q => h2 b (hw i j b q))]
  exact (ce_ne (by funext j; simp [clr, hne]) (by funext j; simp [clr, hne]) (by funext j; simp [clr, hne])).symm
def Ini (x : Cx) : Prop := match x with
  | (_, _, _, _, _, _, _, meth, _, _, _, _) => meth.name = "<init>"
def dfv (t : Nat) : Value := if t = 0 then .int 0 else if t = 1 then .long 0 else .null
theorem fvs_clr {ad : Nat → Nat} {m : Mem} {n ci : Nat} : fvs ad (clr m n) n ci = (fk ci).map dfv := by
  apply List.ext_getElem?
  intro i
  simp only [fvs, List.getElem?_mapIdx, List.getElem?_map]
  cases (fk ci)[i]? with
  | none => rfl
  | some t => simp [fv, dfv, clr, va_rf]
theorem ad_new {ad : Nat → Nat} {n q : Nat} : (∀ i, i < n → (fun i => if i = n then q else ad i) i = ad i) ∧ (fun i => if i = n then q else ad i) n = q := by
  refine ⟨fun i hi => ?_, ?_⟩
  · show (if i = n then q else ad i) = ad i
    rw [if_neg (Nat.ne_of_lt hi)]
  · show (if n = n then q else ad n) = q
    rw [if_pos rfl]
section
variable {z : Zx} {w : Px} {x : Cx} {nL cs ss : Nat} {ad : Nat → Nat} {n : Nat} {mm : Mem} {pc : Nat} {lv : List (Nat × Value)} {st : List Value} {cc : ByteArray} {own : String} {rm : Room}
theorem g_new (X : OK z x cc own nL rm) {index ci Nf : Nat} {C : String} {T : u_T} {ty : Nat → FieldType} (Cq : Cl ci C T Nf ty) (hdf : ∀ j, j < Nf → defaultValue (ty j) = vp_V ((fk ci).map dfv) j) (hcl : Cond.classLink own index C ∈ GT) (hinst : Cond.instantiable C Nf ∈ GT) (hini : Cond.initialized C ∈ GT) (hk : w.1 n = ci) (hw : Wf n mm) (hcs : cs + 1 ≤ rm.cells) (hss : ss + Nf ≤ rm.slots) (hd : decode cc pc = .ok (.new index, 3)) (kk : ∀ ad2 : Nat → Nat, (∀ i, i < n → ad2 i = ad i) → G z w x nL (cs + 1) (ss + Nf) ad2 (n + 1) (clr mm n) (pc + 3) lv (.ref (ad2 n) :: st)) : G z w x nL cs ss ad n mm pc lv st := by
  obtain ⟨l, D, cy, aK, aV⟩ := z
  obtain ⟨p, e, R, s, m, args, below, meth, c, Q, ad0, n0⟩ := x
  obtain ⟨hx, hb, hml, hown, hts, hK, hR, hE⟩ := X
  intro H locs ls hP hD hS hl
  subst hR
  refine va_new (fs := (fk ci).map dfv) hx hb hts Cq.2.2.1 ty Cq.2.2.2.1 hown (hts _ hcl) (hts _ hinst) (hts _ hini) hK hP hD hS (fun q h => Or.inr h) Cq.2.1 hdf hcs hss hd (fun q H1 hP1 hD1 hS1 => ?_)
  obtain ⟨a1, a2⟩ := ad_new (ad := ad) (n := n) (q := q)
  generalize (fun i => if i = n then q else ad i) = ad2 at a1 a2
  have he : cE cy w ad2 (clr mm n) n = .inr (ci, (fk ci).map dfv) := by rw [cE, hk, if_pos Cq.1, fvs_clr]
  rw [pw_push hw a1 a2 he] at hP1 hD1
  have := kk ad2 a1 H1 locs ls hP1 hD1 hS1 hl
  rw [a2] at this
  exact this
theorem g_newI (X : OK z x cc own nL rm) {i : Int32} (harr : Cond.arrayClass .int ∈ GT) (hk : w.1 n = 14) (hi : ¬ i < 0) (hN : i.toNatClampNeg = w.2 n) (hle : w.2 n ≤ 1000) (hw : Wf n mm) (hcs : cs + 1 ≤ rm.cells) (hss : ss + w.2 n ≤ rm.slots) (hd : decode cc pc = .ok (.newarray .int, 2)) (kk : ∀ ad2 : Nat → Nat, (∀ i, i < n → ad2 i = ad i) → G z w x nL (cs + 1) (ss + w.2 n) ad2 (n + 1) (clr mm n) (pc + 2) lv (.ref (ad2 n) :: st)) : G z w x nL cs ss ad n mm pc lv (.int i :: st) := by
  obtain ⟨l, D, cy, aK, aV⟩ := z
  obtain ⟨p, e, R, s, m, args, below, meth, c, Q, ad0, n0⟩ := x
  obtain ⟨hx, hb, hml, hown, hts, hK, hR, hE⟩ := X
  intro H locs ls hP hD hS hl
  subst hR
  refine va_newa (atype := .int) (ty := .int) (a0 := (w.2 n, .inl (fun _ => 0))) hx hb (hts _ harr) rfl hK hP hD hS (fun q h => Or.inr h) (fun cA => rfl) hi hN (by show w.2 n * 4 ≤ 536870912; omega) hcs hss hd (fun q cA H1 hK1 hP1 hD1 hS1 => ?_)
  have hcA : cA = cy 14 := by
    have h1 := (hK1.2 6 (cA, .int) rfl).2
    have h2 := (hK.2 1 (cy 14, .int) rfl).2
    exact Option.some.inj (h1.symm.trans h2)
  subst hcA
  obtain ⟨a1, a2⟩ := ad_new (ad := ad) (n := n) (q := q)
  generalize (fun i => if i = n then q else ad i) = ad2 at a1 a2
  have he : cE cy w ad2 (clr mm n) n = .inl (cy 14, w.2 n, .inl (fun _ => 0)) := by
    rw [cE, hk, if_neg (by decide)]
    simp [avs, clr]
  rw [pw_push hw a1 a2 he] at hP1 hD1
  have := kk ad2 a1 H1 locs ls hP1 hD1 hS1 hl
  rw [a2] at this
  exact this
theorem g_newB (X : OK z x cc own nL rm) {i : Int32} (harr : Cond.arrayClass .byte ∈ GT) (hk : w.1 n = 13) (hi : ¬ i < 0) (hN : i.toNatClampNeg = w.2 n) (hle : w.2 n ≤ 1000) (hw : Wf n mm) (hcs : cs + 1 ≤ rm.cells) (hss : ss + w.2 n ≤ rm.slots) (hd : decode cc pc = .ok (.newarray .byte, 2)) (kk : ∀ ad2 : Nat → Nat, (∀ i, i < n → ad2 i = ad i) → G z w x nL (cs + 1) (ss + w.2 n) ad2 (n + 1) (clr mm n) (pc + 2) lv (.ref (ad2 n) :: st)) : G z w x nL cs ss ad n mm pc lv (.int i :: st) := by
  obtain ⟨l, D, cy, aK, aV⟩ := z
  obtain ⟨p, e, R, s, m, args, below, meth, c, Q, ad0, n0⟩ := x
  obtain ⟨hx, hb, hml, hown, hts, hK, hR, hE⟩ := X
  intro H locs ls hP hD hS hl
  subst hR
  refine va_newa (atype := .byte) (ty := .byte) (a0 := (w.2 n, .inl (fun _ => 0))) hx hb (hts _ harr) rfl hK hP hD hS (fun q h => Or.inr h) (fun cA => rfl) hi hN (by show w.2 n * 1 ≤ 536870912; omega) hcs hss hd (fun q cA H1 hK1 hP1 hD1 hS1 => ?_)
  have hcA : cA = cy 13 := by
    have h1 := (hK1.2 6 (cA, .byte) rfl).2
    have h2 := (hK.2 0 (cy 13, .byte) rfl).2
    exact Option.some.inj (h1.symm.trans h2)
  subst hcA
  obtain ⟨a1, a2⟩ := ad_new (ad := ad) (n := n) (q := q)
  generalize (fun i => if i = n then q else ad i) = ad2 at a1 a2
  have he : cE cy w ad2 (clr mm n) n = .inl (cy 13, w.2 n, .inl (fun _ => 0)) := by
    rw [cE, hk, if_neg (by decide)]
    simp [avs, clr]
  rw [pw_push hw a1 a2 he] at hP1 hD1
  have := kk ad2 a1 H1 locs ls hP1 hD1 hS1 hl
  rw [a2] at this
  exact this
theorem g_newZ (X : OK z x cc own nL rm) {i : Int32} (harr : Cond.arrayClass .boolean ∈ GT) (hk : w.1 n = 16) (hi : ¬ i < 0) (hN : i.toNatClampNeg = w.2 n) (hle : w.2 n ≤ 1000) (hw : Wf n mm) (hcs : cs + 1 ≤ rm.cells) (hss : ss + w.2 n ≤ rm.slots) (hd : decode cc pc = .ok (.newarray .boolean, 2)) (kk : ∀ ad2 : Nat → Nat, (∀ i, i < n → ad2 i = ad i) → G z w x nL (cs + 1) (ss + w.2 n) ad2 (n + 1) (clr mm n) (pc + 2) lv (.ref (ad2 n) :: st)) : G z w x nL cs ss ad n mm pc lv (.int i :: st) := by
  obtain ⟨l, D, cy, aK, aV⟩ := z
  obtain ⟨p, e, R, s, m, args, below, meth, c, Q, ad0, n0⟩ := x
  obtain ⟨hx, hb, hml, hown, hts, hK, hR, hE⟩ := X
  intro H locs ls hP hD hS hl
  subst hR
  refine va_newa (atype := .boolean) (ty := .boolean) (a0 := (w.2 n, .inl (fun _ => 0))) hx hb (hts _ harr) rfl hK hP hD hS (fun q h => Or.inr h) (fun cA => rfl) hi hN (by show w.2 n * 1 ≤ 536870912; omega) hcs hss hd (fun q cA H1 hK1 hP1 hD1 hS1 => ?_)
  have hcA : cA = cy 16 := by
    have h1 := (hK1.2 6 (cA, .boolean) rfl).2
    have h2 := (hK.2 3 (cy 16, .boolean) rfl).2
    exact Option.some.inj (h1.symm.trans h2)
  subst hcA
  obtain ⟨a1, a2⟩ := ad_new (ad := ad) (n := n) (q := q)
  generalize (fun i => if i = n then q else ad i) = ad2 at a1 a2
  have he : cE cy w ad2 (clr mm n) n = .inl (cy 16, w.2 n, .inl (fun _ => 0)) := by
    rw [cE, hk, if_neg (by decide)]
    simp [avs, clr]
  rw [pw_push hw a1 a2 he] at hP1 hD1
  have := kk ad2 a1 H1 locs ls hP1 hD1 hS1 hl
  rw [a2] at this
  exact this
theorem g_newJ (X : OK z x cc own nL rm) {i : Int32} (harr : Cond.arrayClass .long ∈ GT) (hk : w.1 n = 15) (hi : ¬ i < 0) (hN : i.toNatClampNeg = w.2 n) (hle : w.2 n ≤ 1000) (hw : Wf n mm) (hcs : cs + 1 ≤ rm.cells) (hss : ss + w.2 n ≤ rm.slots) (hd : decode cc pc = .ok (.newarray .long, 2)) (kk : ∀ ad2 : Nat → Nat, (∀ i, i < n → ad2 i = ad i) → G z w x nL (cs + 1) (ss + w.2 n) ad2 (n + 1) (clr mm n) (pc + 2) lv (.ref (ad2 n) :: st)) : G z w x nL cs ss ad n mm pc lv (.int i :: st) := by
  obtain ⟨l, D, cy, aK, aV⟩ := z
  obtain ⟨p, e, R, s, m, args, below, meth, c, Q, ad0, n0⟩ := x
  obtain ⟨hx, hb, hml, hown, hts, hK, hR, hE⟩ := X
  intro H locs ls hP hD hS hl
  subst hR
  refine va_newa (atype := .long) (ty := .long) (a0 := (w.2 n, .inr (.inl (fun _ => 0)))) hx hb (hts _ harr) rfl hK hP hD hS (fun q h => Or.inr h) (fun cA => rfl) hi hN (by show w.2 n * 8 ≤ 536870912; omega) hcs hss hd (fun q cA H1 hK1 hP1 hD1 hS1 => ?_)
  have hcA : cA = cy 15 := by
    have h1 := (hK1.2 6 (cA, .long) rfl).2
    have h2 := (hK.2 2 (cy 15, .long) rfl).2
    exact Option.some.inj (h1.symm.trans h2)
  subst hcA
  obtain ⟨a1, a2⟩ := ad_new (ad := ad) (n := n) (q := q)
  generalize (fun i => if i = n then q else ad i) = ad2 at a1 a2
  have he : cE cy w ad2 (clr mm n) n = .inl (cy 15, w.2 n, .inr (.inl (fun _ => 0))) := by
    rw [cE, hk, if_neg (by decide)]
    simp [avs, clr]
  rw [pw_push hw a1 a2 he] at hP1 hD1
  have := kk ad2 a1 H1 locs ls hP1 hD1 hS1 hl
  rw [a2] at this
  exact this
theorem g_newRow (X : OK z x cc own nL rm) {i : Int32} {index : Nat} (hcl : Cond.classLink own index "NobodySails$Row" ∈ GT) (hk : w.1 n = 17) (hi : ¬ i < 0) (hN : i.toNatClampNeg = w.2 n) (hle : w.2 n ≤ 1000) (hw : Wf n mm) (hcs : cs + 1 ≤ rm.cells) (hss : ss + w.2 n ≤ rm.slots) (hd : decode cc pc = .ok (.anewarray index, 3)) (kk : ∀ ad2 : Nat → Nat, (∀ i, i < n → ad2 i = ad i) → G z w x nL (cs + 1) (ss + w.2 n) ad2 (n + 1) (clr mm n) (pc + 3) lv (.ref (ad2 n) :: st)) : G z w x nL cs ss ad n mm pc lv (.int i :: st) := by
  obtain ⟨l, D, cy, aK, aV⟩ := z
  obtain ⟨p, e, R, s, m, args, below, meth, c, Q, ad0, n0⟩ := x
  obtain ⟨hx, hb, hml, hown, hts, hK, hR, hE⟩ := X
  intro H locs ls hP hD hS hl
  subst hR
  refine va_newq (C := "NobodySails$Row") hx hb hown (hts _ hcl) hE.2.2.2.2.2.2.2.1 hK hP hD hS (fun q h => Or.inr h) hi hN (by omega) hcs hss hd (fun q cA H1 hK1 hP1 hD1 hS1 => ?_)
  have hcA : cA = cy 17 := by
    obtain ⟨_, _, _, _, _, h1⟩ := (hK1.2 6 (cA, .object "NobodySails$Row") rfl).2
    obtain ⟨_, _, _, _, _, h2⟩ := (hK.2 4 (cy 17, .object "NobodySails$Row") rfl).2
    exact Option.some.inj (h1.symm.trans h2)
  subst hcA
  obtain ⟨a1, a2⟩ := ad_new (ad := ad) (n := n) (q := q)
  generalize (fun i => if i = n then q else ad i) = ad2 at a1 a2
  have he : cE cy w ad2 (clr mm n) n = .inl (cy 17, w.2 n, .inr (.inr (.inr (.inr (fun _ => none))))) := by
    rw [cE, hk, if_neg (by decide)]
    simp [avs, clr]
  rw [pw_push hw a1 a2 he] at hP1 hD1
  have := kk ad2 a1 H1 locs ls hP1 hD1 hS1 hl
  rw [a2] at this
  exact this
theorem g_newWorld (X : OK z x cc own nL rm) {i : Int32} {index : Nat} (hcl : Cond.classLink own index "NobodySails$World" ∈ GT) (hk : w.1 n = 18) (hi : ¬ i < 0) (hN : i.toNatClampNeg = w.2 n) (hle : w.2 n ≤ 1000) (hw : Wf n mm) (hcs : cs + 1 ≤ rm.cells) (hss : ss + w.2 n ≤ rm.slots) (hd : decode cc pc = .ok (.anewarray index, 3)) (kk : ∀ ad2 : Nat → Nat, (∀ i, i < n → ad2 i = ad i) → G z w x nL (cs + 1) (ss + w.2 n) ad2 (n + 1) (clr mm n) (pc + 3) lv (.ref (ad2 n) :: st)) : G z w x nL cs ss ad n mm pc lv (.int i :: st) := by
  obtain ⟨l, D, cy, aK, aV⟩ := z
  obtain ⟨p, e, R, s, m, args, below, meth, c, Q, ad0, n0⟩ := x
  obtain ⟨hx, hb, hml, hown, hts, hK, hR, hE⟩ := X
  intro H locs ls hP hD hS hl
  subst hR
  refine va_newq (C := "NobodySails$World") hx hb hown (hts _ hcl) hE.2.2.2.2.2.2.2.2 hK hP hD hS (fun q h => Or.inr h) hi hN (by omega) hcs hss hd (fun q cA H1 hK1 hP1 hD1 hS1 => ?_)
  have hcA : cA = cy 18 := by
    obtain ⟨_, _, _, _, _, h1⟩ := (hK1.2 6 (cA, .object "NobodySails$World") rfl).2
    obtain ⟨_, _, _, _, _, h2⟩ := (hK.2 5 (cy 18, .object "NobodySails$World") rfl).2
    exact Option.some.inj (h1.symm.trans h2)
  subst hcA
  obtain ⟨a1, a2⟩ := ad_new (ad := ad) (n := n) (q := q)
  generalize (fun i => if i = n then q else ad i) = ad2 at a1 a2
  have he : cE cy w ad2 (clr mm n) n = .inl (cy 18, w.2 n, .inr (.inr (.inr (.inr (fun _ => none))))) := by
    rw [cE, hk, if_neg (by decide)]
    simp [avs, clr]
  rw [pw_push hw a1 a2 he] at hP1 hD1
  have := kk ad2 a1 H1 locs ls hP1 hD1 hS1 hl
  rw [a2] at this
  exact this
theorem g_putRF (X : OK z x cc own nL rm) (Ix : Ini x) {index ci k a v : Nat} {fty : FieldType} (F : Fl own index ci k true fty 2) (hoC : ∀ C T Nf ty, Cl ci C T Nf ty → C = own) (ha : a < n) (hk : w.1 a = ci) (hn : narrow fty (.ref (ad v)) = .ref (ad v)) (hfit : fits fty (.ref (ad v)) = true) (hd : decode cc pc = .ok (.putfield index, 3)) (kk : G z w x nL cs ss ad n (uR mm a k (some v)) (pc + 3) lv st) : G z w x nL cs ss ad n mm pc lv (.ref (ad v) :: .ref (ad a) :: st) := by
  obtain ⟨l, D, cy, aK, aV⟩ := z
  obtain ⟨p, e, R, s, m, args, below, meth, c, Q, ad0, n0⟩ := x
  obtain ⟨hx, hb, hml, hown, hts, hK, hR, hE⟩ := X
  intro H locs ls hP hD hS hl
  obtain ⟨C, T, Nf, ty, Cq, hkN, hf, hli, hfi, hft, hTC⟩ := F
  have hCo := hoC C T Nf ty Cq
  obtain ⟨hc, hcl, hin, hty, hnm⟩ := Cq
  refine va_putF (v := .ref (ad v)) (ty := fty) hx hb hts hin ty hty hnm hown hK hP hD hS a (pw_obj ha hk hc) hcl k hkN (hts _ hli) (fun _ h => h) hfi Ix (hTC.trans hCo) (by rw [hty k hkN, hft]) hn hfit (fvs_lt hf) hd (fun H1 locs1 hP1 hD1 hS1 => ?_)
  rw [pw_uR hk hc hf] at hP1 hD1
  exact kk H1 locs1 ls hP1 hD1 hS1 hl
theorem g_aast (X : OK z x cc own nL rm) {a v ci kk1 Nf : Nat} {i : Int32} {C : String} {T : u_T} {ty : Nat → FieldType} (Cq : Cl ci C T Nf ty) (ha : a < n) (hka : w.1 a = kk1) (hC : kk1 = 17 ∧ C = "NobodySails$Row" ∨ kk1 = 18 ∧ C = "NobodySails$World") (hv : v < n) (hkv : w.1 v = ci) (hi : inb i (w.2 a) = true) (hd : decode cc pc = .ok (.aastore, 1)) (kk : G z w x nL cs ss ad n (uR mm a i.toNatClampNeg (some v)) (pc + 1) lv st) : G z w x nL cs ss ad n mm pc lv (.ref (ad v) :: .int i :: .ref (ad a) :: st) := by
  obtain ⟨l, D, cy, aK, aV⟩ := z
  obtain ⟨p, e, R, s, m, args, below, meth, c, Q, ad0, n0⟩ := x
  obtain ⟨hx, hb, hml, hown, hts, hK, hR, hE⟩ := X
  intro H locs ls hP hD hS hl
  have hcn : ¬ kk1 < 13 := by omega
  have h1 := pw_arr (cy := cy) (ad := ad) (m := mm) ha hka hcn
  rw [avs_r (by omega) (by omega)] at h1
  have h2 := pw_obj (cy := cy) (ad := ad) (m := mm) hv hkv Cq.1
  rcases hC with ⟨rfl, rfl⟩ | ⟨rfl, rfl⟩
  · refine va_astq hx hb hK hP hD hS a 4 v ci h1 rfl h2 Cq.2.1 (inb_in hi) hd (fun H1 locs1 hP1 hD1 hS1 => ?_)
    rw [pw_aR hka (by decide) (by decide) (by decide)] at hP1 hD1
    exact kk H1 locs1 ls hP1 hD1 hS1 hl
  · refine va_astq hx hb hK hP hD hS a 5 v ci h1 rfl h2 Cq.2.1 (inb_in hi) hd (fun H1 locs1 hP1 hD1 hS1 => ?_)
    rw [pw_aR hka (by decide) (by decide) (by decide)] at hP1 hD1
    exact kk H1 locs1 ls hP1 hD1 hS1 hl
theorem g_objInit (X : OK z x cc own nL rm) {index a : Nat} (hli : Cond.methodLink own index Lib.objectInit ∈ GT) (hin : Cond.instanceMethod Lib.objectInit ∈ GT) (hco : Cond.code Lib.objectInit ⟨#[0xb1]⟩ 1 none ∈ GT) (hf : 1 ≤ rm.frames) (hlo : 60 ≤ rm.locals) (hcat : (st.map fun v => v.category).sum ≤ 8) (hd : decode cc pc = .ok (.invokespecial index, 3)) (kk : G z w x nL cs ss ad n mm (pc + 3) lv st) : G z w x nL cs ss ad n mm pc lv (.ref (ad a) :: st) := by
  obtain ⟨l, D, cy, aK, aV⟩ := z
  obtain ⟨p, e, R, s, m, args, below, meth, c, Q, ad0, n0⟩ := x
  obtain ⟨hx, hb, hml, hown, hts, hK, hR, hE⟩ := X
  intro H locs ls hP hD hS hl
  subst hR
  exact W.objInit hx hb hown (hts _ hli) (hts _ hin) (hts _ hco) rfl (by rw [hml]; exact hl.1) rfl hd hf (by show 2 * (F0 m pc ls st).monitorRoom + (st.map fun v => v.category).sum + 12 ≤ R.locals; have := lv_room (m := m) (pc := pc) (ls := ls) (rest := st) hcat; omega) (kk H locs ls hP hD hS hl)
end
/-- a constructor: the pool grows from n to n2 -/
def CtK (z : Zx) (w : Px) (y : MethodName) (cc : ByteArray) (nL : Nat) (rm : Room) (ad : Nat → Nat) (n : Nat) (av : List Value) (mm : Mem) (n2 : Nat) (mm2 : Mem) : Prop := ∀ sz : Nat, Met z.1 y (Cond.code y cc nL none :: GT) rm (va_Pc av (WdP z w ad n mm sz)) (va_Qv (fun (u : (Nat → Nat) × Mem) => (∀ i, i < n → u.1 i = ad i) ∧ u.2 = mm2) (fun u t => WdQ z w u.1 n2 (Ad ad n sz) u.2 t) (Ad ad n sz)) rm.cells rm.slots (Ad ad n sz)
theorem ct_ofK {z : Zx} {w : Px} {y : MethodName} {cc : ByteArray} {nL : Nat} {rm : Room} {ad : Nat → Nat} {n n2 : Nat} {av : List Value} {mm mm2 : Mem} {own : String} {na : Nat} (M : Mi y cc nL none na) (hown : y.cls = own) (hyn : y.name = "<init>") (hav : (lg_sl av).length ≤ nL) (body : ∀ x : Cx, OK z x cc own nL rm → Ini x → (∀ ad2 pc lv, (∀ i, i < n → ad2 i = ad i) → decode cc pc = .ok (.return_, 1) → G z w x nL rm.cells rm.slots ad2 n2 mm2 pc lv []) → G z w x nL 0 0 ad n mm 0 (lv_args 0 av) []) : CtK z w y cc nL rm ad n av mm n2 mm2 := by
  obtain ⟨l, D, cy, aK, aV⟩ := z
  intro sz
  refine Met.ofW (cc := cc) (maxL := nL) (ret := none) M.2.2.2.2.2 rfl ?_
  intro p e s m args below meth c s₁ B hml hv
  obtain ⟨rfl, hsz, hP, hK, hD0, hE⟩ := hv
  have hx := B.exec
  have hb := B.bytes
  have hr := B.returns
  have hts := atoms_spec (ws := Cond.code y cc nL none :: GT) B.pre
  have hown2 : s.vm.findClass own = some m.cls := by rw [← hown]; exact findClass_of_methodNamed B.named
  have hlocks := B.notSynchronized
  have hin : meth.name = "<init>" := by rw [← hyn]; exact (name_of_methodNamed B.named B.method).1
  subst hsz
  have hD : va_D (Ad ad n s.heap.size) (Pw cy w ad n mm) := ⟨hD0.1, fun k q hk => Or.inl (by
    have hkn : k < n := by
      have := (List.getElem?_eq_some_iff.mp hk).1
      simpa [Pw] using this
    have h2 := pw_get (cy := cy) (w := w) (ad := ad) (m := mm) hkn
    have h3 := Option.some.inj (h2.symm.trans hk)
    exact ⟨k, hkn, by rw [← h3]⟩)⟩
  have hl := lv_entry av (n := nL) hav
  rw [lg_entry_eq]
  refine body (p, e, (headSpec (Cond.code y cc nL none :: GT) rm).room, s, m, av.toArray, below, meth, c, _, ad, n) ⟨hx, hb, hml, hown2, fun w h => hts w (List.mem_cons_of_mem _ h), hK, rfl, hE⟩ hin ?_ s.heap [] _ hP hD va_S.rf hl
  intro ad2 pc lv ha hd H2 locs2 ls2 hP2 hD2 hS2 hl2
  exact W.vret hx hb hr (fun t ht hW => ⟨⟨(ad2, mm2), rfl, ⟨ha, rfl⟩, by rw [ht]; exact hP2, va_K.moved hW.alike hK, hD2⟩, hS2.F ht⟩) hS2.2.2 hd
section
variable {z : Zx} {w : Px} {x : Cx} {nL cs ss : Nat} {ad : Nat → Nat} {n : Nat} {mm : Mem} {pc : Nat} {lv : List (Nat × Value)} {st : List Value} {cc : ByteArray} {own : String} {rm : Room}
theorem g_callK (X : OK z x cc own nL rm) {y : MethodName} {bytes : ByteArray} {maxL na index n2 t : Nat} {rm2 : Room} {As rest : List Value} {mm2 : Mem} (M : Mi y bytes maxL none na) (hyn : y.name = "<init>") (hin : Cond.instanceMethod y ∈ GT) (hli : Cond.methodLink own index y ∈ GT) (hc : CtK z w y bytes maxL rm2 ad n (.ref (ad t) :: As) mm n2 mm2) (hna : As.length = na) (hst : st = As.reverse ++ .ref (ad t) :: rest) (hcat : (rest.map fun v => v.category).sum ≤ 8) (hrm : rm2.frames + 1 ≤ rm.frames ∧ 8 + (maxL + 11) + rm2.locals ≤ rm.locals ∧ cs + rm2.cells ≤ rm.cells ∧ ss + rm2.slots ≤ rm.slots) (hd : decode cc pc = .ok (.invokespecial index, 3)) (kk : ∀ ad2 : Nat → Nat, (∀ i, i < n → ad2 i = ad i) → G z w x nL (cs + rm2.cells) (ss + rm2.slots) ad2 n2 mm2 (pc + 3) lv rest) : G z w x nL cs ss ad n mm pc lv st := by
  obtain ⟨l, D, cy, aK, aV⟩ := z
  obtain ⟨p, e, R, s, m, args, below, meth, c, Q, ad0, n0⟩ := x
  obtain ⟨hx, hb, hml, hown, hts, hK, hR, hE⟩ := X
  intro H locs ls hP hD hS hl
  subst hR
  subst hst
  have hup : ∀ q, Ad ad n H.size q → Ad ad0 n0 s.heap.size q := ad_up (fun q h => Or.inr h) hD hS
  refine va_callv (va_runI (As := As) (rest := rest) (bytes := bytes) (maxL := maxL) (n := na) ⟨hx, hb, hml, hown, hts⟩ (hc H.size) ⟨callB_of na hts (gt_in M.1) rfl rfl rfl (hts _ M.2.1) (hts _ hli) ⟨M.2.2.1, M.2.2.2.1, M.2.2.2.2.1⟩ ⟨hrm.1, hrm.2.1⟩, hyn, hts _ hin⟩ ⟨WdP.blind, fun U hU hW => ⟨rfl, by rw [hU], by rw [hU]; exact hP, va_K.moved hW.alike hK, hD.weaken (fun _ _ _ _ => trivial), hE.mv hS hW hU hup⟩⟩ rfl hna hl.1 rfl (lv_room hcat) hd ⟨hrm.2.2.1, hrm.2.2.2⟩) hS (fun q _ h => hup q h) hup (fun u t2 H1 locs1 ht hvm hw hB hz1 hk1 hS1 => ?_)
  obtain ⟨hP1, hK1, hD1⟩ := hB
  rw [ht] at hP1
  obtain ⟨ad2, mu⟩ := u
  obtain ⟨ha2, rfl⟩ := hw
  exact kk ad2 ha2 H1 locs1 ls hP1 (hD1.weaken (fun _ q _ h => hup q.1 h)) hS1 hl
theorem g_callKN (X : OK z x cc own nL rm) {y : MethodName} {bytes : ByteArray} {maxL na index n2 t : Nat} {rm2 : Room} {As rest : List Value} {mm2 : Mem} (M : Mi y bytes maxL none na) (hyn : y.name = "<init>") (hin : Cond.instanceMethod y ∈ GT) {host : String} {q : Nat} (hli : nestW[q]? = some (own, index, y, host)) (hc : CtK z w y bytes maxL rm2 ad n (.ref (ad t) :: As) mm n2 mm2) (hna : As.length = na) (hst : st = As.reverse ++ .ref (ad t) :: rest) (hcat : (rest.map fun v => v.category).sum ≤ 8) (hrm : rm2.frames + 1 ≤ rm.frames ∧ 8 + (maxL + 11) + rm2.locals ≤ rm.locals ∧ cs + rm2.cells ≤ rm.cells ∧ ss + rm2.slots ≤ rm.slots) (hd : decode cc pc = .ok (.invokespecial index, 3)) (kk : ∀ ad2 : Nat → Nat, (∀ i, i < n → ad2 i = ad i) → G z w x nL (cs + rm2.cells) (ss + rm2.slots) ad2 n2 mm2 (pc + 3) lv rest) : G z w x nL cs ss ad n mm pc lv st := by
  obtain ⟨l, D, cy, aK, aV⟩ := z
  obtain ⟨p, e, R, s, m, args, below, meth, c, Q, ad0, n0⟩ := x
  obtain ⟨hx, hb, hml, hown, hts, hK, hR, hE⟩ := X
  intro H locs ls hP hD hS hl
  subst hR
  subst hst
  have hup : ∀ q, Ad ad n H.size q → Ad ad0 n0 s.heap.size q := ad_up (fun q h => Or.inr h) hD hS
  refine va_callv (va_runIN (As := As) (rest := rest) (bytes := bytes) (maxL := maxL) (n := na) ⟨hx, hb, hml, hown, hts⟩ (hc H.size) ⟨va_cnB na hts (gt_in M.1) rfl rfl rfl (hE.1 _ (List.mem_of_getElem? hli)) (hts _ M.2.1) ⟨M.2.2.1, M.2.2.2.1, M.2.2.2.2.1⟩ ⟨hrm.1, hrm.2.1⟩, hyn, hts _ hin⟩ ⟨WdP.blind, fun U hU hW => ⟨rfl, by rw [hU], by rw [hU]; exact hP, va_K.moved hW.alike hK, hD.weaken (fun _ _ _ _ => trivial), hE.mv hS hW hU hup⟩⟩ rfl hna hl.1 rfl (lv_room hcat) hd ⟨hrm.2.2.1, hrm.2.2.2⟩) hS (fun q _ h => hup q h) hup (fun u t2 H1 locs1 ht hvm hw hB hz1 hk1 hS1 => ?_)
  obtain ⟨hP1, hK1, hD1⟩ := hB
  rw [ht] at hP1
  obtain ⟨ad2, mu⟩ := u
  obtain ⟨ha2, rfl⟩ := hw
  exact kk ad2 ha2 H1 locs1 ls hP1 (hD1.weaken (fun _ q _ h => hup q.1 h)) hS1 hl
end
