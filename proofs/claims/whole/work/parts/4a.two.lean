/-! THE CLAIM OUT OF ONE WALK OF THE LAW'S BODY. Your part is whole_start (and what it stands on); all else here is the same for every law, but numbers. -/
def R_law : String := "NobodySailsLaw"
def lw_P (b : Addr) (xs : List Int32) (args : Array Value) (s : State) : Prop := args = #[.ref b] ∧ s.IntsAt b xs ∧ xs.length ≤ 3072 ∧ (Jvm.Cond.and given_1 narrow_1).before args s = true
def lw_Q (_ : Array Value) (s : State) (o : Outcome) (t : State) : Prop := o = .returned (some (.int 1)) ∧ Framed s o t [] 600000 7302250
def lw_Z (below : List Frame) (a : Array Value) (s : State) : State → Prop := fun t => ∃ o, t.status = .running ∧ Ended t below o ∧ lw_Q a s o t
/-- the law's own end, with 1 on the stack, nothing written that was there before, its room as the claim has it -/
theorem lw_ret {p : Program} {l : Launch} {e : Env} {s : State} {m : MethodId} {below : List Frame} {meth : Method} {c : Code} {b : Nat} (hx : p.tables.exec = Jvm.exec) (hb : c.code = code) (hr : meth.sig.returnType = ret) (hlocks : meth.locks = false) {pc : Nat} {H : Heap} {ls : Array Slot} (hdg : decode code pc = .ok (.ireturn, 1)) : W p l e room_1 s m #[Value.ref b] below meth c H [] 600000 7302250 (lw_Z below #[Value.ref b] s) (F0 m pc ls [.int 1]) := by
  intro T hT X
  obtain ⟨fs, hret, hrun, hended, hW, hframe⟩ := X.leave (v := some (.int 1)) (hlocks := hlocks) (fun h => by rw [hr] at h; cases h)
  have hmeth' : T.vm.method? m = some meth := X.method'
  refine ⟨T.setFrames fs, ?_, .returned (some (.int 1)), hrun, hended, rfl, ⟨_, rfl⟩, hW, hframe⟩
  jvm_step X.here [X.here.top, hx, hb, hdg, hmeth', hr, ret, narrow_b1]
  (try refine ⟨rfl, ?_⟩); (try refine ⟨rfl, ?_⟩)
  first | (intro acts; rw [hret _ acts rfl rfl rfl]) | rw [hret _ _ rfl rfl rfl]
  exact Steps.refl _
/-- what holds at the law's entry: the machine, the code, the tables' words (any of lw_tbl by 'hts w (by decide +kernel)'), the script of L ints xs at the cell b, what the Statement gives of the start (any of its parts by flat_of_before) -/
def lw_At (p : Program) (s : State) (m : MethodId) (meth : Method) (c : Code) (b L : Nat) (xs : Nat → Int32) : Prop :=
  p.tables.exec = Jvm.exec ∧ c.code = code ∧ meth.sig.returnType = ret ∧ c.maxLocals = 4 ∧ s.vm.findClass R_law = some m.cls ∧ (∀ w ∈ lw_tbl, w.before #[Value.ref b] s = true) ∧ va_X b L xs s s.heap ∧ b < s.heap.size ∧ meth.locks = false ∧ (Jvm.Cond.and given_1 narrow_1).before #[Value.ref b] s = true
abbrev Lx : Type := Program × Env × State × MethodId × List Frame × Method × Code × Nat
/-- the law's room, the script, the class's pool and, behind it, the reference's -/
def G2 (z : Zx) (x : Lx) (cs ss : Nat) (a b : Nat → Nat) (nM : Nat) (mc mm : Mem) (pc : Nat) (lv : List (Nat × Value)) (st : List Value) : Prop := match z, x with
  | (l, D, cy, _, _), (p, e, s, m, below, meth, c, sb) => ∀ (H : Heap) (locs : List Loc) (ls : Array Slot), va_P D vwCl (Pw cy wC a 91 mc ++ Pw cy wM b nM mm) H → va_D (fun q => s.heap.size ≤ q) (Pw cy wC a 91 mc ++ Pw cy wM b nM mm) → va_S (fun q => s.heap.size ≤ q) s.heap H locs → lv_has ls 4 lv → W p l e room_1 s m #[Value.ref sb] below meth c H locs cs ss (lw_Z below #[Value.ref sb] s) (F0 m pc ls st)
def OK2 (z : Zx) (x : Lx) (L : Nat) (xs : Nat → Int32) : Prop := match z, x with
  | (l, D, cy, aK, aV), (p, e, s, m, below, meth, c, sb) => p.tables.exec = Jvm.exec ∧ c.code = code ∧ c.maxLocals = 4 ∧ s.vm.findClass R_law = some m.cls ∧ (∀ w ∈ GT, w.before #[Value.ref sb] s = true) ∧ va_K D vwCl (tysW cy) s ∧ EvC (l, D, cy, aK, aV) (fun q => s.heap.size ≤ q) s ∧ va_X sb L xs s s.heap ∧ sb < s.heap.size ∧ (meth.locks = false ∧ meth.sig.returnType = ret) ∧ L < 2 ^ 31
section
variable {z : Zx} {x : Lx} {cs ss : Nat} {a b : Nat → Nat} {nM : Nat} {mc mm : Mem} {pc : Nat} {lv : List (Nat × Value)} {st : List Value} {L : Nat} {xs : Nat → Int32}
theorem q_iconst (X : OK2 z x L xs) {q : Int} {v : Int32} (hd : decode code pc = .ok (.iconst q, 1)) (hv : Int32.ofInt q = v) (k : G2 z x cs ss a b nM mc mm (pc + 1) lv (.int v :: st)) : G2 z x cs ss a b nM mc mm pc lv (st) := by
  obtain ⟨l, D, cy, aK, aV⟩ := z
  obtain ⟨p, e, s, m, below, meth, c, sb⟩ := x
  obtain ⟨hx, hb, hml, hown, hts, hK, hE, hX, hbl, hlk, hL⟩ := X
  intro H locs ls hP hD hS hl
  exact lv_iconst hx hb hd hv (k H locs ls hP hD hS hl)
theorem q_bipush (X : OK2 z x L xs) {q : Int} {v : Int32} (hd : decode code pc = .ok (.bipush q, 2)) (hv : (Int8.ofInt q).toInt32 = v) (k : G2 z x cs ss a b nM mc mm (pc + 2) lv (.int v :: st)) : G2 z x cs ss a b nM mc mm pc lv (st) := by
  obtain ⟨l, D, cy, aK, aV⟩ := z
  obtain ⟨p, e, s, m, below, meth, c, sb⟩ := x
  obtain ⟨hx, hb, hml, hown, hts, hK, hE, hX, hbl, hlk, hL⟩ := X
  intro H locs ls hP hD hS hl
  exact lv_bipush hx hb hd hv (k H locs ls hP hD hS hl)
theorem q_ldc2 (X : OK2 z x L xs) {q : Nat} {v : Int64} (hd : decode code pc = .ok (.ldc2_w q, 3)) (hc : Jvm.Cond.constantLong R_law q v ∈ GT) (k : G2 z x cs ss a b nM mc mm (pc + 3) lv (.long v :: st)) : G2 z x cs ss a b nM mc mm pc lv (st) := by
  obtain ⟨l, D, cy, aK, aV⟩ := z
  obtain ⟨p, e, s, m, below, meth, c, sb⟩ := x
  obtain ⟨hx, hb, hml, hown, hts, hK, hE, hX, hbl, hlk, hL⟩ := X
  intro H locs ls hP hD hS hl
  exact lv_ldc2 hx hb hown (hts _ hc) hd (k H locs ls hP hD hS hl)
theorem q_iload_n (X : OK2 z x L xs) {q : Fin 4} {i : Nat} {v : Int32} (hd : decode code pc = .ok (.iload_n q, 1)) (hq : (q : Nat) = i) (j : Nat) (hj : lv[j]? = some (i, .int v)) (k : G2 z x cs ss a b nM mc mm (pc + 1) lv (.int v :: st)) : G2 z x cs ss a b nM mc mm pc lv (st) := by
  obtain ⟨l, D, cy, aK, aV⟩ := z
  obtain ⟨p, e, s, m, below, meth, c, sb⟩ := x
  obtain ⟨hx, hb, hml, hown, hts, hK, hE, hX, hbl, hlk, hL⟩ := X
  intro H locs ls hP hD hS hl
  exact lv_iload_n hx hb hd hq (lv_at hl j hj) (k H locs ls hP hD hS hl)
theorem q_aload_n (X : OK2 z x L xs) {q : Fin 4} {i : Nat} {v : Nat} (hd : decode code pc = .ok (.aload_n q, 1)) (hq : (q : Nat) = i) (j : Nat) (hj : lv[j]? = some (i, .ref v)) (k : G2 z x cs ss a b nM mc mm (pc + 1) lv (.ref v :: st)) : G2 z x cs ss a b nM mc mm pc lv (st) := by
  obtain ⟨l, D, cy, aK, aV⟩ := z
  obtain ⟨p, e, s, m, below, meth, c, sb⟩ := x
  obtain ⟨hx, hb, hml, hown, hts, hK, hE, hX, hbl, hlk, hL⟩ := X
  intro H locs ls hP hD hS hl
  exact lv_aload_n hx hb hd hq (lv_at hl j hj) (k H locs ls hP hD hS hl)
theorem q_iadd (X : OK2 z x L xs) {x1 x2 : Int32} (hd : decode code pc = .ok (.iadd, 1)) (k : G2 z x cs ss a b nM mc mm (pc + 1) lv (.int (x1 + x2) :: st)) : G2 z x cs ss a b nM mc mm pc lv (.int x2 :: .int x1 :: st) := by
  obtain ⟨l, D, cy, aK, aV⟩ := z
  obtain ⟨p, e, s, m, below, meth, c, sb⟩ := x
  obtain ⟨hx, hb, hml, hown, hts, hK, hE, hX, hbl, hlk, hL⟩ := X
  intro H locs ls hP hD hS hl
  exact lv_iadd hx hb hd (k H locs ls hP hD hS hl)
theorem q_isub (X : OK2 z x L xs) {x1 x2 : Int32} (hd : decode code pc = .ok (.isub, 1)) (k : G2 z x cs ss a b nM mc mm (pc + 1) lv (.int (x1 - x2) :: st)) : G2 z x cs ss a b nM mc mm pc lv (.int x2 :: .int x1 :: st) := by
  obtain ⟨l, D, cy, aK, aV⟩ := z
  obtain ⟨p, e, s, m, below, meth, c, sb⟩ := x
  obtain ⟨hx, hb, hml, hown, hts, hK, hE, hX, hbl, hlk, hL⟩ := X
  intro H locs ls hP hD hS hl
  exact lv_isub hx hb hd (k H locs ls hP hD hS hl)
theorem q_iand (X : OK2 z x L xs) {x1 x2 : Int32} (hd : decode code pc = .ok (.iand, 1)) (k : G2 z x cs ss a b nM mc mm (pc + 1) lv (.int (x1 &&& x2) :: st)) : G2 z x cs ss a b nM mc mm pc lv (.int x2 :: .int x1 :: st) := by
  obtain ⟨l, D, cy, aK, aV⟩ := z
  obtain ⟨p, e, s, m, below, meth, c, sb⟩ := x
  obtain ⟨hx, hb, hml, hown, hts, hK, hE, hX, hbl, hlk, hL⟩ := X
  intro H locs ls hP hD hS hl
  exact lv_iand hx hb hd (k H locs ls hP hD hS hl)
theorem q_land (X : OK2 z x L xs) {x1 x2 : Int64} (hd : decode code pc = .ok (.land, 1)) (k : G2 z x cs ss a b nM mc mm (pc + 1) lv (.long (x1 &&& x2) :: st)) : G2 z x cs ss a b nM mc mm pc lv (.long x2 :: .long x1 :: st) := by
  obtain ⟨l, D, cy, aK, aV⟩ := z
  obtain ⟨p, e, s, m, below, meth, c, sb⟩ := x
  obtain ⟨hx, hb, hml, hown, hts, hK, hE, hX, hbl, hlk, hL⟩ := X
  intro H locs ls hP hD hS hl
  exact lv_land hx hb hd (k H locs ls hP hD hS hl)
theorem q_lor (X : OK2 z x L xs) {x1 x2 : Int64} (hd : decode code pc = .ok (.lor, 1)) (k : G2 z x cs ss a b nM mc mm (pc + 1) lv (.long (x1 ||| x2) :: st)) : G2 z x cs ss a b nM mc mm pc lv (.long x2 :: .long x1 :: st) := by
  obtain ⟨l, D, cy, aK, aV⟩ := z
  obtain ⟨p, e, s, m, below, meth, c, sb⟩ := x
  obtain ⟨hx, hb, hml, hown, hts, hK, hE, hX, hbl, hlk, hL⟩ := X
  intro H locs ls hP hD hS hl
  exact lv_lor hx hb hd (k H locs ls hP hD hS hl)
theorem q_lshl (X : OK2 z x L xs) {x1 : Int64} {x2 : Int32} (hd : decode code pc = .ok (.lshl, 1)) (k : G2 z x cs ss a b nM mc mm (pc + 1) lv (.long (x1 <<< (x2.toInt64 &&& 63)) :: st)) : G2 z x cs ss a b nM mc mm pc lv (.int x2 :: .long x1 :: st) := by
  obtain ⟨l, D, cy, aK, aV⟩ := z
  obtain ⟨p, e, s, m, below, meth, c, sb⟩ := x
  obtain ⟨hx, hb, hml, hown, hts, hK, hE, hX, hbl, hlk, hL⟩ := X
  intro H locs ls hP hD hS hl
  exact lv_lshl hx hb hd rfl (k H locs ls hP hD hS hl)
theorem q_i2l (X : OK2 z x L xs) {x1 : Int32} (hd : decode code pc = .ok (.i2l, 1)) (k : G2 z x cs ss a b nM mc mm (pc + 1) lv (.long x1.toInt64 :: st)) : G2 z x cs ss a b nM mc mm pc lv (.int x1 :: st) := by
  obtain ⟨l, D, cy, aK, aV⟩ := z
  obtain ⟨p, e, s, m, below, meth, c, sb⟩ := x
  obtain ⟨hx, hb, hml, hown, hts, hK, hE, hX, hbl, hlk, hL⟩ := X
  intro H locs ls hP hD hS hl
  exact lv_i2l hx hb hd rfl (k H locs ls hP hD hS hl)
theorem q_dup (X : OK2 z x L xs) {va : Value} (hd : decode code pc = .ok (.dup, 1)) (hv : va.category = 1) (k : G2 z x cs ss a b nM mc mm (pc + 1) lv (va :: va :: st)) : G2 z x cs ss a b nM mc mm pc lv (va :: st) := by
  obtain ⟨l, D, cy, aK, aV⟩ := z
  obtain ⟨p, e, s, m, below, meth, c, sb⟩ := x
  obtain ⟨hx, hb, hml, hown, hts, hK, hE, hX, hbl, hlk, hL⟩ := X
  intro H locs ls hP hD hS hl
  exact lv_dup hx hb hd hv (k H locs ls hP hD hS hl)
theorem q_goto (X : OK2 z x L xs) {off : Int} {tgt : Nat} (hd : decode code pc = .ok (.goto off, 3)) (ht : (pc : Int) + off = (tgt : Int)) (k : G2 z x cs ss a b nM mc mm tgt lv st) : G2 z x cs ss a b nM mc mm pc lv st := by
  obtain ⟨l, D, cy, aK, aV⟩ := z
  obtain ⟨p, e, s, m, below, meth, c, sb⟩ := x
  obtain ⟨hx, hb, hml, hown, hts, hK, hE, hX, hbl, hlk, hL⟩ := X
  intro H locs ls hP hD hS hl
  exact lv_goto hx hb hd ht (k H locs ls hP hD hS hl)
theorem q_icmp_gt (X : OK2 z x L xs) {x1 x2 : Int32} {off : Int} {tgt : Nat} (hd : decode code pc = .ok (.if_icmp .gt off, 3)) (ht : (pc : Int) + off = (tgt : Int)) (kt : x2 < x1 → G2 z x cs ss a b nM mc mm tgt lv st) (kf : ¬ x2 < x1 → G2 z x cs ss a b nM mc mm (pc + 3) lv st) : G2 z x cs ss a b nM mc mm pc lv (.int x2 :: .int x1 :: st) := by
  obtain ⟨l, D, cy, aK, aV⟩ := z
  obtain ⟨p, e, s, m, below, meth, c, sb⟩ := x
  obtain ⟨hx, hb, hml, hown, hts, hK, hE, hX, hbl, hlk, hL⟩ := X
  intro H locs ls hP hD hS hl
  exact lv_icmp_gt hx hb hd ht (fun h => kt h H locs ls hP hD hS hl) (fun h => kf h H locs ls hP hD hS hl)
theorem q_icmp_eq (X : OK2 z x L xs) {x1 x2 : Int32} {off : Int} {tgt : Nat} (hd : decode code pc = .ok (.if_icmp .eq off, 3)) (ht : (pc : Int) + off = (tgt : Int)) (kt : x1 = x2 → G2 z x cs ss a b nM mc mm tgt lv st) (kf : ¬ x1 = x2 → G2 z x cs ss a b nM mc mm (pc + 3) lv st) : G2 z x cs ss a b nM mc mm pc lv (.int x2 :: .int x1 :: st) := by
  obtain ⟨l, D, cy, aK, aV⟩ := z
  obtain ⟨p, e, s, m, below, meth, c, sb⟩ := x
  obtain ⟨hx, hb, hml, hown, hts, hK, hE, hX, hbl, hlk, hL⟩ := X
  intro H locs ls hP hD hS hl
  exact lv_icmp_eq hx hb hd ht (fun h => kt h H locs ls hP hD hS hl) (fun h => kf h H locs ls hP hD hS hl)
theorem q_istore_n (X : OK2 z x L xs) {q : Fin 4} {i : Nat} {v : Int32} {lv2 : List (Nat × Value)} (hd : decode code pc = .ok (.istore_n q, 1)) (hq : (q : Nat) = i) (hi : i < 4) (ks : List Nat) (hl2 : lv_pick ((i, Value.int v) :: lv.filter (fun q => !(q.1 == i) && !(q.1 + 1 == i && q.2.category == 2))) ks = lv2) (k : G2 z x cs ss a b nM mc mm (pc + 1) lv2 st) : G2 z x cs ss a b nM mc mm pc lv (.int v :: st) := by
  obtain ⟨l, D, cy, aK, aV⟩ := z
  obtain ⟨p, e, s, m, below, meth, c, sb⟩ := x
  obtain ⟨hx, hb, hml, hown, hts, hK, hE, hX, hbl, hlk, hL⟩ := X
  intro H locs ls hP hD hS hl
  exact lv_istore_n hx hb hd hq hl hi rfl (fun ls2 hl3 => k H locs ls2 hP hD hS (lv_sub hl3 ks hl2))
theorem q_astore_n (X : OK2 z x L xs) {q : Fin 4} {i : Nat} {v : Nat} {lv2 : List (Nat × Value)} (hd : decode code pc = .ok (.astore_n q, 1)) (hq : (q : Nat) = i) (hi : i < 4) (ks : List Nat) (hl2 : lv_pick ((i, Value.ref v) :: lv.filter (fun q => !(q.1 == i) && !(q.1 + 1 == i && q.2.category == 2))) ks = lv2) (k : G2 z x cs ss a b nM mc mm (pc + 1) lv2 st) : G2 z x cs ss a b nM mc mm pc lv (.ref v :: st) := by
  obtain ⟨l, D, cy, aK, aV⟩ := z
  obtain ⟨p, e, s, m, below, meth, c, sb⟩ := x
  obtain ⟨hx, hb, hml, hown, hts, hK, hE, hX, hbl, hlk, hL⟩ := X
  intro H locs ls hP hD hS hl
  exact lv_astore_n hx hb hd hq hl hi rfl (fun ls2 hl3 => k H locs ls2 hP hD hS (lv_sub hl3 ks hl2))
theorem q_iinc (X : OK2 z x L xs) {q : Int} {i : Nat} {v v2 : Int32} {lv2 : List (Nat × Value)} (hd : decode code pc = .ok (.iinc i q, 3)) (j : Nat) (hj : lv[j]? = some (i, .int v)) (hv : v + Int32.ofInt q = v2) (hi : i < 4) (ks : List Nat) (hl2 : lv_pick ((i, Value.int v2) :: lv.filter (fun q => !(q.1 == i) && !(q.1 + 1 == i && q.2.category == 2))) ks = lv2) (k : G2 z x cs ss a b nM mc mm (pc + 3) lv2 st) : G2 z x cs ss a b nM mc mm pc lv st := by
  obtain ⟨l, D, cy, aK, aV⟩ := z
  obtain ⟨p, e, s, m, below, meth, c, sb⟩ := x
  obtain ⟨hx, hb, hml, hown, hts, hK, hE, hX, hbl, hlk, hL⟩ := X
  intro H locs ls hP hD hS hl
  exact lv_iinc hx hb hd hl hj hv hi rfl (fun ls2 hl3 => k H locs ls2 hP hD hS (lv_sub hl3 ks hl2))
theorem q_tblOut (X : OK2 z x L xs) {dflt lo hi : Int} {offs : Array Int} {len : Nat} {v : Int32} {tgt : Nat} (hd : decode code pc = .ok (.tableswitch dflt lo hi offs, len)) (h : v.toInt < lo ∨ hi < v.toInt) (ht : (pc : Int) + dflt = (tgt : Int)) (k : G2 z x cs ss a b nM mc mm tgt lv st) : G2 z x cs ss a b nM mc mm pc lv (.int v :: st) := by
  obtain ⟨l, D, cy, aK, aV⟩ := z
  obtain ⟨p, e, s, m, below, meth, c, sb⟩ := x
  obtain ⟨hx, hb, hml, hown, hts, hK, hE, hX, hbl, hlk, hL⟩ := X
  intro H locs ls hP hD hS hl
  exact lv_tableOut hx hb hd h ht (k H locs ls hP hD hS hl)
theorem q_tblIn (X : OK2 z x L xs) {dflt lo hi : Int} {offs : Array Int} {len : Nat} {v : Int32} {off : Int} {tgt : Nat} (hd : decode code pc = .ok (.tableswitch dflt lo hi offs, len)) (h1 : ¬ v.toInt < lo) (h2 : ¬ hi < v.toInt) (ho : offs[(v.toInt - lo).toNat]? = some off) (ht : (pc : Int) + off = (tgt : Int)) (k : G2 z x cs ss a b nM mc mm tgt lv st) : G2 z x cs ss a b nM mc mm pc lv (.int v :: st) := by
  obtain ⟨l, D, cy, aK, aV⟩ := z
  obtain ⟨p, e, s, m, below, meth, c, sb⟩ := x
  obtain ⟨hx, hb, hml, hown, hts, hK, hE, hX, hbl, hlk, hL⟩ := X
  intro H locs ls hP hD hS hl
  exact lv_tableIn hx hb hd h1 h2 ho ht (k H locs ls hP hD hS hl)
theorem q_sld (X : OK2 z x L xs) {i : Int32} {j : Nat} (hi : i = nI j) (hj : j < L) (hd : decode code pc = .ok (.iaload, 1)) (k : G2 z x cs ss a b nM mc mm (pc + 1) lv (.int (xs j) :: st)) : G2 z x cs ss a b nM mc mm pc lv (.int i :: .ref x.2.2.2.2.2.2.2 :: st) := by
  obtain ⟨l, D, cy, aK, aV⟩ := z
  obtain ⟨p, e, s, m, below, meth, c, sb⟩ := x
  obtain ⟨hx, hb, hml, hown, hts, hK, hE, hX, hbl, hlk, hL⟩ := X
  intro H locs ls hP hD hS hl
  subst hi
  have h1 := k H locs ls hP hD hS hl
  refine va_sld hx hb hX hbl (Nat.not_le.mpr hbl) hS (vp_in_nI hj hL) hd ?_
  rw [nI_clamp (by omega)]
  exact h1
theorem q_slen (X : OK2 z x L xs) (hd : decode code pc = .ok (.arraylength, 1)) (k : G2 z x cs ss a b nM mc mm (pc + 1) lv (.int (nI L) :: st)) : G2 z x cs ss a b nM mc mm pc lv (.ref x.2.2.2.2.2.2.2 :: st) := by
  obtain ⟨l, D, cy, aK, aV⟩ := z
  obtain ⟨p, e, s, m, below, meth, c, sb⟩ := x
  obtain ⟨hx, hb, hml, hown, hts, hK, hE, hX, hbl, hlk, hL⟩ := X
  intro H locs ls hP hD hS hl
  exact va_slen hx hb hX hbl (Nat.not_le.mpr hbl) hS hd (k H locs ls hP hD hS hl)
theorem q_lcmp_eq (X : OK2 z x L xs) {x1 x2 : Int64} {off : Int} {tgt : Nat} (hd0 : decode code pc = .ok (.lcmp, 1)) (hd : decode code (pc + 1) = .ok (.ifCond .eq off, 3)) (ht : ((pc + 1 : Nat) : Int) + off = (tgt : Int)) (he : x1 = x2) (kt : G2 z x cs ss a b nM mc mm tgt lv st) : G2 z x cs ss a b nM mc mm pc lv (.long x2 :: .long x1 :: st) := by
  obtain ⟨l, D, cy, aK, aV⟩ := z
  obtain ⟨p, e, s, m, below, meth, c, sb⟩ := x
  obtain ⟨hx, hb, hml, hown, hts, hK, hE, hX, hbl, hlk, hL⟩ := X
  intro H locs ls hP hD hS hl
  refine W.lcmp hx hb hd0 ?_
  exact lv_if_eq hx hb hd ht (fun _ => kt H locs ls hP hD hS hl) (fun h => absurd (lgc_eq.mpr he) h)
theorem q_lv (lv2 : List (Nat × Value)) (ks : List Nat) (h : lv_pick lv ks = lv2) (k : G2 z x cs ss a b nM mc mm pc lv2 st) : G2 z x cs ss a b nM mc mm pc lv st := by
  obtain ⟨l, D, cy, aK, aV⟩ := z
  obtain ⟨p, e, s, m, below, meth, c, sb⟩ := x
  intro H locs ls hP hD hS hl
  exact k H locs ls hP hD hS (lv_sub hl ks h)
theorem q_ret (X : OK2 z x L xs) (hcs : cs ≤ 600000) (hss : ss ≤ 7302250) (hd : decode code pc = .ok (.ireturn, 1)) : G2 z x cs ss a b nM mc mm pc lv [.int 1] := by
  obtain ⟨l, D, cy, aK, aV⟩ := z
  obtain ⟨p, e, s, m, below, meth, c, sb⟩ := x
  obtain ⟨hx, hb, hml, hown, hts, hK, hE, hX, hbl, hlk, hL⟩ := X
  intro H locs ls hP hD hS hl
  exact va_forget (fun q hq => hS.2.2 q hq) (W.widen hcs hss (lw_ret hx hb hlk.2 hlk.1 hd))
theorem va_split {D : va_G} {cl : List vw_C} {A : Nat → Prop} {P1 P2 : va_W} {H : Heap} (hP : va_P D cl (P1 ++ P2) H) (hD : va_D A (P1 ++ P2)) : va_P D cl P1 H ∧ va_P D cl P2 H ∧ va_D A P1 ∧ va_D A P2 ∧ ∀ (i j : Nat) (p q : Nat × va_E), P1[i]? = some p → P2[j]? = some q → p.1 ≠ q.1 := by
  have g1 : ∀ (k : Nat) (q : Nat × va_E), P1[k]? = some q → (P1 ++ P2)[k]? = some q := by
    intro k q h
    have hk := (List.getElem?_eq_some_iff.mp h).1
    rw [List.getElem?_append_left hk]; exact h
  have g2 : ∀ (k : Nat) (q : Nat × va_E), P2[k]? = some q → (P1 ++ P2)[P1.length + k]? = some q := by
    intro k q h
    rw [List.getElem?_append_right (by omega), Nat.add_sub_cancel_left]; exact h
  refine ⟨fun k q h => hP k q (g1 k q h), fun k q h => hP _ q (g2 k q h), ⟨fun i j p q h1 h2 h3 => hD.1 i j p q (g1 i p h1) (g1 j q h2) h3, fun k q h => hD.2 k q (g1 k q h)⟩, ⟨fun i j p q h1 h2 h3 => ?_, fun k q h => hD.2 _ q (g2 k q h)⟩, fun i j p q h1 h2 h3 => ?_⟩
  · have := hD.1 _ _ p q (g2 i p h1) (g2 j q h2) h3
    omega
  · have e := hD.1 _ _ p q (g1 i p h1) (g2 j q h2) h3
    have hk := (List.getElem?_eq_some_iff.mp h1).1
    omega
theorem pw_adr {cy : Nat → ClassId} {w : Px} {ad : Nat → Nat} {n k : Nat} {m : Mem} {q : Nat × va_E} (h : (Pw cy w ad n m)[k]? = some q) : k < n ∧ q.1 = ad k := by
  have hkn : k < n := by
    have := (List.getElem?_eq_some_iff.mp h).1
    simpa [Pw] using this
  refine ⟨hkn, ?_⟩
  have h2 := pw_get (cy := cy) (w := w) (ad := ad) (m := m) hkn
  have h3 := Option.some.inj (h2.symm.trans h)
  rw [← h3]
/-- behind a call over one of the pools: the other stands as it was -/
theorem va_two {D : va_G} {cy : Nat → ClassId} {w1 w2 : Px} {a a2 b : Nat → Nat} {n n2 k : Nat} {m1 m1' m2 : Mem} {A0 : Nat → Prop} {s : State} {H H1 : Heap} (hA0 : ∀ q, s.heap.size ≤ q → A0 q) (hHs : s.heap.size ≤ H.size) (hP1 : va_P D vwCl (Pw cy w1 a n m1) H) (hP2 : va_P D vwCl (Pw cy w2 b k m2) H) (hD1 : va_D A0 (Pw cy w1 a n m1)) (hD2 : va_D A0 (Pw cy w2 b k m2)) (hx : ∀ (i j : Nat) (p q : Nat × va_E), (Pw cy w1 a n m1)[i]? = some p → (Pw cy w2 b k m2)[j]? = some q → p.1 ≠ q.1)
    (hk : ∀ q : Nat, q < H.size → ¬ Ad a n H.size q → H1[q]? = H[q]?) (hQ1 : va_P D vwCl (Pw cy w1 a2 n2 m1') H1) (hQD : va_D (Ad a n H.size) (Pw cy w1 a2 n2 m1')) : va_P D vwCl (Pw cy w2 b k m2) H1 ∧ va_D A0 (Pw cy w1 a2 n2 m1') ∧ ∀ (i j : Nat) (p q : Nat × va_E), (Pw cy w1 a2 n2 m1')[i]? = some p → (Pw cy w2 b k m2)[j]? = some q → p.1 ≠ q.1 := by
  have up : ∀ q, Ad a n H.size q → A0 q := by
    intro q h
    rcases h with ⟨i, hi, rfl⟩ | h
    · exact hD1.2 i _ (pw_get hi)
    · exact hA0 q (Nat.le_trans hHs h)
  have off : ∀ (j : Nat) (q : Nat × va_E), (Pw cy w2 b k m2)[j]? = some q → q.1 < H.size ∧ ¬ Ad a n H.size q.1 := by
    intro j q hq
    have hlt := (hP2 j q hq).lt
    refine ⟨hlt, fun h => ?_⟩
    rcases h with ⟨i, hi, he⟩ | h
    · exact hx i j _ q (pw_get hi) hq he.symm
    · omega
  refine ⟨fun j q hq => (hP2 j q hq).kept (hk q.1 (off j q hq).1 (off j q hq).2), hQD.weaken (fun _ q _ h => up q.1 h), fun i j p q hp hq he => ?_⟩
  exact (off j q hq).2 (by rw [← he]; exact hQD.2 i p hp)
theorem q_callCI (X : OK2 z x L xs) {y : MethodName} {bytes : ByteArray} {maxL na index ci Nf : Nat} {T : u_T} {ty : Nat → FieldType} {ret : Option FieldType} {rm2 : Room} {As rest : List Value} {m2 : Mem} {r : Int32} (M : Mi y bytes maxL ret na) (hin : Cond.instanceMethod y ∈ GT) (hse : Cond.selects y.cls y y ∈ GT) (h0 : 0 < 91) (hk0 : wC.1 0 = ci) (Cq : Cl ci y.cls T Nf ty) (hli : Cond.methodLink R_law index y ∈ GT) (hc : CtI z wC y bytes maxL ret rm2 a 91 (.ref (a 0) :: As) mc m2 r) (hna : As.length = na) (hst : st = As.reverse ++ .ref (a 0) :: rest) (hcat : (rest.map fun v => v.category).sum ≤ 8) (hrm : rm2.cells = 0 ∧ rm2.slots = 0 ∧ rm2.frames + 1 ≤ room_1.frames ∧ 8 + (maxL + 11) + rm2.locals ≤ room_1.locals ∧ cs ≤ room_1.cells ∧ ss ≤ room_1.slots) (hd : decode code pc = .ok (.invokevirtual index, 3)) (kk : G2 z x cs ss a b nM m2 mm (pc + 3) lv (.int r :: rest)) : G2 z x cs ss a b nM mc mm pc lv st := by
  obtain ⟨l, D, cy, aK, aV⟩ := z
  obtain ⟨p, e, s, m, below, meth, c, sb⟩ := x
  obtain ⟨hx, hb, hml, hown, hts, hK, hE, hX, hbl, hlk, hL⟩ := X
  intro H locs ls hP hD hS hl
  subst hst
  obtain ⟨hP1, hP2, hD1, hD2, hx12⟩ := va_split hP hD
  have hup : ∀ q, Ad a 91 H.size q → s.heap.size ≤ q := ad_up (A0 := fun q => s.heap.size ≤ q) (fun q h => h) hD1 hS
  refine va_calli (va_runV (As := As) (rest := rest) (bytes := bytes) (maxL := maxL) (ret := ret) (n := na) ⟨hx, hb, hml, hown, hts⟩ (hc H.size) ⟨callB_of na hts (gt_in M.1) rfl hrm.1 hrm.2.1 (hts _ M.2.1) (hts _ hli) ⟨M.2.2.1, M.2.2.2.1, M.2.2.2.2.1⟩ ⟨hrm.2.2.1, hrm.2.2.2.1⟩, hts _ hin, hts _ hse⟩ ⟨WdP.blind, va_recv hK hP1 Cq.2.1 (pw_obj h0 hk0 Cq.1), fun U hU hW => ⟨rfl, by rw [hU], by rw [hU]; exact hP1, va_K.moved hW.alike hK, hD1.weaken (fun _ _ _ _ => trivial), hE.mv hS hW hU hup⟩⟩ rfl hna hl.1 rfl (lv_room hcat) hd ⟨hrm.2.2.2.2.1, hrm.2.2.2.2.2⟩) hS (fun q _ h => hup q h) hup (fun r2 u t2 H1 locs1 ht hvm hw hB hz1 hk1 hS1 => ?_)
  obtain ⟨hQ1, hK1, hQD⟩ := hB
  rw [ht] at hQ1
  obtain ⟨rfl, rfl⟩ := hw
  obtain ⟨e1, e2, e3⟩ := va_two (s := s) (A0 := fun q => s.heap.size ≤ q) (fun q h => h) hS.1 hP1 hP2 hD1 hD2 hx12 hk1 hQ1 hQD
  exact kk H1 locs1 ls (hQ1.app e1) (e2.app hD2 e3) hS1 hl
theorem q_callCL (X : OK2 z x L xs) {y : MethodName} {bytes : ByteArray} {maxL na index ci Nf : Nat} {T : u_T} {ty : Nat → FieldType} {ret : Option FieldType} {rm2 : Room} {As rest : List Value} {m2 : Mem} {r : Int64} (M : Mi y bytes maxL ret na) (hin : Cond.instanceMethod y ∈ GT) (hse : Cond.selects y.cls y y ∈ GT) (h0 : 0 < 91) (hk0 : wC.1 0 = ci) (Cq : Cl ci y.cls T Nf ty) (hli : Cond.methodLink R_law index y ∈ GT) (hc : CtL z wC y bytes maxL ret rm2 a 91 (.ref (a 0) :: As) mc m2 r) (hna : As.length = na) (hst : st = As.reverse ++ .ref (a 0) :: rest) (hcat : (rest.map fun v => v.category).sum ≤ 8) (hrm : rm2.cells = 0 ∧ rm2.slots = 0 ∧ rm2.frames + 1 ≤ room_1.frames ∧ 8 + (maxL + 11) + rm2.locals ≤ room_1.locals ∧ cs ≤ room_1.cells ∧ ss ≤ room_1.slots) (hd : decode code pc = .ok (.invokevirtual index, 3)) (kk : G2 z x cs ss a b nM m2 mm (pc + 3) lv (.long r :: rest)) : G2 z x cs ss a b nM mc mm pc lv st := by
  obtain ⟨l, D, cy, aK, aV⟩ := z
  obtain ⟨p, e, s, m, below, meth, c, sb⟩ := x
  obtain ⟨hx, hb, hml, hown, hts, hK, hE, hX, hbl, hlk, hL⟩ := X
  intro H locs ls hP hD hS hl
  subst hst
  obtain ⟨hP1, hP2, hD1, hD2, hx12⟩ := va_split hP hD
  have hup : ∀ q, Ad a 91 H.size q → s.heap.size ≤ q := ad_up (A0 := fun q => s.heap.size ≤ q) (fun q h => h) hD1 hS
  refine va_calll (va_runV (As := As) (rest := rest) (bytes := bytes) (maxL := maxL) (ret := ret) (n := na) ⟨hx, hb, hml, hown, hts⟩ (hc H.size) ⟨callB_of na hts (gt_in M.1) rfl hrm.1 hrm.2.1 (hts _ M.2.1) (hts _ hli) ⟨M.2.2.1, M.2.2.2.1, M.2.2.2.2.1⟩ ⟨hrm.2.2.1, hrm.2.2.2.1⟩, hts _ hin, hts _ hse⟩ ⟨WdP.blind, va_recv hK hP1 Cq.2.1 (pw_obj h0 hk0 Cq.1), fun U hU hW => ⟨rfl, by rw [hU], by rw [hU]; exact hP1, va_K.moved hW.alike hK, hD1.weaken (fun _ _ _ _ => trivial), hE.mv hS hW hU hup⟩⟩ rfl hna hl.1 rfl (lv_room hcat) hd ⟨hrm.2.2.2.2.1, hrm.2.2.2.2.2⟩) hS (fun q _ h => hup q h) hup (fun r2 u t2 H1 locs1 ht hvm hw hB hz1 hk1 hS1 => ?_)
  obtain ⟨hQ1, hK1, hQD⟩ := hB
  rw [ht] at hQ1
  obtain ⟨rfl, rfl⟩ := hw
  obtain ⟨e1, e2, e3⟩ := va_two (s := s) (A0 := fun q => s.heap.size ≤ q) (fun q h => h) hS.1 hP1 hP2 hD1 hD2 hx12 hk1 hQ1 hQD
  exact kk H1 locs1 ls (hQ1.app e1) (e2.app hD2 e3) hS1 hl
theorem q_callMI (X : OK2 z x L xs) {y : MethodName} {bytes : ByteArray} {maxL na index ci Nf : Nat} {T : u_T} {ty : Nat → FieldType} {ret : Option FieldType} {rm2 : Room} {As rest : List Value} {m2 : Mem} {r : Int32} (M : Mi y bytes maxL ret na) (hin : Cond.instanceMethod y ∈ GT) (hse : Cond.selects y.cls y y ∈ GT) (h0 : 0 < nM) (hk0 : wM.1 0 = ci) (Cq : Cl ci y.cls T Nf ty) (hli : Cond.methodLink R_law index y ∈ GT) (hc : CtI z wM y bytes maxL ret rm2 b nM (.ref (b 0) :: As) mm m2 r) (hna : As.length = na) (hst : st = As.reverse ++ .ref (b 0) :: rest) (hcat : (rest.map fun v => v.category).sum ≤ 8) (hrm : rm2.cells = 0 ∧ rm2.slots = 0 ∧ rm2.frames + 1 ≤ room_1.frames ∧ 8 + (maxL + 11) + rm2.locals ≤ room_1.locals ∧ cs ≤ room_1.cells ∧ ss ≤ room_1.slots) (hd : decode code pc = .ok (.invokevirtual index, 3)) (kk : G2 z x cs ss a b nM mc m2 (pc + 3) lv (.int r :: rest)) : G2 z x cs ss a b nM mc mm pc lv st := by
  obtain ⟨l, D, cy, aK, aV⟩ := z
  obtain ⟨p, e, s, m, below, meth, c, sb⟩ := x
  obtain ⟨hx, hb, hml, hown, hts, hK, hE, hX, hbl, hlk, hL⟩ := X
  intro H locs ls hP hD hS hl
  subst hst
  obtain ⟨hP1, hP2, hD1, hD2, hx12⟩ := va_split hP hD
  have hup : ∀ q, Ad b nM H.size q → s.heap.size ≤ q := ad_up (A0 := fun q => s.heap.size ≤ q) (fun q h => h) hD2 hS
  refine va_calli (va_runV (As := As) (rest := rest) (bytes := bytes) (maxL := maxL) (ret := ret) (n := na) ⟨hx, hb, hml, hown, hts⟩ (hc H.size) ⟨callB_of na hts (gt_in M.1) rfl hrm.1 hrm.2.1 (hts _ M.2.1) (hts _ hli) ⟨M.2.2.1, M.2.2.2.1, M.2.2.2.2.1⟩ ⟨hrm.2.2.1, hrm.2.2.2.1⟩, hts _ hin, hts _ hse⟩ ⟨WdP.blind, va_recv hK hP2 Cq.2.1 (pw_obj h0 hk0 Cq.1), fun U hU hW => ⟨rfl, by rw [hU], by rw [hU]; exact hP2, va_K.moved hW.alike hK, hD2.weaken (fun _ _ _ _ => trivial), hE.mv hS hW hU hup⟩⟩ rfl hna hl.1 rfl (lv_room hcat) hd ⟨hrm.2.2.2.2.1, hrm.2.2.2.2.2⟩) hS (fun q _ h => hup q h) hup (fun r2 u t2 H1 locs1 ht hvm hw hB hz1 hk1 hS1 => ?_)
  obtain ⟨hQ1, hK1, hQD⟩ := hB
  rw [ht] at hQ1
  obtain ⟨rfl, rfl⟩ := hw
  obtain ⟨e1, e2, e3⟩ := va_two (s := s) (A0 := fun q => s.heap.size ≤ q) (fun q h => h) hS.1 hP2 hP1 hD2 hD1 (fun i j p q h1 h2 h3 => hx12 j i q p h2 h1 h3.symm) hk1 hQ1 hQD
  exact kk H1 locs1 ls (e1.app hQ1) (hD1.app e2 (fun i j p q h1 h2 h3 => e3 j i q p h2 h1 h3.symm)) hS1 hl
theorem q_callML (X : OK2 z x L xs) {y : MethodName} {bytes : ByteArray} {maxL na index ci Nf : Nat} {T : u_T} {ty : Nat → FieldType} {ret : Option FieldType} {rm2 : Room} {As rest : List Value} {m2 : Mem} {r : Int64} (M : Mi y bytes maxL ret na) (hin : Cond.instanceMethod y ∈ GT) (hse : Cond.selects y.cls y y ∈ GT) (h0 : 0 < nM) (hk0 : wM.1 0 = ci) (Cq : Cl ci y.cls T Nf ty) (hli : Cond.methodLink R_law index y ∈ GT) (hc : CtL z wM y bytes maxL ret rm2 b nM (.ref (b 0) :: As) mm m2 r) (hna : As.length = na) (hst : st = As.reverse ++ .ref (b 0) :: rest) (hcat : (rest.map fun v => v.category).sum ≤ 8) (hrm : rm2.cells = 0 ∧ rm2.slots = 0 ∧ rm2.frames + 1 ≤ room_1.frames ∧ 8 + (maxL + 11) + rm2.locals ≤ room_1.locals ∧ cs ≤ room_1.cells ∧ ss ≤ room_1.slots) (hd : decode code pc = .ok (.invokevirtual index, 3)) (kk : G2 z x cs ss a b nM mc m2 (pc + 3) lv (.long r :: rest)) : G2 z x cs ss a b nM mc mm pc lv st := by
  obtain ⟨l, D, cy, aK, aV⟩ := z
  obtain ⟨p, e, s, m, below, meth, c, sb⟩ := x
  obtain ⟨hx, hb, hml, hown, hts, hK, hE, hX, hbl, hlk, hL⟩ := X
  intro H locs ls hP hD hS hl
  subst hst
  obtain ⟨hP1, hP2, hD1, hD2, hx12⟩ := va_split hP hD
  have hup : ∀ q, Ad b nM H.size q → s.heap.size ≤ q := ad_up (A0 := fun q => s.heap.size ≤ q) (fun q h => h) hD2 hS
  refine va_calll (va_runV (As := As) (rest := rest) (bytes := bytes) (maxL := maxL) (ret := ret) (n := na) ⟨hx, hb, hml, hown, hts⟩ (hc H.size) ⟨callB_of na hts (gt_in M.1) rfl hrm.1 hrm.2.1 (hts _ M.2.1) (hts _ hli) ⟨M.2.2.1, M.2.2.2.1, M.2.2.2.2.1⟩ ⟨hrm.2.2.1, hrm.2.2.2.1⟩, hts _ hin, hts _ hse⟩ ⟨WdP.blind, va_recv hK hP2 Cq.2.1 (pw_obj h0 hk0 Cq.1), fun U hU hW => ⟨rfl, by rw [hU], by rw [hU]; exact hP2, va_K.moved hW.alike hK, hD2.weaken (fun _ _ _ _ => trivial), hE.mv hS hW hU hup⟩⟩ rfl hna hl.1 rfl (lv_room hcat) hd ⟨hrm.2.2.2.2.1, hrm.2.2.2.2.2⟩) hS (fun q _ h => hup q h) hup (fun r2 u t2 H1 locs1 ht hvm hw hB hz1 hk1 hS1 => ?_)
  obtain ⟨hQ1, hK1, hQD⟩ := hB
  rw [ht] at hQ1
  obtain ⟨rfl, rfl⟩ := hw
  obtain ⟨e1, e2, e3⟩ := va_two (s := s) (A0 := fun q => s.heap.size ≤ q) (fun q h => h) hS.1 hP2 hP1 hD2 hD1 (fun i j p q h1 h2 h3 => hx12 j i q p h2 h1 h3.symm) hk1 hQ1 hQD
  exact kk H1 locs1 ls (e1.app hQ1) (hD1.app e2 (fun i j p q h1 h2 h3 => e3 j i q p h2 h1 h3.symm)) hS1 hl
theorem q_newM (X : OK2 z x L xs) (hn : nM = 0) {index : Nat} (hcl : Cond.classLink R_law index RX12 ∈ GT) (hinst : Cond.instantiable RX12 31 ∈ GT) (hini : Cond.initialized RX12 ∈ GT) (hw : Wf 0 mm) (hcs : cs + 1 ≤ room_1.cells) (hss : ss + 31 ≤ room_1.slots) (hd : decode code pc = .ok (.new index, 3)) (kk : ∀ b2 : Nat → Nat, G2 z x (cs + 1) (ss + 31) a b2 1 mc (clr mm 0) (pc + 3) lv (.ref (b2 0) :: st)) : G2 z x cs ss a b nM mc mm pc lv st := by
  obtain ⟨l, D, cy, aK, aV⟩ := z
  obtain ⟨p, e, s, m, below, meth, c, sb⟩ := x
  obtain ⟨hx, hb, hml, hown, hts, hK, hE, hX, hbl, hlk, hL⟩ := X
  intro H locs ls hP hD hS hl
  subst hn
  refine va_new (fs := (fk 12).map dfv) hx hb hts clX12.2.2.1 tyX12 clX12.2.2.2.1 hown (hts _ hcl) (hts _ hinst) (hts _ hini) hK hP hD hS (fun q h => h) clX12.2.1 dfX12 hcs hss hd (fun q H1 hP1 hD1 hS1 => ?_)
  obtain ⟨a1, a2⟩ := ad_new (ad := b) (n := 0) (q := q)
  generalize (fun i => if i = 0 then q else b i) = b2 at a1 a2
  have he : cE cy wM b2 (clr mm 0) 0 = .inr (12, (fk 12).map dfv) := by rw [cE, show wM.1 0 = 12 from rfl, if_pos (by decide), fvs_clr]
  have e := pw_push (cy := cy) (w := wM) (ad := b) (n := 0) hw a1 a2 he
  rw [List.append_assoc, e] at hP1 hD1
  have := kk b2 H1 locs ls hP1 hD1 hS1 hl
  rw [a2] at this
  exact this
theorem q_callK (X : OK2 z x L xs) {y : MethodName} {bytes : ByteArray} {maxL na index n2 : Nat} {rm2 : Room} {rest : List Value} {m2 : Mem} (M : Mi y bytes maxL none na) (hyn : y.name = "<init>") (hin : Cond.instanceMethod y ∈ GT) (hli : Cond.methodLink R_law index y ∈ GT) (hc : CtK z wM y bytes maxL rm2 b nM [.ref (b 0)] mm n2 m2) (hna : 0 = na) (h0 : 0 < nM) (hst : st = .ref (b 0) :: .ref (b 0) :: rest) (hcat : ((.ref (b 0) :: rest).map fun v => v.category).sum ≤ 8) (hrm : rm2.frames + 1 ≤ room_1.frames ∧ 8 + (maxL + 11) + rm2.locals ≤ room_1.locals ∧ cs + rm2.cells ≤ room_1.cells ∧ ss + rm2.slots ≤ room_1.slots) (hd : decode code pc = .ok (.invokespecial index, 3)) (kk : ∀ b2 : Nat → Nat, G2 z x (cs + rm2.cells) (ss + rm2.slots) a b2 n2 mc m2 (pc + 3) lv (.ref (b2 0) :: rest)) : G2 z x cs ss a b nM mc mm pc lv st := by
  obtain ⟨l, D, cy, aK, aV⟩ := z
  obtain ⟨p, e, s, m, below, meth, c, sb⟩ := x
  obtain ⟨hx, hb, hml, hown, hts, hK, hE, hX, hbl, hlk, hL⟩ := X
  intro H locs ls hP hD hS hl
  subst hst
  obtain ⟨hP1, hP2, hD1, hD2, hx12⟩ := va_split hP hD
  have hup : ∀ q, Ad b nM H.size q → s.heap.size ≤ q := ad_up (A0 := fun q => s.heap.size ≤ q) (fun q h => h) hD2 hS
  refine va_callv (va_runI (As := []) (rest := .ref (b 0) :: rest) (bytes := bytes) (maxL := maxL) (n := na) ⟨hx, hb, hml, hown, hts⟩ (hc H.size) ⟨callB_of na hts (gt_in M.1) rfl rfl rfl (hts _ M.2.1) (hts _ hli) ⟨M.2.2.1, M.2.2.2.1, M.2.2.2.2.1⟩ ⟨hrm.1, hrm.2.1⟩, hyn, hts _ hin⟩ ⟨WdP.blind, fun U hU hW => ⟨rfl, by rw [hU], by rw [hU]; exact hP2, va_K.moved hW.alike hK, hD2.weaken (fun _ _ _ _ => trivial), hE.mv hS hW hU hup⟩⟩ rfl hna hl.1 rfl (lv_room hcat) hd ⟨hrm.2.2.1, hrm.2.2.2⟩) hS (fun q _ h => hup q h) hup (fun u t2 H1 locs1 ht hvm hw hB hz1 hk1 hS1 => ?_)
  obtain ⟨hQ1, hK1, hQD⟩ := hB
  rw [ht] at hQ1
  obtain ⟨b2, mu⟩ := u
  obtain ⟨ha2, rfl⟩ := hw
  obtain ⟨e1, e2, e3⟩ := va_two (s := s) (A0 := fun q => s.heap.size ≤ q) (fun q h => h) hS.1 hP2 hP1 hD2 hD1 (fun i j p q h1 h2 h3 => hx12 j i q p h2 h1 h3.symm) hk1 hQ1 hQD
  rw [← ha2 0 h0]
  exact kk b2 H1 locs1 ls (e1.app hQ1) (hD1.app e2 (fun i j p q h1 h2 h3 => e3 j i q p h2 h1 h3.symm)) hS1 hl
end
