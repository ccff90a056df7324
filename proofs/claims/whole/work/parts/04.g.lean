/-! THE LAYER: a pool of cells by their numbers; memory by cell and slot; rules an instruction, a row each, over the kit's rows. -/
/-- the good words of the tables -/
def GT : List Cond := lw_tbl.filter goodWord
theorem gt_mem {i : Nat} {w : Cond} (h : lw_tbl[i]? = some w) (hg : goodWord w = true) : w ∈ GT := List.mem_filter.mpr ⟨List.mem_of_getElem? h, hg⟩
theorem gt_sub {ws : List Cond} (ps : List Nat) (hp : ps.map (fun i => lw_tbl[i]?) = ws.map some) (hg : ws.all goodWord = true) : ∀ w ∈ ws, w ∈ GT := by
  intro w hw
  obtain ⟨k, hk⟩ := List.getElem?_of_mem hw
  have h1 : (ps.map (fun i => lw_tbl[i]?))[k]? = some (some w) := by rw [hp, List.getElem?_map, hk]; rfl
  rw [List.getElem?_map] at h1
  cases hi : ps[k]? with
  | none => rw [hi] at h1; cases h1
  | some i =>
    rw [hi] at h1
    exact gt_mem (Option.some.inj h1) (List.all_eq_true.mp hg w hw)
theorem gt_good : ∀ w ∈ GT, ((w.onTables && w.keeps) = true ∨ ∃ ty, w = .arrayClass ty) := fun w h => good_of_word (List.mem_filter.mp h).2
theorem gt_in {c : Cond} (hc : c ∈ GT) : GoodIn GT (c :: GT) := by
  intro w hw
  rcases List.mem_cons.mp hw with rfl | h
  · exact ⟨hc, gt_good _ hc⟩
  · exact ⟨h, gt_good _ h⟩
abbrev Mem : Type := (Nat → Nat → Int32) × (Nat → Nat → Int64) × (Nat → Nat → Option Nat)
abbrev Zx : Type := Launch × va_G × (Nat → ClassId) × (Nat → Nat) × (Nat → Nat)
abbrev Px : Type := (Nat → Nat) × (Nat → Nat)
abbrev Cx : Type := Program × Env × Room × State × MethodId × Array Value × List Frame × Method × Code × (State → Prop) × (Nat → Nat) × Nat
/-- the kinds of a class's fields: 0 int, 1 long, 2 a reference -/
def fk (k : Nat) : List Nat := match k with
  | 0 => [2, 0, 0, 0, 0, 0]
  | 1 => [2, 2, 2, 2, 2, 0, 0]
  | 2 => [2, 2, 0]
  | 3 => [2, 2, 2, 2, 2]
  | 4 => [0, 0, 0, 0, 0, 0, 0, 0, 0]
  | 5 => [2, 0, 0]
  | 6 => [2, 0, 0]
  | 7 => [2, 0]
  | 8 => [2, 0, 0, 0, 0]
  | 9 => [2, 2, 2, 0, 0, 0, 0]
  | 10 => [2, 2, 2, 2, 0]
  | 11 => [2, 2, 2, 2, 2, 2, 2, 2, 0, 0]
  | 12 => [0, 0, 2, 2, 2, 2, 2, 0, 2, 2, 0, 0, 0, 0, 0, 0, 0, 0, 0, 2, 2, 2, 2, 2, 1, 0, 2, 2, 2, 2, 0]
  | _ => []
def fv (ad : Nat → Nat) (m : Mem) (a t j : Nat) : Value := if t = 0 then .int (m.1 a j) else if t = 1 then .long (m.2.1 a j) else va_rf ((m.2.2 a j).map ad)
def fvs (ad : Nat → Nat) (m : Mem) (a ci : Nat) : List Value := (fk ci).mapIdx (fun j t => fv ad m a t j)
def avs (ad : Nat → Nat) (m : Mem) (a k : Nat) : ((Nat → Int32) ⊕ (Nat → Int64) ⊕ (Nat → UInt32) ⊕ (Nat → UInt64) ⊕ (Nat → Option Nat)) := if k = 15 then .inr (.inl (m.2.1 a)) else if 17 ≤ k then .inr (.inr (.inr (.inr (fun j => (m.2.2 a j).map ad)))) else .inl (m.1 a)
def cE (cy : Nat → ClassId) (w : Px) (ad : Nat → Nat) (m : Mem) (a : Nat) : va_E := if w.1 a < 13 then .inr (w.1 a, fvs ad m a (w.1 a)) else .inl (cy (w.1 a), w.2 a, avs ad m a (w.1 a))
def Pw (cy : Nat → ClassId) (w : Px) (ad : Nat → Nat) (n : Nat) (m : Mem) : va_W := (List.range n).map (fun a => (ad a, cE cy w ad m a))
def uI (m : Mem) (a k : Nat) (v : Int32) : Mem := (fun b j => if b = a ∧ j = k then v else m.1 b j, m.2)
def uJ (m : Mem) (a k : Nat) (v : Int64) : Mem := (m.1, fun b j => if b = a ∧ j = k then v else m.2.1 b j, m.2.2)
def uR (m : Mem) (a k : Nat) (v : Option Nat) : Mem := (m.1, m.2.1, fun b j => if b = a ∧ j = k then v else m.2.2 b j)
def uX (m : Mem) (a : Nat) (f : Nat → Int32) : Mem := (fun b => if b = a then f else m.1 b, m.2)
theorem pw_get {cy : Nat → ClassId} {w : Px} {ad : Nat → Nat} {n a : Nat} {m : Mem} (h : a < n) : (Pw cy w ad n m)[a]? = some (ad a, cE cy w ad m a) := by
  simp [Pw, h]
theorem pw_obj {cy : Nat → ClassId} {w : Px} {ad : Nat → Nat} {n a ci : Nat} {m : Mem} (h : a < n) (hk : w.1 a = ci) (hc : ci < 13) : (Pw cy w ad n m)[a]? = some (ad a, .inr (ci, fvs ad m a ci)) := by
  rw [pw_get h, cE, hk, if_pos hc]
theorem pw_arr {cy : Nat → ClassId} {w : Px} {ad : Nat → Nat} {n a ci : Nat} {m : Mem} (h : a < n) (hk : w.1 a = ci) (hc : ¬ ci < 13) : (Pw cy w ad n m)[a]? = some (ad a, .inl (cy ci, w.2 a, avs ad m a ci)) := by
  rw [pw_get h, cE, hk, if_neg hc]
theorem pw_set {cy : Nat → ClassId} {w : Px} {ad : Nat → Nat} {n a : Nat} {m m' : Mem} (e : va_E) (he : cE cy w ad m' a = e) (hb : ∀ b, b ≠ a → cE cy w ad m' b = cE cy w ad m b) : (Pw cy w ad n m).set a (ad a, e) = Pw cy w ad n m' := by
  apply List.ext_getElem?
  intro i
  rw [List.getElem?_set]
  by_cases h : a = i
  · subst h
    simp [Pw, he]
    by_cases hn : a < n
    · simp [hn, he]
    · simp [hn]
  · rw [if_neg h]
    simp only [Pw, List.getElem?_map]
    cases hr : (List.range n)[i]? with
    | none => rfl
    | some q =>
      have hq : q = i := by
        have := List.getElem?_eq_some_iff.mp hr
        obtain ⟨h1, h2⟩ := this
        simp at h2
        exact h2.symm
      subst hq
      simp only [Option.map_some]
      rw [hb q (fun z => h z.symm)]
theorem ce_ne {cy : Nat → ClassId} {w : Px} {ad : Nat → Nat} {m m' : Mem} {b : Nat} (h1 : m'.1 b = m.1 b) (h2 : m'.2.1 b = m.2.1 b) (h3 : m'.2.2 b = m.2.2 b) : cE cy w ad m' b = cE cy w ad m b := by
  simp only [cE, fvs, fv, avs, h1, h2, h3]
theorem ce_uI {cy : Nat → ClassId} {w : Px} {ad : Nat → Nat} {m : Mem} {a k b : Nat} {v : Int32} (h : b ≠ a) : cE cy w ad (uI m a k v) b = cE cy w ad m b :=
  ce_ne (by funext j; simp [uI, h]) rfl rfl
theorem ce_uJ {cy : Nat → ClassId} {w : Px} {ad : Nat → Nat} {m : Mem} {a k b : Nat} {v : Int64} (h : b ≠ a) : cE cy w ad (uJ m a k v) b = cE cy w ad m b :=
  ce_ne rfl (by funext j; simp [uJ, h]) rfl
theorem ce_uR {cy : Nat → ClassId} {w : Px} {ad : Nat → Nat} {m : Mem} {a k b : Nat} {v : Option Nat} (h : b ≠ a) : cE cy w ad (uR m a k v) b = cE cy w ad m b :=
  ce_ne rfl rfl (by funext j; simp [uR, h])
theorem ce_uX {cy : Nat → ClassId} {w : Px} {ad : Nat → Nat} {m : Mem} {a b : Nat} {f : Nat → Int32} (h : b ≠ a) : cE cy w ad (uX m a f) b = cE cy w ad m b :=
  ce_ne (by simp [uX, h]) rfl rfl
theorem fvs_at {ad : Nat → Nat} {m : Mem} {a ci k t : Nat} (h : (fk ci)[k]? = some t) : (fvs ad m a ci)[k]? = some (fv ad m a t k) := by
  simp [fvs, h]
theorem fvs_lt {ad : Nat → Nat} {m : Mem} {a ci k t : Nat} (h : (fk ci)[k]? = some t) : k < (fvs ad m a ci).length := by
  have := (List.getElem?_eq_some_iff.mp h).1
  simpa [fvs] using this
theorem fvs_set {ad : Nat → Nat} {m m' : Mem} {a ci k t : Nat} {v : Value} (h : (fk ci)[k]? = some t) (hv : fv ad m' a t k = v) (ho : ∀ t j, j ≠ k → fv ad m' a t j = fv ad m a t j) : fvs ad m' a ci = (fvs ad m a ci).set k v := by
  apply List.ext_getElem?
  intro i
  rw [List.getElem?_set]
  by_cases hi : k = i
  · subst hi
    rw [if_pos rfl, if_pos (fvs_lt h), fvs_at h, hv]
  · rw [if_neg hi]
    simp only [fvs, List.getElem?_mapIdx]
    cases (fk ci)[i]? with
    | none => rfl
    | some q => simp [ho q i (fun z => hi z.symm)]
theorem pw_uI {cy : Nat → ClassId} {w : Px} {ad : Nat → Nat} {n a ci k : Nat} {m : Mem} {v : Int32} (hk : w.1 a = ci) (hc : ci < 13) (hf : (fk ci)[k]? = some 0) : (Pw cy w ad n m).set a (ad a, .inr (ci, (fvs ad m a ci).set k (.int v))) = Pw cy w ad n (uI m a k v) := by
  refine pw_set _ ?_ (fun b hb => ce_uI hb)
  rw [cE, hk, if_pos hc, fvs_set (m := m) (v := .int v) hf (by simp [fv, uI]) (fun t j hj => by simp [fv, uI, hj])]
theorem pw_uJ {cy : Nat → ClassId} {w : Px} {ad : Nat → Nat} {n a ci k : Nat} {m : Mem} {v : Int64} (hk : w.1 a = ci) (hc : ci < 13) (hf : (fk ci)[k]? = some 1) : (Pw cy w ad n m).set a (ad a, .inr (ci, (fvs ad m a ci).set k (.long v))) = Pw cy w ad n (uJ m a k v) := by
  refine pw_set _ ?_ (fun b hb => ce_uJ hb)
  rw [cE, hk, if_pos hc, fvs_set (m := m) (v := .long v) hf (by simp [fv, uJ]) (fun t j hj => by simp [fv, uJ, hj])]
theorem pw_uR {cy : Nat → ClassId} {w : Px} {ad : Nat → Nat} {n a ci k v : Nat} {m : Mem} (hk : w.1 a = ci) (hc : ci < 13) (hf : (fk ci)[k]? = some 2) : (Pw cy w ad n m).set a (ad a, .inr (ci, (fvs ad m a ci).set k (.ref (ad v)))) = Pw cy w ad n (uR m a k (some v)) := by
  refine pw_set _ ?_ (fun b hb => ce_uR hb)
  rw [cE, hk, if_pos hc, fvs_set (m := m) (v := .ref (ad v)) hf (by simp [fv, uR, va_rf]) (fun t j hj => by simp [fv, uR, hj])]
theorem avs_i {ad : Nat → Nat} {m : Mem} {a k : Nat} (h1 : ¬ k = 15) (h2 : ¬ 17 ≤ k) : avs ad m a k = .inl (m.1 a) := by rw [avs, if_neg h1, if_neg h2]
theorem avs_r {ad : Nat → Nat} {m : Mem} {a k : Nat} (h1 : ¬ k = 15) (h2 : 17 ≤ k) : avs ad m a k = .inr (.inr (.inr (.inr (fun j => (m.2.2 a j).map ad)))) := by rw [avs, if_neg h1, if_pos h2]
theorem avs_j {ad : Nat → Nat} {m : Mem} {a : Nat} : avs ad m a 15 = .inr (.inl (m.2.1 a)) := by rw [avs, if_pos rfl]
theorem pw_aI {cy : Nat → ClassId} {w : Px} {ad : Nat → Nat} {n a ci k : Nat} {m : Mem} {v : Int32} (hk : w.1 a = ci) (hc : ¬ ci < 13) (h1 : ¬ ci = 15) (h2 : ¬ 17 ≤ ci) : (Pw cy w ad n m).set a (ad a, .inl (cy ci, w.2 a, .inl (upd (m.1 a) k v))) = Pw cy w ad n (uI m a k v) := by
  refine pw_set _ ?_ (fun b hb => ce_uI hb)
  rw [cE, hk, if_neg hc, avs_i h1 h2]
  have : (uI m a k v).1 a = upd (m.1 a) k v := by funext j; simp [uI, upd]
  rw [this]
theorem pw_aX {cy : Nat → ClassId} {w : Px} {ad : Nat → Nat} {n a ci : Nat} {m : Mem} {f : Nat → Int32} (hk : w.1 a = ci) (hc : ¬ ci < 13) (h1 : ¬ ci = 15) (h2 : ¬ 17 ≤ ci) : (Pw cy w ad n m).set a (ad a, .inl (cy ci, w.2 a, .inl f)) = Pw cy w ad n (uX m a f) := by
  refine pw_set _ ?_ (fun b hb => ce_uX hb)
  rw [cE, hk, if_neg hc, avs_i h1 h2]
  simp [uX]
theorem pw_aJ {cy : Nat → ClassId} {w : Px} {ad : Nat → Nat} {n a k : Nat} {m : Mem} {v : Int64} (hk : w.1 a = 15) : (Pw cy w ad n m).set a (ad a, .inl (cy 15, w.2 a, .inr (.inl (vp_updL (m.2.1 a) k v)))) = Pw cy w ad n (uJ m a k v) := by
  refine pw_set _ ?_ (fun b hb => ce_uJ hb)
  rw [cE, hk, if_neg (by decide), avs_j]
  have : (uJ m a k v).2.1 a = vp_updL (m.2.1 a) k v := by funext j; simp [uJ, vp_updL]
  rw [this]
theorem pw_aR {cy : Nat → ClassId} {w : Px} {ad : Nat → Nat} {n a ci k v : Nat} {m : Mem} (hk : w.1 a = ci) (hc : ¬ ci < 13) (h1 : ¬ ci = 15) (h2 : 17 ≤ ci) : (Pw cy w ad n m).set a (ad a, .inl (cy ci, w.2 a, .inr (.inr (.inr (.inr (va_up (fun j => (m.2.2 a j).map ad) k (some (ad v)))))))) = Pw cy w ad n (uR m a k (some v)) := by
  refine pw_set _ ?_ (fun b hb => ce_uR hb)
  rw [cE, hk, if_neg hc, avs_r h1 h2]
  have : (fun j => ((uR m a k (some v)).2.2 a j).map ad) = va_up (fun j => (m.2.2 a j).map ad) k (some (ad v)) := by
    funext j
    by_cases hj : j = k <;> simp [uR, va_up, hj]
  rw [this]
/-- which cells a method may change -/
def Ad (ad : Nat → Nat) (n sz : Nat) : Nat → Prop := fun q => (∃ i, i < n ∧ q = ad i) ∨ sz ≤ q
def tysW (cy : Nat → ClassId) : List (ClassId × FieldType) := [(cy 13, .byte), (cy 14, .int), (cy 15, .long), (cy 16, .boolean), (cy 17, .object "NobodySails$Row"), (cy 18, .object "NobodySails$World")]
def eastF : List Int32 := [0, 1, 1, 1, 0, -1, -1, -1]
def southF : List Int32 := [-1, -1, 0, 1, 1, 1, 0, -1]
def strT : List (String × Nat × String) := [("NobodySails$Reader", 87, "sea"), ("NobodySails$Reader", 106, "wind"), ("NobodySails$Reader", 198, "n"), ("NobodySails$Reader", 200, "ne"), ("NobodySails$Reader", 202, "e"), ("NobodySails$Reader", 204, "se"), ("NobodySails$Reader", 206, "s"), ("NobodySails$Reader", 208, "sw"), ("NobodySails$Reader", 210, "w"), ("NobodySails$Reader", 212, "nw"), ("NobodySails$Reader", 123, "land"), ("NobodySails$Reader", 134, "ship"), ("NobodySails$Reader", 142, "man"), ("NobodySails$Reader", 149, "sign"), ("NobodySails$Reader", 214, "standing"), ("NobodySails$Reader", 216, "gone"), ("NobodySails$Reader", 218, "left"), ("NobodySails$Reader", 220, "logged"), ("NobodySails$Reader", 222, "drifted"), ("NobodySails$Reader", 224, "told"), ("NobodySails$Reader", 226, "made"), ("NobodySails$Reader", 159, "story"), ("NobodySails$Reader", 167, "leaves"), ("NobodySails$Reader", 169, "bars")]
def lenS : List Nat := [3, 4, 1, 2, 1, 2, 1, 2, 1, 2, 4, 4, 3, 4, 8, 4, 4, 6, 7, 4, 4, 5, 6, 4]
def bytS : List (List Int32) := [[115, 101, 97], [119, 105, 110, 100], [110], [110, 101], [101], [115, 101], [115], [115, 119], [119], [110, 119], [108, 97, 110, 100], [115, 104, 105, 112], [109, 97, 110], [115, 105, 103, 110], [115, 116, 97, 110, 100, 105, 110, 103], [103, 111, 110, 101], [108, 101, 102, 116], [108, 111, 103, 103, 101, 100], [100, 114, 105, 102, 116, 101, 100], [116, 111, 108, 100], [109, 97, 100, 101], [115, 116, 111, 114, 121], [108, 101, 97, 118, 101, 115], [98, 97, 114, 115]]
def nestW : List (String × Nat × MethodName × String) := [("NobodySails", 17, ⟨"NobodySails$Tape", "<init>", "()V"⟩, "NobodySails"), ("NobodySails", 39, ⟨"NobodySails$Drift", "<init>", "()V"⟩, "NobodySails"), ("NobodySails", 46, ⟨"NobodySails$Asker", "<init>", "()V"⟩, "NobodySails"), ("NobodySails", 51, ⟨"NobodySails$World", "<init>", "()V"⟩, "NobodySails"), ("NobodySails$World", 9, ⟨"NobodySails$Waters", "<init>", "()V"⟩, "NobodySails"), ("NobodySails$World", 18, ⟨"NobodySails$Hull", "<init>", "()V"⟩, "NobodySails"), ("NobodySails$World", 25, ⟨"NobodySails$Crew", "<init>", "()V"⟩, "NobodySails"), ("NobodySails$World", 32, ⟨"NobodySails$Court", "<init>", "()V"⟩, "NobodySails"), ("NobodySails", 59, ⟨"NobodySails$Row", "<init>", "()V"⟩, "NobodySails"), ("NobodySails$Reader", 184, ⟨"NobodySails", "isWithin", "(III)Z"⟩, "NobodySails"), ("NobodySails$Waters", 44, ⟨"NobodySails", "isWithin", "(III)Z"⟩, "NobodySails"), ("NobodySails$Court", 44, ⟨"NobodySails", "isWithin", "(III)Z"⟩, "NobodySails"), ("NobodySails$Waters", 52, ⟨"NobodySails", "isIn", "(II)Z"⟩, "NobodySails"), ("NobodySails$Row", 22, ⟨"NobodySails", "isWithin", "(III)Z"⟩, "NobodySails"), ("NobodySails$Drift", 42, ⟨"NobodySails", "power", "(JI)J"⟩, "NobodySails"), ("NobodySails$Court", 48, ⟨"NobodySails", "isIn", "(II)Z"⟩, "NobodySails")]
/-- what stands outside of the pools: private members of nest mates, two static arrays, the String constants, two statics of the JDK -/
def EvC (z : Zx) (A : Nat → Prop) (U : State) : Prop :=
  (∀ q ∈ nestW, va_Nw (.methodLinkNest q.1 q.2.1 q.2.2.1 q.2.2.2) U) ∧
  (∃ t, va_Z "NobodySails$Waters" "EAST" "[I" (.ref t) A U U.heap ∧ va_T .int t 8 (fun j => .int (eastF.getD j 0)) A U U.heap) ∧
  (∃ t, va_Z "NobodySails$Waters" "SOUTH" "[I" (.ref t) A U U.heap ∧ va_T .int t 8 (fun j => .int (southF.getD j 0)) A U U.heap) ∧
  vk_S 24 lenS bytS z.2.2.2.1 z.2.2.2.2 A U U.heap ∧ (∀ i q, strT[i]? = some q → vk_R q.1 q.2.1 q.2.2 (z.2.2.2.1 i) U) ∧
  va_Z "java/lang/String" "COMPACT_STRINGS" "Z" (.int 1) A U U.heap ∧ va_Zq "jdk/internal/util/Preconditions" "SIOOBE_FORMATTER" "Ljava/util/function/BiFunction;" A U U.heap ∧ va_AO "NobodySails$Row" U ∧ va_AO "NobodySails$World" U
theorem EvC.mv {z : Zx} {A0 A1 : Nat → Prop} {s U : State} {H : Heap} {locs : List Loc} (h : EvC z A0 s) (hS : va_S A0 s.heap H locs) (hW : s.WarmedH U.vm) (hU : U.heap = H) (hA : ∀ q, A1 q → A0 q) : EvC z A1 U := by
  obtain ⟨h1, ⟨t2, h2, h2'⟩, ⟨t3, h3, h3'⟩, h4, h5, h6, h7, h8, h9⟩ := h
  have hq : ∀ a : Nat, a < s.heap.size → ¬ A0 a → U.heap[a]? = s.heap[a]? := fun a b c => by rw [hU]; exact hS.2.1 a b c
  have hal := hW.alike
  refine ⟨fun q hm => va_Nw.warmM hW (h1 q hm), ⟨t2, ((h2.kept hq).moved hal).narrow hA, ((h2'.kept hq).moved hal).narrow hA⟩, ⟨t3, ((h3.kept hq).moved hal).narrow hA, ((h3'.kept hq).moved hal).narrow hA⟩, ((h4.kept hq).moved hal).narrow hA, fun i q hi => (h5 i q hi).warm hW, ((h6.kept hq).moved hal).narrow hA, ((h7.kept hq).moved hal).narrow hA, h8.moved hal, h9.moved hal⟩
theorem EvC.blind {z : Zx} {A : Nat → Prop} {U : State} (h : EvC z A U) (g : JFrame) (mk : MethodId) (a : Array Value) : EvC z A (U.calling g mk a) := by
  obtain ⟨h1, ⟨t2, h2, h2'⟩, ⟨t3, h3, h3'⟩, h4, h5, h6, h7, h8, h9⟩ := h
  have hal : U.vm.Alike (U.calling g mk a).vm := Vm.Alike.refl U.vm
  exact ⟨fun q hm => va_Nw.same rfl rfl (h1 q hm), ⟨t2, va_Z.moved hal h2, va_T.moved hal h2'⟩, ⟨t3, va_Z.moved hal h3, va_T.moved hal h3'⟩, vk_S.moved hal h4, fun i q hi => vk_R.same (u := U) rfl (h5 i q hi), va_Z.moved hal h6, va_Zq.moved hal h7, va_AO.moved hal h8, va_AO.moved hal h9⟩
/-- the machine at a place of a method, the pool of n cells with the memory mm: it comes to the method's end -/
def G (z : Zx) (w : Px) (x : Cx) (nL cs ss : Nat) (ad : Nat → Nat) (n : Nat) (mm : Mem) (pc : Nat) (lv : List (Nat × Value)) (st : List Value) : Prop := match z, x with
  | (l, D, cy, _, _), (p, e, R, s, m, args, below, meth, c, Q, ad0, n0) => ∀ (H : Heap) (locs : List Loc) (ls : Array Slot), va_P D vwCl (Pw cy w ad n mm) H → va_D (Ad ad0 n0 s.heap.size) (Pw cy w ad n mm) → va_S (Ad ad0 n0 s.heap.size) s.heap H locs → lv_has ls nL lv → W p l e R s m args below meth c H locs cs ss Q (F0 m pc ls st)
def OK (z : Zx) (x : Cx) (cc : ByteArray) (own : String) (nL : Nat) (rm : Room) : Prop := match z, x with
  | (l, D, cy, aK, aV), (p, e, R, s, m, args, below, meth, c, Q, ad0, n0) => p.tables.exec = Jvm.exec ∧ c.code = cc ∧ c.maxLocals = nL ∧ s.vm.findClass own = some m.cls ∧ (∀ w ∈ GT, w.before args s = true) ∧ va_K D vwCl (tysW cy) s ∧ R = rm ∧ EvC (l, D, cy, aK, aV) (Ad ad0 n0 s.heap.size) s
section
variable {z : Zx} {w : Px} {x : Cx} {nL cs ss : Nat} {ad : Nat → Nat} {n : Nat} {mm : Mem} {pc : Nat} {lv : List (Nat × Value)} {st : List Value} {cc : ByteArray} {own : String} {rm : Room}
theorem g_iconst (X : OK z x cc own nL rm) {q : Int} {v : Int32} (hd : decode cc pc = .ok (.iconst q, 1)) (hv : Int32.ofInt q = v) (k : G z w x nL cs ss ad n mm (pc + 1) lv (.int v :: st)) : G z w x nL cs ss ad n mm pc lv (st) := by
  obtain ⟨l, D, cy, aK, aV⟩ := z
  obtain ⟨p, e, R, s, m, args, below, meth, c, Q, ad0, n0⟩ := x
  obtain ⟨hx, hb, hml, hown, hts, hK, hR, hE⟩ := X
  intro H locs ls hP hD hS hl
  exact lv_iconst hx hb hd hv (k H locs ls hP hD hS hl)
theorem g_bipush (X : OK z x cc own nL rm) {q : Int} {v : Int32} (hd : decode cc pc = .ok (.bipush q, 2)) (hv : (Int8.ofInt q).toInt32 = v) (k : G z w x nL cs ss ad n mm (pc + 2) lv (.int v :: st)) : G z w x nL cs ss ad n mm pc lv (st) := by
  obtain ⟨l, D, cy, aK, aV⟩ := z
  obtain ⟨p, e, R, s, m, args, below, meth, c, Q, ad0, n0⟩ := x
  obtain ⟨hx, hb, hml, hown, hts, hK, hR, hE⟩ := X
  intro H locs ls hP hD hS hl
  exact lv_bipush hx hb hd hv (k H locs ls hP hD hS hl)
theorem g_sipush (X : OK z x cc own nL rm) {q : Int} {v : Int32} (hd : decode cc pc = .ok (.sipush q, 3)) (hv : (Int16.ofInt q).toInt32 = v) (k : G z w x nL cs ss ad n mm (pc + 3) lv (.int v :: st)) : G z w x nL cs ss ad n mm pc lv (st) := by
  obtain ⟨l, D, cy, aK, aV⟩ := z
  obtain ⟨p, e, R, s, m, args, below, meth, c, Q, ad0, n0⟩ := x
  obtain ⟨hx, hb, hml, hown, hts, hK, hR, hE⟩ := X
  intro H locs ls hP hD hS hl
  exact lv_sipush hx hb hd hv (k H locs ls hP hD hS hl)
theorem g_lconst (X : OK z x cc own nL rm) {q : Fin 2} {v : Int64} (hd : decode cc pc = .ok (.lconst q, 1)) (hv : Int64.ofNat (q : Nat) = v) (k : G z w x nL cs ss ad n mm (pc + 1) lv (.long v :: st)) : G z w x nL cs ss ad n mm pc lv (st) := by
  obtain ⟨l, D, cy, aK, aV⟩ := z
  obtain ⟨p, e, R, s, m, args, below, meth, c, Q, ad0, n0⟩ := x
  obtain ⟨hx, hb, hml, hown, hts, hK, hR, hE⟩ := X
  intro H locs ls hP hD hS hl
  exact lv_lconst hx hb hd hv (k H locs ls hP hD hS hl)
theorem g_ldc (X : OK z x cc own nL rm) {q : Nat} {v : Int32} (hd : decode cc pc = .ok (.ldc q, 2)) (hc : Jvm.Cond.constant own q v ∈ GT) (k : G z w x nL cs ss ad n mm (pc + 2) lv (.int v :: st)) : G z w x nL cs ss ad n mm pc lv (st) := by
  obtain ⟨l, D, cy, aK, aV⟩ := z
  obtain ⟨p, e, R, s, m, args, below, meth, c, Q, ad0, n0⟩ := x
  obtain ⟨hx, hb, hml, hown, hts, hK, hR, hE⟩ := X
  intro H locs ls hP hD hS hl
  exact lv_ldc hx hb hown (hts _ hc) hd (k H locs ls hP hD hS hl)
theorem g_ldcw (X : OK z x cc own nL rm) {q : Nat} {v : Int32} (hd : decode cc pc = .ok (.ldc_w q, 3)) (hc : Jvm.Cond.constant own q v ∈ GT) (k : G z w x nL cs ss ad n mm (pc + 3) lv (.int v :: st)) : G z w x nL cs ss ad n mm pc lv (st) := by
  obtain ⟨l, D, cy, aK, aV⟩ := z
  obtain ⟨p, e, R, s, m, args, below, meth, c, Q, ad0, n0⟩ := x
  obtain ⟨hx, hb, hml, hown, hts, hK, hR, hE⟩ := X
  intro H locs ls hP hD hS hl
  exact lv_ldcw hx hb hown (hts _ hc) hd (k H locs ls hP hD hS hl)
theorem g_ldc2 (X : OK z x cc own nL rm) {q : Nat} {v : Int64} (hd : decode cc pc = .ok (.ldc2_w q, 3)) (hc : Jvm.Cond.constantLong own q v ∈ GT) (k : G z w x nL cs ss ad n mm (pc + 3) lv (.long v :: st)) : G z w x nL cs ss ad n mm pc lv (st) := by
  obtain ⟨l, D, cy, aK, aV⟩ := z
  obtain ⟨p, e, R, s, m, args, below, meth, c, Q, ad0, n0⟩ := x
  obtain ⟨hx, hb, hml, hown, hts, hK, hR, hE⟩ := X
  intro H locs ls hP hD hS hl
  exact lv_ldc2 hx hb hown (hts _ hc) hd (k H locs ls hP hD hS hl)
theorem g_iload_n (X : OK z x cc own nL rm) {q : Fin 4} {i : Nat} {v : Int32} (hd : decode cc pc = .ok (.iload_n q, 1)) (hq : (q : Nat) = i) (j : Nat) (hj : lv[j]? = some (i, .int v)) (k : G z w x nL cs ss ad n mm (pc + 1) lv (.int v :: st)) : G z w x nL cs ss ad n mm pc lv (st) := by
  obtain ⟨l, D, cy, aK, aV⟩ := z
  obtain ⟨p, e, R, s, m, args, below, meth, c, Q, ad0, n0⟩ := x
  obtain ⟨hx, hb, hml, hown, hts, hK, hR, hE⟩ := X
  intro H locs ls hP hD hS hl
  exact lv_iload_n hx hb hd hq (lv_at hl j hj) (k H locs ls hP hD hS hl)
theorem g_iload (X : OK z x cc own nL rm) {i : Nat} {v : Int32} (hd : decode cc pc = .ok (.iload i, 2)) (j : Nat) (hj : lv[j]? = some (i, .int v)) (k : G z w x nL cs ss ad n mm (pc + 2) lv (.int v :: st)) : G z w x nL cs ss ad n mm pc lv (st) := by
  obtain ⟨l, D, cy, aK, aV⟩ := z
  obtain ⟨p, e, R, s, m, args, below, meth, c, Q, ad0, n0⟩ := x
  obtain ⟨hx, hb, hml, hown, hts, hK, hR, hE⟩ := X
  intro H locs ls hP hD hS hl
  exact lv_iload hx hb hd (lv_at hl j hj) (k H locs ls hP hD hS hl)
theorem g_istore_n (X : OK z x cc own nL rm) {q : Fin 4} {i : Nat} {v : Int32} {lv2 : List (Nat × Value)} (hd : decode cc pc = .ok (.istore_n q, 1)) (hq : (q : Nat) = i) (hi : i < nL) (ks : List Nat) (hl2 : lv_pick ((i, Value.int v) :: lv.filter (fun q => !(q.1 == i) && !(q.1 + 1 == i && q.2.category == 2))) ks = lv2) (k : G z w x nL cs ss ad n mm (pc + 1) lv2 st) : G z w x nL cs ss ad n mm pc lv (.int v :: st) := by
  obtain ⟨l, D, cy, aK, aV⟩ := z
  obtain ⟨p, e, R, s, m, args, below, meth, c, Q, ad0, n0⟩ := x
  obtain ⟨hx, hb, hml, hown, hts, hK, hR, hE⟩ := X
  intro H locs ls hP hD hS hl
  exact lv_istore_n hx hb hd hq hl hi rfl (fun ls2 hl3 => k H locs ls2 hP hD hS (lv_sub hl3 ks hl2))
theorem g_istore (X : OK z x cc own nL rm) {i : Nat} {v : Int32} {lv2 : List (Nat × Value)} (hd : decode cc pc = .ok (.istore i, 2)) (hi : i < nL) (ks : List Nat) (hl2 : lv_pick ((i, Value.int v) :: lv.filter (fun q => !(q.1 == i) && !(q.1 + 1 == i && q.2.category == 2))) ks = lv2) (k : G z w x nL cs ss ad n mm (pc + 2) lv2 st) : G z w x nL cs ss ad n mm pc lv (.int v :: st) := by
  obtain ⟨l, D, cy, aK, aV⟩ := z
  obtain ⟨p, e, R, s, m, args, below, meth, c, Q, ad0, n0⟩ := x
  obtain ⟨hx, hb, hml, hown, hts, hK, hR, hE⟩ := X
  intro H locs ls hP hD hS hl
  exact lv_istore hx hb hd hl hi rfl (fun ls2 hl3 => k H locs ls2 hP hD hS (lv_sub hl3 ks hl2))
theorem g_lload_n (X : OK z x cc own nL rm) {q : Fin 4} {i : Nat} {v : Int64} (hd : decode cc pc = .ok (.lload_n q, 1)) (hq : (q : Nat) = i) (j : Nat) (hj : lv[j]? = some (i, .long v)) (k : G z w x nL cs ss ad n mm (pc + 1) lv (.long v :: st)) : G z w x nL cs ss ad n mm pc lv (st) := by
  obtain ⟨l, D, cy, aK, aV⟩ := z
  obtain ⟨p, e, R, s, m, args, below, meth, c, Q, ad0, n0⟩ := x
  obtain ⟨hx, hb, hml, hown, hts, hK, hR, hE⟩ := X
  intro H locs ls hP hD hS hl
  exact lv_lload_n hx hb hd hq (lv_at hl j hj) (k H locs ls hP hD hS hl)
theorem g_lload (X : OK z x cc own nL rm) {i : Nat} {v : Int64} (hd : decode cc pc = .ok (.lload i, 2)) (j : Nat) (hj : lv[j]? = some (i, .long v)) (k : G z w x nL cs ss ad n mm (pc + 2) lv (.long v :: st)) : G z w x nL cs ss ad n mm pc lv (st) := by
  obtain ⟨l, D, cy, aK, aV⟩ := z
  obtain ⟨p, e, R, s, m, args, below, meth, c, Q, ad0, n0⟩ := x
  obtain ⟨hx, hb, hml, hown, hts, hK, hR, hE⟩ := X
  intro H locs ls hP hD hS hl
  exact lv_lload hx hb hd (lv_at hl j hj) (k H locs ls hP hD hS hl)
theorem g_lstore_n (X : OK z x cc own nL rm) {q : Fin 4} {i : Nat} {v : Int64} {lv2 : List (Nat × Value)} (hd : decode cc pc = .ok (.lstore_n q, 1)) (hq : (q : Nat) = i) (hi : i + 1 < nL) (ks : List Nat) (hl2 : lv_pick ((i, Value.long v) :: lv.filter (fun q => !(q.1 == i) && (!(q.1 == i + 1) && !(q.1 + 1 == i && q.2.category == 2)))) ks = lv2) (k : G z w x nL cs ss ad n mm (pc + 1) lv2 st) : G z w x nL cs ss ad n mm pc lv (.long v :: st) := by
  obtain ⟨l, D, cy, aK, aV⟩ := z
  obtain ⟨p, e, R, s, m, args, below, meth, c, Q, ad0, n0⟩ := x
  obtain ⟨hx, hb, hml, hown, hts, hK, hR, hE⟩ := X
  intro H locs ls hP hD hS hl
  exact lv_lstore_n hx hb hd hq hl hi rfl (fun ls2 hl3 => k H locs ls2 hP hD hS (lv_sub hl3 ks hl2))
theorem g_lstore (X : OK z x cc own nL rm) {i : Nat} {v : Int64} {lv2 : List (Nat × Value)} (hd : decode cc pc = .ok (.lstore i, 2)) (hi : i + 1 < nL) (ks : List Nat) (hl2 : lv_pick ((i, Value.long v) :: lv.filter (fun q => !(q.1 == i) && (!(q.1 == i + 1) && !(q.1 + 1 == i && q.2.category == 2)))) ks = lv2) (k : G z w x nL cs ss ad n mm (pc + 2) lv2 st) : G z w x nL cs ss ad n mm pc lv (.long v :: st) := by
  obtain ⟨l, D, cy, aK, aV⟩ := z
  obtain ⟨p, e, R, s, m, args, below, meth, c, Q, ad0, n0⟩ := x
  obtain ⟨hx, hb, hml, hown, hts, hK, hR, hE⟩ := X
  intro H locs ls hP hD hS hl
  exact lv_lstore hx hb hd hl hi rfl (fun ls2 hl3 => k H locs ls2 hP hD hS (lv_sub hl3 ks hl2))
theorem g_aload_n (X : OK z x cc own nL rm) {q : Fin 4} {i : Nat} {v : Nat} (hd : decode cc pc = .ok (.aload_n q, 1)) (hq : (q : Nat) = i) (j : Nat) (hj : lv[j]? = some (i, .ref v)) (k : G z w x nL cs ss ad n mm (pc + 1) lv (.ref v :: st)) : G z w x nL cs ss ad n mm pc lv (st) := by
  obtain ⟨l, D, cy, aK, aV⟩ := z
  obtain ⟨p, e, R, s, m, args, below, meth, c, Q, ad0, n0⟩ := x
  obtain ⟨hx, hb, hml, hown, hts, hK, hR, hE⟩ := X
  intro H locs ls hP hD hS hl
  exact lv_aload_n hx hb hd hq (lv_at hl j hj) (k H locs ls hP hD hS hl)
theorem g_aload (X : OK z x cc own nL rm) {i : Nat} {v : Nat} (hd : decode cc pc = .ok (.aload i, 2)) (j : Nat) (hj : lv[j]? = some (i, .ref v)) (k : G z w x nL cs ss ad n mm (pc + 2) lv (.ref v :: st)) : G z w x nL cs ss ad n mm pc lv (st) := by
  obtain ⟨l, D, cy, aK, aV⟩ := z
  obtain ⟨p, e, R, s, m, args, below, meth, c, Q, ad0, n0⟩ := x
  obtain ⟨hx, hb, hml, hown, hts, hK, hR, hE⟩ := X
  intro H locs ls hP hD hS hl
  exact lv_aload hx hb hd (lv_at hl j hj) (k H locs ls hP hD hS hl)
theorem g_astore_n (X : OK z x cc own nL rm) {q : Fin 4} {i : Nat} {v : Nat} {lv2 : List (Nat × Value)} (hd : decode cc pc = .ok (.astore_n q, 1)) (hq : (q : Nat) = i) (hi : i < nL) (ks : List Nat) (hl2 : lv_pick ((i, Value.ref v) :: lv.filter (fun q => !(q.1 == i) && !(q.1 + 1 == i && q.2.category == 2))) ks = lv2) (k : G z w x nL cs ss ad n mm (pc + 1) lv2 st) : G z w x nL cs ss ad n mm pc lv (.ref v :: st) := by
  obtain ⟨l, D, cy, aK, aV⟩ := z
  obtain ⟨p, e, R, s, m, args, below, meth, c, Q, ad0, n0⟩ := x
  obtain ⟨hx, hb, hml, hown, hts, hK, hR, hE⟩ := X
  intro H locs ls hP hD hS hl
  exact lv_astore_n hx hb hd hq hl hi rfl (fun ls2 hl3 => k H locs ls2 hP hD hS (lv_sub hl3 ks hl2))
theorem g_astore (X : OK z x cc own nL rm) {i : Nat} {v : Nat} {lv2 : List (Nat × Value)} (hd : decode cc pc = .ok (.astore i, 2)) (hi : i < nL) (ks : List Nat) (hl2 : lv_pick ((i, Value.ref v) :: lv.filter (fun q => !(q.1 == i) && !(q.1 + 1 == i && q.2.category == 2))) ks = lv2) (k : G z w x nL cs ss ad n mm (pc + 2) lv2 st) : G z w x nL cs ss ad n mm pc lv (.ref v :: st) := by
  obtain ⟨l, D, cy, aK, aV⟩ := z
  obtain ⟨p, e, R, s, m, args, below, meth, c, Q, ad0, n0⟩ := x
  obtain ⟨hx, hb, hml, hown, hts, hK, hR, hE⟩ := X
  intro H locs ls hP hD hS hl
  exact lv_astore hx hb hd hl hi rfl (fun ls2 hl3 => k H locs ls2 hP hD hS (lv_sub hl3 ks hl2))
theorem g_iinc (X : OK z x cc own nL rm) {q : Int} {i : Nat} {v v2 : Int32} {lv2 : List (Nat × Value)} (hd : decode cc pc = .ok (.iinc i q, 3)) (j : Nat) (hj : lv[j]? = some (i, .int v)) (hv : v + Int32.ofInt q = v2) (hi : i < nL) (ks : List Nat) (hl2 : lv_pick ((i, Value.int v2) :: lv.filter (fun q => !(q.1 == i) && !(q.1 + 1 == i && q.2.category == 2))) ks = lv2) (k : G z w x nL cs ss ad n mm (pc + 3) lv2 st) : G z w x nL cs ss ad n mm pc lv st := by
  obtain ⟨l, D, cy, aK, aV⟩ := z
  obtain ⟨p, e, R, s, m, args, below, meth, c, Q, ad0, n0⟩ := x
  obtain ⟨hx, hb, hml, hown, hts, hK, hR, hE⟩ := X
  intro H locs ls hP hD hS hl
  exact lv_iinc hx hb hd hl hj hv hi rfl (fun ls2 hl3 => k H locs ls2 hP hD hS (lv_sub hl3 ks hl2))
theorem g_iadd (X : OK z x cc own nL rm) {a b : Int32} (hd : decode cc pc = .ok (.iadd, 1)) (k : G z w x nL cs ss ad n mm (pc + 1) lv (.int (a + b) :: st)) : G z w x nL cs ss ad n mm pc lv (.int b :: .int a :: st) := by
  obtain ⟨l, D, cy, aK, aV⟩ := z
  obtain ⟨p, e, R, s, m, args, below, meth, c, Q, ad0, n0⟩ := x
  obtain ⟨hx, hb, hml, hown, hts, hK, hR, hE⟩ := X
  intro H locs ls hP hD hS hl
  exact lv_iadd hx hb hd (k H locs ls hP hD hS hl)
theorem g_isub (X : OK z x cc own nL rm) {a b : Int32} (hd : decode cc pc = .ok (.isub, 1)) (k : G z w x nL cs ss ad n mm (pc + 1) lv (.int (a - b) :: st)) : G z w x nL cs ss ad n mm pc lv (.int b :: .int a :: st) := by
  obtain ⟨l, D, cy, aK, aV⟩ := z
  obtain ⟨p, e, R, s, m, args, below, meth, c, Q, ad0, n0⟩ := x
  obtain ⟨hx, hb, hml, hown, hts, hK, hR, hE⟩ := X
  intro H locs ls hP hD hS hl
  exact lv_isub hx hb hd (k H locs ls hP hD hS hl)
theorem g_imul (X : OK z x cc own nL rm) {a b : Int32} (hd : decode cc pc = .ok (.imul, 1)) (k : G z w x nL cs ss ad n mm (pc + 1) lv (.int (a * b) :: st)) : G z w x nL cs ss ad n mm pc lv (.int b :: .int a :: st) := by
  obtain ⟨l, D, cy, aK, aV⟩ := z
  obtain ⟨p, e, R, s, m, args, below, meth, c, Q, ad0, n0⟩ := x
  obtain ⟨hx, hb, hml, hown, hts, hK, hR, hE⟩ := X
  intro H locs ls hP hD hS hl
  exact lv_imul hx hb hd (k H locs ls hP hD hS hl)
theorem g_iand (X : OK z x cc own nL rm) {a b : Int32} (hd : decode cc pc = .ok (.iand, 1)) (k : G z w x nL cs ss ad n mm (pc + 1) lv (.int (a &&& b) :: st)) : G z w x nL cs ss ad n mm pc lv (.int b :: .int a :: st) := by
  obtain ⟨l, D, cy, aK, aV⟩ := z
  obtain ⟨p, e, R, s, m, args, below, meth, c, Q, ad0, n0⟩ := x
  obtain ⟨hx, hb, hml, hown, hts, hK, hR, hE⟩ := X
  intro H locs ls hP hD hS hl
  exact lv_iand hx hb hd (k H locs ls hP hD hS hl)
theorem g_ior (X : OK z x cc own nL rm) {a b : Int32} (hd : decode cc pc = .ok (.ior, 1)) (k : G z w x nL cs ss ad n mm (pc + 1) lv (.int (a ||| b) :: st)) : G z w x nL cs ss ad n mm pc lv (.int b :: .int a :: st) := by
  obtain ⟨l, D, cy, aK, aV⟩ := z
  obtain ⟨p, e, R, s, m, args, below, meth, c, Q, ad0, n0⟩ := x
  obtain ⟨hx, hb, hml, hown, hts, hK, hR, hE⟩ := X
  intro H locs ls hP hD hS hl
  exact lv_ior hx hb hd (k H locs ls hP hD hS hl)
theorem g_ixor (X : OK z x cc own nL rm) {a b : Int32} (hd : decode cc pc = .ok (.ixor, 1)) (k : G z w x nL cs ss ad n mm (pc + 1) lv (.int (a ^^^ b) :: st)) : G z w x nL cs ss ad n mm pc lv (.int b :: .int a :: st) := by
  obtain ⟨l, D, cy, aK, aV⟩ := z
  obtain ⟨p, e, R, s, m, args, below, meth, c, Q, ad0, n0⟩ := x
  obtain ⟨hx, hb, hml, hown, hts, hK, hR, hE⟩ := X
  intro H locs ls hP hD hS hl
  exact lv_ixor hx hb hd (k H locs ls hP hD hS hl)
theorem g_ishl (X : OK z x cc own nL rm) {a b : Int32} (hd : decode cc pc = .ok (.ishl, 1)) (k : G z w x nL cs ss ad n mm (pc + 1) lv (.int (a <<< (b &&& 31)) :: st)) : G z w x nL cs ss ad n mm pc lv (.int b :: .int a :: st) := by
  obtain ⟨l, D, cy, aK, aV⟩ := z
  obtain ⟨p, e, R, s, m, args, below, meth, c, Q, ad0, n0⟩ := x
  obtain ⟨hx, hb, hml, hown, hts, hK, hR, hE⟩ := X
  intro H locs ls hP hD hS hl
  exact lv_ishl hx hb hd (k H locs ls hP hD hS hl)
theorem g_ishr (X : OK z x cc own nL rm) {a b : Int32} (hd : decode cc pc = .ok (.ishr, 1)) (k : G z w x nL cs ss ad n mm (pc + 1) lv (.int (a >>> (b &&& 31)) :: st)) : G z w x nL cs ss ad n mm pc lv (.int b :: .int a :: st) := by
  obtain ⟨l, D, cy, aK, aV⟩ := z
  obtain ⟨p, e, R, s, m, args, below, meth, c, Q, ad0, n0⟩ := x
  obtain ⟨hx, hb, hml, hown, hts, hK, hR, hE⟩ := X
  intro H locs ls hP hD hS hl
  exact lv_ishr hx hb hd (k H locs ls hP hD hS hl)
theorem g_idiv (X : OK z x cc own nL rm) {a b : Int32} (hd : decode cc pc = .ok (.idiv, 1)) (hne : ¬ b = 0) (k : G z w x nL cs ss ad n mm (pc + 1) lv (.int (a / b) :: st)) : G z w x nL cs ss ad n mm pc lv (.int b :: .int a :: st) := by
  obtain ⟨l, D, cy, aK, aV⟩ := z
  obtain ⟨p, e, R, s, m, args, below, meth, c, Q, ad0, n0⟩ := x
  obtain ⟨hx, hb, hml, hown, hts, hK, hR, hE⟩ := X
  intro H locs ls hP hD hS hl
  exact lv_idiv hx hb hd hne (k H locs ls hP hD hS hl)
theorem g_irem (X : OK z x cc own nL rm) {a b : Int32} (hd : decode cc pc = .ok (.irem, 1)) (hne : ¬ b = 0) (k : G z w x nL cs ss ad n mm (pc + 1) lv (.int (a - a / b * b) :: st)) : G z w x nL cs ss ad n mm pc lv (.int b :: .int a :: st) := by
  obtain ⟨l, D, cy, aK, aV⟩ := z
  obtain ⟨p, e, R, s, m, args, below, meth, c, Q, ad0, n0⟩ := x
  obtain ⟨hx, hb, hml, hown, hts, hK, hR, hE⟩ := X
  intro H locs ls hP hD hS hl
  exact lv_irem hx hb hd hne (k H locs ls hP hD hS hl)
theorem g_iushr (X : OK z x cc own nL rm) {a b : Int32} (hd : decode cc pc = .ok (.iushr, 1)) (k : G z w x nL cs ss ad n mm (pc + 1) lv (.int ((a.toUInt32 >>> (b.toUInt32 &&& Int32.toUInt32 31)).toInt32) :: st)) : G z w x nL cs ss ad n mm pc lv (.int b :: .int a :: st) := by
  obtain ⟨l, D, cy, aK, aV⟩ := z
  obtain ⟨p, e, R, s, m, args, below, meth, c, Q, ad0, n0⟩ := x
  obtain ⟨hx, hb, hml, hown, hts, hK, hR, hE⟩ := X
  intro H locs ls hP hD hS hl
  exact lv_iushr hx hb hd rfl (k H locs ls hP hD hS hl)
theorem g_ineg (X : OK z x cc own nL rm) {a : Int32} (hd : decode cc pc = .ok (.ineg, 1)) (k : G z w x nL cs ss ad n mm (pc + 1) lv (.int (-a) :: st)) : G z w x nL cs ss ad n mm pc lv (.int a :: st) := by
  obtain ⟨l, D, cy, aK, aV⟩ := z
  obtain ⟨p, e, R, s, m, args, below, meth, c, Q, ad0, n0⟩ := x
  obtain ⟨hx, hb, hml, hown, hts, hK, hR, hE⟩ := X
  intro H locs ls hP hD hS hl
  exact lv_ineg hx hb hd (k H locs ls hP hD hS hl)
theorem g_ladd (X : OK z x cc own nL rm) {a b : Int64} (hd : decode cc pc = .ok (.ladd, 1)) (k : G z w x nL cs ss ad n mm (pc + 1) lv (.long (a + b) :: st)) : G z w x nL cs ss ad n mm pc lv (.long b :: .long a :: st) := by
  obtain ⟨l, D, cy, aK, aV⟩ := z
  obtain ⟨p, e, R, s, m, args, below, meth, c, Q, ad0, n0⟩ := x
  obtain ⟨hx, hb, hml, hown, hts, hK, hR, hE⟩ := X
  intro H locs ls hP hD hS hl
  exact lv_ladd hx hb hd (k H locs ls hP hD hS hl)
theorem g_lsub (X : OK z x cc own nL rm) {a b : Int64} (hd : decode cc pc = .ok (.lsub, 1)) (k : G z w x nL cs ss ad n mm (pc + 1) lv (.long (a - b) :: st)) : G z w x nL cs ss ad n mm pc lv (.long b :: .long a :: st) := by
  obtain ⟨l, D, cy, aK, aV⟩ := z
  obtain ⟨p, e, R, s, m, args, below, meth, c, Q, ad0, n0⟩ := x
  obtain ⟨hx, hb, hml, hown, hts, hK, hR, hE⟩ := X
  intro H locs ls hP hD hS hl
  exact lv_lsub hx hb hd (k H locs ls hP hD hS hl)
theorem g_lmul (X : OK z x cc own nL rm) {a b : Int64} (hd : decode cc pc = .ok (.lmul, 1)) (k : G z w x nL cs ss ad n mm (pc + 1) lv (.long (a * b) :: st)) : G z w x nL cs ss ad n mm pc lv (.long b :: .long a :: st) := by
  obtain ⟨l, D, cy, aK, aV⟩ := z
  obtain ⟨p, e, R, s, m, args, below, meth, c, Q, ad0, n0⟩ := x
  obtain ⟨hx, hb, hml, hown, hts, hK, hR, hE⟩ := X
  intro H locs ls hP hD hS hl
  exact lv_lmul hx hb hd (k H locs ls hP hD hS hl)
theorem g_land (X : OK z x cc own nL rm) {a b : Int64} (hd : decode cc pc = .ok (.land, 1)) (k : G z w x nL cs ss ad n mm (pc + 1) lv (.long (a &&& b) :: st)) : G z w x nL cs ss ad n mm pc lv (.long b :: .long a :: st) := by
  obtain ⟨l, D, cy, aK, aV⟩ := z
  obtain ⟨p, e, R, s, m, args, below, meth, c, Q, ad0, n0⟩ := x
  obtain ⟨hx, hb, hml, hown, hts, hK, hR, hE⟩ := X
  intro H locs ls hP hD hS hl
  exact lv_land hx hb hd (k H locs ls hP hD hS hl)
theorem g_lor (X : OK z x cc own nL rm) {a b : Int64} (hd : decode cc pc = .ok (.lor, 1)) (k : G z w x nL cs ss ad n mm (pc + 1) lv (.long (a ||| b) :: st)) : G z w x nL cs ss ad n mm pc lv (.long b :: .long a :: st) := by
  obtain ⟨l, D, cy, aK, aV⟩ := z
  obtain ⟨p, e, R, s, m, args, below, meth, c, Q, ad0, n0⟩ := x
  obtain ⟨hx, hb, hml, hown, hts, hK, hR, hE⟩ := X
  intro H locs ls hP hD hS hl
  exact lv_lor hx hb hd (k H locs ls hP hD hS hl)
theorem g_ldiv (X : OK z x cc own nL rm) {a b : Int64} (hd : decode cc pc = .ok (.ldiv, 1)) (hne : ¬ b = 0) (k : G z w x nL cs ss ad n mm (pc + 1) lv (.long (a / b) :: st)) : G z w x nL cs ss ad n mm pc lv (.long b :: .long a :: st) := by
  obtain ⟨l, D, cy, aK, aV⟩ := z
  obtain ⟨p, e, R, s, m, args, below, meth, c, Q, ad0, n0⟩ := x
  obtain ⟨hx, hb, hml, hown, hts, hK, hR, hE⟩ := X
  intro H locs ls hP hD hS hl
  exact lv_ldiv hx hb hd hne (k H locs ls hP hD hS hl)
theorem g_lrem (X : OK z x cc own nL rm) {a b : Int64} (hd : decode cc pc = .ok (.lrem, 1)) (hne : ¬ b = 0) (k : G z w x nL cs ss ad n mm (pc + 1) lv (.long (a - a / b * b) :: st)) : G z w x nL cs ss ad n mm pc lv (.long b :: .long a :: st) := by
  obtain ⟨l, D, cy, aK, aV⟩ := z
  obtain ⟨p, e, R, s, m, args, below, meth, c, Q, ad0, n0⟩ := x
  obtain ⟨hx, hb, hml, hown, hts, hK, hR, hE⟩ := X
  intro H locs ls hP hD hS hl
  exact lv_lrem hx hb hd hne (k H locs ls hP hD hS hl)
theorem g_lneg (X : OK z x cc own nL rm) {a : Int64} (hd : decode cc pc = .ok (.lneg, 1)) (k : G z w x nL cs ss ad n mm (pc + 1) lv (.long (-a) :: st)) : G z w x nL cs ss ad n mm pc lv (.long a :: st) := by
  obtain ⟨l, D, cy, aK, aV⟩ := z
  obtain ⟨p, e, R, s, m, args, below, meth, c, Q, ad0, n0⟩ := x
  obtain ⟨hx, hb, hml, hown, hts, hK, hR, hE⟩ := X
  intro H locs ls hP hD hS hl
  exact lv_lneg hx hb hd (k H locs ls hP hD hS hl)
theorem g_lshl (X : OK z x cc own nL rm) {a : Int64} {b : Int32} (hd : decode cc pc = .ok (.lshl, 1)) (k : G z w x nL cs ss ad n mm (pc + 1) lv (.long (a <<< (b.toInt64 &&& 63)) :: st)) : G z w x nL cs ss ad n mm pc lv (.int b :: .long a :: st) := by
  obtain ⟨l, D, cy, aK, aV⟩ := z
  obtain ⟨p, e, R, s, m, args, below, meth, c, Q, ad0, n0⟩ := x
  obtain ⟨hx, hb, hml, hown, hts, hK, hR, hE⟩ := X
  intro H locs ls hP hD hS hl
  exact lv_lshl hx hb hd rfl (k H locs ls hP hD hS hl)
theorem g_lshr (X : OK z x cc own nL rm) {a : Int64} {b : Int32} (hd : decode cc pc = .ok (.lshr, 1)) (k : G z w x nL cs ss ad n mm (pc + 1) lv (.long (a >>> (b.toInt64 &&& 63)) :: st)) : G z w x nL cs ss ad n mm pc lv (.int b :: .long a :: st) := by
  obtain ⟨l, D, cy, aK, aV⟩ := z
  obtain ⟨p, e, R, s, m, args, below, meth, c, Q, ad0, n0⟩ := x
  obtain ⟨hx, hb, hml, hown, hts, hK, hR, hE⟩ := X
  intro H locs ls hP hD hS hl
  exact lv_lshr hx hb hd rfl (k H locs ls hP hD hS hl)
theorem g_lushr (X : OK z x cc own nL rm) {a : Int64} {b : Int32} (hd : decode cc pc = .ok (.lushr, 1)) (k : G z w x nL cs ss ad n mm (pc + 1) lv (.long ((a.toUInt64 >>> (b.toInt64.toUInt64 &&& Int64.toUInt64 63)).toInt64) :: st)) : G z w x nL cs ss ad n mm pc lv (.int b :: .long a :: st) := by
  obtain ⟨l, D, cy, aK, aV⟩ := z
  obtain ⟨p, e, R, s, m, args, below, meth, c, Q, ad0, n0⟩ := x
  obtain ⟨hx, hb, hml, hown, hts, hK, hR, hE⟩ := X
  intro H locs ls hP hD hS hl
  exact lv_lushr hx hb hd rfl (k H locs ls hP hD hS hl)
theorem g_i2l (X : OK z x cc own nL rm) {a : Int32} (hd : decode cc pc = .ok (.i2l, 1)) (k : G z w x nL cs ss ad n mm (pc + 1) lv (.long a.toInt64 :: st)) : G z w x nL cs ss ad n mm pc lv (.int a :: st) := by
  obtain ⟨l, D, cy, aK, aV⟩ := z
  obtain ⟨p, e, R, s, m, args, below, meth, c, Q, ad0, n0⟩ := x
  obtain ⟨hx, hb, hml, hown, hts, hK, hR, hE⟩ := X
  intro H locs ls hP hD hS hl
  exact lv_i2l hx hb hd rfl (k H locs ls hP hD hS hl)
theorem g_l2i (X : OK z x cc own nL rm) {a : Int64} (hd : decode cc pc = .ok (.l2i, 1)) (k : G z w x nL cs ss ad n mm (pc + 1) lv (.int a.toInt32 :: st)) : G z w x nL cs ss ad n mm pc lv (.long a :: st) := by
  obtain ⟨l, D, cy, aK, aV⟩ := z
  obtain ⟨p, e, R, s, m, args, below, meth, c, Q, ad0, n0⟩ := x
  obtain ⟨hx, hb, hml, hown, hts, hK, hR, hE⟩ := X
  intro H locs ls hP hD hS hl
  exact lv_l2i hx hb hd rfl (k H locs ls hP hD hS hl)
theorem g_i2b (X : OK z x cc own nL rm) {a : Int32} (hd : decode cc pc = .ok (.i2b, 1)) (k : G z w x nL cs ss ad n mm (pc + 1) lv (.int a.toInt8.toInt32 :: st)) : G z w x nL cs ss ad n mm pc lv (.int a :: st) := by
  obtain ⟨l, D, cy, aK, aV⟩ := z
  obtain ⟨p, e, R, s, m, args, below, meth, c, Q, ad0, n0⟩ := x
  obtain ⟨hx, hb, hml, hown, hts, hK, hR, hE⟩ := X
  intro H locs ls hP hD hS hl
  exact lv_i2b hx hb hd rfl (k H locs ls hP hD hS hl)
theorem g_i2s (X : OK z x cc own nL rm) {a : Int32} (hd : decode cc pc = .ok (.i2s, 1)) (k : G z w x nL cs ss ad n mm (pc + 1) lv (.int a.toInt16.toInt32 :: st)) : G z w x nL cs ss ad n mm pc lv (.int a :: st) := by
  obtain ⟨l, D, cy, aK, aV⟩ := z
  obtain ⟨p, e, R, s, m, args, below, meth, c, Q, ad0, n0⟩ := x
  obtain ⟨hx, hb, hml, hown, hts, hK, hR, hE⟩ := X
  intro H locs ls hP hD hS hl
  exact lv_i2s hx hb hd rfl (k H locs ls hP hD hS hl)
theorem g_i2c (X : OK z x cc own nL rm) {a : Int32} (hd : decode cc pc = .ok (.i2c, 1)) (k : G z w x nL cs ss ad n mm (pc + 1) lv (.int ((a.toUInt32 % 65536).toInt32) :: st)) : G z w x nL cs ss ad n mm pc lv (.int a :: st) := by
  obtain ⟨l, D, cy, aK, aV⟩ := z
  obtain ⟨p, e, R, s, m, args, below, meth, c, Q, ad0, n0⟩ := x
  obtain ⟨hx, hb, hml, hown, hts, hK, hR, hE⟩ := X
  intro H locs ls hP hD hS hl
  exact lv_i2c hx hb hd rfl (k H locs ls hP hD hS hl)
theorem g_dup (X : OK z x cc own nL rm) {va : Value} (hd : decode cc pc = .ok (.dup, 1)) (hv : va.category = 1) (k : G z w x nL cs ss ad n mm (pc + 1) lv (va :: va :: st)) : G z w x nL cs ss ad n mm pc lv (va :: st) := by
  obtain ⟨l, D, cy, aK, aV⟩ := z
  obtain ⟨p, e, R, s, m, args, below, meth, c, Q, ad0, n0⟩ := x
  obtain ⟨hx, hb, hml, hown, hts, hK, hR, hE⟩ := X
  intro H locs ls hP hD hS hl
  exact lv_dup hx hb hd hv (k H locs ls hP hD hS hl)
theorem g_pop (X : OK z x cc own nL rm) {va : Value} (hd : decode cc pc = .ok (.pop, 1)) (hv : va.category = 1) (k : G z w x nL cs ss ad n mm (pc + 1) lv (st)) : G z w x nL cs ss ad n mm pc lv (va :: st) := by
  obtain ⟨l, D, cy, aK, aV⟩ := z
  obtain ⟨p, e, R, s, m, args, below, meth, c, Q, ad0, n0⟩ := x
  obtain ⟨hx, hb, hml, hown, hts, hK, hR, hE⟩ := X
  intro H locs ls hP hD hS hl
  exact lv_pop hx hb hd hv (k H locs ls hP hD hS hl)
theorem g_dup2_11 (X : OK z x cc own nL rm) {va vb : Value} (hd : decode cc pc = .ok (.dup2, 1)) (hv : va.category = 1) (hv2 : vb.category = 1) (k : G z w x nL cs ss ad n mm (pc + 1) lv (va :: vb :: va :: vb :: st)) : G z w x nL cs ss ad n mm pc lv (va :: vb :: st) := by
  obtain ⟨l, D, cy, aK, aV⟩ := z
  obtain ⟨p, e, R, s, m, args, below, meth, c, Q, ad0, n0⟩ := x
  obtain ⟨hx, hb, hml, hown, hts, hK, hR, hE⟩ := X
  intro H locs ls hP hD hS hl
  exact lv_dup2_11 hx hb hd hv hv2 (k H locs ls hP hD hS hl)
theorem g_if_eq (X : OK z x cc own nL rm) {a : Int32} {off : Int} {tgt : Nat} (hd : decode cc pc = .ok (.ifCond .eq off, 3)) (ht : (pc : Int) + off = (tgt : Int)) (kt : a = 0 → G z w x nL cs ss ad n mm tgt lv st) (kf : ¬ a = 0 → G z w x nL cs ss ad n mm (pc + 3) lv st) : G z w x nL cs ss ad n mm pc lv (.int a :: st) := by
  obtain ⟨l, D, cy, aK, aV⟩ := z
  obtain ⟨p, e, R, s, m, args, below, meth, c, Q, ad0, n0⟩ := x
  obtain ⟨hx, hb, hml, hown, hts, hK, hR, hE⟩ := X
  intro H locs ls hP hD hS hl
  exact lv_if_eq hx hb hd ht (fun h => kt h H locs ls hP hD hS hl) (fun h => kf h H locs ls hP hD hS hl)
theorem g_if_ne (X : OK z x cc own nL rm) {a : Int32} {off : Int} {tgt : Nat} (hd : decode cc pc = .ok (.ifCond .ne off, 3)) (ht : (pc : Int) + off = (tgt : Int)) (kt : ¬ a = 0 → G z w x nL cs ss ad n mm tgt lv st) (kf : a = 0 → G z w x nL cs ss ad n mm (pc + 3) lv st) : G z w x nL cs ss ad n mm pc lv (.int a :: st) := by
  obtain ⟨l, D, cy, aK, aV⟩ := z
  obtain ⟨p, e, R, s, m, args, below, meth, c, Q, ad0, n0⟩ := x
  obtain ⟨hx, hb, hml, hown, hts, hK, hR, hE⟩ := X
  intro H locs ls hP hD hS hl
  exact lv_if_ne hx hb hd ht (fun h => kt h H locs ls hP hD hS hl) (fun h => kf h H locs ls hP hD hS hl)
theorem g_if_lt (X : OK z x cc own nL rm) {a : Int32} {off : Int} {tgt : Nat} (hd : decode cc pc = .ok (.ifCond .lt off, 3)) (ht : (pc : Int) + off = (tgt : Int)) (kt : a < 0 → G z w x nL cs ss ad n mm tgt lv st) (kf : ¬ a < 0 → G z w x nL cs ss ad n mm (pc + 3) lv st) : G z w x nL cs ss ad n mm pc lv (.int a :: st) := by
  obtain ⟨l, D, cy, aK, aV⟩ := z
  obtain ⟨p, e, R, s, m, args, below, meth, c, Q, ad0, n0⟩ := x
  obtain ⟨hx, hb, hml, hown, hts, hK, hR, hE⟩ := X
  intro H locs ls hP hD hS hl
  exact lv_if_lt hx hb hd ht (fun h => kt h H locs ls hP hD hS hl) (fun h => kf h H locs ls hP hD hS hl)
theorem g_if_ge (X : OK z x cc own nL rm) {a : Int32} {off : Int} {tgt : Nat} (hd : decode cc pc = .ok (.ifCond .ge off, 3)) (ht : (pc : Int) + off = (tgt : Int)) (kt : 0 ≤ a → G z w x nL cs ss ad n mm tgt lv st) (kf : ¬ 0 ≤ a → G z w x nL cs ss ad n mm (pc + 3) lv st) : G z w x nL cs ss ad n mm pc lv (.int a :: st) := by
  obtain ⟨l, D, cy, aK, aV⟩ := z
  obtain ⟨p, e, R, s, m, args, below, meth, c, Q, ad0, n0⟩ := x
  obtain ⟨hx, hb, hml, hown, hts, hK, hR, hE⟩ := X
  intro H locs ls hP hD hS hl
  exact lv_if_ge hx hb hd ht (fun h => kt h H locs ls hP hD hS hl) (fun h => kf h H locs ls hP hD hS hl)
theorem g_if_gt (X : OK z x cc own nL rm) {a : Int32} {off : Int} {tgt : Nat} (hd : decode cc pc = .ok (.ifCond .gt off, 3)) (ht : (pc : Int) + off = (tgt : Int)) (kt : 0 < a → G z w x nL cs ss ad n mm tgt lv st) (kf : ¬ 0 < a → G z w x nL cs ss ad n mm (pc + 3) lv st) : G z w x nL cs ss ad n mm pc lv (.int a :: st) := by
  obtain ⟨l, D, cy, aK, aV⟩ := z
  obtain ⟨p, e, R, s, m, args, below, meth, c, Q, ad0, n0⟩ := x
  obtain ⟨hx, hb, hml, hown, hts, hK, hR, hE⟩ := X
  intro H locs ls hP hD hS hl
  exact lv_if_gt hx hb hd ht (fun h => kt h H locs ls hP hD hS hl) (fun h => kf h H locs ls hP hD hS hl)
theorem g_if_le (X : OK z x cc own nL rm) {a : Int32} {off : Int} {tgt : Nat} (hd : decode cc pc = .ok (.ifCond .le off, 3)) (ht : (pc : Int) + off = (tgt : Int)) (kt : a ≤ 0 → G z w x nL cs ss ad n mm tgt lv st) (kf : ¬ a ≤ 0 → G z w x nL cs ss ad n mm (pc + 3) lv st) : G z w x nL cs ss ad n mm pc lv (.int a :: st) := by
  obtain ⟨l, D, cy, aK, aV⟩ := z
  obtain ⟨p, e, R, s, m, args, below, meth, c, Q, ad0, n0⟩ := x
  obtain ⟨hx, hb, hml, hown, hts, hK, hR, hE⟩ := X
  intro H locs ls hP hD hS hl
  exact lv_if_le hx hb hd ht (fun h => kt h H locs ls hP hD hS hl) (fun h => kf h H locs ls hP hD hS hl)
theorem g_icmp_eq (X : OK z x cc own nL rm) {a b : Int32} {off : Int} {tgt : Nat} (hd : decode cc pc = .ok (.if_icmp .eq off, 3)) (ht : (pc : Int) + off = (tgt : Int)) (kt : a = b → G z w x nL cs ss ad n mm tgt lv st) (kf : ¬ a = b → G z w x nL cs ss ad n mm (pc + 3) lv st) : G z w x nL cs ss ad n mm pc lv (.int b :: .int a :: st) := by
  obtain ⟨l, D, cy, aK, aV⟩ := z
  obtain ⟨p, e, R, s, m, args, below, meth, c, Q, ad0, n0⟩ := x
  obtain ⟨hx, hb, hml, hown, hts, hK, hR, hE⟩ := X
  intro H locs ls hP hD hS hl
  exact lv_icmp_eq hx hb hd ht (fun h => kt h H locs ls hP hD hS hl) (fun h => kf h H locs ls hP hD hS hl)
theorem g_icmp_ne (X : OK z x cc own nL rm) {a b : Int32} {off : Int} {tgt : Nat} (hd : decode cc pc = .ok (.if_icmp .ne off, 3)) (ht : (pc : Int) + off = (tgt : Int)) (kt : ¬ a = b → G z w x nL cs ss ad n mm tgt lv st) (kf : a = b → G z w x nL cs ss ad n mm (pc + 3) lv st) : G z w x nL cs ss ad n mm pc lv (.int b :: .int a :: st) := by
  obtain ⟨l, D, cy, aK, aV⟩ := z
  obtain ⟨p, e, R, s, m, args, below, meth, c, Q, ad0, n0⟩ := x
  obtain ⟨hx, hb, hml, hown, hts, hK, hR, hE⟩ := X
  intro H locs ls hP hD hS hl
  exact lv_icmp_ne hx hb hd ht (fun h => kt h H locs ls hP hD hS hl) (fun h => kf h H locs ls hP hD hS hl)
theorem g_icmp_lt (X : OK z x cc own nL rm) {a b : Int32} {off : Int} {tgt : Nat} (hd : decode cc pc = .ok (.if_icmp .lt off, 3)) (ht : (pc : Int) + off = (tgt : Int)) (kt : a < b → G z w x nL cs ss ad n mm tgt lv st) (kf : ¬ a < b → G z w x nL cs ss ad n mm (pc + 3) lv st) : G z w x nL cs ss ad n mm pc lv (.int b :: .int a :: st) := by
  obtain ⟨l, D, cy, aK, aV⟩ := z
  obtain ⟨p, e, R, s, m, args, below, meth, c, Q, ad0, n0⟩ := x
  obtain ⟨hx, hb, hml, hown, hts, hK, hR, hE⟩ := X
  intro H locs ls hP hD hS hl
  exact lv_icmp_lt hx hb hd ht (fun h => kt h H locs ls hP hD hS hl) (fun h => kf h H locs ls hP hD hS hl)
theorem g_icmp_ge (X : OK z x cc own nL rm) {a b : Int32} {off : Int} {tgt : Nat} (hd : decode cc pc = .ok (.if_icmp .ge off, 3)) (ht : (pc : Int) + off = (tgt : Int)) (kt : b ≤ a → G z w x nL cs ss ad n mm tgt lv st) (kf : ¬ b ≤ a → G z w x nL cs ss ad n mm (pc + 3) lv st) : G z w x nL cs ss ad n mm pc lv (.int b :: .int a :: st) := by
  obtain ⟨l, D, cy, aK, aV⟩ := z
  obtain ⟨p, e, R, s, m, args, below, meth, c, Q, ad0, n0⟩ := x
  obtain ⟨hx, hb, hml, hown, hts, hK, hR, hE⟩ := X
  intro H locs ls hP hD hS hl
  exact lv_icmp_ge hx hb hd ht (fun h => kt h H locs ls hP hD hS hl) (fun h => kf h H locs ls hP hD hS hl)
theorem g_icmp_gt (X : OK z x cc own nL rm) {a b : Int32} {off : Int} {tgt : Nat} (hd : decode cc pc = .ok (.if_icmp .gt off, 3)) (ht : (pc : Int) + off = (tgt : Int)) (kt : b < a → G z w x nL cs ss ad n mm tgt lv st) (kf : ¬ b < a → G z w x nL cs ss ad n mm (pc + 3) lv st) : G z w x nL cs ss ad n mm pc lv (.int b :: .int a :: st) := by
  obtain ⟨l, D, cy, aK, aV⟩ := z
  obtain ⟨p, e, R, s, m, args, below, meth, c, Q, ad0, n0⟩ := x
  obtain ⟨hx, hb, hml, hown, hts, hK, hR, hE⟩ := X
  intro H locs ls hP hD hS hl
  exact lv_icmp_gt hx hb hd ht (fun h => kt h H locs ls hP hD hS hl) (fun h => kf h H locs ls hP hD hS hl)
theorem g_icmp_le (X : OK z x cc own nL rm) {a b : Int32} {off : Int} {tgt : Nat} (hd : decode cc pc = .ok (.if_icmp .le off, 3)) (ht : (pc : Int) + off = (tgt : Int)) (kt : a ≤ b → G z w x nL cs ss ad n mm tgt lv st) (kf : ¬ a ≤ b → G z w x nL cs ss ad n mm (pc + 3) lv st) : G z w x nL cs ss ad n mm pc lv (.int b :: .int a :: st) := by
  obtain ⟨l, D, cy, aK, aV⟩ := z
  obtain ⟨p, e, R, s, m, args, below, meth, c, Q, ad0, n0⟩ := x
  obtain ⟨hx, hb, hml, hown, hts, hK, hR, hE⟩ := X
  intro H locs ls hP hD hS hl
  exact lv_icmp_le hx hb hd ht (fun h => kt h H locs ls hP hD hS hl) (fun h => kf h H locs ls hP hD hS hl)
theorem g_goto (X : OK z x cc own nL rm) {off : Int} {tgt : Nat} (hd : decode cc pc = .ok (.goto off, 3)) (ht : (pc : Int) + off = (tgt : Int)) (k : G z w x nL cs ss ad n mm tgt lv st) : G z w x nL cs ss ad n mm pc lv st := by
  obtain ⟨l, D, cy, aK, aV⟩ := z
  obtain ⟨p, e, R, s, m, args, below, meth, c, Q, ad0, n0⟩ := x
  obtain ⟨hx, hb, hml, hown, hts, hK, hR, hE⟩ := X
  intro H locs ls hP hD hS hl
  exact lv_goto hx hb hd ht (k H locs ls hP hD hS hl)
end
