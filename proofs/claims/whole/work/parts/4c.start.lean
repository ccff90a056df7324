def tmS (i : Nat) : Term := match strT[i]? with
  | some q => .string q.1 q.2.1
  | none => .string "" 0
theorem sx_ex : ∀ i, i < 24 → Cond.exactly (tmS i) "java/lang/String" ∈ flatC (Jvm.Cond.and given_1 narrow_1) := by decide +kernel
theorem sx_co : ∀ i, i < 24 → Cond.eq (.field (tmS i) "java/lang/String" "coder" "B") (.int 0) ∈ flatC (Jvm.Cond.and given_1 narrow_1) := by decide +kernel
theorem sx_ar : ∀ i, i < 24 → Cond.arrayOf (.field (tmS i) "java/lang/String" "value" "[B") .byte ∈ flatC (Jvm.Cond.and given_1 narrow_1) := by decide +kernel
theorem sx_le : ∀ i, i < 24 → Cond.eq (.length (.field (tmS i) "java/lang/String" "value" "[B")) (.int (Int32.ofNat (lenS.getD i 0))) ∈ flatC (Jvm.Cond.and given_1 narrow_1) := by decide +kernel
theorem sx_el : ∀ i, i < 24 → ∀ j, j < lenS.getD i 0 → Cond.eq (.elem (.field (tmS i) "java/lang/String" "value" "[B") (.int (Int32.ofNat j))) (.int ((bytS.getD i []).getD j 0)) ∈ flatC (Jvm.Cond.and given_1 narrow_1) := by decide +kernel
def isPair : Cond → Bool
  | .not (.eq (.string _ _) (.string _ _)) => true
  | _ => false
def pairsL : List Cond := (List.range 24).flatMap (fun j => (List.range j).map (fun i => Cond.not (Cond.eq (tmS i) (tmS j))))
theorem pairs_eq : (flatC (Jvm.Cond.and given_1 narrow_1)).filter isPair = pairsL := by decide +kernel
theorem pairs_in {i j : Nat} (hj : j < 24) (h : i < j) : Cond.not (Cond.eq (tmS i) (tmS j)) ∈ flatC (Jvm.Cond.and given_1 narrow_1) := by
  have h1 : Cond.not (Cond.eq (tmS i) (tmS j)) ∈ pairsL := List.mem_flatMap.mpr ⟨j, List.mem_range.mpr hj, List.mem_map.mpr ⟨i, List.mem_range.mpr h, rfl⟩⟩
  rw [← pairs_eq] at h1
  exact (List.mem_filter.mp h1).1
theorem sx_ne : ∀ i, i < 24 → ∀ j, j < 24 → i ≠ j → Cond.not (Cond.eq (tmS i) (tmS j)) ∈ flatC (Jvm.Cond.and given_1 narrow_1) ∨ Cond.not (Cond.eq (tmS j) (tmS i)) ∈ flatC (Jvm.Cond.and given_1 narrow_1) := by
  intro i hi j hj hne
  rcases Nat.lt_or_gt_of_ne hne with h | h
  · exact Or.inl (pairs_in hj h)
  · exact Or.inr (pairs_in hi h)
theorem sx_n0 : ∀ i, i < 24 → lenS.getD i 0 < 2 ^ 31 := by decide +kernel
theorem sx_in (w : Cond) (h : w ∈ GT) : w ∈ lw_tbl := (List.mem_filter.mp h).1
theorem sx_ref : ∀ i, i < 24 → Cond.stringRef (strT.getD i ("", 0, "")).1 (strT.getD i ("", 0, "")).2.1 (strT.getD i ("", 0, "")).2.2 ∈ lw_tbl := by decide +kernel
theorem sx_nest : ∀ q ∈ nestW, Cond.methodLinkNest q.1 q.2.1 q.2.2.1 q.2.2.2 ∈ lw_tbl := by decide +kernel
theorem sx_EAST : ∀ j, j < 8 → Cond.eq (.elem (.static "NobodySails$Waters" "EAST" "[I") (.int (Int32.ofNat j))) (.int (eastF.getD j 0)) ∈ flatC (Jvm.Cond.and given_1 narrow_1) := by decide +kernel
theorem sx_SOUTH : ∀ j, j < 8 → Cond.eq (.elem (.static "NobodySails$Waters" "SOUTH" "[I") (.int (Int32.ofNat j))) (.int (southF.getD j 0)) ∈ flatC (Jvm.Cond.and given_1 narrow_1) := by decide +kernel
def M0 : Mem := (fun _ _ => 0, fun _ _ => 0, fun _ _ => none)
theorem wf_M0 : Wf 0 M0 := fun i j b h => by cases h
noncomputable def MC0 : Mem := fX11_init (clr M0 0)
noncomputable def MM0 : Mem := fX12_init (clr M0 0)
theorem cl_L_7 : Cond.classLink R_law 7 RX11 ∈ GT := gt_mem (i := 105) (by decide +kernel) (by decide +kernel)
theorem cl_L_10 : Cond.classLink R_law 10 RX12 ∈ GT := gt_mem (i := 1164) (by decide +kernel) (by decide +kernel)
theorem itL_X11 : Cond.instantiable RX11 10 ∈ GT := gt_mem (i := 106) (by decide +kernel) (by decide +kernel)
theorem itL_X12 : Cond.instantiable RX12 31 ∈ GT := gt_mem (i := 1165) (by decide +kernel) (by decide +kernel)
theorem iiL_X11 : Cond.initialized RX11 ∈ GT := gt_mem (i := 85) (by decide +kernel) (by decide +kernel)
theorem iiL_X12 : Cond.initialized RX12 ∈ GT := gt_mem (i := 97) (by decide +kernel) (by decide +kernel)
theorem ml_L_9 : Cond.methodLink R_law 9 yX11_init ∈ GT := gt_mem (i := 107) (by decide +kernel) (by decide +kernel)
theorem ml_L_12 : Cond.methodLink R_law 12 yX12_init ∈ GT := gt_mem (i := 1166) (by decide +kernel) (by decide +kernel)
theorem imL_X11_init : Cond.instanceMethod yX11_init ∈ GT := gt_mem (i := 108) (by decide +kernel) (by decide +kernel)
theorem imL_X12_init : Cond.instanceMethod yX12_init ∈ GT := gt_mem (i := 1167) (by decide +kernel) (by decide +kernel)
theorem inst_all : Cond.instantiable RX0 6 ∈ lw_tbl ∧ Cond.instantiable RX1 7 ∈ lw_tbl ∧ Cond.instantiable RX2 3 ∈ lw_tbl ∧ Cond.instantiable RX3 5 ∈ lw_tbl ∧ Cond.instantiable RX4 9 ∈ lw_tbl ∧ Cond.instantiable RX5 3 ∈ lw_tbl ∧ Cond.instantiable RX6 3 ∈ lw_tbl ∧ Cond.instantiable RX7 2 ∈ lw_tbl ∧ Cond.instantiable RX8 5 ∈ lw_tbl ∧ Cond.instantiable RX9 7 ∈ lw_tbl ∧ Cond.instantiable RX10 5 ∈ lw_tbl ∧ Cond.instantiable RX11 10 ∈ lw_tbl ∧ Cond.instantiable RX12 31 ∈ lw_tbl := ⟨List.mem_of_getElem? (i := 205) (by decide +kernel), List.mem_of_getElem? (i := 332) (by decide +kernel), List.mem_of_getElem? (i := 315) (by decide +kernel), List.mem_of_getElem? (i := 178) (by decide +kernel), List.mem_of_getElem? (i := 273) (by decide +kernel), List.mem_of_getElem? (i := 133) (by decide +kernel), List.mem_of_getElem? (i := 395) (by decide +kernel), List.mem_of_getElem? (i := 116) (by decide +kernel), List.mem_of_getElem? (i := 139) (by decide +kernel), List.mem_of_getElem? (i := 237) (by decide +kernel), List.mem_of_getElem? (i := 231) (by decide +kernel), List.mem_of_getElem? (i := 106) (by decide +kernel), List.mem_of_getElem? (i := 1165) (by decide +kernel)⟩
theorem arr_byte : Cond.arrayClass .byte ∈ lw_tbl := List.mem_of_getElem? (i := 131) (by decide +kernel)
theorem arr_int : Cond.arrayClass .int ∈ lw_tbl := List.mem_of_getElem? (i := 203) (by decide +kernel)
theorem arr_long : Cond.arrayClass .long ∈ lw_tbl := List.mem_of_getElem? (i := 202) (by decide +kernel)
theorem arr_boolean : Cond.arrayClass .boolean ∈ lw_tbl := List.mem_of_getElem? (i := 1264) (by decide +kernel)
theorem ovr_Row : Cond.arrayOver (.object "NobodySails$Row") ∈ lw_tbl := List.mem_of_getElem? (i := 114) (by decide +kernel)
theorem ovr_World : Cond.arrayOver (.object "NobodySails$World") ∈ lw_tbl := List.mem_of_getElem? (i := 176) (by decide +kernel)
theorem lsE : Cond.laysStatic "NobodySails$Waters" "EAST" "[I" ∈ lw_tbl := List.mem_of_getElem? (i := 804) (by decide +kernel)
theorem lsS : Cond.laysStatic "NobodySails$Waters" "SOUTH" "[I" ∈ lw_tbl := List.mem_of_getElem? (i := 806) (by decide +kernel)
theorem lsC : Cond.laysStatic "java/lang/String" "COMPACT_STRINGS" "Z" ∈ lw_tbl := List.mem_of_getElem? (i := 588) (by decide +kernel)
theorem lsP : Cond.laysStatic "jdk/internal/util/Preconditions" "SIOOBE_FORMATTER" "Ljava/util/function/BiFunction;" ∈ lw_tbl := List.mem_of_getElem? (i := 604) (by decide +kernel)
theorem inW : Cond.initialized "NobodySails$Waters" ∈ lw_tbl := List.mem_of_getElem? (i := 92) (by decide +kernel)
theorem inS : Cond.initialized "java/lang/String" ∈ lw_tbl := List.mem_of_getElem? (i := 99) (by decide +kernel)
theorem inP : Cond.initialized "jdk/internal/util/Preconditions" ∈ lw_tbl := List.mem_of_getElem? (i := 101) (by decide +kernel)
theorem arrP {s : State} {cA comp : ClassId} {kA : Class} {ty : FieldType} (h2 : s.vm.classes[cA]? = some kA) (h3 : kA.kind = .array comp ty) : ArrOfT s cA ty := fun N z => ⟨(fun k h => by cases h), kA, h2, comp, h3⟩
/-- what the Statement gives outside of the pools -/
theorem ev_start {args : Array Value} {s : State} (l : Launch) (D : va_G) (cy : Nat → ClassId) (hts : ∀ w ∈ lw_tbl, w.before args s = true) (hgv : (Jvm.Cond.and given_1 narrow_1).before args s = true) : ∃ adK adV : Nat → Nat, EvC (l, D, cy, adK, adV) (fun q => s.heap.size ≤ q) s := by
  have hf := flat_of_before _ hgv
  have hA : ∀ a : Nat, a < s.heap.size → ¬ (fun q : Nat => s.heap.size ≤ q) a := fun a h => Nat.not_le.mpr h
  obtain ⟨adK, adV, hS, hR⟩ := vk_Sof (args := args) (s := s) (N := 24) (tm := tmS) (len := lenS) (byt := bytS) (A := fun q => s.heap.size ≤ q) sx_n0 (fun i hi => hf _ (sx_ex i hi)) (fun i hi => hf _ (sx_co i hi)) (fun i hi => hf _ (sx_ar i hi)) (fun i hi => hf _ (sx_le i hi)) (fun i hi j hj => hf _ (sx_el i hi j hj)) (fun i j hi hj hne => (sx_ne i hi j hj hne).imp (hf _) (hf _)) hA
  obtain ⟨tE, htE, hTE⟩ := va_Tof (args := args) (s := s) (tm := .static "NobodySails$Waters" "EAST" "[I") (ty := .int) (N := 8) (f := fun j => .int (eastF.getD j 0)) (A := fun q => s.heap.size ≤ q) (by decide) (hf _ (by decide +kernel)) (va_eqt (hf _ (by decide +kernel))) (fun j hj => va_eqt (hf _ (sx_EAST j hj))) hA
  obtain ⟨tS, htS, hTS⟩ := va_Tof (args := args) (s := s) (tm := .static "NobodySails$Waters" "SOUTH" "[I") (ty := .int) (N := 8) (f := fun j => .int (southF.getD j 0)) (A := fun q => s.heap.size ≤ q) (by decide) (hf _ (by decide +kernel)) (va_eqt (hf _ (by decide +kernel))) (fun j hj => va_eqt (hf _ (sx_SOUTH j hj))) hA
  refine ⟨adK, adV, fun q hq => va_Nw.of rfl (hts _ (sx_nest q hq)), ⟨tE, va_Zref (hts _ lsE) (hts _ inW) htE hA, hTE⟩, ⟨tS, va_Zref (hts _ lsS) (hts _ inW) htS hA, hTS⟩, hS, fun i q hi => ?_, va_Zof (hts _ lsC) (hts _ inS) (va_eqt (hf _ (by decide +kernel))) hA, ?_, va_AO.of (hts _ ovr_Row), va_AO.of (hts _ ovr_World)⟩
  · have hi24 : i < 24 := (List.getElem?_eq_some_iff.mp hi).1
    have e1 := hts _ (sx_ref i hi24)
    have e2 := hR i hi24
    have e3 : strT.getD i ("", 0, "") = q := by rw [List.getD_eq_getElem?_getD, hi]; rfl
    rw [e3] at e1
    have e4 : tmS i = .string q.1 q.2.1 := by unfold tmS; rw [hi]
    rw [e4] at e2
    exact vk_R.of e1 e2
  · exact va_Zqof (hts _ lsP) (hts _ inP) (hf _ (by decide +kernel)) hA
