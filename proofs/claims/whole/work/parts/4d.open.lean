section
variable {z : Zx} {cs ss : Nat} {a b ad0 : Nat → Nat} {mc mm : Mem} {pc : Nat} {lv : List (Nat × Value)} {st : List Value} {p : Program} {e : Env} {s : State} {m : MethodId} {below : List Frame} {meth : Method} {c : Code} {sb : Nat}
/-- from the class's pool alone to both, the other still empty -/
theorem g_to2 (k : G2 z (p, e, s, m, below, meth, c, sb) cs ss a b 0 mc mm pc lv st) : G z wC (p, e, room_1, s, m, #[Value.ref sb], below, meth, c, lw_Z below #[Value.ref sb] s, ad0, 0) 4 cs ss a 91 mc pc lv st := by
  obtain ⟨l, D, cy, aK, aV⟩ := z
  intro H locs ls hP hD hS hl
  have hno : ∀ q, Ad ad0 0 s.heap.size q → s.heap.size ≤ q := by
    intro q h
    rcases h with ⟨i, hi, _⟩ | h
    · omega
    · exact h
  have e0 : Pw cy wC a 91 mc ++ Pw cy wM b 0 mm = Pw cy wC a 91 mc := List.append_nil _
  refine k H locs ls (by rw [e0]; exact hP) (by rw [e0]; exact hD.weaken (fun _ q _ h => hno q.1 h)) ⟨hS.1, fun q h1 h2 => hS.2.1 q h1 (fun h => h2 (hno q h)), fun q hq => hno _ (hS.2.2 q hq)⟩ hl
end
set_option maxHeartbeats 4000000 in
set_option maxRecDepth 100000 in
/-- the law, from its entry, over any relation that the operations keep and the start has -/
theorem whole_open {Rel : Mem → Mem → Prop} (hops : Ops Rel) (h0 : Rel MC0 MM0) {p : Program} {e : Env} {s : State} {m : MethodId} {below : List Frame} {meth : Method} {c : Code} (l : Launch) {b L : Nat} {xs : Nat → Int32} (hL : L ≤ 3072) (C0 : lw_At p s m meth c b L xs) : W p l e room_1 s m #[Value.ref b] below meth c s.heap [] 0 0 (lw_Z below #[Value.ref b] s) (entryFrame m ([Value.ref b] : List Value).toArray 4) := by
  obtain ⟨hx, hb, hr, hml, hown, hts, hX, hbl, hlocks, hgv⟩ := id C0
  obtain ⟨t0, t1, t2, t3, t4, t5, t6, t7, t8, t9, t10, t11, t12⟩ := inst_all
  obtain ⟨c0, i0, hK0⟩ := u_known hts (fun w h => sx_in w (clX0.2.2.1 w h)) (hts _ t0)
  obtain ⟨c1, i1, hK1⟩ := u_known hts (fun w h => sx_in w (clX1.2.2.1 w h)) (hts _ t1)
  obtain ⟨c2, i2, hK2⟩ := u_known hts (fun w h => sx_in w (clX2.2.2.1 w h)) (hts _ t2)
  obtain ⟨c3, i3, hK3⟩ := u_known hts (fun w h => sx_in w (clX3.2.2.1 w h)) (hts _ t3)
  obtain ⟨c4, i4, hK4⟩ := u_known hts (fun w h => sx_in w (clX4.2.2.1 w h)) (hts _ t4)
  obtain ⟨c5, i5, hK5⟩ := u_known hts (fun w h => sx_in w (clX5.2.2.1 w h)) (hts _ t5)
  obtain ⟨c6, i6, hK6⟩ := u_known hts (fun w h => sx_in w (clX6.2.2.1 w h)) (hts _ t6)
  obtain ⟨c7, i7, hK7⟩ := u_known hts (fun w h => sx_in w (clX7.2.2.1 w h)) (hts _ t7)
  obtain ⟨c8, i8, hK8⟩ := u_known hts (fun w h => sx_in w (clX8.2.2.1 w h)) (hts _ t8)
  obtain ⟨c9, i9, hK9⟩ := u_known hts (fun w h => sx_in w (clX9.2.2.1 w h)) (hts _ t9)
  obtain ⟨c10, i10, hK10⟩ := u_known hts (fun w h => sx_in w (clX10.2.2.1 w h)) (hts _ t10)
  obtain ⟨c11, i11, hK11⟩ := u_known hts (fun w h => sx_in w (clX11.2.2.1 w h)) (hts _ t11)
  obtain ⟨c12, i12, hK12⟩ := u_known hts (fun w h => sx_in w (clX12.2.2.1 w h)) (hts _ t12)
  obtain ⟨dC, dI, hKc⟩ : ∃ (dC : Nat → ClassId) (dI : Nat → Nat → Nat), ∀ (k : Nat) (q : vw_C), vwCl[k]? = some q → u_Kn s q.1 q.2.1 q.2.2 (dC k) (dI k) := by
    refine ⟨fun k => ([c0, c1, c2, c3, c4, c5, c6, c7, c8, c9, c10, c11, c12] : List ClassId).getD k c0, fun k => ([i0, i1, i2, i3, i4, i5, i6, i7, i8, i9, i10, i11, i12] : List (Nat → Nat)).getD k i0, ?_⟩
    intro k q hq
    match k, hq with
    | 0, hq => cases hq; exact hK0
    | 1, hq => cases hq; exact hK1
    | 2, hq => cases hq; exact hK2
    | 3, hq => cases hq; exact hK3
    | 4, hq => cases hq; exact hK4
    | 5, hq => cases hq; exact hK5
    | 6, hq => cases hq; exact hK6
    | 7, hq => cases hq; exact hK7
    | 8, hq => cases hq; exact hK8
    | 9, hq => cases hq; exact hK9
    | 10, hq => cases hq; exact hK10
    | 11, hq => cases hq; exact hK11
    | 12, hq => cases hq; exact hK12
    | k + 13, hq => simp [vwCl] at hq
  obtain ⟨aB, kB, pB, b1, b2, b3⟩ := Cond.arrayClass_spec (hts _ arr_byte)
  obtain ⟨aI, kI, pI, b4, b5, b6⟩ := Cond.arrayClass_spec (hts _ arr_int)
  obtain ⟨aJ, kJ, pJ, b7, b8, b9⟩ := Cond.arrayClass_spec (hts _ arr_long)
  obtain ⟨aZ, kZ, pZ, b10, b11, b12⟩ := Cond.arrayClass_spec (hts _ arr_boolean)
  obtain ⟨pR, aR, kR, r1, -, r2, r3, r4⟩ := Cond.arrayOver_spec (hts _ ovr_Row)
  obtain ⟨pV, aV, kV, v1, -, v2, v3, v4⟩ := Cond.arrayOver_spec (hts _ ovr_World)
  obtain ⟨cy, y13, y14, y15, y16, y17, y18⟩ : ∃ cy : Nat → ClassId, cy 13 = aB ∧ cy 14 = aI ∧ cy 15 = aJ ∧ cy 16 = aZ ∧ cy 17 = aR ∧ cy 18 = aV := ⟨fun k => if k = 13 then aB else if k = 14 then aI else if k = 15 then aJ else if k = 16 then aZ else if k = 17 then aR else aV, rfl, rfl, rfl, rfl, rfl, rfl⟩
  have hK : va_K (dC, dI) vwCl (tysW cy) s := by
    refine ⟨hKc, fun k q hk => ?_⟩
    match k, hk with
    | 0, hk => cases hk; rw [y13]; exact ⟨arrP b2 b3, b1⟩
    | 1, hk => cases hk; rw [y14]; exact ⟨arrP b5 b6, b4⟩
    | 2, hk => cases hk; rw [y15]; exact ⟨arrP b8 b9, b7⟩
    | 3, hk => cases hk; rw [y16]; exact ⟨arrP b11 b12, b10⟩
    | 4, hk => cases hk; rw [y17]; exact ⟨arrP r2 r3, kR, pR, r2, r3, r1, r4⟩
    | 5, hk => cases hk; rw [y18]; exact ⟨arrP v2 v3, kV, pV, v2, v3, v1, v4⟩
    | k + 6, hk => simp [tysW] at hk
  obtain ⟨aK, aVs, hE⟩ := ev_start l (dC, dI) cy hts hgv
  have htsG : ∀ w ∈ GT, w.before #[Value.ref b] s = true := fun w h => hts w (sx_in w h)
  have X2 : OK2 (l, (dC, dI), cy, aK, aVs) (p, e, s, m, below, meth, c, b) L xs := ⟨hx, hb, hml, hown, htsG, hK, hE, hX, hbl, ⟨hlocks, hr⟩, by omega⟩
  have hno : ∀ ad0 : Nat → Nat, ∀ q, Ad ad0 0 s.heap.size q → s.heap.size ≤ q := by
    intro ad0 q h
    rcases h with ⟨i, hi, _⟩ | h
    · omega
    · exact h
  have X : OK (l, (dC, dI), cy, aK, aVs) (p, e, room_1, s, m, #[Value.ref b], below, meth, c, lw_Z below #[Value.ref b] s, (fun i => i), 0) code R_law 4 room_1 := ⟨hx, hb, hml, hown, htsG, hK, rfl, hE.mv va_S.rf (State.WarmedH.refl s) rfl (hno _)⟩
  have hl := lv_entry ([.ref b]) (n := 4) (Nat.le_of_ble_eq_true rfl)
  rw [lg_entry_eq]
  have key : G (l, (dC, dI), cy, aK, aVs) wC (p, e, room_1, s, m, #[Value.ref b], below, meth, c, lw_Z below #[Value.ref b] s, (fun i => i), 0) 4 0 0 (fun i => i) 0 M0 0 [(0, .ref b)] [] := by
    refine g_new (pc := 0) X clX11 dfX11 cl_L_7 itL_X11 iiL_X11 rfl wf_M0 (by decide) (by decide) dL_law_0 (fun a1 _ => ?_)
    refine g_dup (pc := 3) X dL_law_3 rfl ?_
    have hc := (cX11_init_ct (l, (dC, dI), cy, aK, aVs) a1 (clr M0 0) (wf_clr wf_M0)).1
    refine g_callK (pc := 4) (As := []) (rest := [.ref (a1 0)]) X mi_X11_init rfl imL_X11_init ml_L_9 hc rfl rfl (Nat.le_of_ble_eq_true rfl) ⟨by decide, by decide, by decide, by decide⟩ dL_law_4 (fun a2 hA2 => ?_)
    rw [← hA2 0 (by omega)]
    refine g_to2 (b := fun i => i) (mm := M0) ?_
    refine q_astore_n (lv2 := [(0, .ref b), (1, .ref (a2 0))]) (pc := 7) X2 dL_law_7 rfl (by decide) [1, 0] rfl ?_
    refine q_newM (pc := 8) X2 rfl cl_L_10 itL_X12 iiL_X12 wf_M0 (by decide) (by decide) dL_law_8 (fun b1 => ?_)
    refine q_dup (pc := 11) X2 dL_law_11 rfl ?_
    have hc2 := (cX12_init_ct (l, (dC, dI), cy, aK, aVs) b1 (clr M0 0) (wf_clr wf_M0)).1
    refine q_callK (pc := 12) (rest := []) X2 mi_X12_init rfl imL_X12_init ml_L_12 hc2 rfl (by decide) rfl (Nat.le_of_ble_eq_true rfl) ⟨by decide, by decide, by decide, by decide⟩ dL_law_12 (fun b2 => ?_)
    refine q_astore_n (lv2 := [(0, .ref b), (1, .ref (a2 0)), (2, .ref (b2 0))]) (pc := 15) X2 dL_law_15 rfl (by decide) [1, 2, 0] rfl ?_
    refine q_iconst (v := (0 : Int32)) (pc := 16) X2 dL_law_16 (by decide) ?_
    refine q_istore_n (lv2 := [(0, .ref b), (1, .ref (a2 0)), (2, .ref (b2 0)), (3, .int (nI 0))]) (pc := 17) X2 dL_law_17 rfl (by decide) [1, 2, 3, 0] rfl ?_
    exact law_loop hops X2 rfl hL (L + 6) 0 _ _ (by omega) (by omega) h0
  exact key s.heap [] _ (fun k q h => by simp [Pw] at h) ⟨fun i j p q h => by simp [Pw] at h, fun k q h => by simp [Pw] at h⟩ va_S.rf hl
