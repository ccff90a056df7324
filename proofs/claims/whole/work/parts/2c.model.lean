noncomputable def fX12_sea_233 (v0 : Nat) (m : Mem) : Option (Int64 × Mem) := gp (KM v0 = 12) (bnd (m.2.2 v0 8) (fun q2 => bnd (m.2.2 v0 5) (fun q4 => gp (KM q4 = 14) (gp (inb (8 : Int32) (NM q4) = true) (gp (KM q2 = 14) (gp (inb (7 : Int32) (NM q2) = true) (lt1 (uI m q2 (7 : Int32).toNatClampNeg (m.1 q4 (8 : Int32).toNatClampNeg)) (fun m10 => bnd (m10.2.2 v0 5) (fun q12 => gp (KM q12 = 14) (gp (inb (5 : Int32) (NM q12) = true) (some ((m10.1 q12 (5 : Int32).toNatClampNeg).toInt64, m10))))))))))))
noncomputable def fX12_sea_214b (v0 : Nat) (v1 : Int32) (m : Mem) : Option ((Int32 × Mem) ⊕ (Mem)) := if (8 : Int32) ≤ v1 then (some (.inr (m))) else (gp (KM v0 = 12) (bnd (m.2.2 v0 8) (fun q17 => gp (KM q17 = 14) (gp (inb v1 (NM q17) = true) (lt1 (uI m q17 v1.toNatClampNeg (0 : Int32)) (fun m21 => lt1 (v1 + 1) (fun v1_23 => some (.inl (v1_23, m21)))))))))
noncomputable def fX12_sea_214 (v0 : Nat) (v1 : Int32) (m : Mem) : Option (Int64 × Mem) := bnd (iter (fun s => fX12_sea_214b v0 s.1 s.2) FU (v1, m)) (fun e => fX12_sea_233 v0 e)
noncomputable def fX12_sea_212 (v0 : Nat) (m : Mem) : Option (Int64 × Mem) := lt1 ((0 : Int32)) (fun v1_25 => fX12_sea_214 v0 v1_25 m)
noncomputable def fX12_sea_187b (v0 : Nat) (v1 : Int32) (m : Mem) : Option ((Int32 × Mem) ⊕ (Mem)) := if (206 : Int32) ≤ v1 then (some (.inr (m))) else (gp (KM v0 = 12) (bnd (m.2.2 v0 5) (fun q28 => bnd (m.2.2 v0 6) (fun q30 => gp (KM q30 = 14) (gp (inb v1 (NM q30) = true) (gp (KM q28 = 14) (gp (inb v1 (NM q28) = true) (lt1 (uI m q28 v1.toNatClampNeg (m.1 q30 v1.toNatClampNeg)) (fun m36 => lt1 (v1 + 1) (fun v1_38 => some (.inl (v1_38, m36))))))))))))
noncomputable def fX12_sea_187 (v0 : Nat) (v1 : Int32) (m : Mem) : Option (Int64 × Mem) := bnd (iter (fun s => fX12_sea_187b v0 s.1 s.2) FU (v1, m)) (fun e => fX12_sea_212 v0 e)
noncomputable def fX12_sea_155 (v0 : Nat) (m : Mem) : Option (Int64 × Mem) := gp (KM v0 = 12) (if (m.1 v0 17) ≤ 0 then (gp (zb (1 : Int32) = true) (lt1 (uI m v0 7 (1 : Int32)) (fun m42 => lt1 ((0 : Int32)) (fun v1_44 => fX12_sea_187 v0 v1_44 m42)))) else (lt1 (uI m v0 11 (m.1 v0 17)) (fun m46 => some ((-9000000000000000100 : Int64) - ((m46.1 v0 18).toInt64), m46))))
noncomputable def fX12_sea_135 (v0 : Nat) (m : Mem) : Option (Int64 × Mem) := gp (KM v0 = 12) (if (m.1 v0 17) = 0 then (if (m.1 v0 14) = (1 : Int32) then (fX12_sea_155 v0 m) else (bnd (fX12_bad v0 (1 : Int32) m) (fun m50 => fX12_sea_155 v0 m50))) else (fX12_sea_155 v0 m))
noncomputable def fX12_sea_117b (v0 : Nat) (m : Mem) : Option ((Mem) ⊕ (Mem)) := gp (KM v0 = 12) (bnd (fX12_word v0 m) (fun r52 => if r52 = (495874699897 : Int64) then (bnd (fX12_readStory v0 m) (fun m55 => some (.inl (m55)))) else (some (.inr (m)))))
noncomputable def fX12_sea_117 (v0 : Nat) (m : Mem) : Option (Int64 × Mem) := bnd (iter (fun s => fX12_sea_117b v0 s) FU (m)) (fun e => fX12_sea_135 v0 e)
noncomputable def fX12_sea_99b (v0 : Nat) (m : Mem) : Option ((Mem) ⊕ (Mem)) := gp (KM v0 = 12) (bnd (fX12_word v0 m) (fun r57 => if r57 = (1936287598 : Int64) then (bnd (fX12_readSign v0 m) (fun m60 => some (.inl (m60)))) else (some (.inr (m)))))
noncomputable def fX12_sea_99 (v0 : Nat) (m : Mem) : Option (Int64 × Mem) := bnd (iter (fun s => fX12_sea_99b v0 s) FU (m)) (fun e => fX12_sea_117 v0 e)
noncomputable def fX12_sea_81b (v0 : Nat) (m : Mem) : Option ((Mem) ⊕ (Mem)) := gp (KM v0 = 12) (bnd (fX12_word v0 m) (fun r62 => if r62 = (7168366 : Int64) then (bnd (fX12_readMan v0 m) (fun m65 => some (.inl (m65)))) else (some (.inr (m)))))
noncomputable def fX12_sea_81 (v0 : Nat) (m : Mem) : Option (Int64 × Mem) := bnd (iter (fun s => fX12_sea_81b v0 s) FU (m)) (fun e => fX12_sea_99 v0 e)
noncomputable def fX12_sea_50 (v0 : Nat) (m : Mem) : Option (Int64 × Mem) := gp (KM v0 = 12) (bnd (fX12_next v0 m) (fun m67 => bnd (fX12_readShore v0 m67) (fun m70 => bnd (fX12_word v0 m70) (fun r72 => if r72 = (1936222576 : Int64) then (bnd (fX12_readShip v0 m70) (fun m76 => fX12_sea_81 v0 m76)) else (bnd (fX12_bad v0 (1 : Int32) m70) (fun m74 => fX12_sea_81 v0 m74))))))
noncomputable def fX12_sea_30b (v0 : Nat) (v1 : Int32) (m : Mem) : Option ((Int32 × Mem) ⊕ (Mem)) := if (206 : Int32) ≤ v1 then (some (.inr (m))) else (gp (KM v0 = 12) (bnd (m.2.2 v0 6) (fun q78 => gp (KM q78 = 14) (gp (inb v1 (NM q78) = true) (lt1 (uI m q78 v1.toNatClampNeg (0 : Int32)) (fun m82 => lt1 (v1 + 1) (fun v1_84 => some (.inl (v1_84, m82)))))))))
noncomputable def fX12_sea_30 (v0 : Nat) (v1 : Int32) (m : Mem) : Option (Int64 × Mem) := bnd (iter (fun s => fX12_sea_30b v0 s.1 s.2) FU (v1, m)) (fun e => fX12_sea_50 v0 e)
noncomputable def fX12_sea (v0 : Nat) (m : Mem) : Option (Int64 × Mem) := gp (KM v0 = 12) (lt1 (uI m v0 0 (0 : Int32)) (fun m87 => lt1 (uI m87 v0 12 (m87.1 v0 10)) (fun m89 => lt1 (uI m89 v0 10 (0 : Int32)) (fun m91 => lt1 (uI m91 v0 13 (0 : Int32)) (fun m93 => lt1 (uI m93 v0 17 (0 : Int32)) (fun m95 => lt1 ((0 : Int32)) (fun v1_97 => fX12_sea_30 v0 v1_97 m95)))))))
set_option maxHeartbeats 4000000 in
set_option maxRecDepth 100000 in
theorem cX12_sea_ct (z : Zx) (ad : Nat → Nat) (v0 : Nat) (m m2 : Mem) (r : Int64) (hf : fX12_sea v0 m = some (r, m2)) : CtL z wM yX12_sea cX12_sea 2 (some .long) (Rm 8) ad 17 [.ref (ad v0)] m m2 r := by
  refine ct_ofL mi_X12_sea rfl (Nat.le_of_ble_eq_true rfl) (fun x X hret => ?_)
  refine g_lv [(0, .ref (ad v0))] [0] rfl ?_
  have hL233 : ∀ (v0 : Nat) (m : Mem), fX12_sea_233 v0 m = some (r, m2) → G z wM x 2 0 0 ad 17 m 233 [(0, .ref (ad v0))] [] := by
    intro v0 m hf
    unfold fX12_sea_233 at hf
    refine g_aload_n (pc := 233) X dX12_sea_233 rfl 0 rfl ?_
    obtain ⟨hk1, hf⟩ := gp_some hf
    obtain ⟨q2, hr3, hf⟩ := bnd_some hf
    refine g_getR (pc := 234) X fl_X12_25 (KMlt hk1 (by decide)) hk1 hr3 dX12_sea_234 ?_
    refine g_bipush (v := (7 : Int32)) (pc := 237) X dX12_sea_237 (by decide) ?_
    refine g_aload_n (pc := 239) X dX12_sea_239 rfl 0 rfl ?_
    obtain ⟨q4, hr5, hf⟩ := bnd_some hf
    refine g_getR (pc := 240) X fl_X12_19 (KMlt hk1 (by decide)) hk1 hr5 dX12_sea_240 ?_
    refine g_bipush (v := (8 : Int32)) (pc := 243) X dX12_sea_243 (by decide) ?_
    obtain ⟨hk6, hf⟩ := gp_some hf
    obtain ⟨hi7, hf⟩ := gp_some hf
    refine g_iald (pc := 245) X (KMlt hk6 (by decide)) hk6 hi7 dX12_sea_245 ?_
    obtain ⟨hk8, hf⟩ := gp_some hf
    obtain ⟨hi9, hf⟩ := gp_some hf
    refine g_iast (pc := 246) X (KMlt hk8 (by decide)) hk8 hi9 dX12_sea_246 ?_
    obtain ⟨m10, e11, hf⟩ := lt1_some hf
    refine g_mem e11 ?_
    refine g_aload_n (pc := 247) X dX12_sea_247 rfl 0 rfl ?_
    obtain ⟨q12, hr13, hf⟩ := bnd_some hf
    refine g_getR (pc := 248) X fl_X12_19 (KMlt hk1 (by decide)) hk1 hr13 dX12_sea_248 ?_
    refine g_iconst (v := (5 : Int32)) (pc := 251) X dX12_sea_251 (by decide) ?_
    obtain ⟨hk14, hf⟩ := gp_some hf
    obtain ⟨hi15, hf⟩ := gp_some hf
    refine g_iald (pc := 252) X (KMlt hk14 (by decide)) hk14 hi15 dX12_sea_252 ?_
    refine g_i2l (pc := 253) X dX12_sea_253 ?_
    obtain ⟨rfl, rfl⟩ := som2 hf
    exact hret _ _ dX12_sea_254
  have hL214 : ∀ (v0 : Nat) (v1 : Int32) (m : Mem), fX12_sea_214 v0 v1 m = some (r, m2) → G z wM x 2 0 0 ad 17 m 214 [(0, .ref (ad v0)), (1, .int v1)] [] := by
    intro v0 v1 m hf
    unfold fX12_sea_214 at hf
    obtain ⟨e214, hit214, hrest214⟩ := bnd_some hf
    refine iter_ok (Hd := fun (s : (Int32 × Mem)) => G z wM x 2 0 0 ad 17 s.2 214 [(0, .ref (ad v0)), (1, .int s.1)] []) ?_ FU (v1, m) hit214
    intro s ob214 hf hs214 he214
    obtain ⟨v1, m⟩ := s
    have hf : fX12_sea_214b v0 v1 m = some ob214 := hf
    unfold fX12_sea_214b at hf
    refine g_iload_n (pc := 214) X dX12_sea_214 rfl 1 rfl ?_
    refine g_bipush (v := (8 : Int32)) (pc := 215) X dX12_sea_215 (by decide) ?_
    refine g_icmp_ge (pc := 217) (tgt := 233) X dX12_sea_217 (by decide) (fun hc => ?_) (fun hc => ?_)
    · have hf := itp hc hf
      have he214 := he214 _ (Option.some.inj hf).symm
      subst he214
      have hf : fX12_sea_233 v0 m = some (r, m2) := hrest214
      refine g_lv [(0, .ref (ad v0))] [0] rfl ?_
      exact hL233 _ _ hf
    · have hf := itn hc hf
      refine g_aload_n (pc := 220) X dX12_sea_220 rfl 0 rfl ?_
      obtain ⟨hk16, hf⟩ := gp_some hf
      obtain ⟨q17, hr18, hf⟩ := bnd_some hf
      refine g_getR (pc := 221) X fl_X12_25 (KMlt hk16 (by decide)) hk16 hr18 dX12_sea_221 ?_
      refine g_iload_n (pc := 224) X dX12_sea_224 rfl 1 rfl ?_
      refine g_iconst (v := (0 : Int32)) (pc := 225) X dX12_sea_225 (by decide) ?_
      obtain ⟨hk19, hf⟩ := gp_some hf
      obtain ⟨hi20, hf⟩ := gp_some hf
      refine g_iast (pc := 226) X (KMlt hk19 (by decide)) hk19 hi20 dX12_sea_226 ?_
      obtain ⟨m21, e22, hf⟩ := lt1_some hf
      refine g_mem e22 ?_
      obtain ⟨v1_23, e24, hf⟩ := lt1_some hf
      refine g_iinc (v2 := v1_23) (lv2 := [(0, .ref (ad v0)), (1, .int v1_23)]) (pc := 227) X dX12_sea_227 1 rfl (by rw [e24]; rfl) (by decide) [1, 0] rfl ?_
      refine g_goto (pc := 230) (tgt := 214) X dX12_sea_230 (by decide) ?_
      exact hs214 (v1_23, m21) (Option.some.inj hf).symm
  have hL212 : ∀ (v0 : Nat) (m : Mem), fX12_sea_212 v0 m = some (r, m2) → G z wM x 2 0 0 ad 17 m 212 [(0, .ref (ad v0))] [] := by
    intro v0 m hf
    unfold fX12_sea_212 at hf
    refine g_iconst (v := (0 : Int32)) (pc := 212) X dX12_sea_212 (by decide) ?_
    obtain ⟨v1_25, e26, hf⟩ := lt1_some hf
    refine g_topi e26 ?_
    refine g_istore_n (lv2 := [(0, .ref (ad v0)), (1, .int v1_25)]) (pc := 213) X dX12_sea_213 rfl (by decide) [1, 0] rfl ?_
    exact hL214 _ _ _ hf
  have hL187 : ∀ (v0 : Nat) (v1 : Int32) (m : Mem), fX12_sea_187 v0 v1 m = some (r, m2) → G z wM x 2 0 0 ad 17 m 187 [(0, .ref (ad v0)), (1, .int v1)] [] := by
    intro v0 v1 m hf
    unfold fX12_sea_187 at hf
    obtain ⟨e187, hit187, hrest187⟩ := bnd_some hf
    refine iter_ok (Hd := fun (s : (Int32 × Mem)) => G z wM x 2 0 0 ad 17 s.2 187 [(0, .ref (ad v0)), (1, .int s.1)] []) ?_ FU (v1, m) hit187
    intro s ob187 hf hs187 he187
    obtain ⟨v1, m⟩ := s
    have hf : fX12_sea_187b v0 v1 m = some ob187 := hf
    unfold fX12_sea_187b at hf
    refine g_iload_n (pc := 187) X dX12_sea_187 rfl 1 rfl ?_
    refine g_sipush (v := (206 : Int32)) (pc := 188) X dX12_sea_188 (by decide) ?_
    refine g_icmp_ge (pc := 191) (tgt := 212) X dX12_sea_191 (by decide) (fun hc => ?_) (fun hc => ?_)
    · have hf := itp hc hf
      have he187 := he187 _ (Option.some.inj hf).symm
      subst he187
      have hf : fX12_sea_212 v0 m = some (r, m2) := hrest187
      refine g_lv [(0, .ref (ad v0))] [0] rfl ?_
      exact hL212 _ _ hf
    · have hf := itn hc hf
      refine g_aload_n (pc := 194) X dX12_sea_194 rfl 0 rfl ?_
      obtain ⟨hk27, hf⟩ := gp_some hf
      obtain ⟨q28, hr29, hf⟩ := bnd_some hf
      refine g_getR (pc := 195) X fl_X12_19 (KMlt hk27 (by decide)) hk27 hr29 dX12_sea_195 ?_
      refine g_iload_n (pc := 198) X dX12_sea_198 rfl 1 rfl ?_
      refine g_aload_n (pc := 199) X dX12_sea_199 rfl 0 rfl ?_
      obtain ⟨q30, hr31, hf⟩ := bnd_some hf
      refine g_getR (pc := 200) X fl_X12_22 (KMlt hk27 (by decide)) hk27 hr31 dX12_sea_200 ?_
      refine g_iload_n (pc := 203) X dX12_sea_203 rfl 1 rfl ?_
      obtain ⟨hk32, hf⟩ := gp_some hf
      obtain ⟨hi33, hf⟩ := gp_some hf
      refine g_iald (pc := 204) X (KMlt hk32 (by decide)) hk32 hi33 dX12_sea_204 ?_
      obtain ⟨hk34, hf⟩ := gp_some hf
      obtain ⟨hi35, hf⟩ := gp_some hf
      refine g_iast (pc := 205) X (KMlt hk34 (by decide)) hk34 hi35 dX12_sea_205 ?_
      obtain ⟨m36, e37, hf⟩ := lt1_some hf
      refine g_mem e37 ?_
      obtain ⟨v1_38, e39, hf⟩ := lt1_some hf
      refine g_iinc (v2 := v1_38) (lv2 := [(0, .ref (ad v0)), (1, .int v1_38)]) (pc := 206) X dX12_sea_206 1 rfl (by rw [e39]; rfl) (by decide) [1, 0] rfl ?_
      refine g_goto (pc := 209) (tgt := 187) X dX12_sea_209 (by decide) ?_
      exact hs187 (v1_38, m36) (Option.some.inj hf).symm
  have hL155 : ∀ (v0 : Nat) (m : Mem), fX12_sea_155 v0 m = some (r, m2) → G z wM x 2 0 0 ad 17 m 155 [(0, .ref (ad v0))] [] := by
    intro v0 m hf
    unfold fX12_sea_155 at hf
    refine g_aload_n (pc := 155) X dX12_sea_155 rfl 0 rfl ?_
    obtain ⟨hk40, hf⟩ := gp_some hf
    refine g_getI (pc := 156) X fl_X12_122 (KMlt hk40 (by decide)) hk40 dX12_sea_156 ?_
    refine g_if_le (pc := 159) (tgt := 180) X dX12_sea_159 (by decide) (fun hc => ?_) (fun hc => ?_)
    · have hf := itp hc hf
      refine g_aload_n (pc := 180) X dX12_sea_180 rfl 0 rfl ?_
      refine g_iconst (v := (1 : Int32)) (pc := 181) X dX12_sea_181 (by decide) ?_
      obtain ⟨hb41, hf⟩ := gp_some hf
      refine g_putI (pc := 182) X fl_X12_238 (KMlt hk40 (by decide)) hk40 (zb_nar hb41) (zb_fit hb41) dX12_sea_182 ?_
      obtain ⟨m42, e43, hf⟩ := lt1_some hf
      refine g_mem e43 ?_
      refine g_iconst (v := (0 : Int32)) (pc := 185) X dX12_sea_185 (by decide) ?_
      obtain ⟨v1_44, e45, hf⟩ := lt1_some hf
      refine g_topi e45 ?_
      refine g_istore_n (lv2 := [(0, .ref (ad v0)), (1, .int v1_44)]) (pc := 186) X dX12_sea_186 rfl (by decide) [1, 0] rfl ?_
      exact hL187 _ _ _ hf
    · have hf := itn hc hf
      refine g_aload_n (pc := 162) X dX12_sea_162 rfl 0 rfl ?_
      refine g_aload_n (pc := 163) X dX12_sea_163 rfl 0 rfl ?_
      refine g_getI (pc := 164) X fl_X12_122 (KMlt hk40 (by decide)) hk40 dX12_sea_164 ?_
      refine g_putI (pc := 167) X fl_X12_233 (KMlt hk40 (by decide)) hk40 rfl rfl dX12_sea_167 ?_
      obtain ⟨m46, e47, hf⟩ := lt1_some hf
      refine g_mem e47 ?_
      refine g_ldc2 (pc := 170) X dX12_sea_170 kl_X12_236 ?_
      refine g_aload_n (pc := 173) X dX12_sea_173 rfl 0 rfl ?_
      refine g_getI (pc := 174) X fl_X12_125 (KMlt hk40 (by decide)) hk40 dX12_sea_174 ?_
      refine g_i2l (pc := 177) X dX12_sea_177 ?_
      refine g_lsub (pc := 178) X dX12_sea_178 ?_
      obtain ⟨rfl, rfl⟩ := som2 hf
      exact hret _ _ dX12_sea_179
  have hL135 : ∀ (v0 : Nat) (m : Mem), fX12_sea_135 v0 m = some (r, m2) → G z wM x 2 0 0 ad 17 m 135 [(0, .ref (ad v0))] [] := by
    intro v0 m hf
    unfold fX12_sea_135 at hf
    refine g_aload_n (pc := 135) X dX12_sea_135 rfl 0 rfl ?_
    obtain ⟨hk48, hf⟩ := gp_some hf
    refine g_getI (pc := 136) X fl_X12_122 (KMlt hk48 (by decide)) hk48 dX12_sea_136 ?_
    refine g_if_ne (pc := 139) (tgt := 155) X dX12_sea_139 (by decide) (fun hc => ?_) (fun hc => ?_)
    · have hf := itn hc hf
      exact hL155 _ _ hf
    · have hf := itp hc hf
      refine g_aload_n (pc := 142) X dX12_sea_142 rfl 0 rfl ?_
      refine g_getI (pc := 143) X fl_X12_110 (KMlt hk48 (by decide)) hk48 dX12_sea_143 ?_
      refine g_iconst (v := (1 : Int32)) (pc := 146) X dX12_sea_146 (by decide) ?_
      refine g_icmp_eq (pc := 147) (tgt := 155) X dX12_sea_147 (by decide) (fun hc => ?_) (fun hc => ?_)
      · have hf := itp hc hf
        exact hL155 _ _ hf
      · have hf := itn hc hf
        refine g_aload_n (pc := 150) X dX12_sea_150 rfl 0 rfl ?_
        refine g_iconst (v := (1 : Int32)) (pc := 151) X dX12_sea_151 (by decide) ?_
        obtain ⟨m50, hq49, hf⟩ := bnd_some hf
        refine g_callVV (pc := 152) (As := [.int (1 : Int32)]) (rest := []) X mi_X12_bad im_X12_bad se_X12_bad (KMlt hk48 (by decide)) hk48 clX12 ml_X12_128 (cX12_bad_ct z ad v0 (1 : Int32) m m50 hq49) rfl rfl (Nat.le_of_ble_eq_true rfl) ⟨rfl, rfl, by decide, by decide, Nat.le_refl _, Nat.le_refl _⟩ dX12_sea_152 ?_
        exact hL155 _ _ hf
  have hL117 : ∀ (v0 : Nat) (m : Mem), fX12_sea_117 v0 m = some (r, m2) → G z wM x 2 0 0 ad 17 m 117 [(0, .ref (ad v0))] [] := by
    intro v0 m hf
    unfold fX12_sea_117 at hf
    obtain ⟨e117, hit117, hrest117⟩ := bnd_some hf
    refine iter_ok (Hd := fun (s : (Mem)) => G z wM x 2 0 0 ad 17 s 117 [(0, .ref (ad v0))] []) ?_ FU (m) hit117
    intro m ob117 hf hs117 he117
    have hf : fX12_sea_117b v0 m = some ob117 := hf
    unfold fX12_sea_117b at hf
    refine g_aload_n (pc := 117) X dX12_sea_117 rfl 0 rfl ?_
    obtain ⟨hk53, hf⟩ := gp_some hf
    obtain ⟨r52, hq51, hf⟩ := bnd_some hf
    refine g_callVL (pc := 118) (As := []) (rest := []) X mi_X12_word im_X12_word se_X12_word (KMlt hk53 (by decide)) hk53 clX12 ml_X12_173 (cX12_word_ct z ad v0 m r52 hq51) rfl rfl (Nat.le_of_ble_eq_true rfl) ⟨rfl, rfl, by decide, by decide, Nat.le_refl _, Nat.le_refl _⟩ dX12_sea_118 ?_
    refine g_ldc2 (pc := 121) X dX12_sea_121 kl_X12_228 ?_
    refine g_lcmp_ne (pc := 124) (tgt := 135) X dX12_sea_124 dX12_sea_125 (by decide) (fun hc => ?_) (fun hc => ?_)
    · have hf := itn hc hf
      have he117 := he117 _ (Option.some.inj hf).symm
      subst he117
      have hf : fX12_sea_135 v0 m = some (r, m2) := hrest117
      exact hL135 _ _ hf
    · have hf := itp hc hf
      refine g_aload_n (pc := 128) X dX12_sea_128 rfl 0 rfl ?_
      obtain ⟨m55, hq54, hf⟩ := bnd_some hf
      refine g_callVV (pc := 129) (As := []) (rest := []) X mi_X12_readStory im_X12_readStory se_X12_readStory (KMlt hk53 (by decide)) hk53 clX12 ml_X12_230 (cX12_readStory_ct z ad v0 m m55 hq54) rfl rfl (Nat.le_of_ble_eq_true rfl) ⟨rfl, rfl, by decide, by decide, Nat.le_refl _, Nat.le_refl _⟩ dX12_sea_129 ?_
      refine g_goto (pc := 132) (tgt := 117) X dX12_sea_132 (by decide) ?_
      exact hs117 (m55) (Option.some.inj hf).symm
  have hL99 : ∀ (v0 : Nat) (m : Mem), fX12_sea_99 v0 m = some (r, m2) → G z wM x 2 0 0 ad 17 m 99 [(0, .ref (ad v0))] [] := by
    intro v0 m hf
    unfold fX12_sea_99 at hf
    obtain ⟨e99, hit99, hrest99⟩ := bnd_some hf
    refine iter_ok (Hd := fun (s : (Mem)) => G z wM x 2 0 0 ad 17 s 99 [(0, .ref (ad v0))] []) ?_ FU (m) hit99
    intro m ob99 hf hs99 he99
    have hf : fX12_sea_99b v0 m = some ob99 := hf
    unfold fX12_sea_99b at hf
    refine g_aload_n (pc := 99) X dX12_sea_99 rfl 0 rfl ?_
    obtain ⟨hk58, hf⟩ := gp_some hf
    obtain ⟨r57, hq56, hf⟩ := bnd_some hf
    refine g_callVL (pc := 100) (As := []) (rest := []) X mi_X12_word im_X12_word se_X12_word (KMlt hk58 (by decide)) hk58 clX12 ml_X12_173 (cX12_word_ct z ad v0 m r57 hq56) rfl rfl (Nat.le_of_ble_eq_true rfl) ⟨rfl, rfl, by decide, by decide, Nat.le_refl _, Nat.le_refl _⟩ dX12_sea_100 ?_
    refine g_ldc2 (pc := 103) X dX12_sea_103 kl_X12_223 ?_
    refine g_lcmp_ne (pc := 106) (tgt := 117) X dX12_sea_106 dX12_sea_107 (by decide) (fun hc => ?_) (fun hc => ?_)
    · have hf := itn hc hf
      have he99 := he99 _ (Option.some.inj hf).symm
      subst he99
      have hf : fX12_sea_117 v0 m = some (r, m2) := hrest99
      exact hL117 _ _ hf
    · have hf := itp hc hf
      refine g_aload_n (pc := 110) X dX12_sea_110 rfl 0 rfl ?_
      obtain ⟨m60, hq59, hf⟩ := bnd_some hf
      refine g_callVV (pc := 111) (As := []) (rest := []) X mi_X12_readSign im_X12_readSign se_X12_readSign (KMlt hk58 (by decide)) hk58 clX12 ml_X12_225 (cX12_readSign_ct z ad v0 m m60 hq59) rfl rfl (Nat.le_of_ble_eq_true rfl) ⟨rfl, rfl, by decide, by decide, Nat.le_refl _, Nat.le_refl _⟩ dX12_sea_111 ?_
      refine g_goto (pc := 114) (tgt := 99) X dX12_sea_114 (by decide) ?_
      exact hs99 (m60) (Option.some.inj hf).symm
  have hL81 : ∀ (v0 : Nat) (m : Mem), fX12_sea_81 v0 m = some (r, m2) → G z wM x 2 0 0 ad 17 m 81 [(0, .ref (ad v0))] [] := by
    intro v0 m hf
    unfold fX12_sea_81 at hf
    obtain ⟨e81, hit81, hrest81⟩ := bnd_some hf
    refine iter_ok (Hd := fun (s : (Mem)) => G z wM x 2 0 0 ad 17 s 81 [(0, .ref (ad v0))] []) ?_ FU (m) hit81
    intro m ob81 hf hs81 he81
    have hf : fX12_sea_81b v0 m = some ob81 := hf
    unfold fX12_sea_81b at hf
    refine g_aload_n (pc := 81) X dX12_sea_81 rfl 0 rfl ?_
    obtain ⟨hk63, hf⟩ := gp_some hf
    obtain ⟨r62, hq61, hf⟩ := bnd_some hf
    refine g_callVL (pc := 82) (As := []) (rest := []) X mi_X12_word im_X12_word se_X12_word (KMlt hk63 (by decide)) hk63 clX12 ml_X12_173 (cX12_word_ct z ad v0 m r62 hq61) rfl rfl (Nat.le_of_ble_eq_true rfl) ⟨rfl, rfl, by decide, by decide, Nat.le_refl _, Nat.le_refl _⟩ dX12_sea_82 ?_
    refine g_ldc2 (pc := 85) X dX12_sea_85 kl_X12_218 ?_
    refine g_lcmp_ne (pc := 88) (tgt := 99) X dX12_sea_88 dX12_sea_89 (by decide) (fun hc => ?_) (fun hc => ?_)
    · have hf := itn hc hf
      have he81 := he81 _ (Option.some.inj hf).symm
      subst he81
      have hf : fX12_sea_99 v0 m = some (r, m2) := hrest81
      exact hL99 _ _ hf
    · have hf := itp hc hf
      refine g_aload_n (pc := 92) X dX12_sea_92 rfl 0 rfl ?_
      obtain ⟨m65, hq64, hf⟩ := bnd_some hf
      refine g_callVV (pc := 93) (As := []) (rest := []) X mi_X12_readMan im_X12_readMan se_X12_readMan (KMlt hk63 (by decide)) hk63 clX12 ml_X12_220 (cX12_readMan_ct z ad v0 m m65 hq64) rfl rfl (Nat.le_of_ble_eq_true rfl) ⟨rfl, rfl, by decide, by decide, Nat.le_refl _, Nat.le_refl _⟩ dX12_sea_93 ?_
      refine g_goto (pc := 96) (tgt := 81) X dX12_sea_96 (by decide) ?_
      exact hs81 (m65) (Option.some.inj hf).symm
  have hL50 : ∀ (v0 : Nat) (m : Mem), fX12_sea_50 v0 m = some (r, m2) → G z wM x 2 0 0 ad 17 m 50 [(0, .ref (ad v0))] [] := by
    intro v0 m hf
    unfold fX12_sea_50 at hf
    refine g_aload_n (pc := 50) X dX12_sea_50 rfl 0 rfl ?_
    obtain ⟨hk68, hf⟩ := gp_some hf
    obtain ⟨m67, hq66, hf⟩ := bnd_some hf
    refine g_callVV (pc := 51) (As := []) (rest := []) X mi_X12_next im_X12_next se_X12_next (KMlt hk68 (by decide)) hk68 clX12 ml_X12_132 (cX12_next_ct z ad v0 m m67 hq66) rfl rfl (Nat.le_of_ble_eq_true rfl) ⟨rfl, rfl, by decide, by decide, Nat.le_refl _, Nat.le_refl _⟩ dX12_sea_51 ?_
    refine g_aload_n (pc := 54) X dX12_sea_54 rfl 0 rfl ?_
    obtain ⟨m70, hq69, hf⟩ := bnd_some hf
    refine g_callVV (pc := 55) (As := []) (rest := []) X mi_X12_readShore im_X12_readShore se_X12_readShore (KMlt hk68 (by decide)) hk68 clX12 ml_X12_210 (cX12_readShore_ct z ad v0 m67 m70 hq69) rfl rfl (Nat.le_of_ble_eq_true rfl) ⟨rfl, rfl, by decide, by decide, Nat.le_refl _, Nat.le_refl _⟩ dX12_sea_55 ?_
    refine g_aload_n (pc := 58) X dX12_sea_58 rfl 0 rfl ?_
    obtain ⟨r72, hq71, hf⟩ := bnd_some hf
    refine g_callVL (pc := 59) (As := []) (rest := []) X mi_X12_word im_X12_word se_X12_word (KMlt hk68 (by decide)) hk68 clX12 ml_X12_173 (cX12_word_ct z ad v0 m70 r72 hq71) rfl rfl (Nat.le_of_ble_eq_true rfl) ⟨rfl, rfl, by decide, by decide, Nat.le_refl _, Nat.le_refl _⟩ dX12_sea_59 ?_
    refine g_ldc2 (pc := 62) X dX12_sea_62 kl_X12_213 ?_
    refine g_lcmp_ne (pc := 65) (tgt := 76) X dX12_sea_65 dX12_sea_66 (by decide) (fun hc => ?_) (fun hc => ?_)
    · have hf := itn hc hf
      refine g_aload_n (pc := 76) X dX12_sea_76 rfl 0 rfl ?_
      refine g_iconst (v := (1 : Int32)) (pc := 77) X dX12_sea_77 (by decide) ?_
      obtain ⟨m74, hq73, hf⟩ := bnd_some hf
      refine g_callVV (pc := 78) (As := [.int (1 : Int32)]) (rest := []) X mi_X12_bad im_X12_bad se_X12_bad (KMlt hk68 (by decide)) hk68 clX12 ml_X12_128 (cX12_bad_ct z ad v0 (1 : Int32) m70 m74 hq73) rfl rfl (Nat.le_of_ble_eq_true rfl) ⟨rfl, rfl, by decide, by decide, Nat.le_refl _, Nat.le_refl _⟩ dX12_sea_78 ?_
      exact hL81 _ _ hf
    · have hf := itp hc hf
      refine g_aload_n (pc := 69) X dX12_sea_69 rfl 0 rfl ?_
      obtain ⟨m76, hq75, hf⟩ := bnd_some hf
      refine g_callVV (pc := 70) (As := []) (rest := []) X mi_X12_readShip im_X12_readShip se_X12_readShip (KMlt hk68 (by decide)) hk68 clX12 ml_X12_215 (cX12_readShip_ct z ad v0 m70 m76 hq75) rfl rfl (Nat.le_of_ble_eq_true rfl) ⟨rfl, rfl, by decide, by decide, Nat.le_refl _, Nat.le_refl _⟩ dX12_sea_70 ?_
      refine g_goto (pc := 73) (tgt := 81) X dX12_sea_73 (by decide) ?_
      exact hL81 _ _ hf
  have hL30 : ∀ (v0 : Nat) (v1 : Int32) (m : Mem), fX12_sea_30 v0 v1 m = some (r, m2) → G z wM x 2 0 0 ad 17 m 30 [(0, .ref (ad v0)), (1, .int v1)] [] := by
    intro v0 v1 m hf
    unfold fX12_sea_30 at hf
    obtain ⟨e30, hit30, hrest30⟩ := bnd_some hf
    refine iter_ok (Hd := fun (s : (Int32 × Mem)) => G z wM x 2 0 0 ad 17 s.2 30 [(0, .ref (ad v0)), (1, .int s.1)] []) ?_ FU (v1, m) hit30
    intro s ob30 hf hs30 he30
    obtain ⟨v1, m⟩ := s
    have hf : fX12_sea_30b v0 v1 m = some ob30 := hf
    unfold fX12_sea_30b at hf
    refine g_iload_n (pc := 30) X dX12_sea_30 rfl 1 rfl ?_
    refine g_sipush (v := (206 : Int32)) (pc := 31) X dX12_sea_31 (by decide) ?_
    refine g_icmp_ge (pc := 34) (tgt := 50) X dX12_sea_34 (by decide) (fun hc => ?_) (fun hc => ?_)
    · have hf := itp hc hf
      have he30 := he30 _ (Option.some.inj hf).symm
      subst he30
      have hf : fX12_sea_50 v0 m = some (r, m2) := hrest30
      refine g_lv [(0, .ref (ad v0))] [0] rfl ?_
      exact hL50 _ _ hf
    · have hf := itn hc hf
      refine g_aload_n (pc := 37) X dX12_sea_37 rfl 0 rfl ?_
      obtain ⟨hk77, hf⟩ := gp_some hf
      obtain ⟨q78, hr79, hf⟩ := bnd_some hf
      refine g_getR (pc := 38) X fl_X12_22 (KMlt hk77 (by decide)) hk77 hr79 dX12_sea_38 ?_
      refine g_iload_n (pc := 41) X dX12_sea_41 rfl 1 rfl ?_
      refine g_iconst (v := (0 : Int32)) (pc := 42) X dX12_sea_42 (by decide) ?_
      obtain ⟨hk80, hf⟩ := gp_some hf
      obtain ⟨hi81, hf⟩ := gp_some hf
      refine g_iast (pc := 43) X (KMlt hk80 (by decide)) hk80 hi81 dX12_sea_43 ?_
      obtain ⟨m82, e83, hf⟩ := lt1_some hf
      refine g_mem e83 ?_
      obtain ⟨v1_84, e85, hf⟩ := lt1_some hf
      refine g_iinc (v2 := v1_84) (lv2 := [(0, .ref (ad v0)), (1, .int v1_84)]) (pc := 44) X dX12_sea_44 1 rfl (by rw [e85]; rfl) (by decide) [1, 0] rfl ?_
      refine g_goto (pc := 47) (tgt := 30) X dX12_sea_47 (by decide) ?_
      exact hs30 (v1_84, m82) (Option.some.inj hf).symm
  unfold fX12_sea at hf
  refine g_aload_n (pc := 0) X dX12_sea_0 rfl 0 rfl ?_
  refine g_iconst (v := (0 : Int32)) (pc := 1) X dX12_sea_1 (by decide) ?_
  obtain ⟨hk86, hf⟩ := gp_some hf
  refine g_putI (pc := 2) X fl_X12_60 (KMlt hk86 (by decide)) hk86 rfl rfl dX12_sea_2 ?_
  obtain ⟨m87, e88, hf⟩ := lt1_some hf
  refine g_mem e88 ?_
  refine g_aload_n (pc := 5) X dX12_sea_5 rfl 0 rfl ?_
  refine g_aload_n (pc := 6) X dX12_sea_6 rfl 0 rfl ?_
  refine g_getI (pc := 7) X fl_X12_89 (KMlt hk86 (by decide)) hk86 dX12_sea_7 ?_
  refine g_putI (pc := 10) X fl_X12_96 (KMlt hk86 (by decide)) hk86 rfl rfl dX12_sea_10 ?_
  obtain ⟨m89, e90, hf⟩ := lt1_some hf
  refine g_mem e90 ?_
  refine g_aload_n (pc := 13) X dX12_sea_13 rfl 0 rfl ?_
  refine g_iconst (v := (0 : Int32)) (pc := 14) X dX12_sea_14 (by decide) ?_
  refine g_putI (pc := 15) X fl_X12_89 (KMlt hk86 (by decide)) hk86 rfl rfl dX12_sea_15 ?_
  obtain ⟨m91, e92, hf⟩ := lt1_some hf
  refine g_mem e92 ?_
  refine g_aload_n (pc := 18) X dX12_sea_18 rfl 0 rfl ?_
  refine g_iconst (v := (0 : Int32)) (pc := 19) X dX12_sea_19 (by decide) ?_
  refine g_putI (pc := 20) X fl_X12_100 (KMlt hk86 (by decide)) hk86 rfl rfl dX12_sea_20 ?_
  obtain ⟨m93, e94, hf⟩ := lt1_some hf
  refine g_mem e94 ?_
  refine g_aload_n (pc := 23) X dX12_sea_23 rfl 0 rfl ?_
  refine g_iconst (v := (0 : Int32)) (pc := 24) X dX12_sea_24 (by decide) ?_
  refine g_putI (pc := 25) X fl_X12_122 (KMlt hk86 (by decide)) hk86 rfl rfl dX12_sea_25 ?_
  obtain ⟨m95, e96, hf⟩ := lt1_some hf
  refine g_mem e96 ?_
  refine g_iconst (v := (0 : Int32)) (pc := 28) X dX12_sea_28 (by decide) ?_
  obtain ⟨v1_97, e98, hf⟩ := lt1_some hf
  refine g_topi e98 ?_
  refine g_istore_n (lv2 := [(0, .ref (ad v0)), (1, .int v1_97)]) (pc := 29) X dX12_sea_29 rfl (by decide) [1, 0] rfl ?_
  exact hL30 _ _ _ hf

noncomputable def fX12_fault (v0 : Nat) (m : Mem) : Option (Int32 × Mem) := gp (KM v0 = 12) (lt1 (uI m v0 0 (0 : Int32)) (fun m2 => some (m2.1 v0 11, m2)))
set_option maxHeartbeats 4000000 in
set_option maxRecDepth 100000 in
theorem cX12_fault_ct (z : Zx) (ad : Nat → Nat) (v0 : Nat) (m m2 : Mem) (r : Int32) (hf : fX12_fault v0 m = some (r, m2)) : CtI z wM yX12_fault cX12_fault 1 (some .int) (Rm 2) ad 17 [.ref (ad v0)] m m2 r := by
  refine ct_ofI mi_X12_fault rfl (Nat.le_of_ble_eq_true rfl) (fun x X hret => ?_)
  refine g_lv [(0, .ref (ad v0))] [0] rfl ?_
  unfold fX12_fault at hf
  refine g_aload_n (pc := 0) X dX12_fault_0 rfl 0 rfl ?_
  refine g_iconst (v := (0 : Int32)) (pc := 1) X dX12_fault_1 (by decide) ?_
  obtain ⟨hk1, hf⟩ := gp_some hf
  refine g_putI (pc := 2) X fl_X12_60 (KMlt hk1 (by decide)) hk1 rfl rfl dX12_fault_2 ?_
  obtain ⟨m2, e3, hf⟩ := lt1_some hf
  refine g_mem e3 ?_
  refine g_aload_n (pc := 5) X dX12_fault_5 rfl 0 rfl ?_
  refine g_getI (pc := 6) X fl_X12_233 (KMlt hk1 (by decide)) hk1 dX12_fault_6 ?_
  obtain ⟨rfl, rfl⟩ := som2 hf
  exact hret _ _ rfl dX12_fault_9

noncomputable def fX12_isCell (v0 : Nat) (v1 : Int32) (v2 : Int32) (m : Mem) : Option Int32 := gp (KM v0 = 12) (bnd (m.2.2 v0 5) (fun q2 => gp (KM q2 = 14) (gp (inb (6 : Int32) (NM q2) = true) (bnd (fX12_in v1.toInt64 (0 : Int64) (((m.1 q2 (6 : Int32).toNatClampNeg) - (1 : Int32)).toInt64)) (fun r7 => if r7 = 0 then (some (0 : Int32)) else (gp (inb (7 : Int32) (NM q2) = true) (bnd (fX12_in v2.toInt64 (0 : Int64) (((m.1 q2 (7 : Int32).toNatClampNeg) - (1 : Int32)).toInt64)) (fun r10 => if r10 = 0 then (some (0 : Int32)) else (some (1 : Int32))))))))))
set_option maxHeartbeats 4000000 in
set_option maxRecDepth 100000 in
theorem cX12_isCell_ct (z : Zx) (ad : Nat → Nat) (v0 : Nat) (v1 : Int32) (v2 : Int32) (m : Mem) (r : Int32) (hf : fX12_isCell v0 v1 v2 m = some r) : CtI z wM yX12_isCell cX12_isCell 3 (some .boolean) (Rm 3) ad 17 [.ref (ad v0), .int v1, .int v2] m m r := by
  refine ct_ofI mi_X12_isCell rfl (Nat.le_of_ble_eq_true rfl) (fun x X hret => ?_)
  refine g_lv [(0, .ref (ad v0)), (1, .int v1), (2, .int v2)] [0, 1, 2] rfl ?_
  unfold fX12_isCell at hf
  refine g_iload_n (pc := 0) X dX12_isCell_0 rfl 1 rfl ?_
  refine g_i2l (pc := 1) X dX12_isCell_1 ?_
  refine g_lconst (v := (0 : Int64)) (pc := 2) X dX12_isCell_2 (by decide) ?_
  refine g_aload_n (pc := 3) X dX12_isCell_3 rfl 0 rfl ?_
  obtain ⟨hk1, hf⟩ := gp_some hf
  obtain ⟨q2, hr3, hf⟩ := bnd_some hf
  refine g_getR (pc := 4) X fl_X12_19 (KMlt hk1 (by decide)) hk1 hr3 dX12_isCell_4 ?_
  refine g_bipush (v := (6 : Int32)) (pc := 7) X dX12_isCell_7 (by decide) ?_
  obtain ⟨hk4, hf⟩ := gp_some hf
  obtain ⟨hi5, hf⟩ := gp_some hf
  refine g_iald (pc := 9) X (KMlt hk4 (by decide)) hk4 hi5 dX12_isCell_9 ?_
  refine g_iconst (v := (1 : Int32)) (pc := 10) X dX12_isCell_10 (by decide) ?_
  refine g_isub (pc := 11) X dX12_isCell_11 ?_
  refine g_i2l (pc := 12) X dX12_isCell_12 ?_
  obtain ⟨r7, hq6, hf⟩ := bnd_some hf
  refine g_callSI (pc := 13) (As := [.long v1.toInt64, .long (0 : Int64), .long (((m.1 q2 (6 : Int32).toNatClampNeg) - (1 : Int32)).toInt64)]) (rest := []) X mi_X12_in sm_X12_in ml_X12_71 (cX12_in_ct z ad v1.toInt64 (0 : Int64) (((m.1 q2 (6 : Int32).toNatClampNeg) - (1 : Int32)).toInt64) m r7 hq6) rfl rfl (Nat.le_of_ble_eq_true rfl) ⟨rfl, rfl, by decide, by decide, Nat.le_refl _, Nat.le_refl _⟩ dX12_isCell_13 ?_
  refine g_if_eq (pc := 16) (tgt := 42) X dX12_isCell_16 (by decide) (fun hc => ?_) (fun hc => ?_)
  · have hf := itp hc hf
    refine g_iconst (v := (0 : Int32)) (pc := 42) X dX12_isCell_42 (by decide) ?_
    obtain rfl := Option.some.inj hf
    exact hret _ _ (by decide) dX12_isCell_43
  · have hf := itn hc hf
    refine g_iload_n (pc := 19) X dX12_isCell_19 rfl 2 rfl ?_
    refine g_i2l (pc := 20) X dX12_isCell_20 ?_
    refine g_lconst (v := (0 : Int64)) (pc := 21) X dX12_isCell_21 (by decide) ?_
    refine g_aload_n (pc := 22) X dX12_isCell_22 rfl 0 rfl ?_
    refine g_getR (pc := 23) X fl_X12_19 (KMlt hk1 (by decide)) hk1 hr3 dX12_isCell_23 ?_
    refine g_bipush (v := (7 : Int32)) (pc := 26) X dX12_isCell_26 (by decide) ?_
    obtain ⟨hi8, hf⟩ := gp_some hf
    refine g_iald (pc := 28) X (KMlt hk4 (by decide)) hk4 hi8 dX12_isCell_28 ?_
    refine g_iconst (v := (1 : Int32)) (pc := 29) X dX12_isCell_29 (by decide) ?_
    refine g_isub (pc := 30) X dX12_isCell_30 ?_
    refine g_i2l (pc := 31) X dX12_isCell_31 ?_
    obtain ⟨r10, hq9, hf⟩ := bnd_some hf
    refine g_callSI (pc := 32) (As := [.long v2.toInt64, .long (0 : Int64), .long (((m.1 q2 (7 : Int32).toNatClampNeg) - (1 : Int32)).toInt64)]) (rest := []) X mi_X12_in sm_X12_in ml_X12_71 (cX12_in_ct z ad v2.toInt64 (0 : Int64) (((m.1 q2 (7 : Int32).toNatClampNeg) - (1 : Int32)).toInt64) m r10 hq9) rfl rfl (Nat.le_of_ble_eq_true rfl) ⟨rfl, rfl, by decide, by decide, Nat.le_refl _, Nat.le_refl _⟩ dX12_isCell_32 ?_
    refine g_if_eq (pc := 35) (tgt := 42) X dX12_isCell_35 (by decide) (fun hc => ?_) (fun hc => ?_)
    · have hf := itp hc hf
      refine g_iconst (v := (0 : Int32)) (pc := 42) X dX12_isCell_42 (by decide) ?_
      obtain rfl := Option.some.inj hf
      exact hret _ _ (by decide) dX12_isCell_43
    · have hf := itn hc hf
      refine g_iconst (v := (1 : Int32)) (pc := 38) X dX12_isCell_38 (by decide) ?_
      refine g_goto (pc := 39) (tgt := 43) X dX12_isCell_39 (by decide) ?_
      obtain rfl := Option.some.inj hf
      exact hret _ _ (by decide) dX12_isCell_43

noncomputable def fX12_isLand (v0 : Nat) (v1 : Int32) (m : Mem) : Option Int32 := gp (KM v0 = 12) (bnd (m.2.2 v0 5) (fun q2 => gp (KM q2 = 14) (gp (inb ((78 : Int32) + v1) (NM q2) = true) (if (m.1 q2 ((78 : Int32) + v1).toNatClampNeg) = (1 : Int32) then (some (1 : Int32)) else (some (0 : Int32))))))
set_option maxHeartbeats 4000000 in
set_option maxRecDepth 100000 in
theorem cX12_isLand_ct (z : Zx) (ad : Nat → Nat) (v0 : Nat) (v1 : Int32) (m : Mem) (r : Int32) (hf : fX12_isLand v0 v1 m = some r) : CtI z wM yX12_isLand cX12_isLand 2 (some .boolean) (Rm 2) ad 17 [.ref (ad v0), .int v1] m m r := by
  refine ct_ofI mi_X12_isLand rfl (Nat.le_of_ble_eq_true rfl) (fun x X hret => ?_)
  refine g_lv [(0, .ref (ad v0)), (1, .int v1)] [0, 1] rfl ?_
  unfold fX12_isLand at hf
  refine g_aload_n (pc := 0) X dX12_isLand_0 rfl 0 rfl ?_
  obtain ⟨hk1, hf⟩ := gp_some hf
  obtain ⟨q2, hr3, hf⟩ := bnd_some hf
  refine g_getR (pc := 1) X fl_X12_19 (KMlt hk1 (by decide)) hk1 hr3 dX12_isLand_1 ?_
  refine g_bipush (v := (78 : Int32)) (pc := 4) X dX12_isLand_4 (by decide) ?_
  refine g_iload_n (pc := 6) X dX12_isLand_6 rfl 1 rfl ?_
  refine g_iadd (pc := 7) X dX12_isLand_7 ?_
  obtain ⟨hk4, hf⟩ := gp_some hf
  obtain ⟨hi5, hf⟩ := gp_some hf
  refine g_iald (pc := 8) X (KMlt hk4 (by decide)) hk4 hi5 dX12_isLand_8 ?_
  refine g_iconst (v := (1 : Int32)) (pc := 9) X dX12_isLand_9 (by decide) ?_
  refine g_icmp_ne (pc := 10) (tgt := 17) X dX12_isLand_10 (by decide) (fun hc => ?_) (fun hc => ?_)
  · have hf := itn hc hf
    refine g_iconst (v := (0 : Int32)) (pc := 17) X dX12_isLand_17 (by decide) ?_
    obtain rfl := Option.some.inj hf
    exact hret _ _ (by decide) dX12_isLand_18
  · have hf := itp hc hf
    refine g_iconst (v := (1 : Int32)) (pc := 13) X dX12_isLand_13 (by decide) ?_
    refine g_goto (pc := 14) (tgt := 18) X dX12_isLand_14 (by decide) ?_
    obtain rfl := Option.some.inj hf
    exact hret _ _ (by decide) dX12_isLand_18

noncomputable def fX12_isWater (v0 : Nat) (v1 : Int32) (v2 : Int32) (m : Mem) : Option Int32 := gp (KM v0 = 12) (bnd (fX12_isCell v0 v1 v2 m) (fun r2 => if r2 = 0 then (some (0 : Int32)) else (bnd (fX12_isLand v0 (((16 : Int32) * v2) + v1) m) (fun r5 => if r5 = 0 then (some (1 : Int32)) else (some (0 : Int32))))))
set_option maxHeartbeats 4000000 in
set_option maxRecDepth 100000 in
theorem cX12_isWater_ct (z : Zx) (ad : Nat → Nat) (v0 : Nat) (v1 : Int32) (v2 : Int32) (m : Mem) (r : Int32) (hf : fX12_isWater v0 v1 v2 m = some r) : CtI z wM yX12_isWater cX12_isWater 3 (some .boolean) (Rm 4) ad 17 [.ref (ad v0), .int v1, .int v2] m m r := by
  refine ct_ofI mi_X12_isWater rfl (Nat.le_of_ble_eq_true rfl) (fun x X hret => ?_)
  refine g_lv [(0, .ref (ad v0)), (1, .int v1), (2, .int v2)] [0, 1, 2] rfl ?_
  unfold fX12_isWater at hf
  refine g_aload_n (pc := 0) X dX12_isWater_0 rfl 0 rfl ?_
  refine g_iload_n (pc := 1) X dX12_isWater_1 rfl 1 rfl ?_
  refine g_iload_n (pc := 2) X dX12_isWater_2 rfl 2 rfl ?_
  obtain ⟨hk3, hf⟩ := gp_some hf
  obtain ⟨r2, hq1, hf⟩ := bnd_some hf
  refine g_callVI (pc := 3) (As := [.int v1, .int v2]) (rest := []) X mi_X12_isCell im_X12_isCell se_X12_isCell (KMlt hk3 (by decide)) hk3 clX12 ml_X12_242 (cX12_isCell_ct z ad v0 v1 v2 m r2 hq1) rfl rfl (Nat.le_of_ble_eq_true rfl) ⟨rfl, rfl, by decide, by decide, Nat.le_refl _, Nat.le_refl _⟩ dX12_isWater_3 ?_
  refine g_if_eq (pc := 6) (tgt := 26) X dX12_isWater_6 (by decide) (fun hc => ?_) (fun hc => ?_)
  · have hf := itp hc hf
    refine g_iconst (v := (0 : Int32)) (pc := 26) X dX12_isWater_26 (by decide) ?_
    obtain rfl := Option.some.inj hf
    exact hret _ _ (by decide) dX12_isWater_27
  · have hf := itn hc hf
    refine g_aload_n (pc := 9) X dX12_isWater_9 rfl 0 rfl ?_
    refine g_bipush (v := (16 : Int32)) (pc := 10) X dX12_isWater_10 (by decide) ?_
    refine g_iload_n (pc := 12) X dX12_isWater_12 rfl 2 rfl ?_
    refine g_imul (pc := 13) X dX12_isWater_13 ?_
    refine g_iload_n (pc := 14) X dX12_isWater_14 rfl 1 rfl ?_
    refine g_iadd (pc := 15) X dX12_isWater_15 ?_
    obtain ⟨r5, hq4, hf⟩ := bnd_some hf
    refine g_callVI (pc := 16) (As := [.int (((16 : Int32) * v2) + v1)]) (rest := []) X mi_X12_isLand im_X12_isLand se_X12_isLand (KMlt hk3 (by decide)) hk3 clX12 ml_X12_246 (cX12_isLand_ct z ad v0 (((16 : Int32) * v2) + v1) m r5 hq4) rfl rfl (Nat.le_of_ble_eq_true rfl) ⟨rfl, rfl, by decide, by decide, Nat.le_refl _, Nat.le_refl _⟩ dX12_isWater_16 ?_
    refine g_if_ne (pc := 19) (tgt := 26) X dX12_isWater_19 (by decide) (fun hc => ?_) (fun hc => ?_)
    · have hf := itn hc hf
      refine g_iconst (v := (0 : Int32)) (pc := 26) X dX12_isWater_26 (by decide) ?_
      obtain rfl := Option.some.inj hf
      exact hret _ _ (by decide) dX12_isWater_27
    · have hf := itp hc hf
      refine g_iconst (v := (1 : Int32)) (pc := 22) X dX12_isWater_22 (by decide) ?_
      refine g_goto (pc := 23) (tgt := 27) X dX12_isWater_23 (by decide) ?_
      obtain rfl := Option.some.inj hf
      exact hret _ _ (by decide) dX12_isWater_27

noncomputable def fX12_isAny (v0 : Nat) (v1 : Int32) (m : Mem) : Option Int32 := if v1 < 0 then (some (0 : Int32)) else (gp (¬ (16 : Int32) = 0) (gp (¬ (16 : Int32) = 0) (gp (KM v0 = 12) (bnd (fX12_isCell v0 (v1 - v1 / (16 : Int32) * (16 : Int32)) (v1 / (16 : Int32)) m) (fun r4 => if r4 = 0 then (some (0 : Int32)) else (some (1 : Int32)))))))
set_option maxHeartbeats 4000000 in
set_option maxRecDepth 100000 in
theorem cX12_isAny_ct (z : Zx) (ad : Nat → Nat) (v0 : Nat) (v1 : Int32) (m : Mem) (r : Int32) (hf : fX12_isAny v0 v1 m = some r) : CtI z wM yX12_isAny cX12_isAny 2 (some .boolean) (Rm 4) ad 17 [.ref (ad v0), .int v1] m m r := by
  refine ct_ofI mi_X12_isAny rfl (Nat.le_of_ble_eq_true rfl) (fun x X hret => ?_)
  refine g_lv [(0, .ref (ad v0)), (1, .int v1)] [0, 1] rfl ?_
  unfold fX12_isAny at hf
  refine g_iload_n (pc := 0) X dX12_isAny_0 rfl 1 rfl ?_
  refine g_if_lt (pc := 1) (tgt := 23) X dX12_isAny_1 (by decide) (fun hc => ?_) (fun hc => ?_)
  · have hf := itp hc hf
    refine g_iconst (v := (0 : Int32)) (pc := 23) X dX12_isAny_23 (by decide) ?_
    obtain rfl := Option.some.inj hf
    exact hret _ _ (by decide) dX12_isAny_24
  · have hf := itn hc hf
    refine g_aload_n (pc := 4) X dX12_isAny_4 rfl 0 rfl ?_
    refine g_iload_n (pc := 5) X dX12_isAny_5 rfl 1 rfl ?_
    refine g_bipush (v := (16 : Int32)) (pc := 6) X dX12_isAny_6 (by decide) ?_
    obtain ⟨hz1, hf⟩ := gp_some hf
    refine g_irem (pc := 8) X dX12_isAny_8 hz1 ?_
    refine g_iload_n (pc := 9) X dX12_isAny_9 rfl 1 rfl ?_
    refine g_bipush (v := (16 : Int32)) (pc := 10) X dX12_isAny_10 (by decide) ?_
    obtain ⟨hz2, hf⟩ := gp_some hf
    refine g_idiv (pc := 12) X dX12_isAny_12 hz2 ?_
    obtain ⟨hk5, hf⟩ := gp_some hf
    obtain ⟨r4, hq3, hf⟩ := bnd_some hf
    refine g_callVI (pc := 13) (As := [.int (v1 - v1 / (16 : Int32) * (16 : Int32)), .int (v1 / (16 : Int32))]) (rest := []) X mi_X12_isCell im_X12_isCell se_X12_isCell (KMlt hk5 (by decide)) hk5 clX12 ml_X12_242 (cX12_isCell_ct z ad v0 (v1 - v1 / (16 : Int32) * (16 : Int32)) (v1 / (16 : Int32)) m r4 hq3) rfl rfl (Nat.le_of_ble_eq_true rfl) ⟨rfl, rfl, by decide, by decide, Nat.le_refl _, Nat.le_refl _⟩ dX12_isAny_13 ?_
    refine g_if_eq (pc := 16) (tgt := 23) X dX12_isAny_16 (by decide) (fun hc => ?_) (fun hc => ?_)
    · have hf := itp hc hf
      refine g_iconst (v := (0 : Int32)) (pc := 23) X dX12_isAny_23 (by decide) ?_
      obtain rfl := Option.some.inj hf
      exact hret _ _ (by decide) dX12_isAny_24
    · have hf := itn hc hf
      refine g_iconst (v := (1 : Int32)) (pc := 19) X dX12_isAny_19 (by decide) ?_
      refine g_goto (pc := 20) (tgt := 24) X dX12_isAny_20 (by decide) ?_
      obtain rfl := Option.some.inj hf
      exact hret _ _ (by decide) dX12_isAny_24

noncomputable def fX12_isOpen (v0 : Nat) (v1 : Int32) (m : Mem) : Option Int32 := gp (KM v0 = 12) (bnd (fX12_isAny v0 v1 m) (fun r2 => if r2 = 0 then (some (0 : Int32)) else (bnd (fX12_isLand v0 v1 m) (fun r5 => if r5 = 0 then (some (1 : Int32)) else (some (0 : Int32))))))
set_option maxHeartbeats 4000000 in
set_option maxRecDepth 100000 in
theorem cX12_isOpen_ct (z : Zx) (ad : Nat → Nat) (v0 : Nat) (v1 : Int32) (m : Mem) (r : Int32) (hf : fX12_isOpen v0 v1 m = some r) : CtI z wM yX12_isOpen cX12_isOpen 2 (some .boolean) (Rm 5) ad 17 [.ref (ad v0), .int v1] m m r := by
  refine ct_ofI mi_X12_isOpen rfl (Nat.le_of_ble_eq_true rfl) (fun x X hret => ?_)
  refine g_lv [(0, .ref (ad v0)), (1, .int v1)] [0, 1] rfl ?_
  unfold fX12_isOpen at hf
  refine g_aload_n (pc := 0) X dX12_isOpen_0 rfl 0 rfl ?_
  refine g_iload_n (pc := 1) X dX12_isOpen_1 rfl 1 rfl ?_
  obtain ⟨hk3, hf⟩ := gp_some hf
  obtain ⟨r2, hq1, hf⟩ := bnd_some hf
  refine g_callVI (pc := 2) (As := [.int v1]) (rest := []) X mi_X12_isAny im_X12_isAny se_X12_isAny (KMlt hk3 (by decide)) hk3 clX12 ml_X12_249 (cX12_isAny_ct z ad v0 v1 m r2 hq1) rfl rfl (Nat.le_of_ble_eq_true rfl) ⟨rfl, rfl, by decide, by decide, Nat.le_refl _, Nat.le_refl _⟩ dX12_isOpen_2 ?_
  refine g_if_eq (pc := 5) (tgt := 20) X dX12_isOpen_5 (by decide) (fun hc => ?_) (fun hc => ?_)
  · have hf := itp hc hf
    refine g_iconst (v := (0 : Int32)) (pc := 20) X dX12_isOpen_20 (by decide) ?_
    obtain rfl := Option.some.inj hf
    exact hret _ _ (by decide) dX12_isOpen_21
  · have hf := itn hc hf
    refine g_aload_n (pc := 8) X dX12_isOpen_8 rfl 0 rfl ?_
    refine g_iload_n (pc := 9) X dX12_isOpen_9 rfl 1 rfl ?_
    obtain ⟨r5, hq4, hf⟩ := bnd_some hf
    refine g_callVI (pc := 10) (As := [.int v1]) (rest := []) X mi_X12_isLand im_X12_isLand se_X12_isLand (KMlt hk3 (by decide)) hk3 clX12 ml_X12_246 (cX12_isLand_ct z ad v0 v1 m r5 hq4) rfl rfl (Nat.le_of_ble_eq_true rfl) ⟨rfl, rfl, by decide, by decide, Nat.le_refl _, Nat.le_refl _⟩ dX12_isOpen_10 ?_
    refine g_if_ne (pc := 13) (tgt := 20) X dX12_isOpen_13 (by decide) (fun hc => ?_) (fun hc => ?_)
    · have hf := itn hc hf
      refine g_iconst (v := (0 : Int32)) (pc := 20) X dX12_isOpen_20 (by decide) ?_
      obtain rfl := Option.some.inj hf
      exact hret _ _ (by decide) dX12_isOpen_21
    · have hf := itp hc hf
      refine g_iconst (v := (1 : Int32)) (pc := 16) X dX12_isOpen_16 (by decide) ?_
      refine g_goto (pc := 17) (tgt := 21) X dX12_isOpen_17 (by decide) ?_
      obtain rfl := Option.some.inj hf
      exact hret _ _ (by decide) dX12_isOpen_21

noncomputable def fX12_goneTo_51 (v0 : Nat) (v1 : Int32) (v3 : Int32) (s0 : Int32) (m : Mem) : Option Int32 := gp (¬ (16 : Int32) = 0) (lt1 ((v1 - v1 / (16 : Int32) * (16 : Int32)) + v3) (fun v5_2 => gp (¬ (16 : Int32) = 0) (lt1 ((v1 / (16 : Int32)) + s0) (fun v6_5 => gp (KM v0 = 12) (bnd (fX12_isCell v0 v5_2 v6_5 m) (fun r8 => if r8 = 0 then (some v1) else (some (((16 : Int32) * v6_5) + v5_2))))))))
noncomputable def fX12_goneTo_20 (v0 : Nat) (v1 : Int32) (v2 : Int32) (s0 : Int32) (m : Mem) : Option Int32 := gp (¬ (4 : Int32) = 0) (if (v2 - v2 / (4 : Int32) * (4 : Int32)) = (2 : Int32) then (fX12_goneTo_51 v0 v1 s0 (0 : Int32) m) else (bnd (fX12_in v2.toInt64 (3 : Int64) (5 : Int64)) (fun r12 => if r12 = 0 then (fX12_goneTo_51 v0 v1 s0 (-1 : Int32) m) else (fX12_goneTo_51 v0 v1 s0 (1 : Int32) m))))
noncomputable def fX12_goneTo (v0 : Nat) (v1 : Int32) (v2 : Int32) (m : Mem) : Option Int32 := gp (¬ (4 : Int32) = 0) (if (v2 - v2 / (4 : Int32) * (4 : Int32)) = 0 then (fX12_goneTo_20 v0 v1 v2 (0 : Int32) m) else (if (4 : Int32) ≤ v2 then (fX12_goneTo_20 v0 v1 v2 (-1 : Int32) m) else (fX12_goneTo_20 v0 v1 v2 (1 : Int32) m)))
set_option maxHeartbeats 4000000 in
set_option maxRecDepth 100000 in
theorem cX12_goneTo_ct (z : Zx) (ad : Nat → Nat) (v0 : Nat) (v1 : Int32) (v2 : Int32) (m : Mem) (r : Int32) (hf : fX12_goneTo v0 v1 v2 m = some r) : CtI z wM yX12_goneTo cX12_goneTo 7 (some .int) (Rm 4) ad 17 [.ref (ad v0), .int v1, .int v2] m m r := by
  refine ct_ofI mi_X12_goneTo rfl (Nat.le_of_ble_eq_true rfl) (fun x X hret => ?_)
  refine g_lv [(0, .ref (ad v0)), (1, .int v1), (2, .int v2)] [0, 1, 2] rfl ?_
  have hL51 : ∀ (v0 : Nat) (v1 : Int32) (v3 : Int32) (s0 : Int32), fX12_goneTo_51 v0 v1 v3 s0 m = some r → G z wM x 7 0 0 ad 17 m 51 [(0, .ref (ad v0)), (1, .int v1), (3, .int v3)] [.int s0] := by
    intro v0 v1 v3 s0 hf
    unfold fX12_goneTo_51 at hf
    refine g_istore (lv2 := [(0, .ref (ad v0)), (1, .int v1), (3, .int v3), (4, .int s0)]) (pc := 51) X dX12_goneTo_51 (by decide) [1, 2, 3, 0] rfl ?_
    refine g_iload_n (pc := 53) X dX12_goneTo_53 rfl 1 rfl ?_
    refine g_bipush (v := (16 : Int32)) (pc := 54) X dX12_goneTo_54 (by decide) ?_
    obtain ⟨hz1, hf⟩ := gp_some hf
    refine g_irem (pc := 56) X dX12_goneTo_56 hz1 ?_
    refine g_iload_n (pc := 57) X dX12_goneTo_57 rfl 2 rfl ?_
    refine g_iadd (pc := 58) X dX12_goneTo_58 ?_
    obtain ⟨v5_2, e3, hf⟩ := lt1_some hf
    refine g_topi e3 ?_
    refine g_istore (lv2 := [(0, .ref (ad v0)), (1, .int v1), (3, .int v3), (4, .int s0), (5, .int v5_2)]) (pc := 59) X dX12_goneTo_59 (by decide) [1, 2, 3, 4, 0] rfl ?_
    refine g_iload_n (pc := 61) X dX12_goneTo_61 rfl 1 rfl ?_
    refine g_bipush (v := (16 : Int32)) (pc := 62) X dX12_goneTo_62 (by decide) ?_
    obtain ⟨hz4, hf⟩ := gp_some hf
    refine g_idiv (pc := 64) X dX12_goneTo_64 hz4 ?_
    refine g_iload (pc := 65) X dX12_goneTo_65 3 rfl ?_
    refine g_iadd (pc := 67) X dX12_goneTo_67 ?_
    obtain ⟨v6_5, e6, hf⟩ := lt1_some hf
    refine g_topi e6 ?_
    refine g_istore (lv2 := [(0, .ref (ad v0)), (1, .int v1), (3, .int v3), (4, .int s0), (5, .int v5_2), (6, .int v6_5)]) (pc := 68) X dX12_goneTo_68 (by decide) [1, 2, 3, 4, 5, 0] rfl ?_
    refine g_aload_n (pc := 70) X dX12_goneTo_70 rfl 0 rfl ?_
    refine g_iload (pc := 71) X dX12_goneTo_71 4 rfl ?_
    refine g_iload (pc := 73) X dX12_goneTo_73 5 rfl ?_
    obtain ⟨hk9, hf⟩ := gp_some hf
    obtain ⟨r8, hq7, hf⟩ := bnd_some hf
    refine g_callVI (pc := 75) (As := [.int v5_2, .int v6_5]) (rest := []) X mi_X12_isCell im_X12_isCell se_X12_isCell (KMlt hk9 (by decide)) hk9 clX12 ml_X12_242 (cX12_isCell_ct z ad v0 v5_2 v6_5 m r8 hq7) rfl rfl (Nat.le_of_ble_eq_true rfl) ⟨rfl, rfl, by decide, by decide, Nat.le_refl _, Nat.le_refl _⟩ dX12_goneTo_75 ?_
    refine g_if_eq (pc := 78) (tgt := 92) X dX12_goneTo_78 (by decide) (fun hc => ?_) (fun hc => ?_)
    · have hf := itp hc hf
      refine g_iload_n (pc := 92) X dX12_goneTo_92 rfl 1 rfl ?_
      obtain rfl := Option.some.inj hf
      exact hret _ _ rfl dX12_goneTo_93
    · have hf := itn hc hf
      refine g_bipush (v := (16 : Int32)) (pc := 81) X dX12_goneTo_81 (by decide) ?_
      refine g_iload (pc := 83) X dX12_goneTo_83 5 rfl ?_
      refine g_imul (pc := 85) X dX12_goneTo_85 ?_
      refine g_iload (pc := 86) X dX12_goneTo_86 4 rfl ?_
      refine g_iadd (pc := 88) X dX12_goneTo_88 ?_
      refine g_goto (pc := 89) (tgt := 93) X dX12_goneTo_89 (by decide) ?_
      obtain rfl := Option.some.inj hf
      exact hret _ _ rfl dX12_goneTo_93
  have hL20 : ∀ (v0 : Nat) (v1 : Int32) (v2 : Int32) (s0 : Int32), fX12_goneTo_20 v0 v1 v2 s0 m = some r → G z wM x 7 0 0 ad 17 m 20 [(0, .ref (ad v0)), (1, .int v1), (2, .int v2)] [.int s0] := by
    intro v0 v1 v2 s0 hf
    unfold fX12_goneTo_20 at hf
    refine g_istore_n (lv2 := [(0, .ref (ad v0)), (1, .int v1), (2, .int v2), (3, .int s0)]) (pc := 20) X dX12_goneTo_20 rfl (by decide) [1, 2, 3, 0] rfl ?_
    refine g_iload_n (pc := 21) X dX12_goneTo_21 rfl 2 rfl ?_
    refine g_iconst (v := (4 : Int32)) (pc := 22) X dX12_goneTo_22 (by decide) ?_
    obtain ⟨hz10, hf⟩ := gp_some hf
    refine g_irem (pc := 23) X dX12_goneTo_23 hz10 ?_
    refine g_iconst (v := (2 : Int32)) (pc := 24) X dX12_goneTo_24 (by decide) ?_
    refine g_icmp_ne (pc := 25) (tgt := 32) X dX12_goneTo_25 (by decide) (fun hc => ?_) (fun hc => ?_)
    · have hf := itn hc hf
      refine g_iload_n (pc := 32) X dX12_goneTo_32 rfl 2 rfl ?_
      refine g_i2l (pc := 33) X dX12_goneTo_33 ?_
      refine g_ldc2 (pc := 34) X dX12_goneTo_34 kl_X12_252 ?_
      refine g_ldc2 (pc := 37) X dX12_goneTo_37 kl_X12_254 ?_
      obtain ⟨r12, hq11, hf⟩ := bnd_some hf
      refine g_callSI (pc := 40) (As := [.long v2.toInt64, .long (3 : Int64), .long (5 : Int64)]) (rest := []) X mi_X12_in sm_X12_in ml_X12_71 (cX12_in_ct z ad v2.toInt64 (3 : Int64) (5 : Int64) m r12 hq11) rfl rfl (Nat.le_of_ble_eq_true rfl) ⟨rfl, rfl, by decide, by decide, Nat.le_refl _, Nat.le_refl _⟩ dX12_goneTo_40 ?_
      refine g_if_eq (pc := 43) (tgt := 50) X dX12_goneTo_43 (by decide) (fun hc => ?_) (fun hc => ?_)
      · have hf := itp hc hf
        refine g_iconst (v := (-1 : Int32)) (pc := 50) X dX12_goneTo_50 (by decide) ?_
        refine g_lv [(0, .ref (ad v0)), (1, .int v1), (3, .int s0)] [0, 1, 3] rfl ?_
        exact hL51 _ _ _ _ hf
      · have hf := itn hc hf
        refine g_iconst (v := (1 : Int32)) (pc := 46) X dX12_goneTo_46 (by decide) ?_
        refine g_goto (pc := 47) (tgt := 51) X dX12_goneTo_47 (by decide) ?_
        refine g_lv [(0, .ref (ad v0)), (1, .int v1), (3, .int s0)] [0, 1, 3] rfl ?_
        exact hL51 _ _ _ _ hf
    · have hf := itp hc hf
      refine g_iconst (v := (0 : Int32)) (pc := 28) X dX12_goneTo_28 (by decide) ?_
      refine g_goto (pc := 29) (tgt := 51) X dX12_goneTo_29 (by decide) ?_
      refine g_lv [(0, .ref (ad v0)), (1, .int v1), (3, .int s0)] [0, 1, 3] rfl ?_
      exact hL51 _ _ _ _ hf
  unfold fX12_goneTo at hf
  refine g_iload_n (pc := 0) X dX12_goneTo_0 rfl 2 rfl ?_
  refine g_iconst (v := (4 : Int32)) (pc := 1) X dX12_goneTo_1 (by decide) ?_
  obtain ⟨hz13, hf⟩ := gp_some hf
  refine g_irem (pc := 2) X dX12_goneTo_2 hz13 ?_
  refine g_if_ne (pc := 3) (tgt := 10) X dX12_goneTo_3 (by decide) (fun hc => ?_) (fun hc => ?_)
  · have hf := itn hc hf
    refine g_iload_n (pc := 10) X dX12_goneTo_10 rfl 2 rfl ?_
    refine g_iconst (v := (4 : Int32)) (pc := 11) X dX12_goneTo_11 (by decide) ?_
    refine g_icmp_ge (pc := 12) (tgt := 19) X dX12_goneTo_12 (by decide) (fun hc => ?_) (fun hc => ?_)
    · have hf := itp hc hf
      refine g_iconst (v := (-1 : Int32)) (pc := 19) X dX12_goneTo_19 (by decide) ?_
      exact hL20 _ _ _ _ hf
    · have hf := itn hc hf
      refine g_iconst (v := (1 : Int32)) (pc := 15) X dX12_goneTo_15 (by decide) ?_
      refine g_goto (pc := 16) (tgt := 20) X dX12_goneTo_16 (by decide) ?_
      exact hL20 _ _ _ _ hf
  · have hf := itp hc hf
    refine g_iconst (v := (0 : Int32)) (pc := 6) X dX12_goneTo_6 (by decide) ?_
    refine g_goto (pc := 7) (tgt := 20) X dX12_goneTo_7 (by decide) ?_
    exact hL20 _ _ _ _ hf

noncomputable def fX12_wayBy (v0 : Nat) (v1 : Int32) (v2 : Int32) (m : Mem) : Option Int32 := gp (KM v0 = 12) (bnd (m.2.2 v0 5) (fun q2 => gp (KM q2 = 14) (gp (inb ((12 : Int32) + ((2 : Int32) * v1)) (NM q2) = true) (gp (¬ (8 : Int32) = 0) (some (((m.1 q2 ((12 : Int32) + ((2 : Int32) * v1)).toNatClampNeg) + v2) - ((m.1 q2 ((12 : Int32) + ((2 : Int32) * v1)).toNatClampNeg) + v2) / (8 : Int32) * (8 : Int32)))))))
set_option maxHeartbeats 4000000 in
set_option maxRecDepth 100000 in
theorem cX12_wayBy_ct (z : Zx) (ad : Nat → Nat) (v0 : Nat) (v1 : Int32) (v2 : Int32) (m : Mem) (r : Int32) (hf : fX12_wayBy v0 v1 v2 m = some r) : CtI z wM yX12_wayBy cX12_wayBy 3 (some .int) (Rm 2) ad 17 [.ref (ad v0), .int v1, .int v2] m m r := by
  refine ct_ofI mi_X12_wayBy rfl (Nat.le_of_ble_eq_true rfl) (fun x X hret => ?_)
  refine g_lv [(0, .ref (ad v0)), (1, .int v1), (2, .int v2)] [0, 1, 2] rfl ?_
  unfold fX12_wayBy at hf
  refine g_aload_n (pc := 0) X dX12_wayBy_0 rfl 0 rfl ?_
  obtain ⟨hk1, hf⟩ := gp_some hf
  obtain ⟨q2, hr3, hf⟩ := bnd_some hf
  refine g_getR (pc := 1) X fl_X12_19 (KMlt hk1 (by decide)) hk1 hr3 dX12_wayBy_1 ?_
  refine g_bipush (v := (12 : Int32)) (pc := 4) X dX12_wayBy_4 (by decide) ?_
  refine g_iconst (v := (2 : Int32)) (pc := 6) X dX12_wayBy_6 (by decide) ?_
  refine g_iload_n (pc := 7) X dX12_wayBy_7 rfl 1 rfl ?_
  refine g_imul (pc := 8) X dX12_wayBy_8 ?_
  refine g_iadd (pc := 9) X dX12_wayBy_9 ?_
  obtain ⟨hk4, hf⟩ := gp_some hf
  obtain ⟨hi5, hf⟩ := gp_some hf
  refine g_iald (pc := 10) X (KMlt hk4 (by decide)) hk4 hi5 dX12_wayBy_10 ?_
  refine g_iload_n (pc := 11) X dX12_wayBy_11 rfl 2 rfl ?_
  refine g_iadd (pc := 12) X dX12_wayBy_12 ?_
  refine g_bipush (v := (8 : Int32)) (pc := 13) X dX12_wayBy_13 (by decide) ?_
  obtain ⟨hz6, hf⟩ := gp_some hf
  refine g_irem (pc := 15) X dX12_wayBy_15 hz6 ?_
  obtain rfl := Option.some.inj hf
  exact hret _ _ rfl dX12_wayBy_16

noncomputable def fX12_oddsOf (v0 : Nat) (v1 : Int32) (m : Mem) : Option Int32 := gp (KM v0 = 12) (bnd (m.2.2 v0 5) (fun q2 => gp (KM q2 = 14) (gp (inb (((12 : Int32) + ((2 : Int32) * v1)) + (1 : Int32)) (NM q2) = true) (some (m.1 q2 (((12 : Int32) + ((2 : Int32) * v1)) + (1 : Int32)).toNatClampNeg)))))
set_option maxHeartbeats 4000000 in
set_option maxRecDepth 100000 in
theorem cX12_oddsOf_ct (z : Zx) (ad : Nat → Nat) (v0 : Nat) (v1 : Int32) (m : Mem) (r : Int32) (hf : fX12_oddsOf v0 v1 m = some r) : CtI z wM yX12_oddsOf cX12_oddsOf 2 (some .int) (Rm 2) ad 17 [.ref (ad v0), .int v1] m m r := by
  refine ct_ofI mi_X12_oddsOf rfl (Nat.le_of_ble_eq_true rfl) (fun x X hret => ?_)
  refine g_lv [(0, .ref (ad v0)), (1, .int v1)] [0, 1] rfl ?_
  unfold fX12_oddsOf at hf
  refine g_aload_n (pc := 0) X dX12_oddsOf_0 rfl 0 rfl ?_
  obtain ⟨hk1, hf⟩ := gp_some hf
  obtain ⟨q2, hr3, hf⟩ := bnd_some hf
  refine g_getR (pc := 1) X fl_X12_19 (KMlt hk1 (by decide)) hk1 hr3 dX12_oddsOf_1 ?_
  refine g_bipush (v := (12 : Int32)) (pc := 4) X dX12_oddsOf_4 (by decide) ?_
  refine g_iconst (v := (2 : Int32)) (pc := 6) X dX12_oddsOf_6 (by decide) ?_
  refine g_iload_n (pc := 7) X dX12_oddsOf_7 rfl 1 rfl ?_
  refine g_imul (pc := 8) X dX12_oddsOf_8 ?_
  refine g_iadd (pc := 9) X dX12_oddsOf_9 ?_
  refine g_iconst (v := (1 : Int32)) (pc := 10) X dX12_oddsOf_10 (by decide) ?_
  refine g_iadd (pc := 11) X dX12_oddsOf_11 ?_
  obtain ⟨hk4, hf⟩ := gp_some hf
  obtain ⟨hi5, hf⟩ := gp_some hf
  refine g_iald (pc := 12) X (KMlt hk4 (by decide)) hk4 hi5 dX12_oddsOf_12 ?_
  obtain rfl := Option.some.inj hf
  exact hret _ _ rfl dX12_oddsOf_13

noncomputable def fX12_allOdds_4b (v0 : Nat) (v1 : Int32) (v2 : Int32) (m : Mem) : Option ((Int32 × Int32) ⊕ (Int32)) := gp (KM v0 = 12) (bnd (m.2.2 v0 5) (fun q2 => gp (KM q2 = 14) (gp (inb (0 : Int32) (NM q2) = true) (if (m.1 q2 (0 : Int32).toNatClampNeg) ≤ v2 then (some (.inr (v1))) else (bnd (fX12_oddsOf v0 v2 m) (fun r7 => lt1 (v1 + r7) (fun v1_8 => lt1 (v2 + 1) (fun v2_10 => some (.inl (v1_8, v2_10))))))))))
noncomputable def fX12_allOdds_4 (v0 : Nat) (v1 : Int32) (v2 : Int32) (m : Mem) : Option Int32 := bnd (iter (fun s => fX12_allOdds_4b v0 s.1 s.2 m) FU (v1, v2)) (fun e => some e)
noncomputable def fX12_allOdds (v0 : Nat) (m : Mem) : Option Int32 := lt1 ((0 : Int32)) (fun v1_12 => lt1 ((0 : Int32)) (fun v2_14 => fX12_allOdds_4 v0 v1_12 v2_14 m))
set_option maxHeartbeats 4000000 in
set_option maxRecDepth 100000 in
theorem cX12_allOdds_ct (z : Zx) (ad : Nat → Nat) (v0 : Nat) (m : Mem) (r : Int32) (hf : fX12_allOdds v0 m = some r) : CtI z wM yX12_allOdds cX12_allOdds 3 (some .int) (Rm 3) ad 17 [.ref (ad v0)] m m r := by
  refine ct_ofI mi_X12_allOdds rfl (Nat.le_of_ble_eq_true rfl) (fun x X hret => ?_)
  refine g_lv [(0, .ref (ad v0))] [0] rfl ?_
  have hL4 : ∀ (v0 : Nat) (v1 : Int32) (v2 : Int32), fX12_allOdds_4 v0 v1 v2 m = some r → G z wM x 3 0 0 ad 17 m 4 [(0, .ref (ad v0)), (1, .int v1), (2, .int v2)] [] := by
    intro v0 v1 v2 hf
    unfold fX12_allOdds_4 at hf
    obtain ⟨e4, hit4, hrest4⟩ := bnd_some hf
    refine iter_ok (Hd := fun (s : (Int32 × Int32)) => G z wM x 3 0 0 ad 17 m 4 [(0, .ref (ad v0)), (1, .int s.1), (2, .int s.2)] []) ?_ FU (v1, v2) hit4
    intro s ob4 hf hs4 he4
    obtain ⟨v1, v2⟩ := s
    have hf : fX12_allOdds_4b v0 v1 v2 m = some ob4 := hf
    unfold fX12_allOdds_4b at hf
    refine g_iload_n (pc := 4) X dX12_allOdds_4 rfl 2 rfl ?_
    refine g_aload_n (pc := 5) X dX12_allOdds_5 rfl 0 rfl ?_
    obtain ⟨hk1, hf⟩ := gp_some hf
    obtain ⟨q2, hr3, hf⟩ := bnd_some hf
    refine g_getR (pc := 6) X fl_X12_19 (KMlt hk1 (by decide)) hk1 hr3 dX12_allOdds_6 ?_
    refine g_iconst (v := (0 : Int32)) (pc := 9) X dX12_allOdds_9 (by decide) ?_
    obtain ⟨hk4, hf⟩ := gp_some hf
    obtain ⟨hi5, hf⟩ := gp_some hf
    refine g_iald (pc := 10) X (KMlt hk4 (by decide)) hk4 hi5 dX12_allOdds_10 ?_
    refine g_icmp_ge (pc := 11) (tgt := 28) X dX12_allOdds_11 (by decide) (fun hc => ?_) (fun hc => ?_)
    · have hf := itp hc hf
      have he4 := he4 _ (Option.some.inj hf).symm
      subst he4
      have hf : some v1 = some r := hrest4
      refine g_iload_n (pc := 28) X dX12_allOdds_28 rfl 1 rfl ?_
      obtain rfl := Option.some.inj hf
      exact hret _ _ rfl dX12_allOdds_29
    · have hf := itn hc hf
      refine g_iload_n (pc := 14) X dX12_allOdds_14 rfl 1 rfl ?_
      refine g_aload_n (pc := 15) X dX12_allOdds_15 rfl 0 rfl ?_
      refine g_iload_n (pc := 16) X dX12_allOdds_16 rfl 2 rfl ?_
      obtain ⟨r7, hq6, hf⟩ := bnd_some hf
      refine g_callVI (pc := 17) (As := [.int v2]) (rest := [.int v1]) X mi_X12_oddsOf im_X12_oddsOf se_X12_oddsOf (KMlt hk1 (by decide)) hk1 clX12 ml_X12_256 (cX12_oddsOf_ct z ad v0 v2 m r7 hq6) rfl rfl (Nat.le_of_ble_eq_true rfl) ⟨rfl, rfl, by decide, by decide, Nat.le_refl _, Nat.le_refl _⟩ dX12_allOdds_17 ?_
      refine g_iadd (pc := 20) X dX12_allOdds_20 ?_
      obtain ⟨v1_8, e9, hf⟩ := lt1_some hf
      refine g_topi e9 ?_
      refine g_istore_n (lv2 := [(0, .ref (ad v0)), (1, .int v1_8), (2, .int v2)]) (pc := 21) X dX12_allOdds_21 rfl (by decide) [1, 0, 2] rfl ?_
      obtain ⟨v2_10, e11, hf⟩ := lt1_some hf
      refine g_iinc (v2 := v2_10) (lv2 := [(0, .ref (ad v0)), (1, .int v1_8), (2, .int v2_10)]) (pc := 22) X dX12_allOdds_22 2 rfl (by rw [e11]; rfl) (by decide) [1, 2, 0] rfl ?_
      refine g_goto (pc := 25) (tgt := 4) X dX12_allOdds_25 (by decide) ?_
      exact hs4 (v1_8, v2_10) (Option.some.inj hf).symm
  unfold fX12_allOdds at hf
  refine g_iconst (v := (0 : Int32)) (pc := 0) X dX12_allOdds_0 (by decide) ?_
  obtain ⟨v1_12, e13, hf⟩ := lt1_some hf
  refine g_topi e13 ?_
  refine g_istore_n (lv2 := [(0, .ref (ad v0)), (1, .int v1_12)]) (pc := 1) X dX12_allOdds_1 rfl (by decide) [1, 0] rfl ?_
  refine g_iconst (v := (0 : Int32)) (pc := 2) X dX12_allOdds_2 (by decide) ?_
  obtain ⟨v2_14, e15, hf⟩ := lt1_some hf
  refine g_topi e15 ?_
  refine g_istore_n (lv2 := [(0, .ref (ad v0)), (1, .int v1_12), (2, .int v2_14)]) (pc := 3) X dX12_allOdds_3 rfl (by decide) [1, 2, 0] rfl ?_
  exact hL4 _ _ _ hf

noncomputable def fX12_put (v0 : Nat) (v1 : Int32) (v2 : Int32) (v3 : Int32) (m : Mem) : Option (Int64 × Mem) := gp (KM v0 = 12) (lt1 (uI m v0 0 (0 : Int32)) (fun m2 => if (m2.1 v0 7) = 0 then (some ((-9000000000000000002 : Int64), m2)) else (bnd (fX12_isWater v0 v1 v2 m2) (fun r5 => if r5 = 0 then (some ((-9000000000000000001 : Int64), m2)) else (bnd (m2.2.2 v0 5) (fun q6 => gp (KM q6 = 14) (gp (inb (11 : Int32) (NM q6) = true) (bnd (fX12_in v3.toInt64 (0 : Int64) (((m2.1 q6 (11 : Int32).toNatClampNeg) - (1 : Int32)).toInt64)) (fun r11 => if r11 = 0 then (some ((-9000000000000000001 : Int64), m2)) else (bnd (m2.2.2 v0 8) (fun q12 => gp (KM q12 = 14) (gp (inb (0 : Int32) (NM q12) = true) (lt1 (uI m2 q12 (0 : Int32).toNatClampNeg (1 : Int32)) (fun m16 => bnd (m16.2.2 v0 8) (fun q18 => gp (KM q18 = 14) (gp (inb (1 : Int32) (NM q18) = true) (lt1 (uI m16 q18 (1 : Int32).toNatClampNeg v1) (fun m22 => bnd (m22.2.2 v0 8) (fun q24 => gp (KM q24 = 14) (gp (inb (2 : Int32) (NM q24) = true) (lt1 (uI m22 q24 (2 : Int32).toNatClampNeg v2) (fun m28 => bnd (m28.2.2 v0 8) (fun q30 => gp (KM q30 = 14) (gp (inb (3 : Int32) (NM q30) = true) (lt1 (uI m28 q30 (3 : Int32).toNatClampNeg v3) (fun m34 => bnd (m34.2.2 v0 8) (fun q36 => gp (KM q36 = 14) (gp (inb (4 : Int32) (NM q36) = true) (lt1 (uI m34 q36 (4 : Int32).toNatClampNeg (0 : Int32)) (fun m40 => bnd (m40.2.2 v0 8) (fun q42 => gp (KM q42 = 14) (gp (inb (5 : Int32) (NM q42) = true) (lt1 (uI m40 q42 (5 : Int32).toNatClampNeg (0 : Int32)) (fun m46 => bnd (m46.2.2 v0 8) (fun q48 => gp (KM q48 = 14) (gp (inb (6 : Int32) (NM q48) = true) (lt1 (uI m46 q48 (6 : Int32).toNatClampNeg (0 : Int32)) (fun m52 => some ((1 : Int64), m52)))))))))))))))))))))))))))))))))))))))
set_option maxHeartbeats 4000000 in
set_option maxRecDepth 100000 in
theorem cX12_put_ct (z : Zx) (ad : Nat → Nat) (v0 : Nat) (v1 : Int32) (v2 : Int32) (v3 : Int32) (m m2 : Mem) (r : Int64) (hf : fX12_put v0 v1 v2 v3 m = some (r, m2)) : CtL z wM yX12_put cX12_put 4 (some .long) (Rm 5) ad 17 [.ref (ad v0), .int v1, .int v2, .int v3] m m2 r := by
  refine ct_ofL mi_X12_put rfl (Nat.le_of_ble_eq_true rfl) (fun x X hret => ?_)
  refine g_lv [(0, .ref (ad v0)), (1, .int v1), (2, .int v2), (3, .int v3)] [0, 1, 2, 3] rfl ?_
  unfold fX12_put at hf
  refine g_aload_n (pc := 0) X dX12_put_0 rfl 0 rfl ?_
  refine g_iconst (v := (0 : Int32)) (pc := 1) X dX12_put_1 (by decide) ?_
  obtain ⟨hk1, hf⟩ := gp_some hf
  refine g_putI (pc := 2) X fl_X12_60 (KMlt hk1 (by decide)) hk1 rfl rfl dX12_put_2 ?_
  obtain ⟨m2, e3, hf⟩ := lt1_some hf
  refine g_mem e3 ?_
  refine g_aload_n (pc := 5) X dX12_put_5 rfl 0 rfl ?_
  refine g_getI (pc := 6) X fl_X12_238 (KMlt hk1 (by decide)) hk1 dX12_put_6 ?_
  refine g_if_ne (pc := 9) (tgt := 16) X dX12_put_9 (by decide) (fun hc => ?_) (fun hc => ?_)
  · have hf := itn hc hf
    refine g_aload_n (pc := 16) X dX12_put_16 rfl 0 rfl ?_
    refine g_iload_n (pc := 17) X dX12_put_17 rfl 1 rfl ?_
    refine g_iload_n (pc := 18) X dX12_put_18 rfl 2 rfl ?_
    obtain ⟨r5, hq4, hf⟩ := bnd_some hf
    refine g_callVI (pc := 19) (As := [.int v1, .int v2]) (rest := []) X mi_X12_isWater im_X12_isWater se_X12_isWater (KMlt hk1 (by decide)) hk1 clX12 ml_X12_261 (cX12_isWater_ct z ad v0 v1 v2 m2 r5 hq4) rfl rfl (Nat.le_of_ble_eq_true rfl) ⟨rfl, rfl, by decide, by decide, Nat.le_refl _, Nat.le_refl _⟩ dX12_put_19 ?_
    refine g_if_eq (pc := 22) (tgt := 44) X dX12_put_22 (by decide) (fun hc => ?_) (fun hc => ?_)
    · have hf := itp hc hf
      refine g_ldc2 (pc := 44) X dX12_put_44 kl_X12_81 ?_
      obtain ⟨rfl, rfl⟩ := som2 hf
      exact hret _ _ dX12_put_47
    · have hf := itn hc hf
      refine g_iload_n (pc := 25) X dX12_put_25 rfl 3 rfl ?_
      refine g_i2l (pc := 26) X dX12_put_26 ?_
      refine g_lconst (v := (0 : Int64)) (pc := 27) X dX12_put_27 (by decide) ?_
      refine g_aload_n (pc := 28) X dX12_put_28 rfl 0 rfl ?_
      obtain ⟨q6, hr7, hf⟩ := bnd_some hf
      refine g_getR (pc := 29) X fl_X12_19 (KMlt hk1 (by decide)) hk1 hr7 dX12_put_29 ?_
      refine g_bipush (v := (11 : Int32)) (pc := 32) X dX12_put_32 (by decide) ?_
      obtain ⟨hk8, hf⟩ := gp_some hf
      obtain ⟨hi9, hf⟩ := gp_some hf
      refine g_iald (pc := 34) X (KMlt hk8 (by decide)) hk8 hi9 dX12_put_34 ?_
      refine g_iconst (v := (1 : Int32)) (pc := 35) X dX12_put_35 (by decide) ?_
      refine g_isub (pc := 36) X dX12_put_36 ?_
      refine g_i2l (pc := 37) X dX12_put_37 ?_
      obtain ⟨r11, hq10, hf⟩ := bnd_some hf
      refine g_callSI (pc := 38) (As := [.long v3.toInt64, .long (0 : Int64), .long (((m2.1 q6 (11 : Int32).toNatClampNeg) - (1 : Int32)).toInt64)]) (rest := []) X mi_X12_in sm_X12_in ml_X12_71 (cX12_in_ct z ad v3.toInt64 (0 : Int64) (((m2.1 q6 (11 : Int32).toNatClampNeg) - (1 : Int32)).toInt64) m2 r11 hq10) rfl rfl (Nat.le_of_ble_eq_true rfl) ⟨rfl, rfl, by decide, by decide, Nat.le_refl _, Nat.le_refl _⟩ dX12_put_38 ?_
      refine g_if_ne (pc := 41) (tgt := 48) X dX12_put_41 (by decide) (fun hc => ?_) (fun hc => ?_)
      · have hf := itn hc hf
        refine g_aload_n (pc := 48) X dX12_put_48 rfl 0 rfl ?_
        obtain ⟨q12, hr13, hf⟩ := bnd_some hf
        refine g_getR (pc := 49) X fl_X12_25 (KMlt hk1 (by decide)) hk1 hr13 dX12_put_49 ?_
        refine g_iconst (v := (0 : Int32)) (pc := 52) X dX12_put_52 (by decide) ?_
        refine g_iconst (v := (1 : Int32)) (pc := 53) X dX12_put_53 (by decide) ?_
        obtain ⟨hk14, hf⟩ := gp_some hf
        obtain ⟨hi15, hf⟩ := gp_some hf
        refine g_iast (pc := 54) X (KMlt hk14 (by decide)) hk14 hi15 dX12_put_54 ?_
        obtain ⟨m16, e17, hf⟩ := lt1_some hf
        refine g_mem e17 ?_
        refine g_aload_n (pc := 55) X dX12_put_55 rfl 0 rfl ?_
        obtain ⟨q18, hr19, hf⟩ := bnd_some hf
        refine g_getR (pc := 56) X fl_X12_25 (KMlt hk1 (by decide)) hk1 hr19 dX12_put_56 ?_
        refine g_iconst (v := (1 : Int32)) (pc := 59) X dX12_put_59 (by decide) ?_
        refine g_iload_n (pc := 60) X dX12_put_60 rfl 1 rfl ?_
        obtain ⟨hk20, hf⟩ := gp_some hf
        obtain ⟨hi21, hf⟩ := gp_some hf
        refine g_iast (pc := 61) X (KMlt hk20 (by decide)) hk20 hi21 dX12_put_61 ?_
        obtain ⟨m22, e23, hf⟩ := lt1_some hf
        refine g_mem e23 ?_
        refine g_aload_n (pc := 62) X dX12_put_62 rfl 0 rfl ?_
        obtain ⟨q24, hr25, hf⟩ := bnd_some hf
        refine g_getR (pc := 63) X fl_X12_25 (KMlt hk1 (by decide)) hk1 hr25 dX12_put_63 ?_
        refine g_iconst (v := (2 : Int32)) (pc := 66) X dX12_put_66 (by decide) ?_
        refine g_iload_n (pc := 67) X dX12_put_67 rfl 2 rfl ?_
        obtain ⟨hk26, hf⟩ := gp_some hf
        obtain ⟨hi27, hf⟩ := gp_some hf
        refine g_iast (pc := 68) X (KMlt hk26 (by decide)) hk26 hi27 dX12_put_68 ?_
        obtain ⟨m28, e29, hf⟩ := lt1_some hf
        refine g_mem e29 ?_
        refine g_aload_n (pc := 69) X dX12_put_69 rfl 0 rfl ?_
        obtain ⟨q30, hr31, hf⟩ := bnd_some hf
        refine g_getR (pc := 70) X fl_X12_25 (KMlt hk1 (by decide)) hk1 hr31 dX12_put_70 ?_
        refine g_iconst (v := (3 : Int32)) (pc := 73) X dX12_put_73 (by decide) ?_
        refine g_iload_n (pc := 74) X dX12_put_74 rfl 3 rfl ?_
        obtain ⟨hk32, hf⟩ := gp_some hf
        obtain ⟨hi33, hf⟩ := gp_some hf
        refine g_iast (pc := 75) X (KMlt hk32 (by decide)) hk32 hi33 dX12_put_75 ?_
        obtain ⟨m34, e35, hf⟩ := lt1_some hf
        refine g_mem e35 ?_
        refine g_aload_n (pc := 76) X dX12_put_76 rfl 0 rfl ?_
        obtain ⟨q36, hr37, hf⟩ := bnd_some hf
        refine g_getR (pc := 77) X fl_X12_25 (KMlt hk1 (by decide)) hk1 hr37 dX12_put_77 ?_
        refine g_iconst (v := (4 : Int32)) (pc := 80) X dX12_put_80 (by decide) ?_
        refine g_iconst (v := (0 : Int32)) (pc := 81) X dX12_put_81 (by decide) ?_
        obtain ⟨hk38, hf⟩ := gp_some hf
        obtain ⟨hi39, hf⟩ := gp_some hf
        refine g_iast (pc := 82) X (KMlt hk38 (by decide)) hk38 hi39 dX12_put_82 ?_
        obtain ⟨m40, e41, hf⟩ := lt1_some hf
        refine g_mem e41 ?_
        refine g_aload_n (pc := 83) X dX12_put_83 rfl 0 rfl ?_
        obtain ⟨q42, hr43, hf⟩ := bnd_some hf
        refine g_getR (pc := 84) X fl_X12_25 (KMlt hk1 (by decide)) hk1 hr43 dX12_put_84 ?_
        refine g_iconst (v := (5 : Int32)) (pc := 87) X dX12_put_87 (by decide) ?_
        refine g_iconst (v := (0 : Int32)) (pc := 88) X dX12_put_88 (by decide) ?_
        obtain ⟨hk44, hf⟩ := gp_some hf
        obtain ⟨hi45, hf⟩ := gp_some hf
        refine g_iast (pc := 89) X (KMlt hk44 (by decide)) hk44 hi45 dX12_put_89 ?_
        obtain ⟨m46, e47, hf⟩ := lt1_some hf
        refine g_mem e47 ?_
        refine g_aload_n (pc := 90) X dX12_put_90 rfl 0 rfl ?_
        obtain ⟨q48, hr49, hf⟩ := bnd_some hf
        refine g_getR (pc := 91) X fl_X12_25 (KMlt hk1 (by decide)) hk1 hr49 dX12_put_91 ?_
        refine g_bipush (v := (6 : Int32)) (pc := 94) X dX12_put_94 (by decide) ?_
        refine g_iconst (v := (0 : Int32)) (pc := 96) X dX12_put_96 (by decide) ?_
        obtain ⟨hk50, hf⟩ := gp_some hf
        obtain ⟨hi51, hf⟩ := gp_some hf
        refine g_iast (pc := 97) X (KMlt hk50 (by decide)) hk50 hi51 dX12_put_97 ?_
        obtain ⟨m52, e53, hf⟩ := lt1_some hf
        refine g_mem e53 ?_
        refine g_lconst (v := (1 : Int64)) (pc := 98) X dX12_put_98 (by decide) ?_
        obtain ⟨rfl, rfl⟩ := som2 hf
        exact hret _ _ dX12_put_99
      · have hf := itp hc hf
        refine g_ldc2 (pc := 44) X dX12_put_44 kl_X12_81 ?_
        obtain ⟨rfl, rfl⟩ := som2 hf
        exact hret _ _ dX12_put_47
  · have hf := itp hc hf
    refine g_ldc2 (pc := 12) X dX12_put_12 kl_X12_259 ?_
    obtain ⟨rfl, rfl⟩ := som2 hf
    exact hret _ _ dX12_put_15

noncomputable def fX12_isHead (v0 : Int32) : Option Int32 := bnd (fX12_in v0.toInt64 (0 : Int64) (7 : Int64)) (fun r2 => gp (zb r2 = true) (some r2))
set_option maxHeartbeats 4000000 in
set_option maxRecDepth 100000 in
theorem cX12_isHead_ct (z : Zx) (ad : Nat → Nat) (v0 : Int32) (m : Mem) (r : Int32) (hf : fX12_isHead v0 = some r) : CtI z wM yX12_isHead cX12_isHead 1 (some .boolean) (Rm 3) ad 17 [.int v0] m m r := by
  refine ct_ofI mi_X12_isHead rfl (Nat.le_of_ble_eq_true rfl) (fun x X hret => ?_)
  refine g_lv [(0, .int v0)] [0] rfl ?_
  unfold fX12_isHead at hf
  refine g_iload_n (pc := 0) X dX12_isHead_0 rfl 0 rfl ?_
  refine g_i2l (pc := 1) X dX12_isHead_1 ?_
  refine g_lconst (v := (0 : Int64)) (pc := 2) X dX12_isHead_2 (by decide) ?_
  refine g_ldc2 (pc := 3) X dX12_isHead_3 kl_X12_69 ?_
  obtain ⟨r2, hq1, hf⟩ := bnd_some hf
  refine g_callSI (pc := 6) (As := [.long v0.toInt64, .long (0 : Int64), .long (7 : Int64)]) (rest := []) X mi_X12_in sm_X12_in ml_X12_71 (cX12_in_ct z ad v0.toInt64 (0 : Int64) (7 : Int64) m r2 hq1) rfl rfl (Nat.le_of_ble_eq_true rfl) ⟨rfl, rfl, by decide, by decide, Nat.le_refl _, Nat.le_refl _⟩ dX12_isHead_6 ?_
  obtain ⟨hzr, hf⟩ := gp_some hf
  obtain rfl := Option.some.inj hf
  exact hret _ _ (zb_nar hzr) dX12_isHead_9

noncomputable def fX12_head (v0 : Nat) (v1 : Int32) (m : Mem) : Option (Int64 × Mem) := gp (KM v0 = 12) (lt1 (uI m v0 0 (0 : Int32)) (fun m2 => if (m2.1 v0 7) = 0 then (some ((-9000000000000000002 : Int64), m2)) else (bnd (fX12_isHead v1) (fun r5 => if r5 = 0 then (some ((-9000000000000000001 : Int64), m2)) else (bnd (m2.2.2 v0 8) (fun q6 => gp (KM q6 = 14) (gp (inb (7 : Int32) (NM q6) = true) (lt1 (m2.1 q6 (7 : Int32).toNatClampNeg) (fun v2_10 => gp (inb (7 : Int32) (NM q6) = true) (lt1 (uI m2 q6 (7 : Int32).toNatClampNeg v1) (fun m13 => some (v2_10.toInt64, m13))))))))))))
set_option maxHeartbeats 4000000 in
set_option maxRecDepth 100000 in
theorem cX12_head_ct (z : Zx) (ad : Nat → Nat) (v0 : Nat) (v1 : Int32) (m m2 : Mem) (r : Int64) (hf : fX12_head v0 v1 m = some (r, m2)) : CtL z wM yX12_head cX12_head 3 (some .long) (Rm 4) ad 17 [.ref (ad v0), .int v1] m m2 r := by
  refine ct_ofL mi_X12_head rfl (Nat.le_of_ble_eq_true rfl) (fun x X hret => ?_)
  refine g_lv [(0, .ref (ad v0)), (1, .int v1)] [0, 1] rfl ?_
  unfold fX12_head at hf
  refine g_aload_n (pc := 0) X dX12_head_0 rfl 0 rfl ?_
  refine g_iconst (v := (0 : Int32)) (pc := 1) X dX12_head_1 (by decide) ?_
  obtain ⟨hk1, hf⟩ := gp_some hf
  refine g_putI (pc := 2) X fl_X12_60 (KMlt hk1 (by decide)) hk1 rfl rfl dX12_head_2 ?_
  obtain ⟨m2, e3, hf⟩ := lt1_some hf
  refine g_mem e3 ?_
  refine g_aload_n (pc := 5) X dX12_head_5 rfl 0 rfl ?_
  refine g_getI (pc := 6) X fl_X12_238 (KMlt hk1 (by decide)) hk1 dX12_head_6 ?_
  refine g_if_ne (pc := 9) (tgt := 16) X dX12_head_9 (by decide) (fun hc => ?_) (fun hc => ?_)
  · have hf := itn hc hf
    refine g_iload_n (pc := 16) X dX12_head_16 rfl 1 rfl ?_
    obtain ⟨r5, hq4, hf⟩ := bnd_some hf
    refine g_callSI (pc := 17) (As := [.int v1]) (rest := []) X mi_X12_isHead sm_X12_isHead ml_X12_264 (cX12_isHead_ct z ad v1 m2 r5 hq4) rfl rfl (Nat.le_of_ble_eq_true rfl) ⟨rfl, rfl, by decide, by decide, Nat.le_refl _, Nat.le_refl _⟩ dX12_head_17 ?_
    refine g_if_ne (pc := 20) (tgt := 27) X dX12_head_20 (by decide) (fun hc => ?_) (fun hc => ?_)
    · have hf := itn hc hf
      refine g_aload_n (pc := 27) X dX12_head_27 rfl 0 rfl ?_
      obtain ⟨q6, hr7, hf⟩ := bnd_some hf
      refine g_getR (pc := 28) X fl_X12_25 (KMlt hk1 (by decide)) hk1 hr7 dX12_head_28 ?_
      refine g_bipush (v := (7 : Int32)) (pc := 31) X dX12_head_31 (by decide) ?_
      obtain ⟨hk8, hf⟩ := gp_some hf
      obtain ⟨hi9, hf⟩ := gp_some hf
      refine g_iald (pc := 33) X (KMlt hk8 (by decide)) hk8 hi9 dX12_head_33 ?_
      obtain ⟨v2_10, e11, hf⟩ := lt1_some hf
      refine g_topi e11 ?_
      refine g_istore_n (lv2 := [(0, .ref (ad v0)), (1, .int v1), (2, .int v2_10)]) (pc := 34) X dX12_head_34 rfl (by decide) [1, 2, 0] rfl ?_
      refine g_aload_n (pc := 35) X dX12_head_35 rfl 0 rfl ?_
      refine g_getR (pc := 36) X fl_X12_25 (KMlt hk1 (by decide)) hk1 hr7 dX12_head_36 ?_
      refine g_bipush (v := (7 : Int32)) (pc := 39) X dX12_head_39 (by decide) ?_
      refine g_iload_n (pc := 41) X dX12_head_41 rfl 1 rfl ?_
      obtain ⟨hi12, hf⟩ := gp_some hf
      refine g_iast (pc := 42) X (KMlt hk8 (by decide)) hk8 hi12 dX12_head_42 ?_
      obtain ⟨m13, e14, hf⟩ := lt1_some hf
      refine g_mem e14 ?_
      refine g_iload_n (pc := 43) X dX12_head_43 rfl 2 rfl ?_
      refine g_i2l (pc := 44) X dX12_head_44 ?_
      obtain ⟨rfl, rfl⟩ := som2 hf
      exact hret _ _ dX12_head_45
    · have hf := itp hc hf
      refine g_ldc2 (pc := 23) X dX12_head_23 kl_X12_81 ?_
      obtain ⟨rfl, rfl⟩ := som2 hf
      exact hret _ _ dX12_head_26
  · have hf := itp hc hf
    refine g_ldc2 (pc := 12) X dX12_head_12 kl_X12_259 ?_
    obtain ⟨rfl, rfl⟩ := som2 hf
    exact hret _ _ dX12_head_15

noncomputable def fX12_oneHour_194 (v0 : Nat) (m : Mem) : Option Mem := gp (KM v0 = 12) (bnd (m.2.2 v0 8) (fun q2 => gp (KM q2 = 14) (gp (inb (4 : Int32) (NM q2) = true) (gp (inb (4 : Int32) (NM q2) = true) (lt1 (uI m q2 (4 : Int32).toNatClampNeg ((m.1 q2 (4 : Int32).toNatClampNeg) + (1 : Int32))) (fun m7 => some m7))))))
noncomputable def fX12_oneHour_193 (v0 : Nat) (s0 : Nat) (s1 : Int32) (s2 : Int32) (m : Mem) : Option Mem := gp (KM s0 = 14) (gp (inb s1 (NM s0) = true) (lt1 (uI m s0 s1.toNatClampNeg s2) (fun m11 => fX12_oneHour_194 v0 m11)))
noncomputable def fX12_oneHour_165 (v0 : Nat) (s0 : Nat) (s1 : Int32) (s2 : Int32) (m : Mem) : Option Mem := gp (KM s0 = 14) (gp (inb s1 (NM s0) = true) (lt1 (uI m s0 s1.toNatClampNeg s2) (fun m15 => gp (KM v0 = 12) (bnd (m15.2.2 v0 8) (fun q18 => gp (KM q18 = 14) (gp (inb (3 : Int32) (NM q18) = true) (bnd (m15.2.2 v0 5) (fun q22 => gp (KM q22 = 14) (gp (inb (11 : Int32) (NM q22) = true) (if (m15.1 q18 (3 : Int32).toNatClampNeg) = (m15.1 q22 (11 : Int32).toNatClampNeg) then (fX12_oneHour_193 v0 q18 (6 : Int32) (1 : Int32) m15) else (fX12_oneHour_193 v0 q18 (6 : Int32) (0 : Int32) m15)))))))))))
noncomputable def fX12_oneHour_128 (v0 : Nat) (s0 : Int32) (s1 : Int32) (m : Mem) : Option Mem := lt1 (s0 - s1) (fun v3_26 => gp (KM v0 = 12) (bnd (m.2.2 v0 8) (fun q29 => if 0 ≤ v3_26 then (bnd (m.2.2 v0 5) (fun q31 => gp (KM q31 = 14) (gp (inb (11 : Int32) (NM q31) = true) (if v3_26 ≤ (m.1 q31 (11 : Int32).toNatClampNeg) then (fX12_oneHour_165 v0 q29 (3 : Int32) v3_26 m) else (gp (inb (11 : Int32) (NM q31) = true) (fX12_oneHour_165 v0 q29 (3 : Int32) (m.1 q31 (11 : Int32).toNatClampNeg) m)))))) else (fX12_oneHour_165 v0 q29 (3 : Int32) (0 : Int32) m))))
noncomputable def fX12_oneHour_89 (v0 : Nat) (v2 : Int32) (m : Mem) : Option Mem := gp (KM v0 = 12) (bnd (m.2.2 v0 8) (fun q37 => gp (KM q37 = 14) (gp (inb (6 : Int32) (NM q37) = true) (if (m.1 q37 (6 : Int32).toNatClampNeg) = 0 then (gp (inb (3 : Int32) (NM q37) = true) (bnd (m.2.2 v0 5) (fun q42 => gp (KM q42 = 14) (gp (inb (9 : Int32) (NM q42) = true) (if v2 = 0 then (fX12_oneHour_128 v0 ((m.1 q37 (3 : Int32).toNatClampNeg) + (m.1 q42 (9 : Int32).toNatClampNeg)) (0 : Int32) m) else (gp (inb (10 : Int32) (NM q42) = true) (fX12_oneHour_128 v0 ((m.1 q37 (3 : Int32).toNatClampNeg) + (m.1 q42 (9 : Int32).toNatClampNeg)) (m.1 q42 (10 : Int32).toNatClampNeg) m))))))) else (fX12_oneHour_194 v0 m)))))
noncomputable def fX12_oneHour_88 (v0 : Nat) (v2 : Int32) (s0 : Nat) (s1 : Int32) (s2 : Int32) (m : Mem) : Option Mem := gp (KM s0 = 14) (gp (inb s1 (NM s0) = true) (lt1 (uI m s0 s1.toNatClampNeg s2) (fun m49 => fX12_oneHour_89 v0 v2 m49)))
noncomputable def fX12_oneHour (v0 : Nat) (v1 : Int32) (v2 : Int32) (m : Mem) : Option Mem := gp (KM v0 = 12) (bnd (m.2.2 v0 8) (fun q52 => gp (KM q52 = 14) (gp (inb (5 : Int32) (NM q52) = true) (gp (inb (6 : Int32) (NM q52) = true) (if ((m.1 q52 (5 : Int32).toNatClampNeg) + (m.1 q52 (6 : Int32).toNatClampNeg)) = 0 then (gp (inb (2 : Int32) (NM q52) = true) (gp (inb (1 : Int32) (NM q52) = true) (gp (inb (7 : Int32) (NM q52) = true) (bnd (fX12_wayBy v0 v1 (m.1 q52 (7 : Int32).toNatClampNeg) m) (fun r61 => bnd (fX12_goneTo v0 (((16 : Int32) * (m.1 q52 (2 : Int32).toNatClampNeg)) + (m.1 q52 (1 : Int32).toNatClampNeg)) r61 m) (fun r63 => gp (¬ (16 : Int32) = 0) (gp (inb (1 : Int32) (NM q52) = true) (lt1 (uI m q52 (1 : Int32).toNatClampNeg (r63 - r63 / (16 : Int32) * (16 : Int32))) (fun m66 => bnd (m66.2.2 v0 8) (fun q68 => gp (¬ (16 : Int32) = 0) (gp (KM q68 = 14) (gp (inb (2 : Int32) (NM q68) = true) (lt1 (uI m66 q68 (2 : Int32).toNatClampNeg (r63 / (16 : Int32))) (fun m73 => bnd (m73.2.2 v0 8) (fun q75 => bnd (fX12_isLand v0 r63 m73) (fun r78 => if r78 = 0 then (fX12_oneHour_88 v0 v2 q75 (5 : Int32) (0 : Int32) m73) else (fX12_oneHour_88 v0 v2 q75 (5 : Int32) (1 : Int32) m73))))))))))))))))) else (fX12_oneHour_89 v0 v2 m))))))
set_option maxHeartbeats 4000000 in
set_option maxRecDepth 100000 in
theorem cX12_oneHour_ct (z : Zx) (ad : Nat → Nat) (v0 : Nat) (v1 : Int32) (v2 : Int32) (m m2 : Mem) (hf : fX12_oneHour v0 v1 v2 m = some m2) : CtV z wM yX12_oneHour cX12_oneHour 4 none (Rm 5) ad 17 [.ref (ad v0), .int v1, .int v2] m m2 := by
  refine ct_ofV mi_X12_oneHour rfl (Nat.le_of_ble_eq_true rfl) (fun x X hret => ?_)
  refine g_lv [(0, .ref (ad v0)), (1, .int v1), (2, .int v2)] [0, 1, 2] rfl ?_
  have hL194 : ∀ (v0 : Nat) (m : Mem), fX12_oneHour_194 v0 m = some m2 → G z wM x 4 0 0 ad 17 m 194 [(0, .ref (ad v0))] [] := by
    intro v0 m hf
    unfold fX12_oneHour_194 at hf
    refine g_aload_n (pc := 194) X dX12_oneHour_194 rfl 0 rfl ?_
    obtain ⟨hk1, hf⟩ := gp_some hf
    obtain ⟨q2, hr3, hf⟩ := bnd_some hf
    refine g_getR (pc := 195) X fl_X12_25 (KMlt hk1 (by decide)) hk1 hr3 dX12_oneHour_195 ?_
    refine g_iconst (v := (4 : Int32)) (pc := 198) X dX12_oneHour_198 (by decide) ?_
    refine g_dup2_11 (pc := 199) X dX12_oneHour_199 rfl rfl ?_
    obtain ⟨hk4, hf⟩ := gp_some hf
    obtain ⟨hi5, hf⟩ := gp_some hf
    refine g_iald (pc := 200) X (KMlt hk4 (by decide)) hk4 hi5 dX12_oneHour_200 ?_
    refine g_iconst (v := (1 : Int32)) (pc := 201) X dX12_oneHour_201 (by decide) ?_
    refine g_iadd (pc := 202) X dX12_oneHour_202 ?_
    obtain ⟨hi6, hf⟩ := gp_some hf
    refine g_iast (pc := 203) X (KMlt hk4 (by decide)) hk4 hi6 dX12_oneHour_203 ?_
    obtain ⟨m7, e8, hf⟩ := lt1_some hf
    refine g_mem e8 ?_
    obtain rfl := Option.some.inj hf
    exact hret _ _ dX12_oneHour_204
  have hL193 : ∀ (v0 : Nat) (s0 : Nat) (s1 : Int32) (s2 : Int32) (m : Mem), fX12_oneHour_193 v0 s0 s1 s2 m = some m2 → G z wM x 4 0 0 ad 17 m 193 [(0, .ref (ad v0))] [.int s2, .int s1, .ref (ad s0)] := by
    intro v0 s0 s1 s2 m hf
    unfold fX12_oneHour_193 at hf
    obtain ⟨hk9, hf⟩ := gp_some hf
    obtain ⟨hi10, hf⟩ := gp_some hf
    refine g_iast (pc := 193) X (KMlt hk9 (by decide)) hk9 hi10 dX12_oneHour_193 ?_
    obtain ⟨m11, e12, hf⟩ := lt1_some hf
    refine g_mem e12 ?_
    exact hL194 _ _ hf
  have hL165 : ∀ (v0 : Nat) (s0 : Nat) (s1 : Int32) (s2 : Int32) (m : Mem), fX12_oneHour_165 v0 s0 s1 s2 m = some m2 → G z wM x 4 0 0 ad 17 m 165 [(0, .ref (ad v0))] [.int s2, .int s1, .ref (ad s0)] := by
    intro v0 s0 s1 s2 m hf
    unfold fX12_oneHour_165 at hf
    obtain ⟨hk13, hf⟩ := gp_some hf
    obtain ⟨hi14, hf⟩ := gp_some hf
    refine g_iast (pc := 165) X (KMlt hk13 (by decide)) hk13 hi14 dX12_oneHour_165 ?_
    obtain ⟨m15, e16, hf⟩ := lt1_some hf
    refine g_mem e16 ?_
    refine g_aload_n (pc := 166) X dX12_oneHour_166 rfl 0 rfl ?_
    obtain ⟨hk17, hf⟩ := gp_some hf
    obtain ⟨q18, hr19, hf⟩ := bnd_some hf
    refine g_getR (pc := 167) X fl_X12_25 (KMlt hk17 (by decide)) hk17 hr19 dX12_oneHour_167 ?_
    refine g_bipush (v := (6 : Int32)) (pc := 170) X dX12_oneHour_170 (by decide) ?_
    refine g_aload_n (pc := 172) X dX12_oneHour_172 rfl 0 rfl ?_
    refine g_getR (pc := 173) X fl_X12_25 (KMlt hk17 (by decide)) hk17 hr19 dX12_oneHour_173 ?_
    refine g_iconst (v := (3 : Int32)) (pc := 176) X dX12_oneHour_176 (by decide) ?_
    obtain ⟨hk20, hf⟩ := gp_some hf
    obtain ⟨hi21, hf⟩ := gp_some hf
    refine g_iald (pc := 177) X (KMlt hk20 (by decide)) hk20 hi21 dX12_oneHour_177 ?_
    refine g_aload_n (pc := 178) X dX12_oneHour_178 rfl 0 rfl ?_
    obtain ⟨q22, hr23, hf⟩ := bnd_some hf
    refine g_getR (pc := 179) X fl_X12_19 (KMlt hk17 (by decide)) hk17 hr23 dX12_oneHour_179 ?_
    refine g_bipush (v := (11 : Int32)) (pc := 182) X dX12_oneHour_182 (by decide) ?_
    obtain ⟨hk24, hf⟩ := gp_some hf
    obtain ⟨hi25, hf⟩ := gp_some hf
    refine g_iald (pc := 184) X (KMlt hk24 (by decide)) hk24 hi25 dX12_oneHour_184 ?_
    refine g_icmp_ne (pc := 185) (tgt := 192) X dX12_oneHour_185 (by decide) (fun hc => ?_) (fun hc => ?_)
    · have hf := itn hc hf
      refine g_iconst (v := (0 : Int32)) (pc := 192) X dX12_oneHour_192 (by decide) ?_
      exact hL193 _ _ _ _ _ hf
    · have hf := itp hc hf
      refine g_iconst (v := (1 : Int32)) (pc := 188) X dX12_oneHour_188 (by decide) ?_
      refine g_goto (pc := 189) (tgt := 193) X dX12_oneHour_189 (by decide) ?_
      exact hL193 _ _ _ _ _ hf
  have hL128 : ∀ (v0 : Nat) (s0 : Int32) (s1 : Int32) (m : Mem), fX12_oneHour_128 v0 s0 s1 m = some m2 → G z wM x 4 0 0 ad 17 m 128 [(0, .ref (ad v0))] [.int s1, .int s0] := by
    intro v0 s0 s1 m hf
    unfold fX12_oneHour_128 at hf
    refine g_isub (pc := 128) X dX12_oneHour_128 ?_
    obtain ⟨v3_26, e27, hf⟩ := lt1_some hf
    refine g_topi e27 ?_
    refine g_istore_n (lv2 := [(0, .ref (ad v0)), (3, .int v3_26)]) (pc := 129) X dX12_oneHour_129 rfl (by decide) [1, 0] rfl ?_
    refine g_aload_n (pc := 130) X dX12_oneHour_130 rfl 0 rfl ?_
    obtain ⟨hk28, hf⟩ := gp_some hf
    obtain ⟨q29, hr30, hf⟩ := bnd_some hf
    refine g_getR (pc := 131) X fl_X12_25 (KMlt hk28 (by decide)) hk28 hr30 dX12_oneHour_131 ?_
    refine g_iconst (v := (3 : Int32)) (pc := 134) X dX12_oneHour_134 (by decide) ?_
    refine g_iload_n (pc := 135) X dX12_oneHour_135 rfl 1 rfl ?_
    refine g_if_ge (pc := 136) (tgt := 143) X dX12_oneHour_136 (by decide) (fun hc => ?_) (fun hc => ?_)
    · have hf := itp hc hf
      refine g_iload_n (pc := 143) X dX12_oneHour_143 rfl 1 rfl ?_
      refine g_aload_n (pc := 144) X dX12_oneHour_144 rfl 0 rfl ?_
      obtain ⟨q31, hr32, hf⟩ := bnd_some hf
      refine g_getR (pc := 145) X fl_X12_19 (KMlt hk28 (by decide)) hk28 hr32 dX12_oneHour_145 ?_
      refine g_bipush (v := (11 : Int32)) (pc := 148) X dX12_oneHour_148 (by decide) ?_
      obtain ⟨hk33, hf⟩ := gp_some hf
      obtain ⟨hi34, hf⟩ := gp_some hf
      refine g_iald (pc := 150) X (KMlt hk33 (by decide)) hk33 hi34 dX12_oneHour_150 ?_
      refine g_icmp_le (pc := 151) (tgt := 164) X dX12_oneHour_151 (by decide) (fun hc => ?_) (fun hc => ?_)
      · have hf := itp hc hf
        refine g_iload_n (pc := 164) X dX12_oneHour_164 rfl 1 rfl ?_
        refine g_lv [(0, .ref (ad v0))] [0] rfl ?_
        exact hL165 _ _ _ _ _ hf
      · have hf := itn hc hf
        refine g_aload_n (pc := 154) X dX12_oneHour_154 rfl 0 rfl ?_
        refine g_getR (pc := 155) X fl_X12_19 (KMlt hk28 (by decide)) hk28 hr32 dX12_oneHour_155 ?_
        refine g_bipush (v := (11 : Int32)) (pc := 158) X dX12_oneHour_158 (by decide) ?_
        obtain ⟨hi35, hf⟩ := gp_some hf
        refine g_iald (pc := 160) X (KMlt hk33 (by decide)) hk33 hi35 dX12_oneHour_160 ?_
        refine g_goto (pc := 161) (tgt := 165) X dX12_oneHour_161 (by decide) ?_
        refine g_lv [(0, .ref (ad v0))] [0] rfl ?_
        exact hL165 _ _ _ _ _ hf
    · have hf := itn hc hf
      refine g_iconst (v := (0 : Int32)) (pc := 139) X dX12_oneHour_139 (by decide) ?_
      refine g_goto (pc := 140) (tgt := 165) X dX12_oneHour_140 (by decide) ?_
      refine g_lv [(0, .ref (ad v0))] [0] rfl ?_
      exact hL165 _ _ _ _ _ hf
  have hL89 : ∀ (v0 : Nat) (v2 : Int32) (m : Mem), fX12_oneHour_89 v0 v2 m = some m2 → G z wM x 4 0 0 ad 17 m 89 [(0, .ref (ad v0)), (2, .int v2)] [] := by
    intro v0 v2 m hf
    unfold fX12_oneHour_89 at hf
    refine g_aload_n (pc := 89) X dX12_oneHour_89 rfl 0 rfl ?_
    obtain ⟨hk36, hf⟩ := gp_some hf
    obtain ⟨q37, hr38, hf⟩ := bnd_some hf
    refine g_getR (pc := 90) X fl_X12_25 (KMlt hk36 (by decide)) hk36 hr38 dX12_oneHour_90 ?_
    refine g_bipush (v := (6 : Int32)) (pc := 93) X dX12_oneHour_93 (by decide) ?_
    obtain ⟨hk39, hf⟩ := gp_some hf
    obtain ⟨hi40, hf⟩ := gp_some hf
    refine g_iald (pc := 95) X (KMlt hk39 (by decide)) hk39 hi40 dX12_oneHour_95 ?_
    refine g_if_ne (pc := 96) (tgt := 194) X dX12_oneHour_96 (by decide) (fun hc => ?_) (fun hc => ?_)
    · have hf := itn hc hf
      refine g_lv [(0, .ref (ad v0))] [0] rfl ?_
      exact hL194 _ _ hf
    · have hf := itp hc hf
      refine g_aload_n (pc := 99) X dX12_oneHour_99 rfl 0 rfl ?_
      refine g_getR (pc := 100) X fl_X12_25 (KMlt hk36 (by decide)) hk36 hr38 dX12_oneHour_100 ?_
      refine g_iconst (v := (3 : Int32)) (pc := 103) X dX12_oneHour_103 (by decide) ?_
      obtain ⟨hi41, hf⟩ := gp_some hf
      refine g_iald (pc := 104) X (KMlt hk39 (by decide)) hk39 hi41 dX12_oneHour_104 ?_
      refine g_aload_n (pc := 105) X dX12_oneHour_105 rfl 0 rfl ?_
      obtain ⟨q42, hr43, hf⟩ := bnd_some hf
      refine g_getR (pc := 106) X fl_X12_19 (KMlt hk36 (by decide)) hk36 hr43 dX12_oneHour_106 ?_
      refine g_bipush (v := (9 : Int32)) (pc := 109) X dX12_oneHour_109 (by decide) ?_
      obtain ⟨hk44, hf⟩ := gp_some hf
      obtain ⟨hi45, hf⟩ := gp_some hf
      refine g_iald (pc := 111) X (KMlt hk44 (by decide)) hk44 hi45 dX12_oneHour_111 ?_
      refine g_iadd (pc := 112) X dX12_oneHour_112 ?_
      refine g_iload_n (pc := 113) X dX12_oneHour_113 rfl 1 rfl ?_
      refine g_if_eq (pc := 114) (tgt := 127) X dX12_oneHour_114 (by decide) (fun hc => ?_) (fun hc => ?_)
      · have hf := itp hc hf
        refine g_iconst (v := (0 : Int32)) (pc := 127) X dX12_oneHour_127 (by decide) ?_
        refine g_lv [(0, .ref (ad v0))] [0] rfl ?_
        exact hL128 _ _ _ _ hf
      · have hf := itn hc hf
        refine g_aload_n (pc := 117) X dX12_oneHour_117 rfl 0 rfl ?_
        refine g_getR (pc := 118) X fl_X12_19 (KMlt hk36 (by decide)) hk36 hr43 dX12_oneHour_118 ?_
        refine g_bipush (v := (10 : Int32)) (pc := 121) X dX12_oneHour_121 (by decide) ?_
        obtain ⟨hi46, hf⟩ := gp_some hf
        refine g_iald (pc := 123) X (KMlt hk44 (by decide)) hk44 hi46 dX12_oneHour_123 ?_
        refine g_goto (pc := 124) (tgt := 128) X dX12_oneHour_124 (by decide) ?_
        refine g_lv [(0, .ref (ad v0))] [0] rfl ?_
        exact hL128 _ _ _ _ hf
  have hL88 : ∀ (v0 : Nat) (v2 : Int32) (s0 : Nat) (s1 : Int32) (s2 : Int32) (m : Mem), fX12_oneHour_88 v0 v2 s0 s1 s2 m = some m2 → G z wM x 4 0 0 ad 17 m 88 [(0, .ref (ad v0)), (2, .int v2)] [.int s2, .int s1, .ref (ad s0)] := by
    intro v0 v2 s0 s1 s2 m hf
    unfold fX12_oneHour_88 at hf
    obtain ⟨hk47, hf⟩ := gp_some hf
    obtain ⟨hi48, hf⟩ := gp_some hf
    refine g_iast (pc := 88) X (KMlt hk47 (by decide)) hk47 hi48 dX12_oneHour_88 ?_
    obtain ⟨m49, e50, hf⟩ := lt1_some hf
    refine g_mem e50 ?_
    exact hL89 _ _ _ hf
  unfold fX12_oneHour at hf
  refine g_aload_n (pc := 0) X dX12_oneHour_0 rfl 0 rfl ?_
  obtain ⟨hk51, hf⟩ := gp_some hf
  obtain ⟨q52, hr53, hf⟩ := bnd_some hf
  refine g_getR (pc := 1) X fl_X12_25 (KMlt hk51 (by decide)) hk51 hr53 dX12_oneHour_1 ?_
  refine g_iconst (v := (5 : Int32)) (pc := 4) X dX12_oneHour_4 (by decide) ?_
  obtain ⟨hk54, hf⟩ := gp_some hf
  obtain ⟨hi55, hf⟩ := gp_some hf
  refine g_iald (pc := 5) X (KMlt hk54 (by decide)) hk54 hi55 dX12_oneHour_5 ?_
  refine g_aload_n (pc := 6) X dX12_oneHour_6 rfl 0 rfl ?_
  refine g_getR (pc := 7) X fl_X12_25 (KMlt hk51 (by decide)) hk51 hr53 dX12_oneHour_7 ?_
  refine g_bipush (v := (6 : Int32)) (pc := 10) X dX12_oneHour_10 (by decide) ?_
  obtain ⟨hi56, hf⟩ := gp_some hf
  refine g_iald (pc := 12) X (KMlt hk54 (by decide)) hk54 hi56 dX12_oneHour_12 ?_
  refine g_iadd (pc := 13) X dX12_oneHour_13 ?_
  refine g_if_ne (pc := 14) (tgt := 89) X dX12_oneHour_14 (by decide) (fun hc => ?_) (fun hc => ?_)
  · have hf := itn hc hf
    refine g_lv [(0, .ref (ad v0)), (2, .int v2)] [0, 2] rfl ?_
    exact hL89 _ _ _ hf
  · have hf := itp hc hf
    refine g_aload_n (pc := 17) X dX12_oneHour_17 rfl 0 rfl ?_
    refine g_bipush (v := (16 : Int32)) (pc := 18) X dX12_oneHour_18 (by decide) ?_
    refine g_aload_n (pc := 20) X dX12_oneHour_20 rfl 0 rfl ?_
    refine g_getR (pc := 21) X fl_X12_25 (KMlt hk51 (by decide)) hk51 hr53 dX12_oneHour_21 ?_
    refine g_iconst (v := (2 : Int32)) (pc := 24) X dX12_oneHour_24 (by decide) ?_
    obtain ⟨hi57, hf⟩ := gp_some hf
    refine g_iald (pc := 25) X (KMlt hk54 (by decide)) hk54 hi57 dX12_oneHour_25 ?_
    refine g_imul (pc := 26) X dX12_oneHour_26 ?_
    refine g_aload_n (pc := 27) X dX12_oneHour_27 rfl 0 rfl ?_
    refine g_getR (pc := 28) X fl_X12_25 (KMlt hk51 (by decide)) hk51 hr53 dX12_oneHour_28 ?_
    refine g_iconst (v := (1 : Int32)) (pc := 31) X dX12_oneHour_31 (by decide) ?_
    obtain ⟨hi58, hf⟩ := gp_some hf
    refine g_iald (pc := 32) X (KMlt hk54 (by decide)) hk54 hi58 dX12_oneHour_32 ?_
    refine g_iadd (pc := 33) X dX12_oneHour_33 ?_
    refine g_aload_n (pc := 34) X dX12_oneHour_34 rfl 0 rfl ?_
    refine g_iload_n (pc := 35) X dX12_oneHour_35 rfl 1 rfl ?_
    refine g_aload_n (pc := 36) X dX12_oneHour_36 rfl 0 rfl ?_
    refine g_getR (pc := 37) X fl_X12_25 (KMlt hk51 (by decide)) hk51 hr53 dX12_oneHour_37 ?_
    refine g_bipush (v := (7 : Int32)) (pc := 40) X dX12_oneHour_40 (by decide) ?_
    obtain ⟨hi59, hf⟩ := gp_some hf
    refine g_iald (pc := 42) X (KMlt hk54 (by decide)) hk54 hi59 dX12_oneHour_42 ?_
    obtain ⟨r61, hq60, hf⟩ := bnd_some hf
    refine g_callVI (pc := 43) (As := [.int v1, .int (m.1 q52 (7 : Int32).toNatClampNeg)]) (rest := [.int (((16 : Int32) * (m.1 q52 (2 : Int32).toNatClampNeg)) + (m.1 q52 (1 : Int32).toNatClampNeg)), .ref (ad v0)]) X mi_X12_wayBy im_X12_wayBy se_X12_wayBy (KMlt hk51 (by decide)) hk51 clX12 ml_X12_267 (cX12_wayBy_ct z ad v0 v1 (m.1 q52 (7 : Int32).toNatClampNeg) m r61 hq60) rfl rfl (Nat.le_of_ble_eq_true rfl) ⟨rfl, rfl, by decide, by decide, Nat.le_refl _, Nat.le_refl _⟩ dX12_oneHour_43 ?_
    obtain ⟨r63, hq62, hf⟩ := bnd_some hf
    refine g_callVI (pc := 46) (As := [.int (((16 : Int32) * (m.1 q52 (2 : Int32).toNatClampNeg)) + (m.1 q52 (1 : Int32).toNatClampNeg)), .int r61]) (rest := []) X mi_X12_goneTo im_X12_goneTo se_X12_goneTo (KMlt hk51 (by decide)) hk51 clX12 ml_X12_270 (cX12_goneTo_ct z ad v0 (((16 : Int32) * (m.1 q52 (2 : Int32).toNatClampNeg)) + (m.1 q52 (1 : Int32).toNatClampNeg)) r61 m r63 hq62) rfl rfl (Nat.le_of_ble_eq_true rfl) ⟨rfl, rfl, by decide, by decide, Nat.le_refl _, Nat.le_refl _⟩ dX12_oneHour_46 ?_
    refine g_istore_n (lv2 := [(0, .ref (ad v0)), (1, .int v1), (2, .int v2), (3, .int r63)]) (pc := 49) X dX12_oneHour_49 rfl (by decide) [1, 2, 3, 0] rfl ?_
    refine g_aload_n (pc := 50) X dX12_oneHour_50 rfl 0 rfl ?_
    refine g_getR (pc := 51) X fl_X12_25 (KMlt hk51 (by decide)) hk51 hr53 dX12_oneHour_51 ?_
    refine g_iconst (v := (1 : Int32)) (pc := 54) X dX12_oneHour_54 (by decide) ?_
    refine g_iload_n (pc := 55) X dX12_oneHour_55 rfl 3 rfl ?_
    refine g_bipush (v := (16 : Int32)) (pc := 56) X dX12_oneHour_56 (by decide) ?_
    obtain ⟨hz64, hf⟩ := gp_some hf
    refine g_irem (pc := 58) X dX12_oneHour_58 hz64 ?_
    obtain ⟨hi65, hf⟩ := gp_some hf
    refine g_iast (pc := 59) X (KMlt hk54 (by decide)) hk54 hi65 dX12_oneHour_59 ?_
    obtain ⟨m66, e67, hf⟩ := lt1_some hf
    refine g_mem e67 ?_
    refine g_aload_n (pc := 60) X dX12_oneHour_60 rfl 0 rfl ?_
    obtain ⟨q68, hr69, hf⟩ := bnd_some hf
    refine g_getR (pc := 61) X fl_X12_25 (KMlt hk51 (by decide)) hk51 hr69 dX12_oneHour_61 ?_
    refine g_iconst (v := (2 : Int32)) (pc := 64) X dX12_oneHour_64 (by decide) ?_
    refine g_iload_n (pc := 65) X dX12_oneHour_65 rfl 3 rfl ?_
    refine g_bipush (v := (16 : Int32)) (pc := 66) X dX12_oneHour_66 (by decide) ?_
    obtain ⟨hz70, hf⟩ := gp_some hf
    refine g_idiv (pc := 68) X dX12_oneHour_68 hz70 ?_
    obtain ⟨hk71, hf⟩ := gp_some hf
    obtain ⟨hi72, hf⟩ := gp_some hf
    refine g_iast (pc := 69) X (KMlt hk71 (by decide)) hk71 hi72 dX12_oneHour_69 ?_
    obtain ⟨m73, e74, hf⟩ := lt1_some hf
    refine g_mem e74 ?_
    refine g_aload_n (pc := 70) X dX12_oneHour_70 rfl 0 rfl ?_
    obtain ⟨q75, hr76, hf⟩ := bnd_some hf
    refine g_getR (pc := 71) X fl_X12_25 (KMlt hk51 (by decide)) hk51 hr76 dX12_oneHour_71 ?_
    refine g_iconst (v := (5 : Int32)) (pc := 74) X dX12_oneHour_74 (by decide) ?_
    refine g_aload_n (pc := 75) X dX12_oneHour_75 rfl 0 rfl ?_
    refine g_iload_n (pc := 76) X dX12_oneHour_76 rfl 3 rfl ?_
    obtain ⟨r78, hq77, hf⟩ := bnd_some hf
    refine g_callVI (pc := 77) (As := [.int r63]) (rest := [.int (5 : Int32), .ref (ad q75)]) X mi_X12_isLand im_X12_isLand se_X12_isLand (KMlt hk51 (by decide)) hk51 clX12 ml_X12_246 (cX12_isLand_ct z ad v0 r63 m73 r78 hq77) rfl rfl (Nat.le_of_ble_eq_true rfl) ⟨rfl, rfl, by decide, by decide, Nat.le_refl _, Nat.le_refl _⟩ dX12_oneHour_77 ?_
    refine g_if_eq (pc := 80) (tgt := 87) X dX12_oneHour_80 (by decide) (fun hc => ?_) (fun hc => ?_)
    · have hf := itp hc hf
      refine g_iconst (v := (0 : Int32)) (pc := 87) X dX12_oneHour_87 (by decide) ?_
      refine g_lv [(0, .ref (ad v0)), (2, .int v2)] [0, 2] rfl ?_
      exact hL88 _ _ _ _ _ _ hf
    · have hf := itn hc hf
      refine g_iconst (v := (1 : Int32)) (pc := 83) X dX12_oneHour_83 (by decide) ?_
      refine g_goto (pc := 84) (tgt := 88) X dX12_oneHour_84 (by decide) ?_
      refine g_lv [(0, .ref (ad v0)), (2, .int v2)] [0, 2] rfl ?_
      exact hL88 _ _ _ _ _ _ hf

noncomputable def fX12_windBy_10b (v0 : Nat) (v1 : Int64) (v3 : Int32) (v4 : Int64) (m : Mem) : Option ((Int32 × Int64) ⊕ (Int32)) := if v1 < v4 then (some (.inr (v3))) else (lt1 (v3 + 1) (fun v3_1 => gp (KM v0 = 12) (bnd (fX12_oddsOf v0 v3_1 m) (fun r4 => lt1 (v4 + r4.toInt64) (fun v4_6 => some (.inl (v3_1, v4_6)))))))
noncomputable def fX12_windBy_10 (v0 : Nat) (v1 : Int64) (v3 : Int32) (v4 : Int64) (m : Mem) : Option Int32 := bnd (iter (fun s => fX12_windBy_10b v0 v1 s.1 s.2 m) FU (v3, v4)) (fun e => some e)
noncomputable def fX12_windBy (v0 : Nat) (v1 : Int64) (m : Mem) : Option Int32 := lt1 ((0 : Int32)) (fun v3_8 => gp (KM v0 = 12) (bnd (fX12_oddsOf v0 (0 : Int32) m) (fun r11 => lt1 (r11.toInt64) (fun v4_13 => fX12_windBy_10 v0 v1 v3_8 v4_13 m))))
set_option maxHeartbeats 4000000 in
set_option maxRecDepth 100000 in
theorem cX12_windBy_ct (z : Zx) (ad : Nat → Nat) (v0 : Nat) (v1 : Int64) (m : Mem) (r : Int32) (hf : fX12_windBy v0 v1 m = some r) : CtI z wM yX12_windBy cX12_windBy 6 (some .int) (Rm 3) ad 17 [.ref (ad v0), .long v1] m m r := by
  refine ct_ofI mi_X12_windBy rfl (Nat.le_of_ble_eq_true rfl) (fun x X hret => ?_)
  refine g_lv [(0, .ref (ad v0)), (1, .long v1)] [0, 1] rfl ?_
  have hL10 : ∀ (v0 : Nat) (v1 : Int64) (v3 : Int32) (v4 : Int64), fX12_windBy_10 v0 v1 v3 v4 m = some r → G z wM x 6 0 0 ad 17 m 10 [(0, .ref (ad v0)), (1, .long v1), (3, .int v3), (4, .long v4)] [] := by
    intro v0 v1 v3 v4 hf
    unfold fX12_windBy_10 at hf
    obtain ⟨e10, hit10, hrest10⟩ := bnd_some hf
    refine iter_ok (Hd := fun (s : (Int32 × Int64)) => G z wM x 6 0 0 ad 17 m 10 [(0, .ref (ad v0)), (1, .long v1), (3, .int s.1), (4, .long s.2)] []) ?_ FU (v3, v4) hit10
    intro s ob10 hf hs10 he10
    obtain ⟨v3, v4⟩ := s
    have hf : fX12_windBy_10b v0 v1 v3 v4 m = some ob10 := hf
    unfold fX12_windBy_10b at hf
    refine g_lload (pc := 10) X dX12_windBy_10 3 rfl ?_
    refine g_lload_n (pc := 12) X dX12_windBy_12 rfl 1 rfl ?_
    refine g_lcmp_gt (pc := 13) (tgt := 34) X dX12_windBy_13 dX12_windBy_14 (by decide) (fun hc => ?_) (fun hc => ?_)
    · have hf := itp hc hf
      have he10 := he10 _ (Option.some.inj hf).symm
      subst he10
      have hf : some v3 = some r := hrest10
      refine g_iload_n (pc := 34) X dX12_windBy_34 rfl 2 rfl ?_
      obtain rfl := Option.some.inj hf
      exact hret _ _ rfl dX12_windBy_35
    · have hf := itn hc hf
      obtain ⟨v3_1, e2, hf⟩ := lt1_some hf
      refine g_iinc (v2 := v3_1) (lv2 := [(0, .ref (ad v0)), (1, .long v1), (3, .int v3_1), (4, .long v4)]) (pc := 17) X dX12_windBy_17 2 rfl (by rw [e2]; rfl) (by decide) [1, 2, 0, 3] rfl ?_
      refine g_lload (pc := 20) X dX12_windBy_20 3 rfl ?_
      refine g_aload_n (pc := 22) X dX12_windBy_22 rfl 0 rfl ?_
      refine g_iload_n (pc := 23) X dX12_windBy_23 rfl 2 rfl ?_
      obtain ⟨hk5, hf⟩ := gp_some hf
      obtain ⟨r4, hq3, hf⟩ := bnd_some hf
      refine g_callVI (pc := 24) (As := [.int v3_1]) (rest := [.long v4]) X mi_X12_oddsOf im_X12_oddsOf se_X12_oddsOf (KMlt hk5 (by decide)) hk5 clX12 ml_X12_256 (cX12_oddsOf_ct z ad v0 v3_1 m r4 hq3) rfl rfl (Nat.le_of_ble_eq_true rfl) ⟨rfl, rfl, by decide, by decide, Nat.le_refl _, Nat.le_refl _⟩ dX12_windBy_24 ?_
      refine g_i2l (pc := 27) X dX12_windBy_27 ?_
      refine g_ladd (pc := 28) X dX12_windBy_28 ?_
      obtain ⟨v4_6, e7, hf⟩ := lt1_some hf
      refine g_topl e7 ?_
      refine g_lstore (lv2 := [(0, .ref (ad v0)), (1, .long v1), (3, .int v3_1), (4, .long v4_6)]) (pc := 29) X dX12_windBy_29 (by decide) [1, 2, 3, 0] rfl ?_
      refine g_goto (pc := 31) (tgt := 10) X dX12_windBy_31 (by decide) ?_
      exact hs10 (v3_1, v4_6) (Option.some.inj hf).symm
  unfold fX12_windBy at hf
  refine g_iconst (v := (0 : Int32)) (pc := 0) X dX12_windBy_0 (by decide) ?_
  obtain ⟨v3_8, e9, hf⟩ := lt1_some hf
  refine g_topi e9 ?_
  refine g_istore_n (lv2 := [(0, .ref (ad v0)), (1, .long v1), (3, .int v3_8)]) (pc := 1) X dX12_windBy_1 rfl (by decide) [1, 2, 0] rfl ?_
  refine g_aload_n (pc := 2) X dX12_windBy_2 rfl 0 rfl ?_
  refine g_iconst (v := (0 : Int32)) (pc := 3) X dX12_windBy_3 (by decide) ?_
  obtain ⟨hk12, hf⟩ := gp_some hf
  obtain ⟨r11, hq10, hf⟩ := bnd_some hf
  refine g_callVI (pc := 4) (As := [.int (0 : Int32)]) (rest := []) X mi_X12_oddsOf im_X12_oddsOf se_X12_oddsOf (KMlt hk12 (by decide)) hk12 clX12 ml_X12_256 (cX12_oddsOf_ct z ad v0 (0 : Int32) m r11 hq10) rfl rfl (Nat.le_of_ble_eq_true rfl) ⟨rfl, rfl, by decide, by decide, Nat.le_refl _, Nat.le_refl _⟩ dX12_windBy_4 ?_
  refine g_i2l (pc := 7) X dX12_windBy_7 ?_
  obtain ⟨v4_13, e14, hf⟩ := lt1_some hf
  refine g_topl e14 ?_
  refine g_lstore (lv2 := [(0, .ref (ad v0)), (1, .long v1), (3, .int v3_8), (4, .long v4_13)]) (pc := 8) X dX12_windBy_8 (by decide) [1, 2, 3, 0] rfl ?_
  exact hL10 _ _ _ _ hf

