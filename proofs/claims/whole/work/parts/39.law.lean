set_option maxHeartbeats 2000000 in
set_option maxRecDepth 100000 in
theorem law_144 {p : Program} {l : Launch} {e : Env} {s : State} {m : MethodId} {below : List Frame} {meth : Method} {c : Code} {b L z : Nat} {xs : Nat → Int32} {G : xG} {H : Heap} {locs : List Loc} {Q : State → Prop} {ls : Array Slot} {σ : FD} {μ : MD} {x3 : Int32} {i : Int} (C : LC p s m c b L xs G z) (hx3 : x3.toInt = i) (hi : 0 ≤ i ∧ i + 5 ≤ (L : Int)) (I : LI G z s.heap H locs σ μ) (hl : lv_has ls 4 [(0, .ref b), (1, .ref z), (2, .ref (z + 112)), (3, .int x3)]) (kk : ∀ (σ' : FD) (μ' : MD) (H' : Heap) (locs' : List Loc), LI G z s.heap H' locs' σ' μ' → W p l e room_1 s m (#[Value.ref b] : Array Value) below meth c H' locs' 117 20218 Q (F0 m 920 ls [])) : W p l e room_1 s m (#[Value.ref b] : Array Value) below meth c H locs 117 20218 Q (F0 m 144 ls []) := by
  obtain ⟨hx, hb, hml, hown, hts, hK, hX, hbl, hL, hz⟩ := C
  obtain ⟨hF, hM, hRel, hfd, hS⟩ := I
  have hbA : ¬ (fun q : Nat => s.heap.size ≤ q) b := Nat.not_le.mpr hbl
  refine lv_aload_n hx hb dL_law_144 rfl (lv_at hl 1 rfl) ?_
  refine lv_aload_n hx hb dL_law_145 rfl (lv_at hl 0 rfl) ?_
  refine lv_iload_n hx hb dL_law_146 rfl (lv_at hl 3 rfl) ?_
  refine lv_iconst (v := (1 : Int32)) hx hb dL_law_147 (by decide) ?_
  refine z_iadd hx hb hx3 kI_1 dL_law_148 (by omega) (fun z1 e1 => ?_)
  refine z_sld hx hb hX hbl hbA hS e1 (by omega) dL_law_149 ?_
  refine lv_aload_n hx hb dL_law_150 rfl (lv_at hl 0 rfl) ?_
  refine lv_iload_n hx hb dL_law_151 rfl (lv_at hl 3 rfl) ?_
  refine lv_iconst (v := (2 : Int32)) hx hb dL_law_152 (by decide) ?_
  refine z_iadd hx hb hx3 kI_2 dL_law_153 (by omega) (fun z2 e2 => ?_)
  refine z_sld hx hb hX hbl hbA hS e2 (by omega) dL_law_154 ?_
  refine lv_aload_n hx hb dL_law_155 rfl (lv_at hl 0 rfl) ?_
  refine lv_iload_n hx hb dL_law_156 rfl (lv_at hl 3 rfl) ?_
  refine lv_iconst (v := (3 : Int32)) hx hb dL_law_157 (by decide) ?_
  refine z_iadd hx hb hx3 kI_3 dL_law_158 (by omega) (fun z3 e3 => ?_)
  refine z_sld hx hb hX hbl hbA hS e3 (by omega) dL_law_159 ?_
  refine lv_aload_n hx hb dL_law_160 rfl (lv_at hl 0 rfl) ?_
  refine lv_iload_n hx hb dL_law_161 rfl (lv_at hl 3 rfl) ?_
  refine lv_iconst (v := (4 : Int32)) hx hb dL_law_162 (by decide) ?_
  refine z_iadd hx hb hx3 kI_4 dL_law_163 (by omega) (fun z4 e4 => ?_)
  refine z_sld hx hb hX hbl hbA hS e4 (by omega) dL_law_164 ?_
  refine z_cVw (As := [.int (xs (i + (1 : Int)).toNat), .int (xs (i + (2 : Int)).toNat), .int (xs (i + (3 : Int)).toNat), .int (xs (i + (4 : Int)).toNat)]) (rest := []) ⟨hx, hb, hml, hown, hts⟩ (kX4_setWave l G z σ (xs (i + (1 : Int)).toNat) ((xs (i + (1 : Int)).toNat).toInt) rfl (xs (i + (2 : Int)).toNat) ((xs (i + (2 : Int)).toNat).toInt) rfl (xs (i + (3 : Int)).toNat) ((xs (i + (3 : Int)).toNat).toInt) rfl (xs (i + (4 : Int)).toNat) ((xs (i + (4 : Int)).toNat).toInt) rfl (by first | assumption | omega)) (cwV 4 hts gL_law_X4_setWave rfl rfl rfl hyX4_setWave ⟨Nat.le_of_ble_eq_true rfl, Nat.le_of_ble_eq_true rfl⟩) hK hF hF.1 rfl rfl hl.1 rfl (Nat.le_of_ble_eq_true rfl) dL_law_165 ⟨Nat.le_of_ble_eq_true rfl, Nat.le_of_ble_eq_true rfl⟩ hS (fun q h => by simp only [iv] at h; show s.heap.size ≤ q; omega) (fun z5 H locs e5 hB hsz hq hS => ?_)
  have hF := hB
  have hF : SFP G H z (s_setWave σ ((xs (i + (1 : Int)).toNat).toInt) ((xs (i + (2 : Int)).toNat).toInt) ((xs (i + (3 : Int)).toNat).toInt) ((xs (i + (4 : Int)).toNat).toInt) (xs (i + (2 : Int)).toNat) (xs (i + (3 : Int)).toNat) (xs (i + (4 : Int)).toNat)) := hF
  have hM := hM.kept (fun q h1 h2 => hq q (by have := hM.lt; omega) (by simp only [iv]; omega))
  have e5 : z5.toInt = a_setWave σ ((xs (i + (1 : Int)).toNat).toInt) ((xs (i + (2 : Int)).toNat).toInt) ((xs (i + (3 : Int)).toNat).toInt) ((xs (i + (4 : Int)).toNat).toInt) (xs (i + (2 : Int)).toNat) (xs (i + (3 : Int)).toNat) (xs (i + (4 : Int)).toNat) := e5
  refine lv_aload_n hx hb dL_law_168 rfl (lv_at hl 2 rfl) ?_
  refine lv_aload_n hx hb dL_law_169 rfl (lv_at hl 0 rfl) ?_
  refine lv_iload_n hx hb dL_law_170 rfl (lv_at hl 3 rfl) ?_
  refine lv_iconst (v := (1 : Int32)) hx hb dL_law_171 (by decide) ?_
  refine z_iadd hx hb hx3 kI_1 dL_law_172 (by omega) (fun z6 e6 => ?_)
  refine z_sld hx hb hX hbl hbA hS e6 (by omega) dL_law_173 ?_
  refine lv_aload_n hx hb dL_law_174 rfl (lv_at hl 0 rfl) ?_
  refine lv_iload_n hx hb dL_law_175 rfl (lv_at hl 3 rfl) ?_
  refine lv_iconst (v := (2 : Int32)) hx hb dL_law_176 (by decide) ?_
  refine z_iadd hx hb hx3 kI_2 dL_law_177 (by omega) (fun z7 e7 => ?_)
  refine z_sld hx hb hX hbl hbA hS e7 (by omega) dL_law_178 ?_
  refine lv_aload_n hx hb dL_law_179 rfl (lv_at hl 0 rfl) ?_
  refine lv_iload_n hx hb dL_law_180 rfl (lv_at hl 3 rfl) ?_
  refine lv_iconst (v := (3 : Int32)) hx hb dL_law_181 (by decide) ?_
  refine z_iadd hx hb hx3 kI_3 dL_law_182 (by omega) (fun z8 e8 => ?_)
  refine z_sld hx hb hX hbl hbA hS e8 (by omega) dL_law_183 ?_
  refine lv_aload_n hx hb dL_law_184 rfl (lv_at hl 0 rfl) ?_
  refine lv_iload_n hx hb dL_law_185 rfl (lv_at hl 3 rfl) ?_
  refine lv_iconst (v := (4 : Int32)) hx hb dL_law_186 (by decide) ?_
  refine z_iadd hx hb hx3 kI_4 dL_law_187 (by omega) (fun z9 e9 => ?_)
  refine z_sld hx hb hX hbl hbA hS e9 (by omega) dL_law_188 ?_
  refine z_cVw (As := [.int (xs (i + (1 : Int)).toNat), .int (xs (i + (2 : Int)).toNat), .int (xs (i + (3 : Int)).toNat), .int (xs (i + (4 : Int)).toNat)]) (rest := [.int z5]) ⟨hx, hb, hml, hown, hts⟩ (kX5_setWave l G (z + 112) μ (xs (i + (1 : Int)).toNat) ((xs (i + (1 : Int)).toNat).toInt) rfl (xs (i + (2 : Int)).toNat) ((xs (i + (2 : Int)).toNat).toInt) rfl (xs (i + (3 : Int)).toNat) ((xs (i + (3 : Int)).toNat).toInt) rfl (xs (i + (4 : Int)).toNat) ((xs (i + (4 : Int)).toNat).toInt) rfl σ (by first | assumption | omega) (by first | assumption | omega)) (cwV 4 hts gL_law_X5_setWave rfl rfl rfl hyX5_setWave ⟨Nat.le_of_ble_eq_true rfl, Nat.le_of_ble_eq_true rfl⟩) hK hM hM.1 rfl rfl hl.1 rfl (Nat.le_of_ble_eq_true rfl) dL_law_189 ⟨Nat.le_of_ble_eq_true rfl, Nat.le_of_ble_eq_true rfl⟩ hS (fun q h => by simp only [iv] at h; show s.heap.size ≤ q; omega) (fun z10 H locs e10 hB hsz hq hS => ?_)
  obtain ⟨m189, hM, hp189⟩ := hB
  have hM : MO G H (z + 112) m189 := hM
  have hp189 : Rel (s_setWave σ ((xs (i + (1 : Int)).toNat).toInt) ((xs (i + (2 : Int)).toNat).toInt) ((xs (i + (3 : Int)).toNat).toInt) ((xs (i + (4 : Int)).toNat).toInt) (xs (i + (2 : Int)).toNat) (xs (i + (3 : Int)).toNat) (xs (i + (4 : Int)).toNat)) m189 := hp189
  have hF := hF.kept (fun q h1 h2 => hq q (by have := hF.lt; omega) (by simp only [iv]; omega))
  have e10 : z10.toInt = a_setWave σ ((xs (i + (1 : Int)).toNat).toInt) ((xs (i + (2 : Int)).toNat).toInt) ((xs (i + (3 : Int)).toNat).toInt) ((xs (i + (4 : Int)).toNat).toInt) (xs (i + (2 : Int)).toNat) (xs (i + (3 : Int)).toNat) (xs (i + (4 : Int)).toNat) := e10
  refine z_icmp_eq (tgt := 920) hx hb e5 e10 dL_law_192 (by decide) (fun c_11 => ?_) (fun c_11 => ?_)
  · exact kk _ _ _ _ ⟨hF, hM, hp189, k_setWave hfd rfl rfl rfl, hS⟩
  · omega

set_option maxHeartbeats 2000000 in
set_option maxRecDepth 100000 in
theorem law_197 {p : Program} {l : Launch} {e : Env} {s : State} {m : MethodId} {below : List Frame} {meth : Method} {c : Code} {b L z : Nat} {xs : Nat → Int32} {G : xG} {H : Heap} {locs : List Loc} {Q : State → Prop} {ls : Array Slot} {σ : FD} {μ : MD} {x3 : Int32} {i : Int} (C : LC p s m c b L xs G z) (hx3 : x3.toInt = i) (hi : 0 ≤ i ∧ i + 5 ≤ (L : Int)) (I : LI G z s.heap H locs σ μ) (hl : lv_has ls 4 [(0, .ref b), (1, .ref z), (2, .ref (z + 112)), (3, .int x3)]) (kk : ∀ (σ' : FD) (μ' : MD) (H' : Heap) (locs' : List Loc), LI G z s.heap H' locs' σ' μ' → W p l e room_1 s m (#[Value.ref b] : Array Value) below meth c H' locs' 117 20218 Q (F0 m 920 ls [])) : W p l e room_1 s m (#[Value.ref b] : Array Value) below meth c H locs 117 20218 Q (F0 m 197 ls []) := by
  obtain ⟨hx, hb, hml, hown, hts, hK, hX, hbl, hL, hz⟩ := C
  obtain ⟨hF, hM, hRel, hfd, hS⟩ := I
  have hbA : ¬ (fun q : Nat => s.heap.size ≤ q) b := Nat.not_le.mpr hbl
  refine lv_aload_n hx hb dL_law_197 rfl (lv_at hl 1 rfl) ?_
  refine lv_aload_n hx hb dL_law_198 rfl (lv_at hl 0 rfl) ?_
  refine lv_iload_n hx hb dL_law_199 rfl (lv_at hl 3 rfl) ?_
  refine lv_iconst (v := (1 : Int32)) hx hb dL_law_200 (by decide) ?_
  refine z_iadd hx hb hx3 kI_1 dL_law_201 (by omega) (fun z1 e1 => ?_)
  refine z_sld hx hb hX hbl hbA hS e1 (by omega) dL_law_202 ?_
  refine lv_aload_n hx hb dL_law_203 rfl (lv_at hl 0 rfl) ?_
  refine lv_iload_n hx hb dL_law_204 rfl (lv_at hl 3 rfl) ?_
  refine lv_iconst (v := (2 : Int32)) hx hb dL_law_205 (by decide) ?_
  refine z_iadd hx hb hx3 kI_2 dL_law_206 (by omega) (fun z2 e2 => ?_)
  refine z_sld hx hb hX hbl hbA hS e2 (by omega) dL_law_207 ?_
  refine lv_aload_n hx hb dL_law_208 rfl (lv_at hl 0 rfl) ?_
  refine lv_iload_n hx hb dL_law_209 rfl (lv_at hl 3 rfl) ?_
  refine lv_iconst (v := (3 : Int32)) hx hb dL_law_210 (by decide) ?_
  refine z_iadd hx hb hx3 kI_3 dL_law_211 (by omega) (fun z3 e3 => ?_)
  refine z_sld hx hb hX hbl hbA hS e3 (by omega) dL_law_212 ?_
  refine lv_aload_n hx hb dL_law_213 rfl (lv_at hl 0 rfl) ?_
  refine lv_iload_n hx hb dL_law_214 rfl (lv_at hl 3 rfl) ?_
  refine lv_iconst (v := (4 : Int32)) hx hb dL_law_215 (by decide) ?_
  refine z_iadd hx hb hx3 kI_4 dL_law_216 (by omega) (fun z4 e4 => ?_)
  refine z_sld hx hb hX hbl hbA hS e4 (by omega) dL_law_217 ?_
  refine z_cVw (As := [.int (xs (i + (1 : Int)).toNat), .int (xs (i + (2 : Int)).toNat), .int (xs (i + (3 : Int)).toNat), .int (xs (i + (4 : Int)).toNat)]) (rest := []) ⟨hx, hb, hml, hown, hts⟩ (kX4_setStation l G z σ (xs (i + (1 : Int)).toNat) ((xs (i + (1 : Int)).toNat).toInt) rfl (xs (i + (2 : Int)).toNat) ((xs (i + (2 : Int)).toNat).toInt) rfl (xs (i + (3 : Int)).toNat) ((xs (i + (3 : Int)).toNat).toInt) rfl (xs (i + (4 : Int)).toNat) ((xs (i + (4 : Int)).toNat).toInt) rfl (by first | assumption | omega)) (cwV 4 hts gL_law_X4_setStation rfl rfl rfl hyX4_setStation ⟨Nat.le_of_ble_eq_true rfl, Nat.le_of_ble_eq_true rfl⟩) hK hF hF.1 rfl rfl hl.1 rfl (Nat.le_of_ble_eq_true rfl) dL_law_218 ⟨Nat.le_of_ble_eq_true rfl, Nat.le_of_ble_eq_true rfl⟩ hS (fun q h => by simp only [iv] at h; show s.heap.size ≤ q; omega) (fun z5 H locs e5 hB hsz hq hS => ?_)
  have hF := hB
  have hF : SFP G H z (s_setStation σ ((xs (i + (1 : Int)).toNat).toInt) ((xs (i + (2 : Int)).toNat).toInt) ((xs (i + (3 : Int)).toNat).toInt) ((xs (i + (4 : Int)).toNat).toInt) (xs (i + (2 : Int)).toNat) (xs (i + (3 : Int)).toNat) (xs (i + (4 : Int)).toNat)) := hF
  have hM := hM.kept (fun q h1 h2 => hq q (by have := hM.lt; omega) (by simp only [iv]; omega))
  have e5 : z5.toInt = a_setStation σ ((xs (i + (1 : Int)).toNat).toInt) ((xs (i + (2 : Int)).toNat).toInt) ((xs (i + (3 : Int)).toNat).toInt) ((xs (i + (4 : Int)).toNat).toInt) (xs (i + (2 : Int)).toNat) (xs (i + (3 : Int)).toNat) (xs (i + (4 : Int)).toNat) := e5
  refine lv_aload_n hx hb dL_law_221 rfl (lv_at hl 2 rfl) ?_
  refine lv_aload_n hx hb dL_law_222 rfl (lv_at hl 0 rfl) ?_
  refine lv_iload_n hx hb dL_law_223 rfl (lv_at hl 3 rfl) ?_
  refine lv_iconst (v := (1 : Int32)) hx hb dL_law_224 (by decide) ?_
  refine z_iadd hx hb hx3 kI_1 dL_law_225 (by omega) (fun z6 e6 => ?_)
  refine z_sld hx hb hX hbl hbA hS e6 (by omega) dL_law_226 ?_
  refine lv_aload_n hx hb dL_law_227 rfl (lv_at hl 0 rfl) ?_
  refine lv_iload_n hx hb dL_law_228 rfl (lv_at hl 3 rfl) ?_
  refine lv_iconst (v := (2 : Int32)) hx hb dL_law_229 (by decide) ?_
  refine z_iadd hx hb hx3 kI_2 dL_law_230 (by omega) (fun z7 e7 => ?_)
  refine z_sld hx hb hX hbl hbA hS e7 (by omega) dL_law_231 ?_
  refine lv_aload_n hx hb dL_law_232 rfl (lv_at hl 0 rfl) ?_
  refine lv_iload_n hx hb dL_law_233 rfl (lv_at hl 3 rfl) ?_
  refine lv_iconst (v := (3 : Int32)) hx hb dL_law_234 (by decide) ?_
  refine z_iadd hx hb hx3 kI_3 dL_law_235 (by omega) (fun z8 e8 => ?_)
  refine z_sld hx hb hX hbl hbA hS e8 (by omega) dL_law_236 ?_
  refine lv_aload_n hx hb dL_law_237 rfl (lv_at hl 0 rfl) ?_
  refine lv_iload_n hx hb dL_law_238 rfl (lv_at hl 3 rfl) ?_
  refine lv_iconst (v := (4 : Int32)) hx hb dL_law_239 (by decide) ?_
  refine z_iadd hx hb hx3 kI_4 dL_law_240 (by omega) (fun z9 e9 => ?_)
  refine z_sld hx hb hX hbl hbA hS e9 (by omega) dL_law_241 ?_
  refine z_cVw (As := [.int (xs (i + (1 : Int)).toNat), .int (xs (i + (2 : Int)).toNat), .int (xs (i + (3 : Int)).toNat), .int (xs (i + (4 : Int)).toNat)]) (rest := [.int z5]) ⟨hx, hb, hml, hown, hts⟩ (kX5_setStation l G (z + 112) μ (xs (i + (1 : Int)).toNat) ((xs (i + (1 : Int)).toNat).toInt) rfl (xs (i + (2 : Int)).toNat) ((xs (i + (2 : Int)).toNat).toInt) rfl (xs (i + (3 : Int)).toNat) ((xs (i + (3 : Int)).toNat).toInt) rfl (xs (i + (4 : Int)).toNat) ((xs (i + (4 : Int)).toNat).toInt) rfl σ (by first | assumption | omega) (by first | assumption | omega)) (cwV 4 hts gL_law_X5_setStation rfl rfl rfl hyX5_setStation ⟨Nat.le_of_ble_eq_true rfl, Nat.le_of_ble_eq_true rfl⟩) hK hM hM.1 rfl rfl hl.1 rfl (Nat.le_of_ble_eq_true rfl) dL_law_242 ⟨Nat.le_of_ble_eq_true rfl, Nat.le_of_ble_eq_true rfl⟩ hS (fun q h => by simp only [iv] at h; show s.heap.size ≤ q; omega) (fun z10 H locs e10 hB hsz hq hS => ?_)
  obtain ⟨m242, hM, hp242⟩ := hB
  have hM : MO G H (z + 112) m242 := hM
  have hp242 : Rel (s_setStation σ ((xs (i + (1 : Int)).toNat).toInt) ((xs (i + (2 : Int)).toNat).toInt) ((xs (i + (3 : Int)).toNat).toInt) ((xs (i + (4 : Int)).toNat).toInt) (xs (i + (2 : Int)).toNat) (xs (i + (3 : Int)).toNat) (xs (i + (4 : Int)).toNat)) m242 := hp242
  have hF := hF.kept (fun q h1 h2 => hq q (by have := hF.lt; omega) (by simp only [iv]; omega))
  have e10 : z10.toInt = a_setStation σ ((xs (i + (1 : Int)).toNat).toInt) ((xs (i + (2 : Int)).toNat).toInt) ((xs (i + (3 : Int)).toNat).toInt) ((xs (i + (4 : Int)).toNat).toInt) (xs (i + (2 : Int)).toNat) (xs (i + (3 : Int)).toNat) (xs (i + (4 : Int)).toNat) := e10
  refine z_icmp_eq (tgt := 920) hx hb e5 e10 dL_law_245 (by decide) (fun c_11 => ?_) (fun c_11 => ?_)
  · exact kk _ _ _ _ ⟨hF, hM, hp242, k_setStation hfd rfl rfl rfl, hS⟩
  · omega

set_option maxHeartbeats 2000000 in
set_option maxRecDepth 100000 in
theorem law_250 {p : Program} {l : Launch} {e : Env} {s : State} {m : MethodId} {below : List Frame} {meth : Method} {c : Code} {b L z : Nat} {xs : Nat → Int32} {G : xG} {H : Heap} {locs : List Loc} {Q : State → Prop} {ls : Array Slot} {σ : FD} {μ : MD} {x3 : Int32} {i : Int} (C : LC p s m c b L xs G z) (hx3 : x3.toInt = i) (hi : 0 ≤ i ∧ i + 5 ≤ (L : Int)) (I : LI G z s.heap H locs σ μ) (hl : lv_has ls 4 [(0, .ref b), (1, .ref z), (2, .ref (z + 112)), (3, .int x3)]) (kk : ∀ (σ' : FD) (μ' : MD) (H' : Heap) (locs' : List Loc), LI G z s.heap H' locs' σ' μ' → W p l e room_1 s m (#[Value.ref b] : Array Value) below meth c H' locs' 117 20218 Q (F0 m 920 ls [])) : W p l e room_1 s m (#[Value.ref b] : Array Value) below meth c H locs 117 20218 Q (F0 m 250 ls []) := by
  obtain ⟨hx, hb, hml, hown, hts, hK, hX, hbl, hL, hz⟩ := C
  obtain ⟨hF, hM, hRel, hfd, hS⟩ := I
  have hbA : ¬ (fun q : Nat => s.heap.size ≤ q) b := Nat.not_le.mpr hbl
  refine lv_aload_n hx hb dL_law_250 rfl (lv_at hl 1 rfl) ?_
  refine lv_aload_n hx hb dL_law_251 rfl (lv_at hl 0 rfl) ?_
  refine lv_iload_n hx hb dL_law_252 rfl (lv_at hl 3 rfl) ?_
  refine lv_iconst (v := (1 : Int32)) hx hb dL_law_253 (by decide) ?_
  refine z_iadd hx hb hx3 kI_1 dL_law_254 (by omega) (fun z1 e1 => ?_)
  refine z_sld hx hb hX hbl hbA hS e1 (by omega) dL_law_255 ?_
  refine lv_aload_n hx hb dL_law_256 rfl (lv_at hl 0 rfl) ?_
  refine lv_iload_n hx hb dL_law_257 rfl (lv_at hl 3 rfl) ?_
  refine lv_iconst (v := (2 : Int32)) hx hb dL_law_258 (by decide) ?_
  refine z_iadd hx hb hx3 kI_2 dL_law_259 (by omega) (fun z2 e2 => ?_)
  refine z_sld hx hb hX hbl hbA hS e2 (by omega) dL_law_260 ?_
  refine z_if_eq (tgt := 268) hx hb rfl dL_law_261 (by decide) (fun c_3 => ?_) (fun c_3 => ?_)
  · refine lv_iconst (v := (0 : Int32)) hx hb dL_law_268 (by decide) ?_
    refine lv_aload_n hx hb dL_law_269 rfl (lv_at hl 0 rfl) ?_
    refine lv_iload_n hx hb dL_law_270 rfl (lv_at hl 3 rfl) ?_
    refine lv_iconst (v := (3 : Int32)) hx hb dL_law_271 (by decide) ?_
    refine z_iadd hx hb hx3 kI_3 dL_law_272 (by omega) (fun z4 e4 => ?_)
    refine z_sld hx hb hX hbl hbA hS e4 (by omega) dL_law_273 ?_
    refine z_cVw (As := [.int (xs (i + (1 : Int)).toNat), .int (0 : Int32), .int (xs (i + (3 : Int)).toNat)]) (rest := []) ⟨hx, hb, hml, hown, hts⟩ (kX4_setRate l G z σ (xs (i + (1 : Int)).toNat) ((xs (i + (1 : Int)).toNat).toInt) rfl (0 : Int32) (0 : Int) kI_0 (xs (i + (3 : Int)).toNat) ((xs (i + (3 : Int)).toNat).toInt) rfl (by first | assumption | omega) (by first | assumption | omega)) (cwV 3 hts gL_law_X4_setRate rfl rfl rfl hyX4_setRate ⟨Nat.le_of_ble_eq_true rfl, Nat.le_of_ble_eq_true rfl⟩) hK hF hF.1 rfl rfl hl.1 rfl (Nat.le_of_ble_eq_true rfl) dL_law_274 ⟨Nat.le_of_ble_eq_true rfl, Nat.le_of_ble_eq_true rfl⟩ hS (fun q h => by simp only [iv] at h; show s.heap.size ≤ q; omega) (fun z5 H locs e5 hB hsz hq hS => ?_)
    have hF := hB
    have hF : SFP G H z (s_setRate σ ((xs (i + (1 : Int)).toNat).toInt) (0 : Int) ((xs (i + (3 : Int)).toNat).toInt) (xs (i + (3 : Int)).toNat)) := hF
    have hM := hM.kept (fun q h1 h2 => hq q (by have := hM.lt; omega) (by simp only [iv]; omega))
    have e5 : z5.toInt = a_setRate σ ((xs (i + (1 : Int)).toNat).toInt) (0 : Int) ((xs (i + (3 : Int)).toNat).toInt) := e5
    refine lv_aload_n hx hb dL_law_277 rfl (lv_at hl 2 rfl) ?_
    refine lv_aload_n hx hb dL_law_278 rfl (lv_at hl 0 rfl) ?_
    refine lv_iload_n hx hb dL_law_279 rfl (lv_at hl 3 rfl) ?_
    refine lv_iconst (v := (1 : Int32)) hx hb dL_law_280 (by decide) ?_
    refine z_iadd hx hb hx3 kI_1 dL_law_281 (by omega) (fun z6 e6 => ?_)
    refine z_sld hx hb hX hbl hbA hS e6 (by omega) dL_law_282 ?_
    refine lv_aload_n hx hb dL_law_283 rfl (lv_at hl 0 rfl) ?_
    refine lv_iload_n hx hb dL_law_284 rfl (lv_at hl 3 rfl) ?_
    refine lv_iconst (v := (2 : Int32)) hx hb dL_law_285 (by decide) ?_
    refine z_iadd hx hb hx3 kI_2 dL_law_286 (by omega) (fun z7 e7 => ?_)
    refine z_sld hx hb hX hbl hbA hS e7 (by omega) dL_law_287 ?_
    refine z_if_eq (tgt := 295) hx hb rfl dL_law_288 (by decide) (fun c_8 => ?_) (fun c_8 => ?_)
    · refine lv_iconst (v := (0 : Int32)) hx hb dL_law_295 (by decide) ?_
      refine lv_aload_n hx hb dL_law_296 rfl (lv_at hl 0 rfl) ?_
      refine lv_iload_n hx hb dL_law_297 rfl (lv_at hl 3 rfl) ?_
      refine lv_iconst (v := (3 : Int32)) hx hb dL_law_298 (by decide) ?_
      refine z_iadd hx hb hx3 kI_3 dL_law_299 (by omega) (fun z9 e9 => ?_)
      refine z_sld hx hb hX hbl hbA hS e9 (by omega) dL_law_300 ?_
      refine z_cVw (As := [.int (xs (i + (1 : Int)).toNat), .int (0 : Int32), .int (xs (i + (3 : Int)).toNat)]) (rest := [.int z5]) ⟨hx, hb, hml, hown, hts⟩ (kX5_setRate l G (z + 112) μ (xs (i + (1 : Int)).toNat) ((xs (i + (1 : Int)).toNat).toInt) rfl (0 : Int32) (0 : Int) kI_0 (xs (i + (3 : Int)).toNat) ((xs (i + (3 : Int)).toNat).toInt) rfl σ (by first | assumption | omega) (by first | assumption | omega) (by first | assumption | omega)) (cwV 3 hts gL_law_X5_setRate rfl rfl rfl hyX5_setRate ⟨Nat.le_of_ble_eq_true rfl, Nat.le_of_ble_eq_true rfl⟩) hK hM hM.1 rfl rfl hl.1 rfl (Nat.le_of_ble_eq_true rfl) dL_law_301 ⟨Nat.le_of_ble_eq_true rfl, Nat.le_of_ble_eq_true rfl⟩ hS (fun q h => by simp only [iv] at h; show s.heap.size ≤ q; omega) (fun z10 H locs e10 hB hsz hq hS => ?_)
      obtain ⟨m301, hM, hp301⟩ := hB
      have hM : MO G H (z + 112) m301 := hM
      have hp301 : Rel (s_setRate σ ((xs (i + (1 : Int)).toNat).toInt) (0 : Int) ((xs (i + (3 : Int)).toNat).toInt) (xs (i + (3 : Int)).toNat)) m301 := hp301
      have hF := hF.kept (fun q h1 h2 => hq q (by have := hF.lt; omega) (by simp only [iv]; omega))
      have e10 : z10.toInt = a_setRate σ ((xs (i + (1 : Int)).toNat).toInt) (0 : Int) ((xs (i + (3 : Int)).toNat).toInt) := e10
      refine z_icmp_eq (tgt := 920) hx hb e5 e10 dL_law_304 (by decide) (fun c_11 => ?_) (fun c_11 => ?_)
      · exact kk _ _ _ _ ⟨hF, hM, hp301, k_setRate hfd rfl, hS⟩
      · omega
    · omega
  · refine lv_iconst (v := (1 : Int32)) hx hb dL_law_264 (by decide) ?_
    refine lv_goto (tgt := 269) hx hb dL_law_265 (by decide) ?_
    refine lv_aload_n hx hb dL_law_269 rfl (lv_at hl 0 rfl) ?_
    refine lv_iload_n hx hb dL_law_270 rfl (lv_at hl 3 rfl) ?_
    refine lv_iconst (v := (3 : Int32)) hx hb dL_law_271 (by decide) ?_
    refine z_iadd hx hb hx3 kI_3 dL_law_272 (by omega) (fun z12 e12 => ?_)
    refine z_sld hx hb hX hbl hbA hS e12 (by omega) dL_law_273 ?_
    refine z_cVw (As := [.int (xs (i + (1 : Int)).toNat), .int (1 : Int32), .int (xs (i + (3 : Int)).toNat)]) (rest := []) ⟨hx, hb, hml, hown, hts⟩ (kX4_setRate l G z σ (xs (i + (1 : Int)).toNat) ((xs (i + (1 : Int)).toNat).toInt) rfl (1 : Int32) (1 : Int) kI_1 (xs (i + (3 : Int)).toNat) ((xs (i + (3 : Int)).toNat).toInt) rfl (by first | assumption | omega) (by first | assumption | omega)) (cwV 3 hts gL_law_X4_setRate rfl rfl rfl hyX4_setRate ⟨Nat.le_of_ble_eq_true rfl, Nat.le_of_ble_eq_true rfl⟩) hK hF hF.1 rfl rfl hl.1 rfl (Nat.le_of_ble_eq_true rfl) dL_law_274 ⟨Nat.le_of_ble_eq_true rfl, Nat.le_of_ble_eq_true rfl⟩ hS (fun q h => by simp only [iv] at h; show s.heap.size ≤ q; omega) (fun z13 H locs e13 hB hsz hq hS => ?_)
    have hF := hB
    have hF : SFP G H z (s_setRate σ ((xs (i + (1 : Int)).toNat).toInt) (1 : Int) ((xs (i + (3 : Int)).toNat).toInt) (xs (i + (3 : Int)).toNat)) := hF
    have hM := hM.kept (fun q h1 h2 => hq q (by have := hM.lt; omega) (by simp only [iv]; omega))
    have e13 : z13.toInt = a_setRate σ ((xs (i + (1 : Int)).toNat).toInt) (1 : Int) ((xs (i + (3 : Int)).toNat).toInt) := e13
    refine lv_aload_n hx hb dL_law_277 rfl (lv_at hl 2 rfl) ?_
    refine lv_aload_n hx hb dL_law_278 rfl (lv_at hl 0 rfl) ?_
    refine lv_iload_n hx hb dL_law_279 rfl (lv_at hl 3 rfl) ?_
    refine lv_iconst (v := (1 : Int32)) hx hb dL_law_280 (by decide) ?_
    refine z_iadd hx hb hx3 kI_1 dL_law_281 (by omega) (fun z14 e14 => ?_)
    refine z_sld hx hb hX hbl hbA hS e14 (by omega) dL_law_282 ?_
    refine lv_aload_n hx hb dL_law_283 rfl (lv_at hl 0 rfl) ?_
    refine lv_iload_n hx hb dL_law_284 rfl (lv_at hl 3 rfl) ?_
    refine lv_iconst (v := (2 : Int32)) hx hb dL_law_285 (by decide) ?_
    refine z_iadd hx hb hx3 kI_2 dL_law_286 (by omega) (fun z15 e15 => ?_)
    refine z_sld hx hb hX hbl hbA hS e15 (by omega) dL_law_287 ?_
    refine z_if_eq (tgt := 295) hx hb rfl dL_law_288 (by decide) (fun c_16 => ?_) (fun c_16 => ?_)
    · omega
    · refine lv_iconst (v := (1 : Int32)) hx hb dL_law_291 (by decide) ?_
      refine lv_goto (tgt := 296) hx hb dL_law_292 (by decide) ?_
      refine lv_aload_n hx hb dL_law_296 rfl (lv_at hl 0 rfl) ?_
      refine lv_iload_n hx hb dL_law_297 rfl (lv_at hl 3 rfl) ?_
      refine lv_iconst (v := (3 : Int32)) hx hb dL_law_298 (by decide) ?_
      refine z_iadd hx hb hx3 kI_3 dL_law_299 (by omega) (fun z17 e17 => ?_)
      refine z_sld hx hb hX hbl hbA hS e17 (by omega) dL_law_300 ?_
      refine z_cVw (As := [.int (xs (i + (1 : Int)).toNat), .int (1 : Int32), .int (xs (i + (3 : Int)).toNat)]) (rest := [.int z13]) ⟨hx, hb, hml, hown, hts⟩ (kX5_setRate l G (z + 112) μ (xs (i + (1 : Int)).toNat) ((xs (i + (1 : Int)).toNat).toInt) rfl (1 : Int32) (1 : Int) kI_1 (xs (i + (3 : Int)).toNat) ((xs (i + (3 : Int)).toNat).toInt) rfl σ (by first | assumption | omega) (by first | assumption | omega) (by first | assumption | omega)) (cwV 3 hts gL_law_X5_setRate rfl rfl rfl hyX5_setRate ⟨Nat.le_of_ble_eq_true rfl, Nat.le_of_ble_eq_true rfl⟩) hK hM hM.1 rfl rfl hl.1 rfl (Nat.le_of_ble_eq_true rfl) dL_law_301 ⟨Nat.le_of_ble_eq_true rfl, Nat.le_of_ble_eq_true rfl⟩ hS (fun q h => by simp only [iv] at h; show s.heap.size ≤ q; omega) (fun z18 H locs e18 hB hsz hq hS => ?_)
      obtain ⟨m301, hM, hp301⟩ := hB
      have hM : MO G H (z + 112) m301 := hM
      have hp301 : Rel (s_setRate σ ((xs (i + (1 : Int)).toNat).toInt) (1 : Int) ((xs (i + (3 : Int)).toNat).toInt) (xs (i + (3 : Int)).toNat)) m301 := hp301
      have hF := hF.kept (fun q h1 h2 => hq q (by have := hF.lt; omega) (by simp only [iv]; omega))
      have e18 : z18.toInt = a_setRate σ ((xs (i + (1 : Int)).toNat).toInt) (1 : Int) ((xs (i + (3 : Int)).toNat).toInt) := e18
      refine z_icmp_eq (tgt := 920) hx hb e13 e18 dL_law_304 (by decide) (fun c_19 => ?_) (fun c_19 => ?_)
      · exact kk _ _ _ _ ⟨hF, hM, hp301, k_setRate hfd rfl, hS⟩
      · omega

set_option maxHeartbeats 2000000 in
set_option maxRecDepth 100000 in
theorem law_309 {p : Program} {l : Launch} {e : Env} {s : State} {m : MethodId} {below : List Frame} {meth : Method} {c : Code} {b L z : Nat} {xs : Nat → Int32} {G : xG} {H : Heap} {locs : List Loc} {Q : State → Prop} {ls : Array Slot} {σ : FD} {μ : MD} {x3 : Int32} {i : Int} (C : LC p s m c b L xs G z) (hx3 : x3.toInt = i) (hi : 0 ≤ i ∧ i + 5 ≤ (L : Int)) (I : LI G z s.heap H locs σ μ) (hl : lv_has ls 4 [(0, .ref b), (1, .ref z), (2, .ref (z + 112)), (3, .int x3)]) (kk : ∀ (σ' : FD) (μ' : MD) (H' : Heap) (locs' : List Loc), LI G z s.heap H' locs' σ' μ' → W p l e room_1 s m (#[Value.ref b] : Array Value) below meth c H' locs' 117 20218 Q (F0 m 920 ls [])) : W p l e room_1 s m (#[Value.ref b] : Array Value) below meth c H locs 117 20218 Q (F0 m 309 ls []) := by
  obtain ⟨hx, hb, hml, hown, hts, hK, hX, hbl, hL, hz⟩ := C
  obtain ⟨hF, hM, hRel, hfd, hS⟩ := I
  have hbA : ¬ (fun q : Nat => s.heap.size ≤ q) b := Nat.not_le.mpr hbl
  refine lv_aload_n hx hb dL_law_309 rfl (lv_at hl 1 rfl) ?_
  refine lv_aload_n hx hb dL_law_310 rfl (lv_at hl 0 rfl) ?_
  refine lv_iload_n hx hb dL_law_311 rfl (lv_at hl 3 rfl) ?_
  refine lv_iconst (v := (1 : Int32)) hx hb dL_law_312 (by decide) ?_
  refine z_iadd hx hb hx3 kI_1 dL_law_313 (by omega) (fun z1 e1 => ?_)
  refine z_sld hx hb hX hbl hbA hS e1 (by omega) dL_law_314 ?_
  refine lv_aload_n hx hb dL_law_315 rfl (lv_at hl 0 rfl) ?_
  refine lv_iload_n hx hb dL_law_316 rfl (lv_at hl 3 rfl) ?_
  refine lv_iconst (v := (2 : Int32)) hx hb dL_law_317 (by decide) ?_
  refine z_iadd hx hb hx3 kI_2 dL_law_318 (by omega) (fun z2 e2 => ?_)
  refine z_sld hx hb hX hbl hbA hS e2 (by omega) dL_law_319 ?_
  refine z_if_eq (tgt := 327) hx hb rfl dL_law_320 (by decide) (fun c_3 => ?_) (fun c_3 => ?_)
  · refine lv_iconst (v := (0 : Int32)) hx hb dL_law_327 (by decide) ?_
    refine z_cVw (As := [.int (xs (i + (1 : Int)).toNat), .int (0 : Int32)]) (rest := []) ⟨hx, hb, hml, hown, hts⟩ (kX4_turn l G z σ (xs (i + (1 : Int)).toNat) ((xs (i + (1 : Int)).toNat).toInt) rfl (0 : Int32) (0 : Int) kI_0 (by first | assumption | omega) (by first | assumption | omega)) (cwV 2 hts gL_law_X4_turn rfl rfl rfl hyX4_turn ⟨Nat.le_of_ble_eq_true rfl, Nat.le_of_ble_eq_true rfl⟩) hK hF hF.1 rfl rfl hl.1 rfl (Nat.le_of_ble_eq_true rfl) dL_law_328 ⟨Nat.le_of_ble_eq_true rfl, Nat.le_of_ble_eq_true rfl⟩ hS (fun q h => by simp only [iv] at h; show s.heap.size ≤ q; omega) (fun z4 H locs e4 hB hsz hq hS => ?_)
    have hF := hB
    have hF : SFP G H z (s_turn σ ((xs (i + (1 : Int)).toNat).toInt) (0 : Int) (0 : Int32)) := hF
    have hM := hM.kept (fun q h1 h2 => hq q (by have := hM.lt; omega) (by simp only [iv]; omega))
    have e4 : z4.toInt = a_turn σ ((xs (i + (1 : Int)).toNat).toInt) (0 : Int) (0 : Int32) := e4
    refine lv_aload_n hx hb dL_law_331 rfl (lv_at hl 2 rfl) ?_
    refine lv_aload_n hx hb dL_law_332 rfl (lv_at hl 0 rfl) ?_
    refine lv_iload_n hx hb dL_law_333 rfl (lv_at hl 3 rfl) ?_
    refine lv_iconst (v := (1 : Int32)) hx hb dL_law_334 (by decide) ?_
    refine z_iadd hx hb hx3 kI_1 dL_law_335 (by omega) (fun z5 e5 => ?_)
    refine z_sld hx hb hX hbl hbA hS e5 (by omega) dL_law_336 ?_
    refine lv_aload_n hx hb dL_law_337 rfl (lv_at hl 0 rfl) ?_
    refine lv_iload_n hx hb dL_law_338 rfl (lv_at hl 3 rfl) ?_
    refine lv_iconst (v := (2 : Int32)) hx hb dL_law_339 (by decide) ?_
    refine z_iadd hx hb hx3 kI_2 dL_law_340 (by omega) (fun z6 e6 => ?_)
    refine z_sld hx hb hX hbl hbA hS e6 (by omega) dL_law_341 ?_
    refine z_if_eq (tgt := 349) hx hb rfl dL_law_342 (by decide) (fun c_7 => ?_) (fun c_7 => ?_)
    · refine lv_iconst (v := (0 : Int32)) hx hb dL_law_349 (by decide) ?_
      refine z_cVw (As := [.int (xs (i + (1 : Int)).toNat), .int (0 : Int32)]) (rest := [.int z4]) ⟨hx, hb, hml, hown, hts⟩ (kX5_turn l G (z + 112) μ (xs (i + (1 : Int)).toNat) ((xs (i + (1 : Int)).toNat).toInt) rfl (0 : Int32) (0 : Int) kI_0 σ (by first | assumption | omega) (by first | assumption | omega) (by first | assumption | omega)) (cwV 2 hts gL_law_X5_turn rfl rfl rfl hyX5_turn ⟨Nat.le_of_ble_eq_true rfl, Nat.le_of_ble_eq_true rfl⟩) hK hM hM.1 rfl rfl hl.1 rfl (Nat.le_of_ble_eq_true rfl) dL_law_350 ⟨Nat.le_of_ble_eq_true rfl, Nat.le_of_ble_eq_true rfl⟩ hS (fun q h => by simp only [iv] at h; show s.heap.size ≤ q; omega) (fun z8 H locs e8 hB hsz hq hS => ?_)
      obtain ⟨m350, hM, hp350⟩ := hB
      have hM : MO G H (z + 112) m350 := hM
      have hp350 : Rel (s_turn σ ((xs (i + (1 : Int)).toNat).toInt) (0 : Int) (0 : Int32)) m350 := hp350
      have hF := hF.kept (fun q h1 h2 => hq q (by have := hF.lt; omega) (by simp only [iv]; omega))
      have e8 : z8.toInt = a_turn σ ((xs (i + (1 : Int)).toNat).toInt) (0 : Int) (0 : Int32) := e8
      refine z_icmp_eq (tgt := 920) hx hb e4 e8 dL_law_353 (by decide) (fun c_9 => ?_) (fun c_9 => ?_)
      · exact kk _ _ _ _ ⟨hF, hM, hp350, k_turn hfd rfl (by omega), hS⟩
      · omega
    · omega
  · refine lv_iconst (v := (1 : Int32)) hx hb dL_law_323 (by decide) ?_
    refine lv_goto (tgt := 328) hx hb dL_law_324 (by decide) ?_
    refine z_cVw (As := [.int (xs (i + (1 : Int)).toNat), .int (1 : Int32)]) (rest := []) ⟨hx, hb, hml, hown, hts⟩ (kX4_turn l G z σ (xs (i + (1 : Int)).toNat) ((xs (i + (1 : Int)).toNat).toInt) rfl (1 : Int32) (1 : Int) kI_1 (by first | assumption | omega) (by first | assumption | omega)) (cwV 2 hts gL_law_X4_turn rfl rfl rfl hyX4_turn ⟨Nat.le_of_ble_eq_true rfl, Nat.le_of_ble_eq_true rfl⟩) hK hF hF.1 rfl rfl hl.1 rfl (Nat.le_of_ble_eq_true rfl) dL_law_328 ⟨Nat.le_of_ble_eq_true rfl, Nat.le_of_ble_eq_true rfl⟩ hS (fun q h => by simp only [iv] at h; show s.heap.size ≤ q; omega) (fun z10 H locs e10 hB hsz hq hS => ?_)
    have hF := hB
    have hF : SFP G H z (s_turn σ ((xs (i + (1 : Int)).toNat).toInt) (1 : Int) (1 : Int32)) := hF
    have hM := hM.kept (fun q h1 h2 => hq q (by have := hM.lt; omega) (by simp only [iv]; omega))
    have e10 : z10.toInt = a_turn σ ((xs (i + (1 : Int)).toNat).toInt) (1 : Int) (1 : Int32) := e10
    refine lv_aload_n hx hb dL_law_331 rfl (lv_at hl 2 rfl) ?_
    refine lv_aload_n hx hb dL_law_332 rfl (lv_at hl 0 rfl) ?_
    refine lv_iload_n hx hb dL_law_333 rfl (lv_at hl 3 rfl) ?_
    refine lv_iconst (v := (1 : Int32)) hx hb dL_law_334 (by decide) ?_
    refine z_iadd hx hb hx3 kI_1 dL_law_335 (by omega) (fun z11 e11 => ?_)
    refine z_sld hx hb hX hbl hbA hS e11 (by omega) dL_law_336 ?_
    refine lv_aload_n hx hb dL_law_337 rfl (lv_at hl 0 rfl) ?_
    refine lv_iload_n hx hb dL_law_338 rfl (lv_at hl 3 rfl) ?_
    refine lv_iconst (v := (2 : Int32)) hx hb dL_law_339 (by decide) ?_
    refine z_iadd hx hb hx3 kI_2 dL_law_340 (by omega) (fun z12 e12 => ?_)
    refine z_sld hx hb hX hbl hbA hS e12 (by omega) dL_law_341 ?_
    refine z_if_eq (tgt := 349) hx hb rfl dL_law_342 (by decide) (fun c_13 => ?_) (fun c_13 => ?_)
    · omega
    · refine lv_iconst (v := (1 : Int32)) hx hb dL_law_345 (by decide) ?_
      refine lv_goto (tgt := 350) hx hb dL_law_346 (by decide) ?_
      refine z_cVw (As := [.int (xs (i + (1 : Int)).toNat), .int (1 : Int32)]) (rest := [.int z10]) ⟨hx, hb, hml, hown, hts⟩ (kX5_turn l G (z + 112) μ (xs (i + (1 : Int)).toNat) ((xs (i + (1 : Int)).toNat).toInt) rfl (1 : Int32) (1 : Int) kI_1 σ (by first | assumption | omega) (by first | assumption | omega) (by first | assumption | omega)) (cwV 2 hts gL_law_X5_turn rfl rfl rfl hyX5_turn ⟨Nat.le_of_ble_eq_true rfl, Nat.le_of_ble_eq_true rfl⟩) hK hM hM.1 rfl rfl hl.1 rfl (Nat.le_of_ble_eq_true rfl) dL_law_350 ⟨Nat.le_of_ble_eq_true rfl, Nat.le_of_ble_eq_true rfl⟩ hS (fun q h => by simp only [iv] at h; show s.heap.size ≤ q; omega) (fun z14 H locs e14 hB hsz hq hS => ?_)
      obtain ⟨m350, hM, hp350⟩ := hB
      have hM : MO G H (z + 112) m350 := hM
      have hp350 : Rel (s_turn σ ((xs (i + (1 : Int)).toNat).toInt) (1 : Int) (1 : Int32)) m350 := hp350
      have hF := hF.kept (fun q h1 h2 => hq q (by have := hF.lt; omega) (by simp only [iv]; omega))
      have e14 : z14.toInt = a_turn σ ((xs (i + (1 : Int)).toNat).toInt) (1 : Int) (1 : Int32) := e14
      refine z_icmp_eq (tgt := 920) hx hb e10 e14 dL_law_353 (by decide) (fun c_15 => ?_) (fun c_15 => ?_)
      · exact kk _ _ _ _ ⟨hF, hM, hp350, k_turn hfd rfl (by omega), hS⟩
      · omega

set_option maxHeartbeats 2000000 in
set_option maxRecDepth 100000 in
theorem law_358 {p : Program} {l : Launch} {e : Env} {s : State} {m : MethodId} {below : List Frame} {meth : Method} {c : Code} {b L z : Nat} {xs : Nat → Int32} {G : xG} {H : Heap} {locs : List Loc} {Q : State → Prop} {ls : Array Slot} {σ : FD} {μ : MD} {x3 : Int32} {i : Int} (C : LC p s m c b L xs G z) (hx3 : x3.toInt = i) (hi : 0 ≤ i ∧ i + 5 ≤ (L : Int)) (I : LI G z s.heap H locs σ μ) (hl : lv_has ls 4 [(0, .ref b), (1, .ref z), (2, .ref (z + 112)), (3, .int x3)]) (kk : ∀ (σ' : FD) (μ' : MD) (H' : Heap) (locs' : List Loc), LI G z s.heap H' locs' σ' μ' → W p l e room_1 s m (#[Value.ref b] : Array Value) below meth c H' locs' 117 20218 Q (F0 m 920 ls [])) : W p l e room_1 s m (#[Value.ref b] : Array Value) below meth c H locs 117 20218 Q (F0 m 358 ls []) := by
  obtain ⟨hx, hb, hml, hown, hts, hK, hX, hbl, hL, hz⟩ := C
  obtain ⟨hF, hM, hRel, hfd, hS⟩ := I
  have hbA : ¬ (fun q : Nat => s.heap.size ≤ q) b := Nat.not_le.mpr hbl
  refine lv_aload_n hx hb dL_law_358 rfl (lv_at hl 1 rfl) ?_
  refine lv_aload_n hx hb dL_law_359 rfl (lv_at hl 0 rfl) ?_
  refine lv_iload_n hx hb dL_law_360 rfl (lv_at hl 3 rfl) ?_
  refine lv_iconst (v := (1 : Int32)) hx hb dL_law_361 (by decide) ?_
  refine z_iadd hx hb hx3 kI_1 dL_law_362 (by omega) (fun z1 e1 => ?_)
  refine z_sld hx hb hX hbl hbA hS e1 (by omega) dL_law_363 ?_
  refine z_cVw (As := [.int (xs (i + (1 : Int)).toNat)]) (rest := []) ⟨hx, hb, hml, hown, hts⟩ (kX4_clean l G z σ (xs (i + (1 : Int)).toNat) ((xs (i + (1 : Int)).toNat).toInt) rfl (by first | assumption | omega)) (cwV 1 hts gL_law_X4_clean rfl rfl rfl hyX4_clean ⟨Nat.le_of_ble_eq_true rfl, Nat.le_of_ble_eq_true rfl⟩) hK hF hF.1 rfl rfl hl.1 rfl (Nat.le_of_ble_eq_true rfl) dL_law_364 ⟨Nat.le_of_ble_eq_true rfl, Nat.le_of_ble_eq_true rfl⟩ hS (fun q h => by simp only [iv] at h; show s.heap.size ≤ q; omega) (fun z2 H locs e2 hB hsz hq hS => ?_)
  have hF := hB
  have hF : SFP G H z (s_clean σ ((xs (i + (1 : Int)).toNat).toInt)) := hF
  have hM := hM.kept (fun q h1 h2 => hq q (by have := hM.lt; omega) (by simp only [iv]; omega))
  have e2 : z2.toInt = a_clean σ ((xs (i + (1 : Int)).toNat).toInt) := e2
  refine lv_aload_n hx hb dL_law_367 rfl (lv_at hl 2 rfl) ?_
  refine lv_aload_n hx hb dL_law_368 rfl (lv_at hl 0 rfl) ?_
  refine lv_iload_n hx hb dL_law_369 rfl (lv_at hl 3 rfl) ?_
  refine lv_iconst (v := (1 : Int32)) hx hb dL_law_370 (by decide) ?_
  refine z_iadd hx hb hx3 kI_1 dL_law_371 (by omega) (fun z3 e3 => ?_)
  refine z_sld hx hb hX hbl hbA hS e3 (by omega) dL_law_372 ?_
  refine z_cVw (As := [.int (xs (i + (1 : Int)).toNat)]) (rest := [.int z2]) ⟨hx, hb, hml, hown, hts⟩ (kX5_clean l G (z + 112) μ (xs (i + (1 : Int)).toNat) ((xs (i + (1 : Int)).toNat).toInt) rfl σ (by first | assumption | omega) (by first | assumption | omega)) (cwV 1 hts gL_law_X5_clean rfl rfl rfl hyX5_clean ⟨Nat.le_of_ble_eq_true rfl, Nat.le_of_ble_eq_true rfl⟩) hK hM hM.1 rfl rfl hl.1 rfl (Nat.le_of_ble_eq_true rfl) dL_law_373 ⟨Nat.le_of_ble_eq_true rfl, Nat.le_of_ble_eq_true rfl⟩ hS (fun q h => by simp only [iv] at h; show s.heap.size ≤ q; omega) (fun z4 H locs e4 hB hsz hq hS => ?_)
  obtain ⟨m373, hM, hp373⟩ := hB
  have hM : MO G H (z + 112) m373 := hM
  have hp373 : Rel (s_clean σ ((xs (i + (1 : Int)).toNat).toInt)) m373 := hp373
  have hF := hF.kept (fun q h1 h2 => hq q (by have := hF.lt; omega) (by simp only [iv]; omega))
  have e4 : z4.toInt = a_clean σ ((xs (i + (1 : Int)).toNat).toInt) := e4
  refine z_icmp_eq (tgt := 920) hx hb e2 e4 dL_law_376 (by decide) (fun c_5 => ?_) (fun c_5 => ?_)
  · exact kk _ _ _ _ ⟨hF, hM, hp373, k_clean hfd, hS⟩
  · omega

set_option maxHeartbeats 2000000 in
set_option maxRecDepth 100000 in
theorem law_381 {p : Program} {l : Launch} {e : Env} {s : State} {m : MethodId} {below : List Frame} {meth : Method} {c : Code} {b L z : Nat} {xs : Nat → Int32} {G : xG} {H : Heap} {locs : List Loc} {Q : State → Prop} {ls : Array Slot} {σ : FD} {μ : MD} {x3 : Int32} {i : Int} (C : LC p s m c b L xs G z) (hx3 : x3.toInt = i) (hi : 0 ≤ i ∧ i + 5 ≤ (L : Int)) (I : LI G z s.heap H locs σ μ) (hl : lv_has ls 4 [(0, .ref b), (1, .ref z), (2, .ref (z + 112)), (3, .int x3)]) (kk : ∀ (σ' : FD) (μ' : MD) (H' : Heap) (locs' : List Loc), LI G z s.heap H' locs' σ' μ' → W p l e room_1 s m (#[Value.ref b] : Array Value) below meth c H' locs' 117 20218 Q (F0 m 920 ls [])) : W p l e room_1 s m (#[Value.ref b] : Array Value) below meth c H locs 117 20218 Q (F0 m 381 ls []) := by
  obtain ⟨hx, hb, hml, hown, hts, hK, hX, hbl, hL, hz⟩ := C
  obtain ⟨hF, hM, hRel, hfd, hS⟩ := I
  have hbA : ¬ (fun q : Nat => s.heap.size ≤ q) b := Nat.not_le.mpr hbl
  refine lv_aload_n hx hb dL_law_381 rfl (lv_at hl 1 rfl) ?_
  refine lv_aload_n hx hb dL_law_382 rfl (lv_at hl 0 rfl) ?_
  refine lv_iload_n hx hb dL_law_383 rfl (lv_at hl 3 rfl) ?_
  refine lv_iconst (v := (1 : Int32)) hx hb dL_law_384 (by decide) ?_
  refine z_iadd hx hb hx3 kI_1 dL_law_385 (by omega) (fun z1 e1 => ?_)
  refine z_sld hx hb hX hbl hbA hS e1 (by omega) dL_law_386 ?_
  refine z_cVw (As := [.int (xs (i + (1 : Int)).toNat)]) (rest := []) ⟨hx, hb, hml, hown, hts⟩ (kX4_level l G z σ (xs (i + (1 : Int)).toNat) ((xs (i + (1 : Int)).toNat).toInt) rfl (by first | assumption | omega)) (cwV 1 hts gL_law_X4_level rfl rfl rfl hyX4_level ⟨Nat.le_of_ble_eq_true rfl, Nat.le_of_ble_eq_true rfl⟩) hK hF hF.1 rfl rfl hl.1 rfl (Nat.le_of_ble_eq_true rfl) dL_law_387 ⟨Nat.le_of_ble_eq_true rfl, Nat.le_of_ble_eq_true rfl⟩ hS (fun q h => by simp only [iv] at h; show s.heap.size ≤ q; omega) (fun z2 H locs e2 hB hsz hq hS => ?_)
  have hF := hB
  have hF : SFP G H z (s_level σ ((xs (i + (1 : Int)).toNat).toInt)) := hF
  have hM := hM.kept (fun q h1 h2 => hq q (by have := hM.lt; omega) (by simp only [iv]; omega))
  have e2 : z2.toInt = a_level σ ((xs (i + (1 : Int)).toNat).toInt) := e2
  refine lv_aload_n hx hb dL_law_390 rfl (lv_at hl 2 rfl) ?_
  refine lv_aload_n hx hb dL_law_391 rfl (lv_at hl 0 rfl) ?_
  refine lv_iload_n hx hb dL_law_392 rfl (lv_at hl 3 rfl) ?_
  refine lv_iconst (v := (1 : Int32)) hx hb dL_law_393 (by decide) ?_
  refine z_iadd hx hb hx3 kI_1 dL_law_394 (by omega) (fun z3 e3 => ?_)
  refine z_sld hx hb hX hbl hbA hS e3 (by omega) dL_law_395 ?_
  refine z_cVw (As := [.int (xs (i + (1 : Int)).toNat)]) (rest := [.int z2]) ⟨hx, hb, hml, hown, hts⟩ (kX5_level l G (z + 112) μ (xs (i + (1 : Int)).toNat) ((xs (i + (1 : Int)).toNat).toInt) rfl σ (by first | assumption | omega) (by first | assumption | omega)) (cwV 1 hts gL_law_X5_level rfl rfl rfl hyX5_level ⟨Nat.le_of_ble_eq_true rfl, Nat.le_of_ble_eq_true rfl⟩) hK hM hM.1 rfl rfl hl.1 rfl (Nat.le_of_ble_eq_true rfl) dL_law_396 ⟨Nat.le_of_ble_eq_true rfl, Nat.le_of_ble_eq_true rfl⟩ hS (fun q h => by simp only [iv] at h; show s.heap.size ≤ q; omega) (fun z4 H locs e4 hB hsz hq hS => ?_)
  obtain ⟨m396, hM, hp396⟩ := hB
  have hM : MO G H (z + 112) m396 := hM
  have hp396 : Rel (s_level σ ((xs (i + (1 : Int)).toNat).toInt)) m396 := hp396
  have hF := hF.kept (fun q h1 h2 => hq q (by have := hF.lt; omega) (by simp only [iv]; omega))
  have e4 : z4.toInt = a_level σ ((xs (i + (1 : Int)).toNat).toInt) := e4
  refine z_icmp_eq (tgt := 920) hx hb e2 e4 dL_law_399 (by decide) (fun c_5 => ?_) (fun c_5 => ?_)
  · exact kk _ _ _ _ ⟨hF, hM, hp396, k_level hfd, hS⟩
  · omega

set_option maxHeartbeats 2000000 in
set_option maxRecDepth 100000 in
theorem law_404 {p : Program} {l : Launch} {e : Env} {s : State} {m : MethodId} {below : List Frame} {meth : Method} {c : Code} {b L z : Nat} {xs : Nat → Int32} {G : xG} {H : Heap} {locs : List Loc} {Q : State → Prop} {ls : Array Slot} {σ : FD} {μ : MD} {x3 : Int32} {i : Int} (C : LC p s m c b L xs G z) (hx3 : x3.toInt = i) (hi : 0 ≤ i ∧ i + 5 ≤ (L : Int)) (I : LI G z s.heap H locs σ μ) (hl : lv_has ls 4 [(0, .ref b), (1, .ref z), (2, .ref (z + 112)), (3, .int x3)]) (kk : ∀ (σ' : FD) (μ' : MD) (H' : Heap) (locs' : List Loc), LI G z s.heap H' locs' σ' μ' → W p l e room_1 s m (#[Value.ref b] : Array Value) below meth c H' locs' 117 20218 Q (F0 m 920 ls [])) : W p l e room_1 s m (#[Value.ref b] : Array Value) below meth c H locs 117 20218 Q (F0 m 404 ls []) := by
  obtain ⟨hx, hb, hml, hown, hts, hK, hX, hbl, hL, hz⟩ := C
  obtain ⟨hF, hM, hRel, hfd, hS⟩ := I
  have hbA : ¬ (fun q : Nat => s.heap.size ≤ q) b := Nat.not_le.mpr hbl
  refine lv_aload_n hx hb dL_law_404 rfl (lv_at hl 1 rfl) ?_
  refine lv_aload_n hx hb dL_law_405 rfl (lv_at hl 0 rfl) ?_
  refine lv_iload_n hx hb dL_law_406 rfl (lv_at hl 3 rfl) ?_
  refine lv_iconst (v := (1 : Int32)) hx hb dL_law_407 (by decide) ?_
  refine z_iadd hx hb hx3 kI_1 dL_law_408 (by omega) (fun z1 e1 => ?_)
  refine z_sld hx hb hX hbl hbA hS e1 (by omega) dL_law_409 ?_
  refine z_cVw (As := [.int (xs (i + (1 : Int)).toNat)]) (rest := []) ⟨hx, hb, hml, hown, hts⟩ (kX4_pass l G z σ (xs (i + (1 : Int)).toNat) ((xs (i + (1 : Int)).toNat).toInt) rfl (by first | assumption | omega)) (cwV 1 hts gL_law_X4_pass rfl rfl rfl hyX4_pass ⟨Nat.le_of_ble_eq_true rfl, Nat.le_of_ble_eq_true rfl⟩) hK hF hF.1 rfl rfl hl.1 rfl (Nat.le_of_ble_eq_true rfl) dL_law_410 ⟨Nat.le_of_ble_eq_true rfl, Nat.le_of_ble_eq_true rfl⟩ hS (fun q h => by simp only [iv] at h; show s.heap.size ≤ q; omega) (fun z2 H locs e2 hB hsz hq hS => ?_)
  have hF := hB
  have hF : SFP G H z (s_pass σ ((xs (i + (1 : Int)).toNat).toInt)) := hF
  have hM := hM.kept (fun q h1 h2 => hq q (by have := hM.lt; omega) (by simp only [iv]; omega))
  have e2 : z2.toInt = a_pass σ ((xs (i + (1 : Int)).toNat).toInt) := e2
  refine lv_aload_n hx hb dL_law_413 rfl (lv_at hl 2 rfl) ?_
  refine lv_aload_n hx hb dL_law_414 rfl (lv_at hl 0 rfl) ?_
  refine lv_iload_n hx hb dL_law_415 rfl (lv_at hl 3 rfl) ?_
  refine lv_iconst (v := (1 : Int32)) hx hb dL_law_416 (by decide) ?_
  refine z_iadd hx hb hx3 kI_1 dL_law_417 (by omega) (fun z3 e3 => ?_)
  refine z_sld hx hb hX hbl hbA hS e3 (by omega) dL_law_418 ?_
  refine z_cVw (As := [.int (xs (i + (1 : Int)).toNat)]) (rest := [.int z2]) ⟨hx, hb, hml, hown, hts⟩ (kX5_pass l G (z + 112) μ (xs (i + (1 : Int)).toNat) ((xs (i + (1 : Int)).toNat).toInt) rfl σ (by first | assumption | omega) (by first | assumption | omega)) (cwV 1 hts gL_law_X5_pass rfl rfl rfl hyX5_pass ⟨Nat.le_of_ble_eq_true rfl, Nat.le_of_ble_eq_true rfl⟩) hK hM hM.1 rfl rfl hl.1 rfl (Nat.le_of_ble_eq_true rfl) dL_law_419 ⟨Nat.le_of_ble_eq_true rfl, Nat.le_of_ble_eq_true rfl⟩ hS (fun q h => by simp only [iv] at h; show s.heap.size ≤ q; omega) (fun z4 H locs e4 hB hsz hq hS => ?_)
  obtain ⟨m419, hM, hp419⟩ := hB
  have hM : MO G H (z + 112) m419 := hM
  have hp419 : Rel (s_pass σ ((xs (i + (1 : Int)).toNat).toInt)) m419 := hp419
  have hF := hF.kept (fun q h1 h2 => hq q (by have := hF.lt; omega) (by simp only [iv]; omega))
  have e4 : z4.toInt = a_pass σ ((xs (i + (1 : Int)).toNat).toInt) := e4
  refine z_icmp_eq (tgt := 920) hx hb e2 e4 dL_law_422 (by decide) (fun c_5 => ?_) (fun c_5 => ?_)
  · exact kk _ _ _ _ ⟨hF, hM, hp419, k_pass hfd, hS⟩
  · omega

set_option maxHeartbeats 2000000 in
set_option maxRecDepth 100000 in
theorem law_427 {p : Program} {l : Launch} {e : Env} {s : State} {m : MethodId} {below : List Frame} {meth : Method} {c : Code} {b L z : Nat} {xs : Nat → Int32} {G : xG} {H : Heap} {locs : List Loc} {Q : State → Prop} {ls : Array Slot} {σ : FD} {μ : MD} {x3 : Int32} {i : Int} (C : LC p s m c b L xs G z) (hx3 : x3.toInt = i) (hi : 0 ≤ i ∧ i + 5 ≤ (L : Int)) (I : LI G z s.heap H locs σ μ) (hl : lv_has ls 4 [(0, .ref b), (1, .ref z), (2, .ref (z + 112)), (3, .int x3)]) (kk : ∀ (σ' : FD) (μ' : MD) (H' : Heap) (locs' : List Loc), LI G z s.heap H' locs' σ' μ' → W p l e room_1 s m (#[Value.ref b] : Array Value) below meth c H' locs' 117 20218 Q (F0 m 920 ls [])) : W p l e room_1 s m (#[Value.ref b] : Array Value) below meth c H locs 117 20218 Q (F0 m 427 ls []) := by
  obtain ⟨hx, hb, hml, hown, hts, hK, hX, hbl, hL, hz⟩ := C
  obtain ⟨hF, hM, hRel, hfd, hS⟩ := I
  have hbA : ¬ (fun q : Nat => s.heap.size ≤ q) b := Nat.not_le.mpr hbl
  refine lv_aload_n hx hb dL_law_427 rfl (lv_at hl 1 rfl) ?_
  refine z_cVw (As := []) (rest := []) ⟨hx, hb, hml, hown, hts⟩ (kX4_follow l G z σ (by first | assumption | omega)) (cwV 0 hts gL_law_X4_follow rfl rfl rfl hyX4_follow ⟨Nat.le_of_ble_eq_true rfl, Nat.le_of_ble_eq_true rfl⟩) hK hF hF.1 rfl rfl hl.1 rfl (Nat.le_of_ble_eq_true rfl) dL_law_428 ⟨Nat.le_of_ble_eq_true rfl, Nat.le_of_ble_eq_true rfl⟩ hS (fun q h => by simp only [iv] at h; show s.heap.size ≤ q; omega) (fun z1 H locs e1 hB hsz hq hS => ?_)
  have hF := hB
  have hF : SFP G H z (s_follow σ) := hF
  have hM := hM.kept (fun q h1 h2 => hq q (by have := hM.lt; omega) (by simp only [iv]; omega))
  have e1 : z1.toInt = a_follow σ := e1
  refine lv_aload_n hx hb dL_law_431 rfl (lv_at hl 2 rfl) ?_
  refine z_cVw (As := []) (rest := [.int z1]) ⟨hx, hb, hml, hown, hts⟩ (kX5_follow l G (z + 112) μ σ (by first | assumption | omega) (by first | assumption | omega)) (cwV 0 hts gL_law_X5_follow rfl rfl rfl hyX5_follow ⟨Nat.le_of_ble_eq_true rfl, Nat.le_of_ble_eq_true rfl⟩) hK hM hM.1 rfl rfl hl.1 rfl (Nat.le_of_ble_eq_true rfl) dL_law_432 ⟨Nat.le_of_ble_eq_true rfl, Nat.le_of_ble_eq_true rfl⟩ hS (fun q h => by simp only [iv] at h; show s.heap.size ≤ q; omega) (fun z2 H locs e2 hB hsz hq hS => ?_)
  obtain ⟨m432, hM, hp432⟩ := hB
  have hM : MO G H (z + 112) m432 := hM
  have hp432 : Rel (s_follow σ) m432 := hp432
  have hF := hF.kept (fun q h1 h2 => hq q (by have := hF.lt; omega) (by simp only [iv]; omega))
  have e2 : z2.toInt = a_follow σ := e2
  refine z_icmp_eq (tgt := 920) hx hb e1 e2 dL_law_435 (by decide) (fun c_3 => ?_) (fun c_3 => ?_)
  · exact kk _ _ _ _ ⟨hF, hM, hp432, k_follow hfd, hS⟩
  · omega

set_option maxHeartbeats 2000000 in
set_option maxRecDepth 100000 in
theorem law_440 {p : Program} {l : Launch} {e : Env} {s : State} {m : MethodId} {below : List Frame} {meth : Method} {c : Code} {b L z : Nat} {xs : Nat → Int32} {G : xG} {H : Heap} {locs : List Loc} {Q : State → Prop} {ls : Array Slot} {σ : FD} {μ : MD} {x3 : Int32} {i : Int} (C : LC p s m c b L xs G z) (hx3 : x3.toInt = i) (hi : 0 ≤ i ∧ i + 5 ≤ (L : Int)) (I : LI G z s.heap H locs σ μ) (hl : lv_has ls 4 [(0, .ref b), (1, .ref z), (2, .ref (z + 112)), (3, .int x3)]) (kk : ∀ (σ' : FD) (μ' : MD) (H' : Heap) (locs' : List Loc), LI G z s.heap H' locs' σ' μ' → W p l e room_1 s m (#[Value.ref b] : Array Value) below meth c H' locs' 117 20218 Q (F0 m 920 ls [])) : W p l e room_1 s m (#[Value.ref b] : Array Value) below meth c H locs 117 20218 Q (F0 m 440 ls []) := by
  obtain ⟨hx, hb, hml, hown, hts, hK, hX, hbl, hL, hz⟩ := C
  obtain ⟨hF, hM, hRel, hfd, hS⟩ := I
  have hbA : ¬ (fun q : Nat => s.heap.size ≤ q) b := Nat.not_le.mpr hbl
  refine lv_aload_n hx hb dL_law_440 rfl (lv_at hl 1 rfl) ?_
  refine lv_aload_n hx hb dL_law_441 rfl (lv_at hl 0 rfl) ?_
  refine lv_iload_n hx hb dL_law_442 rfl (lv_at hl 3 rfl) ?_
  refine lv_iconst (v := (1 : Int32)) hx hb dL_law_443 (by decide) ?_
  refine z_iadd hx hb hx3 kI_1 dL_law_444 (by omega) (fun z1 e1 => ?_)
  refine z_sld hx hb hX hbl hbA hS e1 (by omega) dL_law_445 ?_
  refine lv_aload_n hx hb dL_law_446 rfl (lv_at hl 0 rfl) ?_
  refine lv_iload_n hx hb dL_law_447 rfl (lv_at hl 3 rfl) ?_
  refine lv_iconst (v := (2 : Int32)) hx hb dL_law_448 (by decide) ?_
  refine z_iadd hx hb hx3 kI_2 dL_law_449 (by omega) (fun z2 e2 => ?_)
  refine z_sld hx hb hX hbl hbA hS e2 (by omega) dL_law_450 ?_
  refine lv_aload_n hx hb dL_law_451 rfl (lv_at hl 0 rfl) ?_
  refine lv_iload_n hx hb dL_law_452 rfl (lv_at hl 3 rfl) ?_
  refine lv_iconst (v := (3 : Int32)) hx hb dL_law_453 (by decide) ?_
  refine z_iadd hx hb hx3 kI_3 dL_law_454 (by omega) (fun z3 e3 => ?_)
  refine z_sld hx hb hX hbl hbA hS e3 (by omega) dL_law_455 ?_
  refine lv_aload_n hx hb dL_law_456 rfl (lv_at hl 0 rfl) ?_
  refine lv_iload_n hx hb dL_law_457 rfl (lv_at hl 3 rfl) ?_
  refine lv_iconst (v := (4 : Int32)) hx hb dL_law_458 (by decide) ?_
  refine z_iadd hx hb hx3 kI_4 dL_law_459 (by omega) (fun z4 e4 => ?_)
  refine z_sld hx hb hX hbl hbA hS e4 (by omega) dL_law_460 ?_
  refine z_cVw (As := [.int (xs (i + (1 : Int)).toNat), .int (xs (i + (2 : Int)).toNat), .int (xs (i + (3 : Int)).toNat), .int (xs (i + (4 : Int)).toNat)]) (rest := []) ⟨hx, hb, hml, hown, hts⟩ (kX4_mend l G z σ (xs (i + (1 : Int)).toNat) ((xs (i + (1 : Int)).toNat).toInt) rfl (xs (i + (2 : Int)).toNat) ((xs (i + (2 : Int)).toNat).toInt) rfl (xs (i + (3 : Int)).toNat) ((xs (i + (3 : Int)).toNat).toInt) rfl (xs (i + (4 : Int)).toNat) ((xs (i + (4 : Int)).toNat).toInt) rfl (by first | assumption | omega)) (cwV 4 hts gL_law_X4_mend rfl rfl rfl hyX4_mend ⟨Nat.le_of_ble_eq_true rfl, Nat.le_of_ble_eq_true rfl⟩) hK hF hF.1 rfl rfl hl.1 rfl (Nat.le_of_ble_eq_true rfl) dL_law_461 ⟨Nat.le_of_ble_eq_true rfl, Nat.le_of_ble_eq_true rfl⟩ hS (fun q h => by simp only [iv] at h; show s.heap.size ≤ q; omega) (fun z5 H locs e5 hB hsz hq hS => ?_)
  have hF := hB
  have hF : SFP G H z (s_mend σ ((xs (i + (1 : Int)).toNat).toInt) ((xs (i + (2 : Int)).toNat).toInt) ((xs (i + (3 : Int)).toNat).toInt) ((xs (i + (4 : Int)).toNat).toInt)) := hF
  have hM := hM.kept (fun q h1 h2 => hq q (by have := hM.lt; omega) (by simp only [iv]; omega))
  have e5 : z5.toInt = a_mend σ ((xs (i + (1 : Int)).toNat).toInt) ((xs (i + (2 : Int)).toNat).toInt) ((xs (i + (3 : Int)).toNat).toInt) ((xs (i + (4 : Int)).toNat).toInt) := e5
  refine lv_aload_n hx hb dL_law_464 rfl (lv_at hl 2 rfl) ?_
  refine lv_aload_n hx hb dL_law_465 rfl (lv_at hl 0 rfl) ?_
  refine lv_iload_n hx hb dL_law_466 rfl (lv_at hl 3 rfl) ?_
  refine lv_iconst (v := (1 : Int32)) hx hb dL_law_467 (by decide) ?_
  refine z_iadd hx hb hx3 kI_1 dL_law_468 (by omega) (fun z6 e6 => ?_)
  refine z_sld hx hb hX hbl hbA hS e6 (by omega) dL_law_469 ?_
  refine lv_aload_n hx hb dL_law_470 rfl (lv_at hl 0 rfl) ?_
  refine lv_iload_n hx hb dL_law_471 rfl (lv_at hl 3 rfl) ?_
  refine lv_iconst (v := (2 : Int32)) hx hb dL_law_472 (by decide) ?_
  refine z_iadd hx hb hx3 kI_2 dL_law_473 (by omega) (fun z7 e7 => ?_)
  refine z_sld hx hb hX hbl hbA hS e7 (by omega) dL_law_474 ?_
  refine lv_aload_n hx hb dL_law_475 rfl (lv_at hl 0 rfl) ?_
  refine lv_iload_n hx hb dL_law_476 rfl (lv_at hl 3 rfl) ?_
  refine lv_iconst (v := (3 : Int32)) hx hb dL_law_477 (by decide) ?_
  refine z_iadd hx hb hx3 kI_3 dL_law_478 (by omega) (fun z8 e8 => ?_)
  refine z_sld hx hb hX hbl hbA hS e8 (by omega) dL_law_479 ?_
  refine lv_aload_n hx hb dL_law_480 rfl (lv_at hl 0 rfl) ?_
  refine lv_iload_n hx hb dL_law_481 rfl (lv_at hl 3 rfl) ?_
  refine lv_iconst (v := (4 : Int32)) hx hb dL_law_482 (by decide) ?_
  refine z_iadd hx hb hx3 kI_4 dL_law_483 (by omega) (fun z9 e9 => ?_)
  refine z_sld hx hb hX hbl hbA hS e9 (by omega) dL_law_484 ?_
  refine z_cVw (As := [.int (xs (i + (1 : Int)).toNat), .int (xs (i + (2 : Int)).toNat), .int (xs (i + (3 : Int)).toNat), .int (xs (i + (4 : Int)).toNat)]) (rest := [.int z5]) ⟨hx, hb, hml, hown, hts⟩ (kX5_mend l G (z + 112) μ (xs (i + (1 : Int)).toNat) ((xs (i + (1 : Int)).toNat).toInt) rfl (xs (i + (2 : Int)).toNat) ((xs (i + (2 : Int)).toNat).toInt) rfl (xs (i + (3 : Int)).toNat) ((xs (i + (3 : Int)).toNat).toInt) rfl (xs (i + (4 : Int)).toNat) ((xs (i + (4 : Int)).toNat).toInt) rfl σ (by first | assumption | omega) (by first | assumption | omega)) (cwV 4 hts gL_law_X5_mend rfl rfl rfl hyX5_mend ⟨Nat.le_of_ble_eq_true rfl, Nat.le_of_ble_eq_true rfl⟩) hK hM hM.1 rfl rfl hl.1 rfl (Nat.le_of_ble_eq_true rfl) dL_law_485 ⟨Nat.le_of_ble_eq_true rfl, Nat.le_of_ble_eq_true rfl⟩ hS (fun q h => by simp only [iv] at h; show s.heap.size ≤ q; omega) (fun z10 H locs e10 hB hsz hq hS => ?_)
  obtain ⟨m485, hM, hp485⟩ := hB
  have hM : MO G H (z + 112) m485 := hM
  have hp485 : Rel (s_mend σ ((xs (i + (1 : Int)).toNat).toInt) ((xs (i + (2 : Int)).toNat).toInt) ((xs (i + (3 : Int)).toNat).toInt) ((xs (i + (4 : Int)).toNat).toInt)) m485 := hp485
  have hF := hF.kept (fun q h1 h2 => hq q (by have := hF.lt; omega) (by simp only [iv]; omega))
  have e10 : z10.toInt = a_mend σ ((xs (i + (1 : Int)).toNat).toInt) ((xs (i + (2 : Int)).toNat).toInt) ((xs (i + (3 : Int)).toNat).toInt) ((xs (i + (4 : Int)).toNat).toInt) := e10
  refine z_icmp_eq (tgt := 920) hx hb e5 e10 dL_law_488 (by decide) (fun c_11 => ?_) (fun c_11 => ?_)
  · exact kk _ _ _ _ ⟨hF, hM, hp485, k_mend hfd, hS⟩
  · omega

set_option maxHeartbeats 2000000 in
set_option maxRecDepth 100000 in
theorem law_493 {p : Program} {l : Launch} {e : Env} {s : State} {m : MethodId} {below : List Frame} {meth : Method} {c : Code} {b L z : Nat} {xs : Nat → Int32} {G : xG} {H : Heap} {locs : List Loc} {Q : State → Prop} {ls : Array Slot} {σ : FD} {μ : MD} {x3 : Int32} {i : Int} (C : LC p s m c b L xs G z) (hx3 : x3.toInt = i) (hi : 0 ≤ i ∧ i + 5 ≤ (L : Int)) (I : LI G z s.heap H locs σ μ) (hl : lv_has ls 4 [(0, .ref b), (1, .ref z), (2, .ref (z + 112)), (3, .int x3)]) (kk : ∀ (σ' : FD) (μ' : MD) (H' : Heap) (locs' : List Loc), LI G z s.heap H' locs' σ' μ' → W p l e room_1 s m (#[Value.ref b] : Array Value) below meth c H' locs' 117 20218 Q (F0 m 920 ls [])) : W p l e room_1 s m (#[Value.ref b] : Array Value) below meth c H locs 117 20218 Q (F0 m 493 ls []) := by
  obtain ⟨hx, hb, hml, hown, hts, hK, hX, hbl, hL, hz⟩ := C
  obtain ⟨hF, hM, hRel, hfd, hS⟩ := I
  have hbA : ¬ (fun q : Nat => s.heap.size ≤ q) b := Nat.not_le.mpr hbl
  refine lv_aload_n hx hb dL_law_493 rfl (lv_at hl 1 rfl) ?_
  refine lv_aload_n hx hb dL_law_494 rfl (lv_at hl 0 rfl) ?_
  refine lv_iload_n hx hb dL_law_495 rfl (lv_at hl 3 rfl) ?_
  refine lv_iconst (v := (1 : Int32)) hx hb dL_law_496 (by decide) ?_
  refine z_iadd hx hb hx3 kI_1 dL_law_497 (by omega) (fun z1 e1 => ?_)
  refine z_sld hx hb hX hbl hbA hS e1 (by omega) dL_law_498 ?_
  refine z_cVw (As := [.int (xs (i + (1 : Int)).toNat)]) (rest := []) ⟨hx, hb, hml, hown, hts⟩ (kX4_forget l G z σ (xs (i + (1 : Int)).toNat) ((xs (i + (1 : Int)).toNat).toInt) rfl (by first | assumption | omega)) (cwV 1 hts gL_law_X4_forget rfl rfl rfl hyX4_forget ⟨Nat.le_of_ble_eq_true rfl, Nat.le_of_ble_eq_true rfl⟩) hK hF hF.1 rfl rfl hl.1 rfl (Nat.le_of_ble_eq_true rfl) dL_law_499 ⟨Nat.le_of_ble_eq_true rfl, Nat.le_of_ble_eq_true rfl⟩ hS (fun q h => by simp only [iv] at h; show s.heap.size ≤ q; omega) (fun z2 H locs e2 hB hsz hq hS => ?_)
  have hF := hB
  have hF : SFP G H z (s_forget σ ((xs (i + (1 : Int)).toNat).toInt)) := hF
  have hM := hM.kept (fun q h1 h2 => hq q (by have := hM.lt; omega) (by simp only [iv]; omega))
  have e2 : z2.toInt = a_forget σ ((xs (i + (1 : Int)).toNat).toInt) := e2
  refine lv_aload_n hx hb dL_law_502 rfl (lv_at hl 2 rfl) ?_
  refine lv_aload_n hx hb dL_law_503 rfl (lv_at hl 0 rfl) ?_
  refine lv_iload_n hx hb dL_law_504 rfl (lv_at hl 3 rfl) ?_
  refine lv_iconst (v := (1 : Int32)) hx hb dL_law_505 (by decide) ?_
  refine z_iadd hx hb hx3 kI_1 dL_law_506 (by omega) (fun z3 e3 => ?_)
  refine z_sld hx hb hX hbl hbA hS e3 (by omega) dL_law_507 ?_
  refine z_cVw (As := [.int (xs (i + (1 : Int)).toNat)]) (rest := [.int z2]) ⟨hx, hb, hml, hown, hts⟩ (kX5_forget l G (z + 112) μ (xs (i + (1 : Int)).toNat) ((xs (i + (1 : Int)).toNat).toInt) rfl σ (by first | assumption | omega) (by first | assumption | omega)) (cwV 1 hts gL_law_X5_forget rfl rfl rfl hyX5_forget ⟨Nat.le_of_ble_eq_true rfl, Nat.le_of_ble_eq_true rfl⟩) hK hM hM.1 rfl rfl hl.1 rfl (Nat.le_of_ble_eq_true rfl) dL_law_508 ⟨Nat.le_of_ble_eq_true rfl, Nat.le_of_ble_eq_true rfl⟩ hS (fun q h => by simp only [iv] at h; show s.heap.size ≤ q; omega) (fun z4 H locs e4 hB hsz hq hS => ?_)
  obtain ⟨m508, hM, hp508⟩ := hB
  have hM : MO G H (z + 112) m508 := hM
  have hp508 : Rel (s_forget σ ((xs (i + (1 : Int)).toNat).toInt)) m508 := hp508
  have hF := hF.kept (fun q h1 h2 => hq q (by have := hF.lt; omega) (by simp only [iv]; omega))
  have e4 : z4.toInt = a_forget σ ((xs (i + (1 : Int)).toNat).toInt) := e4
  refine z_icmp_eq (tgt := 920) hx hb e2 e4 dL_law_511 (by decide) (fun c_5 => ?_) (fun c_5 => ?_)
  · exact kk _ _ _ _ ⟨hF, hM, hp508, k_forget hfd, hS⟩
  · omega

set_option maxHeartbeats 2000000 in
set_option maxRecDepth 100000 in
theorem law_516 {p : Program} {l : Launch} {e : Env} {s : State} {m : MethodId} {below : List Frame} {meth : Method} {c : Code} {b L z : Nat} {xs : Nat → Int32} {G : xG} {H : Heap} {locs : List Loc} {Q : State → Prop} {ls : Array Slot} {σ : FD} {μ : MD} {x3 : Int32} {i : Int} (C : LC p s m c b L xs G z) (hx3 : x3.toInt = i) (hi : 0 ≤ i ∧ i + 5 ≤ (L : Int)) (I : LI G z s.heap H locs σ μ) (hl : lv_has ls 4 [(0, .ref b), (1, .ref z), (2, .ref (z + 112)), (3, .int x3)]) (kk : ∀ (σ' : FD) (μ' : MD) (H' : Heap) (locs' : List Loc), LI G z s.heap H' locs' σ' μ' → W p l e room_1 s m (#[Value.ref b] : Array Value) below meth c H' locs' 117 20218 Q (F0 m 920 ls [])) : W p l e room_1 s m (#[Value.ref b] : Array Value) below meth c H locs 117 20218 Q (F0 m 516 ls []) := by
  obtain ⟨hx, hb, hml, hown, hts, hK, hX, hbl, hL, hz⟩ := C
  obtain ⟨hF, hM, hRel, hfd, hS⟩ := I
  have hbA : ¬ (fun q : Nat => s.heap.size ≤ q) b := Nat.not_le.mpr hbl
  refine lv_aload_n hx hb dL_law_516 rfl (lv_at hl 1 rfl) ?_
  refine lv_aload_n hx hb dL_law_517 rfl (lv_at hl 0 rfl) ?_
  refine lv_iload_n hx hb dL_law_518 rfl (lv_at hl 3 rfl) ?_
  refine lv_iconst (v := (1 : Int32)) hx hb dL_law_519 (by decide) ?_
  refine z_iadd hx hb hx3 kI_1 dL_law_520 (by omega) (fun z1 e1 => ?_)
  refine z_sld hx hb hX hbl hbA hS e1 (by omega) dL_law_521 ?_
  refine lv_i2c (v := chv (xs (i + (1 : Int)).toNat)) hx hb dL_law_522 rfl ?_
  have hcv := chv_b (xs (i + (1 : Int)).toNat)
  refine z_cVw (As := [.int (chv (xs (i + (1 : Int)).toNat))]) (rest := []) ⟨hx, hb, hml, hown, hts⟩ (kX4_type l G z σ (chv (xs (i + (1 : Int)).toNat)) ((chv (xs (i + (1 : Int)).toNat)).toInt) rfl (by first | assumption | omega) (by first | assumption | omega)) (cwV 1 hts gL_law_X4_type rfl rfl rfl hyX4_type ⟨Nat.le_of_ble_eq_true rfl, Nat.le_of_ble_eq_true rfl⟩) hK hF hF.1 rfl rfl hl.1 rfl (Nat.le_of_ble_eq_true rfl) dL_law_523 ⟨Nat.le_of_ble_eq_true rfl, Nat.le_of_ble_eq_true rfl⟩ hS (fun q h => by simp only [iv] at h; show s.heap.size ≤ q; omega) (fun z2 H locs e2 hB hsz hq hS => ?_)
  have hF := hB
  have hF : SFP G H z (s_type σ (chv (xs (i + (1 : Int)).toNat))) := hF
  have hM := hM.kept (fun q h1 h2 => hq q (by have := hM.lt; omega) (by simp only [iv]; omega))
  have e2 : z2.toInt = a_type σ := e2
  refine lv_aload_n hx hb dL_law_526 rfl (lv_at hl 2 rfl) ?_
  refine lv_aload_n hx hb dL_law_527 rfl (lv_at hl 0 rfl) ?_
  refine lv_iload_n hx hb dL_law_528 rfl (lv_at hl 3 rfl) ?_
  refine lv_iconst (v := (1 : Int32)) hx hb dL_law_529 (by decide) ?_
  refine z_iadd hx hb hx3 kI_1 dL_law_530 (by omega) (fun z3 e3 => ?_)
  refine z_sld hx hb hX hbl hbA hS e3 (by omega) dL_law_531 ?_
  refine lv_i2c (v := chv (xs (i + (1 : Int)).toNat)) hx hb dL_law_532 rfl ?_
  have hcv := chv_b (xs (i + (1 : Int)).toNat)
  refine z_cVw (As := [.int (chv (xs (i + (1 : Int)).toNat))]) (rest := [.int z2]) ⟨hx, hb, hml, hown, hts⟩ (kX5_type l G (z + 112) μ (chv (xs (i + (1 : Int)).toNat)) ((chv (xs (i + (1 : Int)).toNat)).toInt) rfl σ (by first | assumption | omega) (by first | assumption | omega) (by first | assumption | omega)) (cwV 1 hts gL_law_X5_type rfl rfl rfl hyX5_type ⟨Nat.le_of_ble_eq_true rfl, Nat.le_of_ble_eq_true rfl⟩) hK hM hM.1 rfl rfl hl.1 rfl (Nat.le_of_ble_eq_true rfl) dL_law_533 ⟨Nat.le_of_ble_eq_true rfl, Nat.le_of_ble_eq_true rfl⟩ hS (fun q h => by simp only [iv] at h; show s.heap.size ≤ q; omega) (fun z4 H locs e4 hB hsz hq hS => ?_)
  obtain ⟨m533, hM, hp533⟩ := hB
  have hM : MO G H (z + 112) m533 := hM
  have hp533 : Rel (s_type σ (chv (xs (i + (1 : Int)).toNat))) m533 := hp533
  have hF := hF.kept (fun q h1 h2 => hq q (by have := hF.lt; omega) (by simp only [iv]; omega))
  have e4 : z4.toInt = a_type σ := e4
  refine z_icmp_eq (tgt := 920) hx hb e2 e4 dL_law_536 (by decide) (fun c_5 => ?_) (fun c_5 => ?_)
  · exact kk _ _ _ _ ⟨hF, hM, hp533, k_type hfd hcv, hS⟩
  · omega

set_option maxHeartbeats 2000000 in
set_option maxRecDepth 100000 in
theorem law_541 {p : Program} {l : Launch} {e : Env} {s : State} {m : MethodId} {below : List Frame} {meth : Method} {c : Code} {b L z : Nat} {xs : Nat → Int32} {G : xG} {H : Heap} {locs : List Loc} {Q : State → Prop} {ls : Array Slot} {σ : FD} {μ : MD} {x3 : Int32} {i : Int} (C : LC p s m c b L xs G z) (hx3 : x3.toInt = i) (hi : 0 ≤ i ∧ i + 5 ≤ (L : Int)) (I : LI G z s.heap H locs σ μ) (hl : lv_has ls 4 [(0, .ref b), (1, .ref z), (2, .ref (z + 112)), (3, .int x3)]) (kk : ∀ (σ' : FD) (μ' : MD) (H' : Heap) (locs' : List Loc), LI G z s.heap H' locs' σ' μ' → W p l e room_1 s m (#[Value.ref b] : Array Value) below meth c H' locs' 117 20218 Q (F0 m 920 ls [])) : W p l e room_1 s m (#[Value.ref b] : Array Value) below meth c H locs 117 20218 Q (F0 m 541 ls []) := by
  obtain ⟨hx, hb, hml, hown, hts, hK, hX, hbl, hL, hz⟩ := C
  obtain ⟨hF, hM, hRel, hfd, hS⟩ := I
  have hbA : ¬ (fun q : Nat => s.heap.size ≤ q) b := Nat.not_le.mpr hbl
  refine lv_aload_n hx hb dL_law_541 rfl (lv_at hl 1 rfl) ?_
  refine z_cVw (As := []) (rest := []) ⟨hx, hb, hml, hown, hts⟩ (kX4_clearText l G z σ (by first | assumption | omega)) (cwV 0 hts gL_law_X4_clearText rfl rfl rfl hyX4_clearText ⟨Nat.le_of_ble_eq_true rfl, Nat.le_of_ble_eq_true rfl⟩) hK hF hF.1 rfl rfl hl.1 rfl (Nat.le_of_ble_eq_true rfl) dL_law_542 ⟨Nat.le_of_ble_eq_true rfl, Nat.le_of_ble_eq_true rfl⟩ hS (fun q h => by simp only [iv] at h; show s.heap.size ≤ q; omega) (fun z1 H locs e1 hB hsz hq hS => ?_)
  have hF := hB
  have hF : SFP G H z (s_clearText σ) := hF
  have hM := hM.kept (fun q h1 h2 => hq q (by have := hM.lt; omega) (by simp only [iv]; omega))
  have e1 : z1.toInt = σ.2.2.2.2.2.2.1.toInt := e1
  refine lv_aload_n hx hb dL_law_545 rfl (lv_at hl 2 rfl) ?_
  refine z_cVw (As := []) (rest := [.int z1]) ⟨hx, hb, hml, hown, hts⟩ (kX5_clearText l G (z + 112) μ σ (by first | assumption | omega) (by first | assumption | omega)) (cwV 0 hts gL_law_X5_clearText rfl rfl rfl hyX5_clearText ⟨Nat.le_of_ble_eq_true rfl, Nat.le_of_ble_eq_true rfl⟩) hK hM hM.1 rfl rfl hl.1 rfl (Nat.le_of_ble_eq_true rfl) dL_law_546 ⟨Nat.le_of_ble_eq_true rfl, Nat.le_of_ble_eq_true rfl⟩ hS (fun q h => by simp only [iv] at h; show s.heap.size ≤ q; omega) (fun z2 H locs e2 hB hsz hq hS => ?_)
  obtain ⟨m546, hM, hp546⟩ := hB
  have hM : MO G H (z + 112) m546 := hM
  have hp546 : Rel (s_clearText σ) m546 := hp546
  have hF := hF.kept (fun q h1 h2 => hq q (by have := hF.lt; omega) (by simp only [iv]; omega))
  have e2 : z2.toInt = σ.2.2.2.2.2.2.1.toInt := e2
  refine z_icmp_eq (tgt := 920) hx hb e1 e2 dL_law_549 (by decide) (fun c_3 => ?_) (fun c_3 => ?_)
  · exact kk _ _ _ _ ⟨hF, hM, hp546, k_clearText hfd, hS⟩
  · omega

set_option maxHeartbeats 2000000 in
set_option maxRecDepth 100000 in
theorem law_554 {p : Program} {l : Launch} {e : Env} {s : State} {m : MethodId} {below : List Frame} {meth : Method} {c : Code} {b L z : Nat} {xs : Nat → Int32} {G : xG} {H : Heap} {locs : List Loc} {Q : State → Prop} {ls : Array Slot} {σ : FD} {μ : MD} {x3 : Int32} {i : Int} (C : LC p s m c b L xs G z) (hx3 : x3.toInt = i) (hi : 0 ≤ i ∧ i + 5 ≤ (L : Int)) (I : LI G z s.heap H locs σ μ) (hl : lv_has ls 4 [(0, .ref b), (1, .ref z), (2, .ref (z + 112)), (3, .int x3)]) (kk : ∀ (σ' : FD) (μ' : MD) (H' : Heap) (locs' : List Loc), LI G z s.heap H' locs' σ' μ' → W p l e room_1 s m (#[Value.ref b] : Array Value) below meth c H' locs' 117 20218 Q (F0 m 920 ls [])) : W p l e room_1 s m (#[Value.ref b] : Array Value) below meth c H locs 117 20218 Q (F0 m 554 ls []) := by
  obtain ⟨hx, hb, hml, hown, hts, hK, hX, hbl, hL, hz⟩ := C
  obtain ⟨hF, hM, hRel, hfd, hS⟩ := I
  have hbA : ¬ (fun q : Nat => s.heap.size ≤ q) b := Nat.not_le.mpr hbl
  refine lv_aload_n hx hb dL_law_554 rfl (lv_at hl 1 rfl) ?_
  refine z_cVw (As := []) (rest := []) ⟨hx, hb, hml, hown, hts⟩ (kX4_undo l G z σ (by first | assumption | omega)) (cwV 0 hts gL_law_X4_undo rfl rfl rfl hyX4_undo ⟨Nat.le_of_ble_eq_true rfl, Nat.le_of_ble_eq_true rfl⟩) hK hF hF.1 rfl rfl hl.1 rfl (Nat.le_of_ble_eq_true rfl) dL_law_555 ⟨Nat.le_of_ble_eq_true rfl, Nat.le_of_ble_eq_true rfl⟩ hS (fun q h => by simp only [iv] at h; show s.heap.size ≤ q; omega) (fun z1 H locs e1 hB hsz hq hS => ?_)
  have hF := hB
  have hF : SFP G H z (s_undo σ) := hF
  have hM := hM.kept (fun q h1 h2 => hq q (by have := hM.lt; omega) (by simp only [iv]; omega))
  have e1 : z1.toInt = a_undo σ := e1
  refine lv_aload_n hx hb dL_law_558 rfl (lv_at hl 2 rfl) ?_
  refine z_cVw (As := []) (rest := [.int z1]) ⟨hx, hb, hml, hown, hts⟩ (kX5_undo l G (z + 112) μ σ (by first | assumption | omega) (by first | assumption | omega)) (cwV 0 hts gL_law_X5_undo rfl rfl rfl hyX5_undo ⟨Nat.le_of_ble_eq_true rfl, Nat.le_of_ble_eq_true rfl⟩) hK hM hM.1 rfl rfl hl.1 rfl (Nat.le_of_ble_eq_true rfl) dL_law_559 ⟨Nat.le_of_ble_eq_true rfl, Nat.le_of_ble_eq_true rfl⟩ hS (fun q h => by simp only [iv] at h; show s.heap.size ≤ q; omega) (fun z2 H locs e2 hB hsz hq hS => ?_)
  obtain ⟨m559, hM, hp559⟩ := hB
  have hM : MO G H (z + 112) m559 := hM
  have hp559 : Rel (s_undo σ) m559 := hp559
  have hF := hF.kept (fun q h1 h2 => hq q (by have := hF.lt; omega) (by simp only [iv]; omega))
  have e2 : z2.toInt = a_undo σ := e2
  refine z_icmp_eq (tgt := 920) hx hb e1 e2 dL_law_562 (by decide) (fun c_3 => ?_) (fun c_3 => ?_)
  · exact kk _ _ _ _ ⟨hF, hM, hp559, k_undo hfd, hS⟩
  · omega

set_option maxHeartbeats 2000000 in
set_option maxRecDepth 100000 in
theorem law_567 {p : Program} {l : Launch} {e : Env} {s : State} {m : MethodId} {below : List Frame} {meth : Method} {c : Code} {b L z : Nat} {xs : Nat → Int32} {G : xG} {H : Heap} {locs : List Loc} {Q : State → Prop} {ls : Array Slot} {σ : FD} {μ : MD} {x3 : Int32} {i : Int} (C : LC p s m c b L xs G z) (hx3 : x3.toInt = i) (hi : 0 ≤ i ∧ i + 5 ≤ (L : Int)) (I : LI G z s.heap H locs σ μ) (hl : lv_has ls 4 [(0, .ref b), (1, .ref z), (2, .ref (z + 112)), (3, .int x3)]) (kk : ∀ (σ' : FD) (μ' : MD) (H' : Heap) (locs' : List Loc), LI G z s.heap H' locs' σ' μ' → W p l e room_1 s m (#[Value.ref b] : Array Value) below meth c H' locs' 117 20218 Q (F0 m 920 ls [])) : W p l e room_1 s m (#[Value.ref b] : Array Value) below meth c H locs 117 20218 Q (F0 m 567 ls []) := by
  obtain ⟨hx, hb, hml, hown, hts, hK, hX, hbl, hL, hz⟩ := C
  obtain ⟨hF, hM, hRel, hfd, hS⟩ := I
  have hbA : ¬ (fun q : Nat => s.heap.size ≤ q) b := Nat.not_le.mpr hbl
  refine lv_aload_n hx hb dL_law_567 rfl (lv_at hl 1 rfl) ?_
  refine z_cVw (As := []) (rest := []) ⟨hx, hb, hml, hown, hts⟩ (kX4_keep l G z σ (by first | assumption | omega)) (cwV 0 hts gL_law_X4_keep rfl rfl rfl hyX4_keep ⟨Nat.le_of_ble_eq_true rfl, Nat.le_of_ble_eq_true rfl⟩) hK hF hF.1 rfl rfl hl.1 rfl (Nat.le_of_ble_eq_true rfl) dL_law_568 ⟨Nat.le_of_ble_eq_true rfl, Nat.le_of_ble_eq_true rfl⟩ hS (fun q h => by simp only [iv] at h; show s.heap.size ≤ q; omega) (fun z1 H locs e1 hB hsz hq hS => ?_)
  have hF := hB
  have hF : SFP G H z (s_keep σ) := hF
  have hM := hM.kept (fun q h1 h2 => hq q (by have := hM.lt; omega) (by simp only [iv]; omega))
  have e1 : z1.toInt = σ.1.1.toInt := e1
  refine lv_aload_n hx hb dL_law_571 rfl (lv_at hl 2 rfl) ?_
  refine z_cVw (As := []) (rest := [.int z1]) ⟨hx, hb, hml, hown, hts⟩ (kX5_keep l G (z + 112) μ σ (by first | assumption | omega) (by first | assumption | omega)) (cwV 0 hts gL_law_X5_keep rfl rfl rfl hyX5_keep ⟨Nat.le_of_ble_eq_true rfl, Nat.le_of_ble_eq_true rfl⟩) hK hM hM.1 rfl rfl hl.1 rfl (Nat.le_of_ble_eq_true rfl) dL_law_572 ⟨Nat.le_of_ble_eq_true rfl, Nat.le_of_ble_eq_true rfl⟩ hS (fun q h => by simp only [iv] at h; show s.heap.size ≤ q; omega) (fun z2 H locs e2 hB hsz hq hS => ?_)
  obtain ⟨m572, hM, hp572⟩ := hB
  have hM : MO G H (z + 112) m572 := hM
  have hp572 : Rel (s_keep σ) m572 := hp572
  have hF := hF.kept (fun q h1 h2 => hq q (by have := hF.lt; omega) (by simp only [iv]; omega))
  have e2 : z2.toInt = σ.1.1.toInt := e2
  refine z_icmp_eq (tgt := 920) hx hb e1 e2 dL_law_575 (by decide) (fun c_3 => ?_) (fun c_3 => ?_)
  · exact kk _ _ _ _ ⟨hF, hM, hp572, k_keep hfd, hS⟩
  · omega

set_option maxHeartbeats 2000000 in
set_option maxRecDepth 100000 in
theorem law_580 {p : Program} {l : Launch} {e : Env} {s : State} {m : MethodId} {below : List Frame} {meth : Method} {c : Code} {b L z : Nat} {xs : Nat → Int32} {G : xG} {H : Heap} {locs : List Loc} {Q : State → Prop} {ls : Array Slot} {σ : FD} {μ : MD} {x3 : Int32} {i : Int} (C : LC p s m c b L xs G z) (hx3 : x3.toInt = i) (hi : 0 ≤ i ∧ i + 5 ≤ (L : Int)) (I : LI G z s.heap H locs σ μ) (hl : lv_has ls 4 [(0, .ref b), (1, .ref z), (2, .ref (z + 112)), (3, .int x3)]) (kk : ∀ (σ' : FD) (μ' : MD) (H' : Heap) (locs' : List Loc), LI G z s.heap H' locs' σ' μ' → W p l e room_1 s m (#[Value.ref b] : Array Value) below meth c H' locs' 117 20218 Q (F0 m 920 ls [])) : W p l e room_1 s m (#[Value.ref b] : Array Value) below meth c H locs 117 20218 Q (F0 m 580 ls []) := by
  obtain ⟨hx, hb, hml, hown, hts, hK, hX, hbl, hL, hz⟩ := C
  obtain ⟨hF, hM, hRel, hfd, hS⟩ := I
  have hbA : ¬ (fun q : Nat => s.heap.size ≤ q) b := Nat.not_le.mpr hbl
  refine lv_aload_n hx hb dL_law_580 rfl (lv_at hl 1 rfl) ?_
  refine z_cVw (As := []) (rest := []) ⟨hx, hb, hml, hown, hts⟩ (kX4_restore l G z σ (by first | assumption | omega)) (cwV 0 hts gL_law_X4_restore rfl rfl rfl hyX4_restore ⟨Nat.le_of_ble_eq_true rfl, Nat.le_of_ble_eq_true rfl⟩) hK hF hF.1 rfl rfl hl.1 rfl (Nat.le_of_ble_eq_true rfl) dL_law_581 ⟨Nat.le_of_ble_eq_true rfl, Nat.le_of_ble_eq_true rfl⟩ hS (fun q h => by simp only [iv] at h; show s.heap.size ≤ q; omega) (fun z1 H locs e1 hB hsz hq hS => ?_)
  have hF := hB
  have hF : SFP G H z (s_restore σ) := hF
  have hM := hM.kept (fun q h1 h2 => hq q (by have := hM.lt; omega) (by simp only [iv]; omega))
  have e1 : z1.toInt = a_restore σ := e1
  refine lv_aload_n hx hb dL_law_584 rfl (lv_at hl 2 rfl) ?_
  refine z_cVw (As := []) (rest := [.int z1]) ⟨hx, hb, hml, hown, hts⟩ (kX5_restore l G (z + 112) μ σ (by first | assumption | omega) (by first | assumption | omega)) (cwV 0 hts gL_law_X5_restore rfl rfl rfl hyX5_restore ⟨Nat.le_of_ble_eq_true rfl, Nat.le_of_ble_eq_true rfl⟩) hK hM hM.1 rfl rfl hl.1 rfl (Nat.le_of_ble_eq_true rfl) dL_law_585 ⟨Nat.le_of_ble_eq_true rfl, Nat.le_of_ble_eq_true rfl⟩ hS (fun q h => by simp only [iv] at h; show s.heap.size ≤ q; omega) (fun z2 H locs e2 hB hsz hq hS => ?_)
  obtain ⟨m585, hM, hp585⟩ := hB
  have hM : MO G H (z + 112) m585 := hM
  have hp585 : Rel (s_restore σ) m585 := hp585
  have hF := hF.kept (fun q h1 h2 => hq q (by have := hF.lt; omega) (by simp only [iv]; omega))
  have e2 : z2.toInt = a_restore σ := e2
  refine z_icmp_eq (tgt := 920) hx hb e1 e2 dL_law_588 (by decide) (fun c_3 => ?_) (fun c_3 => ?_)
  · exact kk _ _ _ _ ⟨hF, hM, hp585, k_restore hfd, hS⟩
  · omega

set_option maxHeartbeats 2000000 in
set_option maxRecDepth 100000 in
theorem law_593 {p : Program} {l : Launch} {e : Env} {s : State} {m : MethodId} {below : List Frame} {meth : Method} {c : Code} {b L z : Nat} {xs : Nat → Int32} {G : xG} {H : Heap} {locs : List Loc} {Q : State → Prop} {ls : Array Slot} {σ : FD} {μ : MD} {x3 : Int32} {i : Int} (C : LC p s m c b L xs G z) (hx3 : x3.toInt = i) (hi : 0 ≤ i ∧ i + 5 ≤ (L : Int)) (I : LI G z s.heap H locs σ μ) (hl : lv_has ls 4 [(0, .ref b), (1, .ref z), (2, .ref (z + 112)), (3, .int x3)]) (kk : ∀ (σ' : FD) (μ' : MD) (H' : Heap) (locs' : List Loc), LI G z s.heap H' locs' σ' μ' → W p l e room_1 s m (#[Value.ref b] : Array Value) below meth c H' locs' 117 20218 Q (F0 m 920 ls [])) : W p l e room_1 s m (#[Value.ref b] : Array Value) below meth c H locs 117 20218 Q (F0 m 593 ls []) := by
  obtain ⟨hx, hb, hml, hown, hts, hK, hX, hbl, hL, hz⟩ := C
  obtain ⟨hF, hM, hRel, hfd, hS⟩ := I
  have hbA : ¬ (fun q : Nat => s.heap.size ≤ q) b := Nat.not_le.mpr hbl
  refine lv_aload_n hx hb dL_law_593 rfl (lv_at hl 1 rfl) ?_
  refine lv_aload_n hx hb dL_law_594 rfl (lv_at hl 0 rfl) ?_
  refine lv_iload_n hx hb dL_law_595 rfl (lv_at hl 3 rfl) ?_
  refine lv_iconst (v := (1 : Int32)) hx hb dL_law_596 (by decide) ?_
  refine z_iadd hx hb hx3 kI_1 dL_law_597 (by omega) (fun z1 e1 => ?_)
  refine z_sld hx hb hX hbl hbA hS e1 (by omega) dL_law_598 ?_
  refine z_cV (As := [.int (xs (i + (1 : Int)).toNat)]) (rest := []) ⟨hx, hb, hml, hown, hts⟩ (kX4_sea l G z σ (xs (i + (1 : Int)).toNat) ((xs (i + (1 : Int)).toNat).toInt) rfl (by first | assumption | omega)) (cwV 1 hts gL_law_X4_sea rfl rfl rfl hyX4_sea ⟨Nat.le_of_ble_eq_true rfl, Nat.le_of_ble_eq_true rfl⟩) hK hF hF.1 rfl rfl hl.1 rfl (Nat.le_of_ble_eq_true rfl) dL_law_599 ⟨Nat.le_of_ble_eq_true rfl, Nat.le_of_ble_eq_true rfl⟩ (fun z2 e2 => ?_)
  have e2 : z2.toInt = a_sea σ ((xs (i + (1 : Int)).toNat).toInt) := e2
  refine lv_aload_n hx hb dL_law_602 rfl (lv_at hl 2 rfl) ?_
  refine lv_aload_n hx hb dL_law_603 rfl (lv_at hl 0 rfl) ?_
  refine lv_iload_n hx hb dL_law_604 rfl (lv_at hl 3 rfl) ?_
  refine lv_iconst (v := (1 : Int32)) hx hb dL_law_605 (by decide) ?_
  refine z_iadd hx hb hx3 kI_1 dL_law_606 (by omega) (fun z3 e3 => ?_)
  refine z_sld hx hb hX hbl hbA hS e3 (by omega) dL_law_607 ?_
  refine z_cV (As := [.int (xs (i + (1 : Int)).toNat)]) (rest := [.int z2]) ⟨hx, hb, hml, hown, hts⟩ (kX5_sea l G (z + 112) μ (xs (i + (1 : Int)).toNat) ((xs (i + (1 : Int)).toNat).toInt) rfl σ (by first | assumption | omega) (by first | assumption | omega)) (cwV 1 hts gL_law_X5_sea rfl rfl rfl hyX5_sea ⟨Nat.le_of_ble_eq_true rfl, Nat.le_of_ble_eq_true rfl⟩) hK hM hM.1 rfl rfl hl.1 rfl (Nat.le_of_ble_eq_true rfl) dL_law_608 ⟨Nat.le_of_ble_eq_true rfl, Nat.le_of_ble_eq_true rfl⟩ (fun z4 e4 => ?_)
  have e4 : z4.toInt = a_sea σ ((xs (i + (1 : Int)).toNat).toInt) := e4
  refine z_icmp_eq (tgt := 920) hx hb e2 e4 dL_law_611 (by decide) (fun c_5 => ?_) (fun c_5 => ?_)
  · exact kk _ _ _ _ ⟨hF, hM, hRel, hfd, hS⟩
  · omega

set_option maxHeartbeats 2000000 in
set_option maxRecDepth 100000 in
theorem law_616 {p : Program} {l : Launch} {e : Env} {s : State} {m : MethodId} {below : List Frame} {meth : Method} {c : Code} {b L z : Nat} {xs : Nat → Int32} {G : xG} {H : Heap} {locs : List Loc} {Q : State → Prop} {ls : Array Slot} {σ : FD} {μ : MD} {x3 : Int32} {i : Int} (C : LC p s m c b L xs G z) (hx3 : x3.toInt = i) (hi : 0 ≤ i ∧ i + 5 ≤ (L : Int)) (I : LI G z s.heap H locs σ μ) (hl : lv_has ls 4 [(0, .ref b), (1, .ref z), (2, .ref (z + 112)), (3, .int x3)]) (kk : ∀ (σ' : FD) (μ' : MD) (H' : Heap) (locs' : List Loc), LI G z s.heap H' locs' σ' μ' → W p l e room_1 s m (#[Value.ref b] : Array Value) below meth c H' locs' 117 20218 Q (F0 m 920 ls [])) : W p l e room_1 s m (#[Value.ref b] : Array Value) below meth c H locs 117 20218 Q (F0 m 616 ls []) := by
  obtain ⟨hx, hb, hml, hown, hts, hK, hX, hbl, hL, hz⟩ := C
  obtain ⟨hF, hM, hRel, hfd, hS⟩ := I
  have hbA : ¬ (fun q : Nat => s.heap.size ≤ q) b := Nat.not_le.mpr hbl
  refine lv_aload_n hx hb dL_law_616 rfl (lv_at hl 1 rfl) ?_
  refine lv_aload_n hx hb dL_law_617 rfl (lv_at hl 0 rfl) ?_
  refine lv_iload_n hx hb dL_law_618 rfl (lv_at hl 3 rfl) ?_
  refine lv_iconst (v := (1 : Int32)) hx hb dL_law_619 (by decide) ?_
  refine z_iadd hx hb hx3 kI_1 dL_law_620 (by omega) (fun z1 e1 => ?_)
  refine z_sld hx hb hX hbl hbA hS e1 (by omega) dL_law_621 ?_
  refine lv_aload_n hx hb dL_law_622 rfl (lv_at hl 0 rfl) ?_
  refine lv_iload_n hx hb dL_law_623 rfl (lv_at hl 3 rfl) ?_
  refine lv_iconst (v := (2 : Int32)) hx hb dL_law_624 (by decide) ?_
  refine z_iadd hx hb hx3 kI_2 dL_law_625 (by omega) (fun z2 e2 => ?_)
  refine z_sld hx hb hX hbl hbA hS e2 (by omega) dL_law_626 ?_
  refine z_cV (As := [.int (xs (i + (1 : Int)).toNat), .int (xs (i + (2 : Int)).toNat)]) (rest := []) ⟨hx, hb, hml, hown, hts⟩ (kX4_outside l G z σ (xs (i + (1 : Int)).toNat) ((xs (i + (1 : Int)).toNat).toInt) rfl (xs (i + (2 : Int)).toNat) ((xs (i + (2 : Int)).toNat).toInt) rfl (by first | assumption | omega)) (cwV 2 hts gL_law_X4_outside rfl rfl rfl hyX4_outside ⟨Nat.le_of_ble_eq_true rfl, Nat.le_of_ble_eq_true rfl⟩) hK hF hF.1 rfl rfl hl.1 rfl (Nat.le_of_ble_eq_true rfl) dL_law_627 ⟨Nat.le_of_ble_eq_true rfl, Nat.le_of_ble_eq_true rfl⟩ (fun z3 e3 => ?_)
  have e3 : z3.toInt = a_outside σ ((xs (i + (1 : Int)).toNat).toInt) ((xs (i + (2 : Int)).toNat).toInt) := e3
  refine lv_aload_n hx hb dL_law_630 rfl (lv_at hl 2 rfl) ?_
  refine lv_aload_n hx hb dL_law_631 rfl (lv_at hl 0 rfl) ?_
  refine lv_iload_n hx hb dL_law_632 rfl (lv_at hl 3 rfl) ?_
  refine lv_iconst (v := (1 : Int32)) hx hb dL_law_633 (by decide) ?_
  refine z_iadd hx hb hx3 kI_1 dL_law_634 (by omega) (fun z4 e4 => ?_)
  refine z_sld hx hb hX hbl hbA hS e4 (by omega) dL_law_635 ?_
  refine lv_aload_n hx hb dL_law_636 rfl (lv_at hl 0 rfl) ?_
  refine lv_iload_n hx hb dL_law_637 rfl (lv_at hl 3 rfl) ?_
  refine lv_iconst (v := (2 : Int32)) hx hb dL_law_638 (by decide) ?_
  refine z_iadd hx hb hx3 kI_2 dL_law_639 (by omega) (fun z5 e5 => ?_)
  refine z_sld hx hb hX hbl hbA hS e5 (by omega) dL_law_640 ?_
  refine z_cV (As := [.int (xs (i + (1 : Int)).toNat), .int (xs (i + (2 : Int)).toNat)]) (rest := [.int z3]) ⟨hx, hb, hml, hown, hts⟩ (kX5_outside l G (z + 112) μ (xs (i + (1 : Int)).toNat) ((xs (i + (1 : Int)).toNat).toInt) rfl (xs (i + (2 : Int)).toNat) ((xs (i + (2 : Int)).toNat).toInt) rfl σ (by first | assumption | omega) (by first | assumption | omega)) (cwV 2 hts gL_law_X5_outside rfl rfl rfl hyX5_outside ⟨Nat.le_of_ble_eq_true rfl, Nat.le_of_ble_eq_true rfl⟩) hK hM hM.1 rfl rfl hl.1 rfl (Nat.le_of_ble_eq_true rfl) dL_law_641 ⟨Nat.le_of_ble_eq_true rfl, Nat.le_of_ble_eq_true rfl⟩ (fun z6 e6 => ?_)
  have e6 : z6.toInt = a_outside σ ((xs (i + (1 : Int)).toNat).toInt) ((xs (i + (2 : Int)).toNat).toInt) := e6
  refine z_icmp_eq (tgt := 920) hx hb e3 e6 dL_law_644 (by decide) (fun c_7 => ?_) (fun c_7 => ?_)
  · exact kk _ _ _ _ ⟨hF, hM, hRel, hfd, hS⟩
  · omega

set_option maxHeartbeats 2000000 in
set_option maxRecDepth 100000 in
theorem law_649 {p : Program} {l : Launch} {e : Env} {s : State} {m : MethodId} {below : List Frame} {meth : Method} {c : Code} {b L z : Nat} {xs : Nat → Int32} {G : xG} {H : Heap} {locs : List Loc} {Q : State → Prop} {ls : Array Slot} {σ : FD} {μ : MD} {x3 : Int32} {i : Int} (C : LC p s m c b L xs G z) (hx3 : x3.toInt = i) (hi : 0 ≤ i ∧ i + 5 ≤ (L : Int)) (I : LI G z s.heap H locs σ μ) (hl : lv_has ls 4 [(0, .ref b), (1, .ref z), (2, .ref (z + 112)), (3, .int x3)]) (kk : ∀ (σ' : FD) (μ' : MD) (H' : Heap) (locs' : List Loc), LI G z s.heap H' locs' σ' μ' → W p l e room_1 s m (#[Value.ref b] : Array Value) below meth c H' locs' 117 20218 Q (F0 m 920 ls [])) : W p l e room_1 s m (#[Value.ref b] : Array Value) below meth c H locs 117 20218 Q (F0 m 649 ls []) := by
  obtain ⟨hx, hb, hml, hown, hts, hK, hX, hbl, hL, hz⟩ := C
  obtain ⟨hF, hM, hRel, hfd, hS⟩ := I
  have hbA : ¬ (fun q : Nat => s.heap.size ≤ q) b := Nat.not_le.mpr hbl
  refine lv_aload_n hx hb dL_law_649 rfl (lv_at hl 1 rfl) ?_
  refine lv_aload_n hx hb dL_law_650 rfl (lv_at hl 0 rfl) ?_
  refine lv_iload_n hx hb dL_law_651 rfl (lv_at hl 3 rfl) ?_
  refine lv_iconst (v := (1 : Int32)) hx hb dL_law_652 (by decide) ?_
  refine z_iadd hx hb hx3 kI_1 dL_law_653 (by omega) (fun z1 e1 => ?_)
  refine z_sld hx hb hX hbl hbA hS e1 (by omega) dL_law_654 ?_
  refine lv_aload_n hx hb dL_law_655 rfl (lv_at hl 0 rfl) ?_
  refine lv_iload_n hx hb dL_law_656 rfl (lv_at hl 3 rfl) ?_
  refine lv_iconst (v := (2 : Int32)) hx hb dL_law_657 (by decide) ?_
  refine z_iadd hx hb hx3 kI_2 dL_law_658 (by omega) (fun z2 e2 => ?_)
  refine z_sld hx hb hX hbl hbA hS e2 (by omega) dL_law_659 ?_
  refine z_cV (As := [.int (xs (i + (1 : Int)).toNat), .int (xs (i + (2 : Int)).toNat)]) (rest := []) ⟨hx, hb, hml, hown, hts⟩ (kX4_station l G z σ (xs (i + (1 : Int)).toNat) ((xs (i + (1 : Int)).toNat).toInt) rfl (xs (i + (2 : Int)).toNat) ((xs (i + (2 : Int)).toNat).toInt) rfl (by first | assumption | omega)) (cwV 2 hts gL_law_X4_station rfl rfl rfl hyX4_station ⟨Nat.le_of_ble_eq_true rfl, Nat.le_of_ble_eq_true rfl⟩) hK hF hF.1 rfl rfl hl.1 rfl (Nat.le_of_ble_eq_true rfl) dL_law_660 ⟨Nat.le_of_ble_eq_true rfl, Nat.le_of_ble_eq_true rfl⟩ (fun z3 e3 => ?_)
  have e3 : z3.toInt = a_station σ ((xs (i + (1 : Int)).toNat).toInt) ((xs (i + (2 : Int)).toNat).toInt) := e3
  refine lv_aload_n hx hb dL_law_663 rfl (lv_at hl 2 rfl) ?_
  refine lv_aload_n hx hb dL_law_664 rfl (lv_at hl 0 rfl) ?_
  refine lv_iload_n hx hb dL_law_665 rfl (lv_at hl 3 rfl) ?_
  refine lv_iconst (v := (1 : Int32)) hx hb dL_law_666 (by decide) ?_
  refine z_iadd hx hb hx3 kI_1 dL_law_667 (by omega) (fun z4 e4 => ?_)
  refine z_sld hx hb hX hbl hbA hS e4 (by omega) dL_law_668 ?_
  refine lv_aload_n hx hb dL_law_669 rfl (lv_at hl 0 rfl) ?_
  refine lv_iload_n hx hb dL_law_670 rfl (lv_at hl 3 rfl) ?_
  refine lv_iconst (v := (2 : Int32)) hx hb dL_law_671 (by decide) ?_
  refine z_iadd hx hb hx3 kI_2 dL_law_672 (by omega) (fun z5 e5 => ?_)
  refine z_sld hx hb hX hbl hbA hS e5 (by omega) dL_law_673 ?_
  refine z_cV (As := [.int (xs (i + (1 : Int)).toNat), .int (xs (i + (2 : Int)).toNat)]) (rest := [.int z3]) ⟨hx, hb, hml, hown, hts⟩ (kX5_station l G (z + 112) μ (xs (i + (1 : Int)).toNat) ((xs (i + (1 : Int)).toNat).toInt) rfl (xs (i + (2 : Int)).toNat) ((xs (i + (2 : Int)).toNat).toInt) rfl σ (by first | assumption | omega) (by first | assumption | omega)) (cwV 2 hts gL_law_X5_station rfl rfl rfl hyX5_station ⟨Nat.le_of_ble_eq_true rfl, Nat.le_of_ble_eq_true rfl⟩) hK hM hM.1 rfl rfl hl.1 rfl (Nat.le_of_ble_eq_true rfl) dL_law_674 ⟨Nat.le_of_ble_eq_true rfl, Nat.le_of_ble_eq_true rfl⟩ (fun z6 e6 => ?_)
  have e6 : z6.toInt = a_station σ ((xs (i + (1 : Int)).toNat).toInt) ((xs (i + (2 : Int)).toNat).toInt) := e6
  refine z_icmp_eq (tgt := 920) hx hb e3 e6 dL_law_677 (by decide) (fun c_7 => ?_) (fun c_7 => ?_)
  · exact kk _ _ _ _ ⟨hF, hM, hRel, hfd, hS⟩
  · omega

set_option maxHeartbeats 2000000 in
set_option maxRecDepth 100000 in
theorem law_682 {p : Program} {l : Launch} {e : Env} {s : State} {m : MethodId} {below : List Frame} {meth : Method} {c : Code} {b L z : Nat} {xs : Nat → Int32} {G : xG} {H : Heap} {locs : List Loc} {Q : State → Prop} {ls : Array Slot} {σ : FD} {μ : MD} {x3 : Int32} {i : Int} (C : LC p s m c b L xs G z) (hx3 : x3.toInt = i) (hi : 0 ≤ i ∧ i + 5 ≤ (L : Int)) (I : LI G z s.heap H locs σ μ) (hl : lv_has ls 4 [(0, .ref b), (1, .ref z), (2, .ref (z + 112)), (3, .int x3)]) (kk : ∀ (σ' : FD) (μ' : MD) (H' : Heap) (locs' : List Loc), LI G z s.heap H' locs' σ' μ' → W p l e room_1 s m (#[Value.ref b] : Array Value) below meth c H' locs' 117 20218 Q (F0 m 920 ls [])) : W p l e room_1 s m (#[Value.ref b] : Array Value) below meth c H locs 117 20218 Q (F0 m 682 ls []) := by
  obtain ⟨hx, hb, hml, hown, hts, hK, hX, hbl, hL, hz⟩ := C
  obtain ⟨hF, hM, hRel, hfd, hS⟩ := I
  have hbA : ¬ (fun q : Nat => s.heap.size ≤ q) b := Nat.not_le.mpr hbl
  refine lv_aload_n hx hb dL_law_682 rfl (lv_at hl 1 rfl) ?_
  refine lv_aload_n hx hb dL_law_683 rfl (lv_at hl 0 rfl) ?_
  refine lv_iload_n hx hb dL_law_684 rfl (lv_at hl 3 rfl) ?_
  refine lv_iconst (v := (1 : Int32)) hx hb dL_law_685 (by decide) ?_
  refine z_iadd hx hb hx3 kI_1 dL_law_686 (by omega) (fun z1 e1 => ?_)
  refine z_sld hx hb hX hbl hbA hS e1 (by omega) dL_law_687 ?_
  refine lv_aload_n hx hb dL_law_688 rfl (lv_at hl 0 rfl) ?_
  refine lv_iload_n hx hb dL_law_689 rfl (lv_at hl 3 rfl) ?_
  refine lv_iconst (v := (2 : Int32)) hx hb dL_law_690 (by decide) ?_
  refine z_iadd hx hb hx3 kI_2 dL_law_691 (by omega) (fun z2 e2 => ?_)
  refine z_sld hx hb hX hbl hbA hS e2 (by omega) dL_law_692 ?_
  refine lv_aload_n hx hb dL_law_693 rfl (lv_at hl 0 rfl) ?_
  refine lv_iload_n hx hb dL_law_694 rfl (lv_at hl 3 rfl) ?_
  refine lv_iconst (v := (3 : Int32)) hx hb dL_law_695 (by decide) ?_
  refine z_iadd hx hb hx3 kI_3 dL_law_696 (by omega) (fun z3 e3 => ?_)
  refine z_sld hx hb hX hbl hbA hS e3 (by omega) dL_law_697 ?_
  refine z_cV (As := [.int (xs (i + (1 : Int)).toNat), .int (xs (i + (2 : Int)).toNat), .int (xs (i + (3 : Int)).toNat)]) (rest := []) ⟨hx, hb, hml, hown, hts⟩ (kX4_hour l G z σ (xs (i + (1 : Int)).toNat) ((xs (i + (1 : Int)).toNat).toInt) rfl (xs (i + (2 : Int)).toNat) ((xs (i + (2 : Int)).toNat).toInt) rfl (xs (i + (3 : Int)).toNat) ((xs (i + (3 : Int)).toNat).toInt) rfl (by first | assumption | omega)) (cwV 3 hts gL_law_X4_hour rfl rfl rfl hyX4_hour ⟨Nat.le_of_ble_eq_true rfl, Nat.le_of_ble_eq_true rfl⟩) hK hF hF.1 rfl rfl hl.1 rfl (Nat.le_of_ble_eq_true rfl) dL_law_698 ⟨Nat.le_of_ble_eq_true rfl, Nat.le_of_ble_eq_true rfl⟩ (fun z4 e4 => ?_)
  have e4 : z4.toInt = a_hour σ ((xs (i + (1 : Int)).toNat).toInt) ((xs (i + (2 : Int)).toNat).toInt) ((xs (i + (3 : Int)).toNat).toInt) := e4
  refine lv_aload_n hx hb dL_law_701 rfl (lv_at hl 2 rfl) ?_
  refine lv_aload_n hx hb dL_law_702 rfl (lv_at hl 0 rfl) ?_
  refine lv_iload_n hx hb dL_law_703 rfl (lv_at hl 3 rfl) ?_
  refine lv_iconst (v := (1 : Int32)) hx hb dL_law_704 (by decide) ?_
  refine z_iadd hx hb hx3 kI_1 dL_law_705 (by omega) (fun z5 e5 => ?_)
  refine z_sld hx hb hX hbl hbA hS e5 (by omega) dL_law_706 ?_
  refine lv_aload_n hx hb dL_law_707 rfl (lv_at hl 0 rfl) ?_
  refine lv_iload_n hx hb dL_law_708 rfl (lv_at hl 3 rfl) ?_
  refine lv_iconst (v := (2 : Int32)) hx hb dL_law_709 (by decide) ?_
  refine z_iadd hx hb hx3 kI_2 dL_law_710 (by omega) (fun z6 e6 => ?_)
  refine z_sld hx hb hX hbl hbA hS e6 (by omega) dL_law_711 ?_
  refine lv_aload_n hx hb dL_law_712 rfl (lv_at hl 0 rfl) ?_
  refine lv_iload_n hx hb dL_law_713 rfl (lv_at hl 3 rfl) ?_
  refine lv_iconst (v := (3 : Int32)) hx hb dL_law_714 (by decide) ?_
  refine z_iadd hx hb hx3 kI_3 dL_law_715 (by omega) (fun z7 e7 => ?_)
  refine z_sld hx hb hX hbl hbA hS e7 (by omega) dL_law_716 ?_
  refine z_cV (As := [.int (xs (i + (1 : Int)).toNat), .int (xs (i + (2 : Int)).toNat), .int (xs (i + (3 : Int)).toNat)]) (rest := [.int z4]) ⟨hx, hb, hml, hown, hts⟩ (kX5_hour l G (z + 112) μ (xs (i + (1 : Int)).toNat) ((xs (i + (1 : Int)).toNat).toInt) rfl (xs (i + (2 : Int)).toNat) ((xs (i + (2 : Int)).toNat).toInt) rfl (xs (i + (3 : Int)).toNat) ((xs (i + (3 : Int)).toNat).toInt) rfl σ (by first | assumption | omega) (by first | assumption | omega)) (cwV 3 hts gL_law_X5_hour rfl rfl rfl hyX5_hour ⟨Nat.le_of_ble_eq_true rfl, Nat.le_of_ble_eq_true rfl⟩) hK hM hM.1 rfl rfl hl.1 rfl (Nat.le_of_ble_eq_true rfl) dL_law_717 ⟨Nat.le_of_ble_eq_true rfl, Nat.le_of_ble_eq_true rfl⟩ (fun z8 e8 => ?_)
  have e8 : z8.toInt = a_hour σ ((xs (i + (1 : Int)).toNat).toInt) ((xs (i + (2 : Int)).toNat).toInt) ((xs (i + (3 : Int)).toNat).toInt) := e8
  refine z_icmp_eq (tgt := 920) hx hb e4 e8 dL_law_720 (by decide) (fun c_9 => ?_) (fun c_9 => ?_)
  · exact kk _ _ _ _ ⟨hF, hM, hRel, hfd, hS⟩
  · omega

set_option maxHeartbeats 2000000 in
set_option maxRecDepth 100000 in
theorem law_725 {p : Program} {l : Launch} {e : Env} {s : State} {m : MethodId} {below : List Frame} {meth : Method} {c : Code} {b L z : Nat} {xs : Nat → Int32} {G : xG} {H : Heap} {locs : List Loc} {Q : State → Prop} {ls : Array Slot} {σ : FD} {μ : MD} {x3 : Int32} {i : Int} (C : LC p s m c b L xs G z) (hx3 : x3.toInt = i) (hi : 0 ≤ i ∧ i + 5 ≤ (L : Int)) (I : LI G z s.heap H locs σ μ) (hl : lv_has ls 4 [(0, .ref b), (1, .ref z), (2, .ref (z + 112)), (3, .int x3)]) (kk : ∀ (σ' : FD) (μ' : MD) (H' : Heap) (locs' : List Loc), LI G z s.heap H' locs' σ' μ' → W p l e room_1 s m (#[Value.ref b] : Array Value) below meth c H' locs' 117 20218 Q (F0 m 920 ls [])) : W p l e room_1 s m (#[Value.ref b] : Array Value) below meth c H locs 117 20218 Q (F0 m 725 ls []) := by
  obtain ⟨hx, hb, hml, hown, hts, hK, hX, hbl, hL, hz⟩ := C
  obtain ⟨hF, hM, hRel, hfd, hS⟩ := I
  have hbA : ¬ (fun q : Nat => s.heap.size ≤ q) b := Nat.not_le.mpr hbl
  refine lv_aload_n hx hb dL_law_725 rfl (lv_at hl 1 rfl) ?_
  refine lv_aload_n hx hb dL_law_726 rfl (lv_at hl 0 rfl) ?_
  refine lv_iload_n hx hb dL_law_727 rfl (lv_at hl 3 rfl) ?_
  refine lv_iconst (v := (1 : Int32)) hx hb dL_law_728 (by decide) ?_
  refine z_iadd hx hb hx3 kI_1 dL_law_729 (by omega) (fun z1 e1 => ?_)
  refine z_sld hx hb hX hbl hbA hS e1 (by omega) dL_law_730 ?_
  refine lv_aload_n hx hb dL_law_731 rfl (lv_at hl 0 rfl) ?_
  refine lv_iload_n hx hb dL_law_732 rfl (lv_at hl 3 rfl) ?_
  refine lv_iconst (v := (2 : Int32)) hx hb dL_law_733 (by decide) ?_
  refine z_iadd hx hb hx3 kI_2 dL_law_734 (by omega) (fun z2 e2 => ?_)
  refine z_sld hx hb hX hbl hbA hS e2 (by omega) dL_law_735 ?_
  refine lv_aload_n hx hb dL_law_736 rfl (lv_at hl 0 rfl) ?_
  refine lv_iload_n hx hb dL_law_737 rfl (lv_at hl 3 rfl) ?_
  refine lv_iconst (v := (3 : Int32)) hx hb dL_law_738 (by decide) ?_
  refine z_iadd hx hb hx3 kI_3 dL_law_739 (by omega) (fun z3 e3 => ?_)
  refine z_sld hx hb hX hbl hbA hS e3 (by omega) dL_law_740 ?_
  refine z_cV (As := [.int (xs (i + (1 : Int)).toNat), .int (xs (i + (2 : Int)).toNat), .int (xs (i + (3 : Int)).toNat)]) (rest := []) ⟨hx, hb, hml, hown, hts⟩ (kX4_gap l G z σ (xs (i + (1 : Int)).toNat) ((xs (i + (1 : Int)).toNat).toInt) rfl (xs (i + (2 : Int)).toNat) ((xs (i + (2 : Int)).toNat).toInt) rfl (xs (i + (3 : Int)).toNat) ((xs (i + (3 : Int)).toNat).toInt) rfl (by first | assumption | omega)) (cwV 3 hts gL_law_X4_gap rfl rfl rfl hyX4_gap ⟨Nat.le_of_ble_eq_true rfl, Nat.le_of_ble_eq_true rfl⟩) hK hF hF.1 rfl rfl hl.1 rfl (Nat.le_of_ble_eq_true rfl) dL_law_741 ⟨Nat.le_of_ble_eq_true rfl, Nat.le_of_ble_eq_true rfl⟩ (fun z4 e4 => ?_)
  have e4 : z4.toInt = a_gap σ ((xs (i + (1 : Int)).toNat).toInt) ((xs (i + (2 : Int)).toNat).toInt) ((xs (i + (3 : Int)).toNat).toInt) := e4
  refine lv_aload_n hx hb dL_law_744 rfl (lv_at hl 2 rfl) ?_
  refine lv_aload_n hx hb dL_law_745 rfl (lv_at hl 0 rfl) ?_
  refine lv_iload_n hx hb dL_law_746 rfl (lv_at hl 3 rfl) ?_
  refine lv_iconst (v := (1 : Int32)) hx hb dL_law_747 (by decide) ?_
  refine z_iadd hx hb hx3 kI_1 dL_law_748 (by omega) (fun z5 e5 => ?_)
  refine z_sld hx hb hX hbl hbA hS e5 (by omega) dL_law_749 ?_
  refine lv_aload_n hx hb dL_law_750 rfl (lv_at hl 0 rfl) ?_
  refine lv_iload_n hx hb dL_law_751 rfl (lv_at hl 3 rfl) ?_
  refine lv_iconst (v := (2 : Int32)) hx hb dL_law_752 (by decide) ?_
  refine z_iadd hx hb hx3 kI_2 dL_law_753 (by omega) (fun z6 e6 => ?_)
  refine z_sld hx hb hX hbl hbA hS e6 (by omega) dL_law_754 ?_
  refine lv_aload_n hx hb dL_law_755 rfl (lv_at hl 0 rfl) ?_
  refine lv_iload_n hx hb dL_law_756 rfl (lv_at hl 3 rfl) ?_
  refine lv_iconst (v := (3 : Int32)) hx hb dL_law_757 (by decide) ?_
  refine z_iadd hx hb hx3 kI_3 dL_law_758 (by omega) (fun z7 e7 => ?_)
  refine z_sld hx hb hX hbl hbA hS e7 (by omega) dL_law_759 ?_
  refine z_cV (As := [.int (xs (i + (1 : Int)).toNat), .int (xs (i + (2 : Int)).toNat), .int (xs (i + (3 : Int)).toNat)]) (rest := [.int z4]) ⟨hx, hb, hml, hown, hts⟩ (kX5_gap l G (z + 112) μ (xs (i + (1 : Int)).toNat) ((xs (i + (1 : Int)).toNat).toInt) rfl (xs (i + (2 : Int)).toNat) ((xs (i + (2 : Int)).toNat).toInt) rfl (xs (i + (3 : Int)).toNat) ((xs (i + (3 : Int)).toNat).toInt) rfl σ (by first | assumption | omega) (by first | assumption | omega)) (cwV 3 hts gL_law_X5_gap rfl rfl rfl hyX5_gap ⟨Nat.le_of_ble_eq_true rfl, Nat.le_of_ble_eq_true rfl⟩) hK hM hM.1 rfl rfl hl.1 rfl (Nat.le_of_ble_eq_true rfl) dL_law_760 ⟨Nat.le_of_ble_eq_true rfl, Nat.le_of_ble_eq_true rfl⟩ (fun z8 e8 => ?_)
  have e8 : z8.toInt = a_gap σ ((xs (i + (1 : Int)).toNat).toInt) ((xs (i + (2 : Int)).toNat).toInt) ((xs (i + (3 : Int)).toNat).toInt) := e8
  refine z_icmp_eq (tgt := 920) hx hb e4 e8 dL_law_763 (by decide) (fun c_9 => ?_) (fun c_9 => ?_)
  · exact kk _ _ _ _ ⟨hF, hM, hRel, hfd, hS⟩
  · omega

set_option maxHeartbeats 2000000 in
set_option maxRecDepth 100000 in
theorem law_768 {p : Program} {l : Launch} {e : Env} {s : State} {m : MethodId} {below : List Frame} {meth : Method} {c : Code} {b L z : Nat} {xs : Nat → Int32} {G : xG} {H : Heap} {locs : List Loc} {Q : State → Prop} {ls : Array Slot} {σ : FD} {μ : MD} {x3 : Int32} {i : Int} (C : LC p s m c b L xs G z) (hx3 : x3.toInt = i) (hi : 0 ≤ i ∧ i + 5 ≤ (L : Int)) (I : LI G z s.heap H locs σ μ) (hl : lv_has ls 4 [(0, .ref b), (1, .ref z), (2, .ref (z + 112)), (3, .int x3)]) (kk : ∀ (σ' : FD) (μ' : MD) (H' : Heap) (locs' : List Loc), LI G z s.heap H' locs' σ' μ' → W p l e room_1 s m (#[Value.ref b] : Array Value) below meth c H' locs' 117 20218 Q (F0 m 920 ls [])) : W p l e room_1 s m (#[Value.ref b] : Array Value) below meth c H locs 117 20218 Q (F0 m 768 ls []) := by
  obtain ⟨hx, hb, hml, hown, hts, hK, hX, hbl, hL, hz⟩ := C
  obtain ⟨hF, hM, hRel, hfd, hS⟩ := I
  have hbA : ¬ (fun q : Nat => s.heap.size ≤ q) b := Nat.not_le.mpr hbl
  refine lv_aload_n hx hb dL_law_768 rfl (lv_at hl 1 rfl) ?_
  refine lv_aload_n hx hb dL_law_769 rfl (lv_at hl 0 rfl) ?_
  refine lv_iload_n hx hb dL_law_770 rfl (lv_at hl 3 rfl) ?_
  refine lv_iconst (v := (1 : Int32)) hx hb dL_law_771 (by decide) ?_
  refine z_iadd hx hb hx3 kI_1 dL_law_772 (by omega) (fun z1 e1 => ?_)
  refine z_sld hx hb hX hbl hbA hS e1 (by omega) dL_law_773 ?_
  refine lv_aload_n hx hb dL_law_774 rfl (lv_at hl 0 rfl) ?_
  refine lv_iload_n hx hb dL_law_775 rfl (lv_at hl 3 rfl) ?_
  refine lv_iconst (v := (2 : Int32)) hx hb dL_law_776 (by decide) ?_
  refine z_iadd hx hb hx3 kI_2 dL_law_777 (by omega) (fun z2 e2 => ?_)
  refine z_sld hx hb hX hbl hbA hS e2 (by omega) dL_law_778 ?_
  refine lv_aload_n hx hb dL_law_779 rfl (lv_at hl 0 rfl) ?_
  refine lv_iload_n hx hb dL_law_780 rfl (lv_at hl 3 rfl) ?_
  refine lv_iconst (v := (3 : Int32)) hx hb dL_law_781 (by decide) ?_
  refine z_iadd hx hb hx3 kI_3 dL_law_782 (by omega) (fun z3 e3 => ?_)
  refine z_sld hx hb hX hbl hbA hS e3 (by omega) dL_law_783 ?_
  refine lv_aload_n hx hb dL_law_784 rfl (lv_at hl 0 rfl) ?_
  refine lv_iload_n hx hb dL_law_785 rfl (lv_at hl 3 rfl) ?_
  refine lv_iconst (v := (4 : Int32)) hx hb dL_law_786 (by decide) ?_
  refine z_iadd hx hb hx3 kI_4 dL_law_787 (by omega) (fun z4 e4 => ?_)
  refine z_sld hx hb hX hbl hbA hS e4 (by omega) dL_law_788 ?_
  refine z_cV (As := [.int (xs (i + (1 : Int)).toNat), .int (xs (i + (2 : Int)).toNat), .int (xs (i + (3 : Int)).toNat), .int (xs (i + (4 : Int)).toNat)]) (rest := []) ⟨hx, hb, hml, hown, hts⟩ (kX4_misfit l G z σ (xs (i + (1 : Int)).toNat) ((xs (i + (1 : Int)).toNat).toInt) rfl (xs (i + (2 : Int)).toNat) ((xs (i + (2 : Int)).toNat).toInt) rfl (xs (i + (3 : Int)).toNat) ((xs (i + (3 : Int)).toNat).toInt) rfl (xs (i + (4 : Int)).toNat) ((xs (i + (4 : Int)).toNat).toInt) rfl (by first | assumption | omega)) (cwV 4 hts gL_law_X4_misfit rfl rfl rfl hyX4_misfit ⟨Nat.le_of_ble_eq_true rfl, Nat.le_of_ble_eq_true rfl⟩) hK hF hF.1 rfl rfl hl.1 rfl (Nat.le_of_ble_eq_true rfl) dL_law_789 ⟨Nat.le_of_ble_eq_true rfl, Nat.le_of_ble_eq_true rfl⟩ (fun z5 e5 => ?_)
  have e5 : z5.toInt = a_misfit σ ((xs (i + (1 : Int)).toNat).toInt) ((xs (i + (2 : Int)).toNat).toInt) ((xs (i + (3 : Int)).toNat).toInt) ((xs (i + (4 : Int)).toNat).toInt) := e5
  refine lv_aload_n hx hb dL_law_792 rfl (lv_at hl 2 rfl) ?_
  refine lv_aload_n hx hb dL_law_793 rfl (lv_at hl 0 rfl) ?_
  refine lv_iload_n hx hb dL_law_794 rfl (lv_at hl 3 rfl) ?_
  refine lv_iconst (v := (1 : Int32)) hx hb dL_law_795 (by decide) ?_
  refine z_iadd hx hb hx3 kI_1 dL_law_796 (by omega) (fun z6 e6 => ?_)
  refine z_sld hx hb hX hbl hbA hS e6 (by omega) dL_law_797 ?_
  refine lv_aload_n hx hb dL_law_798 rfl (lv_at hl 0 rfl) ?_
  refine lv_iload_n hx hb dL_law_799 rfl (lv_at hl 3 rfl) ?_
  refine lv_iconst (v := (2 : Int32)) hx hb dL_law_800 (by decide) ?_
  refine z_iadd hx hb hx3 kI_2 dL_law_801 (by omega) (fun z7 e7 => ?_)
  refine z_sld hx hb hX hbl hbA hS e7 (by omega) dL_law_802 ?_
  refine lv_aload_n hx hb dL_law_803 rfl (lv_at hl 0 rfl) ?_
  refine lv_iload_n hx hb dL_law_804 rfl (lv_at hl 3 rfl) ?_
  refine lv_iconst (v := (3 : Int32)) hx hb dL_law_805 (by decide) ?_
  refine z_iadd hx hb hx3 kI_3 dL_law_806 (by omega) (fun z8 e8 => ?_)
  refine z_sld hx hb hX hbl hbA hS e8 (by omega) dL_law_807 ?_
  refine lv_aload_n hx hb dL_law_808 rfl (lv_at hl 0 rfl) ?_
  refine lv_iload_n hx hb dL_law_809 rfl (lv_at hl 3 rfl) ?_
  refine lv_iconst (v := (4 : Int32)) hx hb dL_law_810 (by decide) ?_
  refine z_iadd hx hb hx3 kI_4 dL_law_811 (by omega) (fun z9 e9 => ?_)
  refine z_sld hx hb hX hbl hbA hS e9 (by omega) dL_law_812 ?_
  refine z_cV (As := [.int (xs (i + (1 : Int)).toNat), .int (xs (i + (2 : Int)).toNat), .int (xs (i + (3 : Int)).toNat), .int (xs (i + (4 : Int)).toNat)]) (rest := [.int z5]) ⟨hx, hb, hml, hown, hts⟩ (kX5_misfit l G (z + 112) μ (xs (i + (1 : Int)).toNat) ((xs (i + (1 : Int)).toNat).toInt) rfl (xs (i + (2 : Int)).toNat) ((xs (i + (2 : Int)).toNat).toInt) rfl (xs (i + (3 : Int)).toNat) ((xs (i + (3 : Int)).toNat).toInt) rfl (xs (i + (4 : Int)).toNat) ((xs (i + (4 : Int)).toNat).toInt) rfl σ (by first | assumption | omega) (by first | assumption | omega)) (cwV 4 hts gL_law_X5_misfit rfl rfl rfl hyX5_misfit ⟨Nat.le_of_ble_eq_true rfl, Nat.le_of_ble_eq_true rfl⟩) hK hM hM.1 rfl rfl hl.1 rfl (Nat.le_of_ble_eq_true rfl) dL_law_813 ⟨Nat.le_of_ble_eq_true rfl, Nat.le_of_ble_eq_true rfl⟩ (fun z10 e10 => ?_)
  have e10 : z10.toInt = a_misfit σ ((xs (i + (1 : Int)).toNat).toInt) ((xs (i + (2 : Int)).toNat).toInt) ((xs (i + (3 : Int)).toNat).toInt) ((xs (i + (4 : Int)).toNat).toInt) := e10
  refine z_icmp_eq (tgt := 920) hx hb e5 e10 dL_law_816 (by decide) (fun c_11 => ?_) (fun c_11 => ?_)
  · exact kk _ _ _ _ ⟨hF, hM, hRel, hfd, hS⟩
  · omega

set_option maxHeartbeats 2000000 in
set_option maxRecDepth 100000 in
theorem law_821 {p : Program} {l : Launch} {e : Env} {s : State} {m : MethodId} {below : List Frame} {meth : Method} {c : Code} {b L z : Nat} {xs : Nat → Int32} {G : xG} {H : Heap} {locs : List Loc} {Q : State → Prop} {ls : Array Slot} {σ : FD} {μ : MD} {x3 : Int32} {i : Int} (C : LC p s m c b L xs G z) (hx3 : x3.toInt = i) (hi : 0 ≤ i ∧ i + 5 ≤ (L : Int)) (I : LI G z s.heap H locs σ μ) (hl : lv_has ls 4 [(0, .ref b), (1, .ref z), (2, .ref (z + 112)), (3, .int x3)]) (kk : ∀ (σ' : FD) (μ' : MD) (H' : Heap) (locs' : List Loc), LI G z s.heap H' locs' σ' μ' → W p l e room_1 s m (#[Value.ref b] : Array Value) below meth c H' locs' 117 20218 Q (F0 m 920 ls [])) : W p l e room_1 s m (#[Value.ref b] : Array Value) below meth c H locs 117 20218 Q (F0 m 821 ls []) := by
  obtain ⟨hx, hb, hml, hown, hts, hK, hX, hbl, hL, hz⟩ := C
  obtain ⟨hF, hM, hRel, hfd, hS⟩ := I
  have hbA : ¬ (fun q : Nat => s.heap.size ≤ q) b := Nat.not_le.mpr hbl
  refine lv_aload_n hx hb dL_law_821 rfl (lv_at hl 1 rfl) ?_
  refine lv_aload_n hx hb dL_law_822 rfl (lv_at hl 0 rfl) ?_
  refine lv_iload_n hx hb dL_law_823 rfl (lv_at hl 3 rfl) ?_
  refine lv_iconst (v := (1 : Int32)) hx hb dL_law_824 (by decide) ?_
  refine z_iadd hx hb hx3 kI_1 dL_law_825 (by omega) (fun z1 e1 => ?_)
  refine z_sld hx hb hX hbl hbA hS e1 (by omega) dL_law_826 ?_
  refine lv_aload_n hx hb dL_law_827 rfl (lv_at hl 0 rfl) ?_
  refine lv_iload_n hx hb dL_law_828 rfl (lv_at hl 3 rfl) ?_
  refine lv_iconst (v := (2 : Int32)) hx hb dL_law_829 (by decide) ?_
  refine z_iadd hx hb hx3 kI_2 dL_law_830 (by omega) (fun z2 e2 => ?_)
  refine z_sld hx hb hX hbl hbA hS e2 (by omega) dL_law_831 ?_
  refine lv_aload_n hx hb dL_law_832 rfl (lv_at hl 0 rfl) ?_
  refine lv_iload_n hx hb dL_law_833 rfl (lv_at hl 3 rfl) ?_
  refine lv_iconst (v := (3 : Int32)) hx hb dL_law_834 (by decide) ?_
  refine z_iadd hx hb hx3 kI_3 dL_law_835 (by omega) (fun z3 e3 => ?_)
  refine z_sld hx hb hX hbl hbA hS e3 (by omega) dL_law_836 ?_
  refine z_cV (As := [.int (xs (i + (1 : Int)).toNat), .int (xs (i + (2 : Int)).toNat), .int (xs (i + (3 : Int)).toNat)]) (rest := []) ⟨hx, hb, hml, hown, hts⟩ (kX4_bestPhase l G z σ (xs (i + (1 : Int)).toNat) ((xs (i + (1 : Int)).toNat).toInt) rfl (xs (i + (2 : Int)).toNat) ((xs (i + (2 : Int)).toNat).toInt) rfl (xs (i + (3 : Int)).toNat) ((xs (i + (3 : Int)).toNat).toInt) rfl (by first | assumption | omega)) (cwV 3 hts gL_law_X4_bestPhase rfl rfl rfl hyX4_bestPhase ⟨Nat.le_of_ble_eq_true rfl, Nat.le_of_ble_eq_true rfl⟩) hK hF hF.1 rfl rfl hl.1 rfl (Nat.le_of_ble_eq_true rfl) dL_law_837 ⟨Nat.le_of_ble_eq_true rfl, Nat.le_of_ble_eq_true rfl⟩ (fun z4 e4 => ?_)
  have e4 : z4.toInt = a_bestPhase σ ((xs (i + (1 : Int)).toNat).toInt) ((xs (i + (2 : Int)).toNat).toInt) ((xs (i + (3 : Int)).toNat).toInt) := e4
  refine lv_aload_n hx hb dL_law_840 rfl (lv_at hl 2 rfl) ?_
  refine lv_aload_n hx hb dL_law_841 rfl (lv_at hl 0 rfl) ?_
  refine lv_iload_n hx hb dL_law_842 rfl (lv_at hl 3 rfl) ?_
  refine lv_iconst (v := (1 : Int32)) hx hb dL_law_843 (by decide) ?_
  refine z_iadd hx hb hx3 kI_1 dL_law_844 (by omega) (fun z5 e5 => ?_)
  refine z_sld hx hb hX hbl hbA hS e5 (by omega) dL_law_845 ?_
  refine lv_aload_n hx hb dL_law_846 rfl (lv_at hl 0 rfl) ?_
  refine lv_iload_n hx hb dL_law_847 rfl (lv_at hl 3 rfl) ?_
  refine lv_iconst (v := (2 : Int32)) hx hb dL_law_848 (by decide) ?_
  refine z_iadd hx hb hx3 kI_2 dL_law_849 (by omega) (fun z6 e6 => ?_)
  refine z_sld hx hb hX hbl hbA hS e6 (by omega) dL_law_850 ?_
  refine lv_aload_n hx hb dL_law_851 rfl (lv_at hl 0 rfl) ?_
  refine lv_iload_n hx hb dL_law_852 rfl (lv_at hl 3 rfl) ?_
  refine lv_iconst (v := (3 : Int32)) hx hb dL_law_853 (by decide) ?_
  refine z_iadd hx hb hx3 kI_3 dL_law_854 (by omega) (fun z7 e7 => ?_)
  refine z_sld hx hb hX hbl hbA hS e7 (by omega) dL_law_855 ?_
  refine z_cV (As := [.int (xs (i + (1 : Int)).toNat), .int (xs (i + (2 : Int)).toNat), .int (xs (i + (3 : Int)).toNat)]) (rest := [.int z4]) ⟨hx, hb, hml, hown, hts⟩ (kX5_bestPhase l G (z + 112) μ (xs (i + (1 : Int)).toNat) ((xs (i + (1 : Int)).toNat).toInt) rfl (xs (i + (2 : Int)).toNat) ((xs (i + (2 : Int)).toNat).toInt) rfl (xs (i + (3 : Int)).toNat) ((xs (i + (3 : Int)).toNat).toInt) rfl σ (by first | assumption | omega) (by first | assumption | omega)) (cwV 3 hts gL_law_X5_bestPhase rfl rfl rfl hyX5_bestPhase ⟨Nat.le_of_ble_eq_true rfl, Nat.le_of_ble_eq_true rfl⟩) hK hM hM.1 rfl rfl hl.1 rfl (Nat.le_of_ble_eq_true rfl) dL_law_856 ⟨Nat.le_of_ble_eq_true rfl, Nat.le_of_ble_eq_true rfl⟩ (fun z8 e8 => ?_)
  have e8 : z8.toInt = a_bestPhase σ ((xs (i + (1 : Int)).toNat).toInt) ((xs (i + (2 : Int)).toNat).toInt) ((xs (i + (3 : Int)).toNat).toInt) := e8
  refine z_icmp_eq (tgt := 920) hx hb e4 e8 dL_law_859 (by decide) (fun c_9 => ?_) (fun c_9 => ?_)
  · exact kk _ _ _ _ ⟨hF, hM, hRel, hfd, hS⟩
  · omega

set_option maxHeartbeats 2000000 in
set_option maxRecDepth 100000 in
theorem law_864 {p : Program} {l : Launch} {e : Env} {s : State} {m : MethodId} {below : List Frame} {meth : Method} {c : Code} {b L z : Nat} {xs : Nat → Int32} {G : xG} {H : Heap} {locs : List Loc} {Q : State → Prop} {ls : Array Slot} {σ : FD} {μ : MD} {x3 : Int32} {i : Int} (C : LC p s m c b L xs G z) (hx3 : x3.toInt = i) (hi : 0 ≤ i ∧ i + 5 ≤ (L : Int)) (I : LI G z s.heap H locs σ μ) (hl : lv_has ls 4 [(0, .ref b), (1, .ref z), (2, .ref (z + 112)), (3, .int x3)]) (kk : ∀ (σ' : FD) (μ' : MD) (H' : Heap) (locs' : List Loc), LI G z s.heap H' locs' σ' μ' → W p l e room_1 s m (#[Value.ref b] : Array Value) below meth c H' locs' 117 20218 Q (F0 m 920 ls [])) : W p l e room_1 s m (#[Value.ref b] : Array Value) below meth c H locs 117 20218 Q (F0 m 864 ls []) := by
  obtain ⟨hx, hb, hml, hown, hts, hK, hX, hbl, hL, hz⟩ := C
  obtain ⟨hF, hM, hRel, hfd, hS⟩ := I
  have hbA : ¬ (fun q : Nat => s.heap.size ≤ q) b := Nat.not_le.mpr hbl
  refine lv_aload_n hx hb dL_law_864 rfl (lv_at hl 1 rfl) ?_
  refine lv_aload_n hx hb dL_law_865 rfl (lv_at hl 0 rfl) ?_
  refine lv_iload_n hx hb dL_law_866 rfl (lv_at hl 3 rfl) ?_
  refine lv_iconst (v := (1 : Int32)) hx hb dL_law_867 (by decide) ?_
  refine z_iadd hx hb hx3 kI_1 dL_law_868 (by omega) (fun z1 e1 => ?_)
  refine z_sld hx hb hX hbl hbA hS e1 (by omega) dL_law_869 ?_
  refine lv_aload_n hx hb dL_law_870 rfl (lv_at hl 0 rfl) ?_
  refine lv_iload_n hx hb dL_law_871 rfl (lv_at hl 3 rfl) ?_
  refine lv_iconst (v := (2 : Int32)) hx hb dL_law_872 (by decide) ?_
  refine z_iadd hx hb hx3 kI_2 dL_law_873 (by omega) (fun z2 e2 => ?_)
  refine z_sld hx hb hX hbl hbA hS e2 (by omega) dL_law_874 ?_
  refine z_cV (As := [.int (xs (i + (1 : Int)).toNat), .int (xs (i + (2 : Int)).toNat)]) (rest := []) ⟨hx, hb, hml, hown, hts⟩ (kX4_high l G z σ (xs (i + (1 : Int)).toNat) ((xs (i + (1 : Int)).toNat).toInt) rfl (xs (i + (2 : Int)).toNat) ((xs (i + (2 : Int)).toNat).toInt) rfl (by first | assumption | omega)) (cwV 2 hts gL_law_X4_high rfl rfl rfl hyX4_high ⟨Nat.le_of_ble_eq_true rfl, Nat.le_of_ble_eq_true rfl⟩) hK hF hF.1 rfl rfl hl.1 rfl (Nat.le_of_ble_eq_true rfl) dL_law_875 ⟨Nat.le_of_ble_eq_true rfl, Nat.le_of_ble_eq_true rfl⟩ (fun z3 e3 => ?_)
  have e3 : z3.toInt = a_high σ ((xs (i + (1 : Int)).toNat).toInt) ((xs (i + (2 : Int)).toNat).toInt) := e3
  refine lv_aload_n hx hb dL_law_878 rfl (lv_at hl 2 rfl) ?_
  refine lv_aload_n hx hb dL_law_879 rfl (lv_at hl 0 rfl) ?_
  refine lv_iload_n hx hb dL_law_880 rfl (lv_at hl 3 rfl) ?_
  refine lv_iconst (v := (1 : Int32)) hx hb dL_law_881 (by decide) ?_
  refine z_iadd hx hb hx3 kI_1 dL_law_882 (by omega) (fun z4 e4 => ?_)
  refine z_sld hx hb hX hbl hbA hS e4 (by omega) dL_law_883 ?_
  refine lv_aload_n hx hb dL_law_884 rfl (lv_at hl 0 rfl) ?_
  refine lv_iload_n hx hb dL_law_885 rfl (lv_at hl 3 rfl) ?_
  refine lv_iconst (v := (2 : Int32)) hx hb dL_law_886 (by decide) ?_
  refine z_iadd hx hb hx3 kI_2 dL_law_887 (by omega) (fun z5 e5 => ?_)
  refine z_sld hx hb hX hbl hbA hS e5 (by omega) dL_law_888 ?_
  refine z_cV (As := [.int (xs (i + (1 : Int)).toNat), .int (xs (i + (2 : Int)).toNat)]) (rest := [.int z3]) ⟨hx, hb, hml, hown, hts⟩ (kX5_high l G (z + 112) μ (xs (i + (1 : Int)).toNat) ((xs (i + (1 : Int)).toNat).toInt) rfl (xs (i + (2 : Int)).toNat) ((xs (i + (2 : Int)).toNat).toInt) rfl σ (by first | assumption | omega) (by first | assumption | omega)) (cwV 2 hts gL_law_X5_high rfl rfl rfl hyX5_high ⟨Nat.le_of_ble_eq_true rfl, Nat.le_of_ble_eq_true rfl⟩) hK hM hM.1 rfl rfl hl.1 rfl (Nat.le_of_ble_eq_true rfl) dL_law_889 ⟨Nat.le_of_ble_eq_true rfl, Nat.le_of_ble_eq_true rfl⟩ (fun z6 e6 => ?_)
  have e6 : z6.toInt = a_high σ ((xs (i + (1 : Int)).toNat).toInt) ((xs (i + (2 : Int)).toNat).toInt) := e6
  refine z_icmp_eq (tgt := 920) hx hb e3 e6 dL_law_892 (by decide) (fun c_7 => ?_) (fun c_7 => ?_)
  · exact kk _ _ _ _ ⟨hF, hM, hRel, hfd, hS⟩
  · omega

set_option maxHeartbeats 2000000 in
set_option maxRecDepth 100000 in
theorem law_897 {p : Program} {l : Launch} {e : Env} {s : State} {m : MethodId} {below : List Frame} {meth : Method} {c : Code} {b L z : Nat} {xs : Nat → Int32} {G : xG} {H : Heap} {locs : List Loc} {Q : State → Prop} {ls : Array Slot} {σ : FD} {μ : MD} {x3 : Int32} {i : Int} (C : LC p s m c b L xs G z) (hx3 : x3.toInt = i) (hi : 0 ≤ i ∧ i + 5 ≤ (L : Int)) (I : LI G z s.heap H locs σ μ) (hl : lv_has ls 4 [(0, .ref b), (1, .ref z), (2, .ref (z + 112)), (3, .int x3)]) (kk : ∀ (σ' : FD) (μ' : MD) (H' : Heap) (locs' : List Loc), LI G z s.heap H' locs' σ' μ' → W p l e room_1 s m (#[Value.ref b] : Array Value) below meth c H' locs' 117 20218 Q (F0 m 920 ls [])) : W p l e room_1 s m (#[Value.ref b] : Array Value) below meth c H locs 117 20218 Q (F0 m 897 ls []) := by
  obtain ⟨hx, hb, hml, hown, hts, hK, hX, hbl, hL, hz⟩ := C
  obtain ⟨hF, hM, hRel, hfd, hS⟩ := I
  have hbA : ¬ (fun q : Nat => s.heap.size ≤ q) b := Nat.not_le.mpr hbl
  refine lv_aload_n hx hb dL_law_897 rfl (lv_at hl 1 rfl) ?_
  refine lv_aload_n hx hb dL_law_898 rfl (lv_at hl 0 rfl) ?_
  refine lv_iload_n hx hb dL_law_899 rfl (lv_at hl 3 rfl) ?_
  refine lv_iconst (v := (1 : Int32)) hx hb dL_law_900 (by decide) ?_
  refine z_iadd hx hb hx3 kI_1 dL_law_901 (by omega) (fun z1 e1 => ?_)
  refine z_sld hx hb hX hbl hbA hS e1 (by omega) dL_law_902 ?_
  refine z_cV (As := [.int (xs (i + (1 : Int)).toNat)]) (rest := []) ⟨hx, hb, hml, hown, hts⟩ (kX4_count l G z σ (xs (i + (1 : Int)).toNat) ((xs (i + (1 : Int)).toNat).toInt) rfl (by first | assumption | omega)) (cwV 1 hts gL_law_X4_count rfl rfl rfl hyX4_count ⟨Nat.le_of_ble_eq_true rfl, Nat.le_of_ble_eq_true rfl⟩) hK hF hF.1 rfl rfl hl.1 rfl (Nat.le_of_ble_eq_true rfl) dL_law_903 ⟨Nat.le_of_ble_eq_true rfl, Nat.le_of_ble_eq_true rfl⟩ (fun z2 e2 => ?_)
  have e2 : z2.toInt = a_count σ ((xs (i + (1 : Int)).toNat).toInt) := e2
  refine lv_aload_n hx hb dL_law_906 rfl (lv_at hl 2 rfl) ?_
  refine lv_aload_n hx hb dL_law_907 rfl (lv_at hl 0 rfl) ?_
  refine lv_iload_n hx hb dL_law_908 rfl (lv_at hl 3 rfl) ?_
  refine lv_iconst (v := (1 : Int32)) hx hb dL_law_909 (by decide) ?_
  refine z_iadd hx hb hx3 kI_1 dL_law_910 (by omega) (fun z3 e3 => ?_)
  refine z_sld hx hb hX hbl hbA hS e3 (by omega) dL_law_911 ?_
  refine z_cV (As := [.int (xs (i + (1 : Int)).toNat)]) (rest := [.int z2]) ⟨hx, hb, hml, hown, hts⟩ (kX5_count l G (z + 112) μ (xs (i + (1 : Int)).toNat) ((xs (i + (1 : Int)).toNat).toInt) rfl σ (by first | assumption | omega) (by first | assumption | omega)) (cwV 1 hts gL_law_X5_count rfl rfl rfl hyX5_count ⟨Nat.le_of_ble_eq_true rfl, Nat.le_of_ble_eq_true rfl⟩) hK hM hM.1 rfl rfl hl.1 rfl (Nat.le_of_ble_eq_true rfl) dL_law_912 ⟨Nat.le_of_ble_eq_true rfl, Nat.le_of_ble_eq_true rfl⟩ (fun z4 e4 => ?_)
  have e4 : z4.toInt = a_count σ ((xs (i + (1 : Int)).toNat).toInt) := e4
  refine z_icmp_eq (tgt := 920) hx hb e2 e4 dL_law_915 (by decide) (fun c_5 => ?_) (fun c_5 => ?_)
  · exact kk _ _ _ _ ⟨hF, hM, hRel, hfd, hS⟩
  · omega
