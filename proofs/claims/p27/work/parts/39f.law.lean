/-- what stands, all the law long -/
def LC (p : Program) (s : State) (m : MethodId) (c : Code) (b L : Nat) (xs : Nat → Int32) (G : xG) (z : Nat) : Prop := p.tables.exec = Jvm.exec ∧ c.code = cL_law ∧ c.maxLocals = 8 ∧ s.vm.findClass RL = some m.cls ∧ (∀ w ∈ wsL_law, w.before (#[Value.ref b] : Array Value) s = true) ∧ xK G s ∧ va_X b L xs s s.heap ∧ b < s.heap.size ∧ L ≤ 260 ∧ s.heap.size ≤ z
/-- the object -/
def LI (G : xG) (z : Nat) (H0 H : Heap) (locs : List Loc) (σ : FD) : Prop := SFP G H z σ ∧ fdX σ ∧ va_S (fun q : Nat => H0.size ≤ q) H0 H locs

set_option maxHeartbeats 4000000 in
set_option maxRecDepth 100000 in
theorem law_8 {p : Program} {l : Launch} {e : Env} {s : State} {m : MethodId} {below : List Frame} {meth : Method} {c : Code} {b L z : Nat} {xs : Nat → Int32} {G : xG} {H : Heap} {locs : List Loc} {Q : State → Prop} {ls : Array Slot} {σ : FD} (C : LC p s m c b L xs G z) (I : LI G z s.heap H locs σ) (hl : lv_has ls 8 [(0, .ref b), (1, .ref z)]) (kk : ∀ (σ' : FD) (H' : Heap) (locs' : List Loc), LI G z s.heap H' locs' σ' → ∀ ls : Array Slot, lv_has ls 8 [(0, .ref b), (1, .ref z)] → W p l e room_1 s m (#[Value.ref b] : Array Value) below meth c H' locs' 112 6930 Q (F0 m 22 ls [])) : W p l e room_1 s m (#[Value.ref b] : Array Value) below meth c H locs 112 6930 Q (F0 m 8 ls []) := by
  obtain ⟨hx, hb, hml, hown, hts, hK, hX, hbl, hL, hz⟩ := C
  obtain ⟨hF, hfx, hS⟩ := I
  have hok := hfx.1
  have hbA : ¬ (fun q : Nat => s.heap.size ≤ q) b := Nat.not_le.mpr hbl
  refine lv_aload_n hx hb dL_law_8 rfl (lv_at hl 1 rfl) ?_
  refine lv_aload_n hx hb dL_law_9 rfl (lv_at hl 0 rfl) ?_
  refine lv_iconst (v := (0 : Int32)) hx hb dL_law_10 (by decide) ?_
  refine z_cX (As := [.ref b, .int (0 : Int32)]) (rest := [.ref z]) ⟨hx, hb, hml, hown, hts⟩ (kL_cell l b L xs hL (0 : Int32) (0 : Int) kI_0 (by omega)) (va_cwS 2 hts gL_law_L_cell rfl rfl rfl hyL_cell ⟨Nat.le_of_ble_eq_true rfl, Nat.le_of_ble_eq_true rfl⟩) (hX.kept (hS.2.1 b hbl hbA)) rfl hl.1 rfl (Nat.le_of_ble_eq_true rfl) dL_law_11 ⟨Nat.le_of_ble_eq_true rfl, Nat.le_of_ble_eq_true rfl⟩ (fun z1 _ => ?_)
  obtain ⟨a1, e1⟩ : ∃ a : Int, z1.toInt = a := ⟨_, rfl⟩
  refine lv_aload_n hx hb dL_law_14 rfl (lv_at hl 0 rfl) ?_
  refine lv_iconst (v := (1 : Int32)) hx hb dL_law_15 (by decide) ?_
  refine z_cX (As := [.ref b, .int (1 : Int32)]) (rest := [.int z1, .ref z]) ⟨hx, hb, hml, hown, hts⟩ (kL_cell l b L xs hL (1 : Int32) (1 : Int) kI_1 (by omega)) (va_cwS 2 hts gL_law_L_cell rfl rfl rfl hyL_cell ⟨Nat.le_of_ble_eq_true rfl, Nat.le_of_ble_eq_true rfl⟩) (hX.kept (hS.2.1 b hbl hbA)) rfl hl.1 rfl (Nat.le_of_ble_eq_true rfl) dL_law_16 ⟨Nat.le_of_ble_eq_true rfl, Nat.le_of_ble_eq_true rfl⟩ (fun z2 _ => ?_)
  obtain ⟨a2, e2⟩ : ∃ a : Int, z2.toInt = a := ⟨_, rfl⟩
  refine z_cSv (As := [.ref z, .int z1, .int z2]) (rest := []) ⟨hx, hb, hml, hown, hts⟩ (kL_begin l G z σ z1 a1 e1 z2 a2 e2 hfx) (va_cwS 3 hts gL_law_L_begin rfl rfl rfl hyL_begin ⟨Nat.le_of_ble_eq_true rfl, Nat.le_of_ble_eq_true rfl⟩) hK hF rfl hl.1 rfl (Nat.le_of_ble_eq_true rfl) dL_law_19 ⟨Nat.le_of_ble_eq_true rfl, Nat.le_of_ble_eq_true rfl⟩ hS (fun q h => by simp only [iv] at h; show s.heap.size ≤ q; omega) (fun H locs hB hsz hq hS => ?_)
  obtain ⟨m19, hF, hp19⟩ := hB
  have hF : SFP G H z m19 := hF
  have hp19 : fdX m19 := hp19
  have hfx := hp19
  exact kk _ _ _ ⟨hF, hfx, hS⟩ ls (lv_sub hl [0, 1] rfl)

set_option maxHeartbeats 4000000 in
set_option maxRecDepth 100000 in
theorem law_30 {p : Program} {l : Launch} {e : Env} {s : State} {m : MethodId} {below : List Frame} {meth : Method} {c : Code} {b L z : Nat} {xs : Nat → Int32} {G : xG} {H : Heap} {locs : List Loc} {Q : State → Prop} {ls : Array Slot} {σ : FD} {x2 : Int32} {i : Int} (C : LC p s m c b L xs G z) (hx2 : x2.toInt = i) (hi : 2 ≤ i ∧ i < 42) (I : LI G z s.heap H locs σ) (hl : lv_has ls 8 [(0, .ref b), (1, .ref z), (2, .int x2)]) (kk : ∀ (σ' : FD) (H' : Heap) (locs' : List Loc), LI G z s.heap H' locs' σ' → ∀ ls : Array Slot, lv_has ls 8 [(0, .ref b), (1, .ref z), (2, .int x2)] → W p l e room_1 s m (#[Value.ref b] : Array Value) below meth c H' locs' 112 6930 Q (F0 m 186 ls [])) : W p l e room_1 s m (#[Value.ref b] : Array Value) below meth c H locs 112 6930 Q (F0 m 30 ls []) := by
  obtain ⟨hx, hb, hml, hown, hts, hK, hX, hbl, hL, hz⟩ := C
  obtain ⟨hF, hfx, hS⟩ := I
  have hok := hfx.1
  have hbA : ¬ (fun q : Nat => s.heap.size ≤ q) b := Nat.not_le.mpr hbl
  refine lv_aload_n hx hb dL_law_30 rfl (lv_at hl 0 rfl) ?_
  refine lv_iload_n hx hb dL_law_31 rfl (lv_at hl 2 rfl) ?_
  refine z_cX (As := [.ref b, .int x2]) (rest := []) ⟨hx, hb, hml, hown, hts⟩ (kL_cell l b L xs hL x2 i hx2 (by omega)) (va_cwS 2 hts gL_law_L_cell rfl rfl rfl hyL_cell ⟨Nat.le_of_ble_eq_true rfl, Nat.le_of_ble_eq_true rfl⟩) (hX.kept (hS.2.1 b hbl hbA)) rfl hl.1 rfl (Nat.le_of_ble_eq_true rfl) dL_law_32 ⟨Nat.le_of_ble_eq_true rfl, Nat.le_of_ble_eq_true rfl⟩ (fun z1 _ => ?_)
  obtain ⟨a1, e1⟩ : ∃ a : Int, z1.toInt = a := ⟨_, rfl⟩
  refine lv_istore_n hx hb dL_law_35 rfl hl (by decide) rfl (fun ls hl => ?_)
  have hl : lv_has ls 8 [(3, .int z1), (0, .ref b), (1, .ref z), (2, .int x2)] := hl
  refine lv_aload_n hx hb dL_law_36 rfl (lv_at hl 2 rfl) ?_
  refine lv_iload_n hx hb dL_law_37 rfl (lv_at hl 0 rfl) ?_
  refine z_cSw (As := [.ref z, .int z1]) (rest := []) ⟨hx, hb, hml, hown, hts⟩ (kL_does l G z σ z1 a1 e1 hfx) (va_cwS 2 hts gL_law_L_does rfl rfl rfl hyL_does ⟨Nat.le_of_ble_eq_true rfl, Nat.le_of_ble_eq_true rfl⟩) hK hF rfl hl.1 rfl (Nat.le_of_ble_eq_true rfl) dL_law_38 ⟨Nat.le_of_ble_eq_true rfl, Nat.le_of_ble_eq_true rfl⟩ hS (fun q h => by simp only [iv] at h; show s.heap.size ≤ q; omega) (fun z2 H locs e2 hB hsz hq hS => ?_)
  obtain ⟨m38, hF, hp38⟩ := hB
  have hF : SFP G H z m38 := hF
  have hp38 : fdX m38 := hp38
  replace e2 : -5 ≤ z2.toInt := e2
  have hfx := hp38
  have hok := hfx.1
  obtain ⟨cf, hcf⟩ : ∃ g : Int → Int, ∀ u, a_count m38 u = g u := ⟨fun u => a_count m38 u, fun _ => rfl⟩
  have hsum := ac_sum hok
  have hcb := ac_b hok
  simp only [hcf] at hsum hcb
  refine lv_istore hx hb dL_law_41 hl (by decide) rfl (fun ls hl => ?_)
  have hl : lv_has ls 8 [(4, .int z2), (3, .int z1), (0, .ref b), (1, .ref z), (2, .int x2)] := hl
  refine lv_iload_n hx hb dL_law_43 rfl (lv_at hl 1 rfl) ?_
  refine lv_iconst (v := (5 : Int32)) hx hb dL_law_44 (by decide) ?_
  refine lv_ishr hx hb dL_law_45 ?_
  obtain ⟨a3, e3⟩ : ∃ a : Int, (z1 >>> ((5 : Int32) &&& 31)).toInt = a := ⟨_, rfl⟩
  refine lv_iconst (v := (3 : Int32)) hx hb dL_law_46 (by decide) ?_
  refine z_cS (As := [.int (z1 >>> ((5 : Int32) &&& 31)), .int (3 : Int32)]) (rest := []) ⟨hx, hb, hml, hown, hts⟩ (kL_low l G (z1 >>> ((5 : Int32) &&& 31)) a3 e3 (3 : Int32) (3 : Int) kI_3 (by omega)) (va_cwS 2 hts gL_law_L_low rfl rfl rfl hyL_low ⟨Nat.le_of_ble_eq_true rfl, Nat.le_of_ble_eq_true rfl⟩) hK trivial rfl hl.1 rfl (Nat.le_of_ble_eq_true rfl) dL_law_47 ⟨Nat.le_of_ble_eq_true rfl, Nat.le_of_ble_eq_true rfl⟩ (fun z4 e4 => ?_)
  replace e4 : z4.toInt = lowZ (z1 >>> ((5 : Int32) &&& 31)) (3 : Int) := e4
  obtain ⟨T, hT⟩ : ∃ a : Int, ∀ _ : Unit, (lowZ (z1 >>> ((5 : Int32) &&& 31)) (3 : Int)) = a := ⟨(lowZ (z1 >>> ((5 : Int32) &&& 31)) (3 : Int)), fun _ => rfl⟩
  rw [hT ()] at e4
  have hTb : 0 ≤ T ∧ T < 3 := by rw [← hT ()]; exact lowZ_b (by omega)
  obtain ⟨sf, hsf⟩ : ∃ g : Int → Int, ∀ u, a_station m38 T u = g u := ⟨fun u => a_station m38 T u, fun _ => rfl⟩
  refine lv_istore hx hb dL_law_50 hl (by decide) rfl (fun ls hl => ?_)
  have hl : lv_has ls 8 [(5, .int z4), (4, .int z2), (3, .int z1), (0, .ref b), (1, .ref z), (2, .int x2)] := hl
  refine lv_iload hx hb dL_law_52 (lv_at hl 1 rfl) ?_
  refine lv_bipush (v := (-5 : Int32)) hx hb dL_law_54 (by decide) ?_
  refine z_icmp_lt (tgt := 104) hx hb rfl kI_m5 dL_law_56 (by decide) (fun c_5 => ?_) (fun c_5 => ?_)
  · omega
  · refine lv_aload_n hx hb dL_law_59 rfl (lv_at hl 4 rfl) ?_
    refine lv_iconst (v := (2 : Int32)) hx hb dL_law_60 (by decide) ?_
    refine z_cV (As := [.int (2 : Int32)]) (rest := []) ⟨hx, hb, hml, hown, hts⟩ (kX4_count l G z m38 (2 : Int32) (2 : Int) kI_2 hok) (cwV 1 hts gL_law_X4_count rfl rfl rfl hyX4_count ⟨Nat.le_of_ble_eq_true rfl, Nat.le_of_ble_eq_true rfl⟩) hK hF hF.1 rfl rfl hl.1 rfl (Nat.le_of_ble_eq_true rfl) dL_law_61 ⟨Nat.le_of_ble_eq_true rfl, Nat.le_of_ble_eq_true rfl⟩ (fun z6 e6 => ?_)
    replace e6 : z6.toInt = a_count m38 (2 : Int) := e6
    replace e6 : z6.toInt = cf (2 : Int) := by rw [e6]; exact hcf _
    refine lv_aload_n hx hb dL_law_64 rfl (lv_at hl 4 rfl) ?_
    refine lv_iconst (v := (3 : Int32)) hx hb dL_law_65 (by decide) ?_
    refine z_cV (As := [.int (3 : Int32)]) (rest := [.int z6]) ⟨hx, hb, hml, hown, hts⟩ (kX4_count l G z m38 (3 : Int32) (3 : Int) kI_3 hok) (cwV 1 hts gL_law_X4_count rfl rfl rfl hyX4_count ⟨Nat.le_of_ble_eq_true rfl, Nat.le_of_ble_eq_true rfl⟩) hK hF hF.1 rfl rfl hl.1 rfl (Nat.le_of_ble_eq_true rfl) dL_law_66 ⟨Nat.le_of_ble_eq_true rfl, Nat.le_of_ble_eq_true rfl⟩ (fun z7 e7 => ?_)
    replace e7 : z7.toInt = a_count m38 (3 : Int) := e7
    replace e7 : z7.toInt = cf (3 : Int) := by rw [e7]; exact hcf _
    refine z_iadd hx hb e6 e7 dL_law_69 (by omega) (fun z8 e8 => ?_)
    refine lv_iconst (v := (3 : Int32)) hx hb dL_law_70 (by decide) ?_
    refine lv_aload_n hx hb dL_law_71 rfl (lv_at hl 4 rfl) ?_
    refine lv_iconst (v := (0 : Int32)) hx hb dL_law_72 (by decide) ?_
    refine z_cV (As := [.int (0 : Int32)]) (rest := [.int (3 : Int32), .int z8]) ⟨hx, hb, hml, hown, hts⟩ (kX4_count l G z m38 (0 : Int32) (0 : Int) kI_0 hok) (cwV 1 hts gL_law_X4_count rfl rfl rfl hyX4_count ⟨Nat.le_of_ble_eq_true rfl, Nat.le_of_ble_eq_true rfl⟩) hK hF hF.1 rfl rfl hl.1 rfl (Nat.le_of_ble_eq_true rfl) dL_law_73 ⟨Nat.le_of_ble_eq_true rfl, Nat.le_of_ble_eq_true rfl⟩ (fun z9 e9 => ?_)
    replace e9 : z9.toInt = a_count m38 (0 : Int) := e9
    replace e9 : z9.toInt = cf (0 : Int) := by rw [e9]; exact hcf _
    refine z_imul hx hb kI_3 e9 dL_law_76 (by omega) (fun z10 e10 => ?_)
    refine z_icmp_ne (tgt := 104) hx hb e8 e10 dL_law_77 (by decide) (fun c_11 => ?_) (fun c_11 => ?_)
    · omega
    · refine lv_iload_n hx hb dL_law_80 rfl (lv_at hl 5 rfl) ?_
      refine lv_iconst (v := (5 : Int32)) hx hb dL_law_81 (by decide) ?_
      refine z_iremp hx hb hx2 kI_5 dL_law_82 (by omega) (fun z12 e12 => ?_)
      refine z_if_ne (tgt := 106) hx hb e12 dL_law_83 (by decide) (fun c_13 => ?_) (fun c_13 => ?_)
      · refine lv_aload_n hx hb dL_law_106 rfl (lv_at hl 4 rfl) ?_
        refine lv_iload hx hb dL_law_107 (lv_at hl 0 rfl) ?_
        refine lv_bipush (v := (10 : Int32)) hx hb dL_law_109 (by decide) ?_
        refine z_cV (As := [.int z4, .int (10 : Int32)]) (rest := []) ⟨hx, hb, hml, hown, hts⟩ (kX4_station l G z m38 z4 T e4 (10 : Int32) (10 : Int) kI_10 hok) (cwV 2 hts gL_law_X4_station rfl rfl rfl hyX4_station ⟨Nat.le_of_ble_eq_true rfl, Nat.le_of_ble_eq_true rfl⟩) hK hF hF.1 rfl rfl hl.1 rfl (Nat.le_of_ble_eq_true rfl) dL_law_111 ⟨Nat.le_of_ble_eq_true rfl, Nat.le_of_ble_eq_true rfl⟩ (fun z14 e14 => ?_)
        replace e14 : z14.toInt = a_station m38 T (10 : Int) := e14
        replace e14 : z14.toInt = sf (10 : Int) := by rw [e14]; exact hsf _
        refine lv_istore hx hb dL_law_114 hl (by decide) rfl (fun ls hl => ?_)
        have hl : lv_has ls 8 [(6, .int z14), (5, .int z4), (4, .int z2), (3, .int z1), (0, .ref b), (1, .ref z), (2, .int x2)] := hl
        refine lv_iload_n hx hb dL_law_116 rfl (lv_at hl 6 rfl) ?_
        refine lv_bipush (v := (10 : Int32)) hx hb dL_law_117 (by decide) ?_
        refine z_iremp hx hb hx2 kI_10 dL_law_119 (by omega) (fun z15 e15 => ?_)
        refine lv_bipush (v := (9 : Int32)) hx hb dL_law_120 (by decide) ?_
        refine z_icmp_ne (tgt := 186) hx hb e15 kI_9 dL_law_122 (by decide) (fun c_16 => ?_) (fun c_16 => ?_)
        · exact kk _ _ _ ⟨hF, hfx, hS⟩ ls (lv_sub hl [4, 5, 6] rfl)
        · refine lv_iload hx hb dL_law_125 (lv_at hl 0 rfl) ?_
          refine z_if_le (tgt := 186) hx hb e14 dL_law_127 (by decide) (fun c_17 => ?_) (fun c_17 => ?_)
          · exact kk _ _ _ ⟨hF, hfx, hS⟩ ls (lv_sub hl [4, 5, 6] rfl)
          · refine lv_aload_n hx hb dL_law_130 rfl (lv_at hl 5 rfl) ?_
            refine lv_iload hx hb dL_law_131 (lv_at hl 1 rfl) ?_
            refine lv_bipush (v := (11 : Int32)) hx hb dL_law_133 (by decide) ?_
            refine z_cV (As := [.int z4, .int (11 : Int32)]) (rest := []) ⟨hx, hb, hml, hown, hts⟩ (kX4_station l G z m38 z4 T e4 (11 : Int32) (11 : Int) kI_11 hok) (cwV 2 hts gL_law_X4_station rfl rfl rfl hyX4_station ⟨Nat.le_of_ble_eq_true rfl, Nat.le_of_ble_eq_true rfl⟩) hK hF hF.1 rfl rfl hl.1 rfl (Nat.le_of_ble_eq_true rfl) dL_law_135 ⟨Nat.le_of_ble_eq_true rfl, Nat.le_of_ble_eq_true rfl⟩ (fun z18 e18 => ?_)
            replace e18 : z18.toInt = a_station m38 T (11 : Int) := e18
            replace e18 : z18.toInt = sf (11 : Int) := by rw [e18]; exact hsf _
            refine lv_istore hx hb dL_law_138 hl (by decide) rfl (fun ls hl => ?_)
            have hl : lv_has ls 8 [(7, .int z18), (6, .int z14), (5, .int z4), (4, .int z2), (3, .int z1), (0, .ref b), (1, .ref z), (2, .int x2)] := hl
            refine lv_aload_n hx hb dL_law_140 rfl (lv_at hl 6 rfl) ?_
            refine lv_iload hx hb dL_law_141 (lv_at hl 2 rfl) ?_
            refine lv_iload_n hx hb dL_law_143 rfl (lv_at hl 4 rfl) ?_
            refine lv_bipush (v := (8 : Int32)) hx hb dL_law_144 (by decide) ?_
            refine lv_ishr hx hb dL_law_146 ?_
            obtain ⟨a19, e19⟩ : ∃ a : Int, (z1 >>> ((8 : Int32) &&& 31)).toInt = a := ⟨_, rfl⟩
            refine lv_iload hx hb dL_law_147 (lv_at hl 1 rfl) ?_
            refine z_cS (As := [.int (z1 >>> ((8 : Int32) &&& 31)), .int z14]) (rest := [.int z4, .ref z]) ⟨hx, hb, hml, hown, hts⟩ (kL_low l G (z1 >>> ((8 : Int32) &&& 31)) a19 e19 z14 (sf (10 : Int)) e14 (by omega)) (va_cwS 2 hts gL_law_L_low rfl rfl rfl hyL_low ⟨Nat.le_of_ble_eq_true rfl, Nat.le_of_ble_eq_true rfl⟩) hK trivial rfl hl.1 rfl (Nat.le_of_ble_eq_true rfl) dL_law_149 ⟨Nat.le_of_ble_eq_true rfl, Nat.le_of_ble_eq_true rfl⟩ (fun z20 e20 => ?_)
            replace e20 : z20.toInt = lowZ (z1 >>> ((8 : Int32) &&& 31)) (sf (10 : Int)) := e20
            obtain ⟨J9, hJ9⟩ : ∃ a : Int, ∀ _ : Unit, (lowZ (z1 >>> ((8 : Int32) &&& 31)) (sf (10 : Int))) = a := ⟨(lowZ (z1 >>> ((8 : Int32) &&& 31)) (sf (10 : Int))), fun _ => rfl⟩
            rw [hJ9 ()] at e20
            have hJ9b : 0 ≤ J9 ∧ J9 < sf 10 := by rw [← hJ9 ()]; exact lowZ_b (by omega)
            refine lv_iload hx hb dL_law_152 (lv_at hl 2 rfl) ?_
            refine lv_iconst (v := (1 : Int32)) hx hb dL_law_154 (by decide) ?_
            refine z_iadd hx hb e4 kI_1 dL_law_155 (by omega) (fun z21 e21 => ?_)
            refine lv_iload_n hx hb dL_law_156 rfl (lv_at hl 4 rfl) ?_
            refine lv_bipush (v := (7 : Int32)) hx hb dL_law_157 (by decide) ?_
            refine lv_ishr hx hb dL_law_159 ?_
            obtain ⟨a22, e22⟩ : ∃ a : Int, (z1 >>> ((7 : Int32) &&& 31)).toInt = a := ⟨_, rfl⟩
            refine lv_iconst (v := (1 : Int32)) hx hb dL_law_160 (by decide) ?_
            refine lv_iand hx hb dL_law_161 ?_
            obtain ⟨a23, e23⟩ : ∃ a : Int, ((z1 >>> ((7 : Int32) &&& 31)) &&& (1 : Int32)).toInt = a := ⟨_, rfl⟩
            have hb23 : 0 ≤ a23 ∧ a23 ≤ 1 := by rw [← e23]; exact and1_b _
            refine z_iadd hx hb e21 e23 dL_law_162 (by omega) (fun z24 e24 => ?_)
            refine lv_iconst (v := (3 : Int32)) hx hb dL_law_163 (by decide) ?_
            refine z_iremp hx hb e24 kI_3 dL_law_164 (by omega) (fun z25 e25 => ?_)
            refine z_cSw (As := [.ref z, .int z4, .int z20, .int z25]) (rest := []) ⟨hx, hb, hml, hown, hts⟩ (kL_isMendSo l G z m38 z4 T e4 z20 J9 e20 z25 (((T + (1 : Int)) + a23) % (3 : Int)) e25 (MC.of hfx hTb (by omega) (by omega) (by omega) (by rw [hsf]; omega))) (va_cwS 4 hts gL_law_L_isMendSo rfl rfl rfl hyL_isMendSo ⟨Nat.le_of_ble_eq_true rfl, Nat.le_of_ble_eq_true rfl⟩) hK hF rfl hl.1 rfl (Nat.le_of_ble_eq_true rfl) dL_law_165 ⟨Nat.le_of_ble_eq_true rfl, Nat.le_of_ble_eq_true rfl⟩ hS (fun q h => by simp only [iv] at h; show s.heap.size ≤ q; omega) (fun z26 H locs e26 hB hsz hq hS => ?_)
            obtain ⟨m165, hF, hp165⟩ := hB
            have hF : SFP G H z m165 := hF
            have hp165 : fdX m165 ∧ a_station m38 T 11 ≤ a_station m165 T 11 := hp165
            replace e26 : z26.toInt = (1 : Int) := e26
            have hfx := hp165.1
            have hok := hfx.1
            obtain ⟨sg, hsg⟩ : ∃ g : Int → Int, ∀ u, a_station m165 T u = g u := ⟨fun u => a_station m165 T u, fun _ => rfl⟩
            have hup : sf 11 ≤ sg 11 := by rw [← hsf, ← hsg]; exact hp165.2
            clear hp165
            refine z_if_eq (tgt := 184) hx hb e26 dL_law_168 (by decide) (fun c_27 => ?_) (fun c_27 => ?_)
            · omega
            · refine lv_aload_n hx hb dL_law_171 rfl (lv_at hl 6 rfl) ?_
              refine lv_iload hx hb dL_law_172 (lv_at hl 2 rfl) ?_
              refine lv_bipush (v := (11 : Int32)) hx hb dL_law_174 (by decide) ?_
              refine z_cV (As := [.int z4, .int (11 : Int32)]) (rest := []) ⟨hx, hb, hml, hown, hts⟩ (kX4_station l G z m165 z4 T e4 (11 : Int32) (11 : Int) kI_11 hok) (cwV 2 hts gL_law_X4_station rfl rfl rfl hyX4_station ⟨Nat.le_of_ble_eq_true rfl, Nat.le_of_ble_eq_true rfl⟩) hK hF hF.1 rfl rfl hl.1 rfl (Nat.le_of_ble_eq_true rfl) dL_law_176 ⟨Nat.le_of_ble_eq_true rfl, Nat.le_of_ble_eq_true rfl⟩ (fun z28 e28 => ?_)
              replace e28 : z28.toInt = a_station m165 T (11 : Int) := e28
              replace e28 : z28.toInt = sg (11 : Int) := by rw [e28]; exact hsg _
              refine lv_iload hx hb dL_law_179 (lv_at hl 0 rfl) ?_
              refine z_icmp_ge (tgt := 186) hx hb e28 e18 dL_law_181 (by decide) (fun c_29 => ?_) (fun c_29 => ?_)
              · exact kk _ _ _ ⟨hF, hfx, hS⟩ ls (lv_sub hl [5, 6, 7] rfl)
              · omega
      · refine lv_aload_n hx hb dL_law_86 rfl (lv_at hl 4 rfl) ?_
        refine lv_iload hx hb dL_law_87 (lv_at hl 0 rfl) ?_
        refine z_cS (As := [.ref z, .int z4]) (rest := []) ⟨hx, hb, hml, hown, hts⟩ (kL_isStationSo l G z m38 z4 T e4 hfx hTb) (va_cwS 2 hts gL_law_L_isStationSo rfl rfl rfl hyL_isStationSo ⟨Nat.le_of_ble_eq_true rfl, Nat.le_of_ble_eq_true rfl⟩) hK hF rfl hl.1 rfl (Nat.le_of_ble_eq_true rfl) dL_law_89 ⟨Nat.le_of_ble_eq_true rfl, Nat.le_of_ble_eq_true rfl⟩ (fun z30 e30 => ?_)
        have e30 : isB z30 True := e30
        refine z_ifb_eq (tgt := 104) hx hb e30 dL_law_92 (by decide) (fun c_31 => ?_) (fun c_31 => ?_)
        · exact absurd trivial c_31
        · refine lv_aload_n hx hb dL_law_95 rfl (lv_at hl 4 rfl) ?_
          refine lv_iload hx hb dL_law_96 (lv_at hl 0 rfl) ?_
          refine z_cS (As := [.ref z, .int z4]) (rest := []) ⟨hx, hb, hml, hown, hts⟩ (kL_areHighsSo l G z m38 z4 T e4 hfx hTb) (va_cwS 2 hts gL_law_L_areHighsSo rfl rfl rfl hyL_areHighsSo ⟨Nat.le_of_ble_eq_true rfl, Nat.le_of_ble_eq_true rfl⟩) hK hF rfl hl.1 rfl (Nat.le_of_ble_eq_true rfl) dL_law_98 ⟨Nat.le_of_ble_eq_true rfl, Nat.le_of_ble_eq_true rfl⟩ (fun z32 e32 => ?_)
          have e32 : isB z32 True := e32
          refine z_ifb_ne (tgt := 106) hx hb e32 dL_law_101 (by decide) (fun c_33 => ?_) (fun c_33 => ?_)
          · refine lv_aload_n hx hb dL_law_106 rfl (lv_at hl 4 rfl) ?_
            refine lv_iload hx hb dL_law_107 (lv_at hl 0 rfl) ?_
            refine lv_bipush (v := (10 : Int32)) hx hb dL_law_109 (by decide) ?_
            refine z_cV (As := [.int z4, .int (10 : Int32)]) (rest := []) ⟨hx, hb, hml, hown, hts⟩ (kX4_station l G z m38 z4 T e4 (10 : Int32) (10 : Int) kI_10 hok) (cwV 2 hts gL_law_X4_station rfl rfl rfl hyX4_station ⟨Nat.le_of_ble_eq_true rfl, Nat.le_of_ble_eq_true rfl⟩) hK hF hF.1 rfl rfl hl.1 rfl (Nat.le_of_ble_eq_true rfl) dL_law_111 ⟨Nat.le_of_ble_eq_true rfl, Nat.le_of_ble_eq_true rfl⟩ (fun z34 e34 => ?_)
            replace e34 : z34.toInt = a_station m38 T (10 : Int) := e34
            replace e34 : z34.toInt = sf (10 : Int) := by rw [e34]; exact hsf _
            refine lv_istore hx hb dL_law_114 hl (by decide) rfl (fun ls hl => ?_)
            have hl : lv_has ls 8 [(6, .int z34), (5, .int z4), (4, .int z2), (3, .int z1), (0, .ref b), (1, .ref z), (2, .int x2)] := hl
            refine lv_iload_n hx hb dL_law_116 rfl (lv_at hl 6 rfl) ?_
            refine lv_bipush (v := (10 : Int32)) hx hb dL_law_117 (by decide) ?_
            refine z_iremp hx hb hx2 kI_10 dL_law_119 (by omega) (fun z35 e35 => ?_)
            refine lv_bipush (v := (9 : Int32)) hx hb dL_law_120 (by decide) ?_
            refine z_icmp_ne (tgt := 186) hx hb e35 kI_9 dL_law_122 (by decide) (fun c_36 => ?_) (fun c_36 => ?_)
            · exact kk _ _ _ ⟨hF, hfx, hS⟩ ls (lv_sub hl [4, 5, 6] rfl)
            · refine lv_iload hx hb dL_law_125 (lv_at hl 0 rfl) ?_
              refine z_if_le (tgt := 186) hx hb e34 dL_law_127 (by decide) (fun c_37 => ?_) (fun c_37 => ?_)
              · exact kk _ _ _ ⟨hF, hfx, hS⟩ ls (lv_sub hl [4, 5, 6] rfl)
              · refine lv_aload_n hx hb dL_law_130 rfl (lv_at hl 5 rfl) ?_
                refine lv_iload hx hb dL_law_131 (lv_at hl 1 rfl) ?_
                refine lv_bipush (v := (11 : Int32)) hx hb dL_law_133 (by decide) ?_
                refine z_cV (As := [.int z4, .int (11 : Int32)]) (rest := []) ⟨hx, hb, hml, hown, hts⟩ (kX4_station l G z m38 z4 T e4 (11 : Int32) (11 : Int) kI_11 hok) (cwV 2 hts gL_law_X4_station rfl rfl rfl hyX4_station ⟨Nat.le_of_ble_eq_true rfl, Nat.le_of_ble_eq_true rfl⟩) hK hF hF.1 rfl rfl hl.1 rfl (Nat.le_of_ble_eq_true rfl) dL_law_135 ⟨Nat.le_of_ble_eq_true rfl, Nat.le_of_ble_eq_true rfl⟩ (fun z38 e38 => ?_)
                replace e38 : z38.toInt = a_station m38 T (11 : Int) := e38
                replace e38 : z38.toInt = sf (11 : Int) := by rw [e38]; exact hsf _
                refine lv_istore hx hb dL_law_138 hl (by decide) rfl (fun ls hl => ?_)
                have hl : lv_has ls 8 [(7, .int z38), (6, .int z34), (5, .int z4), (4, .int z2), (3, .int z1), (0, .ref b), (1, .ref z), (2, .int x2)] := hl
                refine lv_aload_n hx hb dL_law_140 rfl (lv_at hl 6 rfl) ?_
                refine lv_iload hx hb dL_law_141 (lv_at hl 2 rfl) ?_
                refine lv_iload_n hx hb dL_law_143 rfl (lv_at hl 4 rfl) ?_
                refine lv_bipush (v := (8 : Int32)) hx hb dL_law_144 (by decide) ?_
                refine lv_ishr hx hb dL_law_146 ?_
                obtain ⟨a39, e39⟩ : ∃ a : Int, (z1 >>> ((8 : Int32) &&& 31)).toInt = a := ⟨_, rfl⟩
                refine lv_iload hx hb dL_law_147 (lv_at hl 1 rfl) ?_
                refine z_cS (As := [.int (z1 >>> ((8 : Int32) &&& 31)), .int z34]) (rest := [.int z4, .ref z]) ⟨hx, hb, hml, hown, hts⟩ (kL_low l G (z1 >>> ((8 : Int32) &&& 31)) a39 e39 z34 (sf (10 : Int)) e34 (by omega)) (va_cwS 2 hts gL_law_L_low rfl rfl rfl hyL_low ⟨Nat.le_of_ble_eq_true rfl, Nat.le_of_ble_eq_true rfl⟩) hK trivial rfl hl.1 rfl (Nat.le_of_ble_eq_true rfl) dL_law_149 ⟨Nat.le_of_ble_eq_true rfl, Nat.le_of_ble_eq_true rfl⟩ (fun z40 e40 => ?_)
                replace e40 : z40.toInt = lowZ (z1 >>> ((8 : Int32) &&& 31)) (sf (10 : Int)) := e40
                obtain ⟨J9, hJ9⟩ : ∃ a : Int, ∀ _ : Unit, (lowZ (z1 >>> ((8 : Int32) &&& 31)) (sf (10 : Int))) = a := ⟨(lowZ (z1 >>> ((8 : Int32) &&& 31)) (sf (10 : Int))), fun _ => rfl⟩
                rw [hJ9 ()] at e40
                have hJ9b : 0 ≤ J9 ∧ J9 < sf 10 := by rw [← hJ9 ()]; exact lowZ_b (by omega)
                refine lv_iload hx hb dL_law_152 (lv_at hl 2 rfl) ?_
                refine lv_iconst (v := (1 : Int32)) hx hb dL_law_154 (by decide) ?_
                refine z_iadd hx hb e4 kI_1 dL_law_155 (by omega) (fun z41 e41 => ?_)
                refine lv_iload_n hx hb dL_law_156 rfl (lv_at hl 4 rfl) ?_
                refine lv_bipush (v := (7 : Int32)) hx hb dL_law_157 (by decide) ?_
                refine lv_ishr hx hb dL_law_159 ?_
                obtain ⟨a42, e42⟩ : ∃ a : Int, (z1 >>> ((7 : Int32) &&& 31)).toInt = a := ⟨_, rfl⟩
                refine lv_iconst (v := (1 : Int32)) hx hb dL_law_160 (by decide) ?_
                refine lv_iand hx hb dL_law_161 ?_
                obtain ⟨a43, e43⟩ : ∃ a : Int, ((z1 >>> ((7 : Int32) &&& 31)) &&& (1 : Int32)).toInt = a := ⟨_, rfl⟩
                have hb43 : 0 ≤ a43 ∧ a43 ≤ 1 := by rw [← e43]; exact and1_b _
                refine z_iadd hx hb e41 e43 dL_law_162 (by omega) (fun z44 e44 => ?_)
                refine lv_iconst (v := (3 : Int32)) hx hb dL_law_163 (by decide) ?_
                refine z_iremp hx hb e44 kI_3 dL_law_164 (by omega) (fun z45 e45 => ?_)
                refine z_cSw (As := [.ref z, .int z4, .int z40, .int z45]) (rest := []) ⟨hx, hb, hml, hown, hts⟩ (kL_isMendSo l G z m38 z4 T e4 z40 J9 e40 z45 (((T + (1 : Int)) + a43) % (3 : Int)) e45 (MC.of hfx hTb (by omega) (by omega) (by omega) (by rw [hsf]; omega))) (va_cwS 4 hts gL_law_L_isMendSo rfl rfl rfl hyL_isMendSo ⟨Nat.le_of_ble_eq_true rfl, Nat.le_of_ble_eq_true rfl⟩) hK hF rfl hl.1 rfl (Nat.le_of_ble_eq_true rfl) dL_law_165 ⟨Nat.le_of_ble_eq_true rfl, Nat.le_of_ble_eq_true rfl⟩ hS (fun q h => by simp only [iv] at h; show s.heap.size ≤ q; omega) (fun z46 H locs e46 hB hsz hq hS => ?_)
                obtain ⟨m165, hF, hp165⟩ := hB
                have hF : SFP G H z m165 := hF
                have hp165 : fdX m165 ∧ a_station m38 T 11 ≤ a_station m165 T 11 := hp165
                replace e46 : z46.toInt = (1 : Int) := e46
                have hfx := hp165.1
                have hok := hfx.1
                obtain ⟨sg, hsg⟩ : ∃ g : Int → Int, ∀ u, a_station m165 T u = g u := ⟨fun u => a_station m165 T u, fun _ => rfl⟩
                have hup : sf 11 ≤ sg 11 := by rw [← hsf, ← hsg]; exact hp165.2
                clear hp165
                refine z_if_eq (tgt := 184) hx hb e46 dL_law_168 (by decide) (fun c_47 => ?_) (fun c_47 => ?_)
                · omega
                · refine lv_aload_n hx hb dL_law_171 rfl (lv_at hl 6 rfl) ?_
                  refine lv_iload hx hb dL_law_172 (lv_at hl 2 rfl) ?_
                  refine lv_bipush (v := (11 : Int32)) hx hb dL_law_174 (by decide) ?_
                  refine z_cV (As := [.int z4, .int (11 : Int32)]) (rest := []) ⟨hx, hb, hml, hown, hts⟩ (kX4_station l G z m165 z4 T e4 (11 : Int32) (11 : Int) kI_11 hok) (cwV 2 hts gL_law_X4_station rfl rfl rfl hyX4_station ⟨Nat.le_of_ble_eq_true rfl, Nat.le_of_ble_eq_true rfl⟩) hK hF hF.1 rfl rfl hl.1 rfl (Nat.le_of_ble_eq_true rfl) dL_law_176 ⟨Nat.le_of_ble_eq_true rfl, Nat.le_of_ble_eq_true rfl⟩ (fun z48 e48 => ?_)
                  replace e48 : z48.toInt = a_station m165 T (11 : Int) := e48
                  replace e48 : z48.toInt = sg (11 : Int) := by rw [e48]; exact hsg _
                  refine lv_iload hx hb dL_law_179 (lv_at hl 0 rfl) ?_
                  refine z_icmp_ge (tgt := 186) hx hb e48 e38 dL_law_181 (by decide) (fun c_49 => ?_) (fun c_49 => ?_)
                  · exact kk _ _ _ ⟨hF, hfx, hS⟩ ls (lv_sub hl [5, 6, 7] rfl)
                  · omega
          · exact absurd trivial c_33
