abbrev rmX5_go : Room := { frames := 6, cells := 0, slots := 0, locals := 139 }
theorem iwX5_go_5 : ∀ w ∈ wsX50, w ∈ wsX5_go := fun _ h => List.mem_cons_of_mem _ (List.mem_append_right _ h)
theorem flX5_go_69 : Cond.fieldLink RX5 69 "SiltedFloatsModel" "at" "I" ∈ wsX5_go := by decide +kernel
theorem flX5_go_72 : Cond.fieldLink RX5 72 "SiltedFloatsModel" "typed" "I" ∈ wsX5_go := by decide +kernel
theorem flX5_go_75 : Cond.fieldLink RX5 75 "SiltedFloatsModel" "isWrong" "Z" ∈ wsX5_go := by decide +kernel
theorem flX5_go_86 : Cond.fieldLink RX5 86 "SiltedFloatsModel" "hoursOfAll" "I" ∈ wsX5_go := by decide +kernel
theorem hyX5_go : yX5_go.cls = RX5 ∧ yX5_go.cls ≠ "java/lang/invoke/MethodHandle" ∧ yX5_go.cls ≠ "java/lang/invoke/VarHandle" ∧ (parseMethodDescriptor yX5_go.desc).map (fun d => d.parameters.length) = some 1 := by decide +kernel
set_option maxHeartbeats 2000000 in
set_option maxRecDepth 100000 in
theorem kX5_go (l : Launch) (G : xG) (o : Nat) (μ : MD) (xd : Int32) (D : Prop) (e_xd : isB xd D) (t : TD) (τ : SD) (hRt : Rt t μ) (htx : textOk t) (hD : (D → Rs τ μ.2.1 ∧ stOk τ ∧ fitT t ∧ τ.1.toInt + hrsZ t t.1.toInt.toNat ≤ 120)) : Met l yX5_go wsX5_go rmX5_go (va_Pc [.ref o, .int xd] (zPre G (fun H => MO G H o μ))) (zW (fun v => ftZ t = -1 → v.toInt = ordZ t t.1.toInt.toNat) (fun H => ∃ n9 : MD, MO G H o n9 ∧ (goE D τ t μ n9)) (iv o 5)) 0 0 (iv o 5) := by
  refine z_ofW (cc := cX5_go) (maxL := 5) (ret := some .int) (by decide +kernel) rfl (Nat.le_of_ble_eq_true rfl) ?_
  intro p e s m below meth c hx hb hml hr hts hown hlocks hK hP ls hl
  have hM := hP
  have hown : s.vm.findClass RX5 = some m.cls := hown
  have hl : lv_has ls 5 [(0, .ref o), (1, .int xd)] := hl
  have hS : va_S (iv o 5) s.heap s.heap [] := va_S.rf
  have htl := htx.1
  have ht6 := hRt.1
  have cut19 : ∀ (n19 : Nat), ∀ (x2 : Int32) (i2 : Int) (_ : x2.toInt = i2) (x3 : Int32) (i3 : Int) (_ : x3.toInt = i3) (d_hM : MD), (i3 * 100 + 60 - (d_hM.1 7).toInt).toNat < n19 → ((i3 = 1 ∧ goR D τ t μ d_hM i2) ∨ (i3 = 0 ∧ goE D τ t μ d_hM ∧ (ftZ t = -1 → i2 = ordZ t t.1.toInt.toNat))) → ∀ (H : Heap) (locs : List Loc), MO G H o d_hM → va_S (iv o 5) s.heap H locs → ∀ ls : Array Slot, lv_has ls 5 [(0, .ref o), (1, .int xd), (2, .int x2), (3, .int x3)] → W p l e rmX5_go s m ([.ref o, .int xd] : List Value).toArray below meth c H locs 0 0 (MQ below (zW (fun v => ftZ t = -1 → v.toInt = ordZ t t.1.toInt.toNat) (fun H => ∃ n9 : MD, MO G H o n9 ∧ (goE D τ t μ n9)) (iv o 5)) ([.ref o, .int xd] : List Value).toArray s 0 0 (iv o 5)) (F0 m 19 ls []) := by
    intro n19
    induction n19 with
    | zero =>
      intro x2 i2 hx2 x3 i3 hx3 d_hM hmu19 hi19_0 H locs hM hS ls hl
      exact absurd hmu19 (Nat.not_lt_zero _)
    | succ n19 ih19 =>
      intro x2 i2 hx2 x3 i3 hx3 d_hM hmu19 hi19_0 H locs hM hS ls hl
      refine lv_iload_n hx hb dX5_go_19 rfl (lv_at hl 3 rfl) ?_
      refine z_if_eq (tgt := 94) hx hb hx3 dX5_go_20 (by decide) (fun c_1 => ?_) (fun c_1 => ?_)
      · have hge := (hi19_0.resolve_left (fun q => by omega)).2
        refine lv_iload_n hx hb dX5_go_94 rfl (lv_at hl 2 rfl) ?_
        exact z_riw (v := x2) hx hb hr hlocks (show ftZ t = -1 → x2.toInt = ordZ t t.1.toInt.toNat from (fun q => (hx2).trans (hge.2 q))) ⟨_, hM, hge.1⟩ hS dX5_go_95
      · have hgr := (hi19_0.resolve_right (fun q => by omega)).2
        have hi31 : i3 = 1 := by omega
        have hpl := hgr.2.1.1
        have hkr := hgr.1
        have hob := orZ_b htx (d_hM.1 7).toInt
        have hhb := hrsZ_b t (d_hM.1 7).toInt.toNat
        have hh9 := hgr.2.2.2.2.1
        have hcn := cntZ_b (fun j => stP t (j : Int)) (d_hM.1 7).toInt.toNat
        have hko : i2 = ordZ t (d_hM.1 7).toInt.toNat := hgr.2.2.2.1
        unfold ordZ at hko
        refine lv_aload_n hx hb dX5_go_23 rfl (lv_at hl 0 rfl) ?_
        refine lv_dup hx hb dX5_go_24 rfl ?_
        refine z_get hx hb hts iwX5_go_5 hown hK hM.1 rfl 9 (by decide) flX5_go_86 rfl (v := .int (d_hM.1 9)) rfl dX5_go_25 ?_
        refine lv_aload_n hx hb dX5_go_28 rfl (lv_at hl 0 rfl) ?_
        refine lv_iload_n hx hb dX5_go_29 rfl (lv_at hl 1 rfl) ?_
        refine z_cVw (As := [.int xd]) (rest := [.int (d_hM.1 9), .ref o]) ⟨hx, hb, hml, hown, hts⟩ (kX5_order l G o d_hM xd D e_xd t ((d_hM.1 7).toInt) (foN τ t (d_hM.1 7).toInt.toNat) (hRt.mk hkr) (by first | assumption | omega) ⟨rfl, hpl⟩ hgr.2.2.1 (go_pre hD hgr)) (cwV 1 hts gX5_go_X5_order rfl rfl rfl hyX5_order ⟨Nat.le_of_ble_eq_true rfl, Nat.le_of_ble_eq_true rfl⟩) hK hM hM.1 rfl rfl hl.1 rfl (Nat.le_of_ble_eq_true rfl) dX5_go_30 ⟨Nat.zero_le _, Nat.zero_le _⟩ hS (fun q h => by simp only [iv] at h ⊢; omega) (fun z2 H locs e2 hB hsz hq hS => ?_)
        obtain ⟨m30, hM, hp30⟩ := hB
        have hM : MO G H o m30 := hM
        have hp30 : ordQ D (foN τ t (d_hM.1 7).toInt.toNat) t ((d_hM.1 7).toInt) d_hM m30 := hp30
        have e2 : z2.toInt = orZ t ((d_hM.1 7).toInt) := e2
        have hx30 := hp30
        have hg30 := ord_ge hp30
        have hk30 : Mk μ m30 := hkr.tr hp30.1
        have h930 : m30.1 9 = d_hM.1 9 := hp30.2.1
        have ht30 : (m30.1 6).toInt = t.1.toInt := (hRt.mk hk30).1
        refine z_iadd hx hb rfl e2 dX5_go_33 (by omega) (fun z3 e3 => ?_)
        refine z_putM hx hb hts iwX5_go_5 hown hK hM hS (by simp only [iv]; omega) 9 (by decide) flX5_go_86 rfl rfl (ty := .int) rfl rfl rfl dX5_go_34 (fun H locs hM hsz hq hS => ?_)
        have hM : MO G H o (upd m30.1 9 z3, m30.2.1, m30.2.2.1, m30.2.2.2.1, m30.2.2.2.2) := hM
        refine z_iinc (k := 2) hx hb dX5_go_37 hl rfl hx2 (show (Int32.ofInt 1).toInt = (1 : Int) from rfl) (by omega) (by decide) (fun z4 e4 ls hl => ?_)
        have hl : lv_has ls 5 [(2, .int z4), (0, .ref o), (1, .int xd), (3, .int x3)] := hl
        refine lv_aload_n hx hb dX5_go_40 rfl (lv_at hl 1 rfl) ?_
        refine z_get hx hb hts iwX5_go_5 hown hK hM.1 rfl 8 (by decide) flX5_go_75 rfl (v := .int (m30.1 8)) rfl dX5_go_41 ?_
        refine z_if_ne (tgt := 62) hx hb rfl dX5_go_44 (by decide) (fun c_5 => ?_) (fun c_5 => ?_)
        · refine lv_iconst (v := (0 : Int32)) hx hb dX5_go_62 (by decide) ?_
          refine lv_istore_n hx hb dX5_go_63 rfl hl (by decide) rfl (fun ls hl => ?_)
          have hl : lv_has ls 5 [(3, .int (0 : Int32)), (2, .int z4), (0, .ref o), (1, .int xd)] := hl
          refine lv_iload_n hx hb dX5_go_64 rfl (lv_at hl 0 rfl) ?_
          refine z_if_eq (tgt := 19) hx hb kI_0 dX5_go_65 (by decide) (fun c_6 => ?_) (fun c_6 => ?_)
          · exact ih19 z4 (i2 + (1 : Int)) e4 (0 : Int32) (0 : Int) kI_0 (upd m30.1 9 z3, m30.2.1, m30.2.2.1, m30.2.2.2.1, m30.2.2.2.2) (by show (0 * 100 + 60 - (m30.1 7).toInt).toNat < n19; omega) (Or.inr ⟨rfl, go_w1 hgr hx30 (by omega)⟩) _ _ hM hS ls (lv_sub hl [2, 3, 1, 0] rfl)
          · omega
        · refine lv_aload_n hx hb dX5_go_47 rfl (lv_at hl 1 rfl) ?_
          refine z_get hx hb hts iwX5_go_5 hown hK hM.1 rfl 7 (by decide) flX5_go_69 rfl (v := .int (m30.1 7)) rfl dX5_go_48 ?_
          refine lv_aload_n hx hb dX5_go_51 rfl (lv_at hl 1 rfl) ?_
          refine z_get hx hb hts iwX5_go_5 hown hK hM.1 rfl 6 (by decide) flX5_go_72 rfl (v := .int (m30.1 6)) rfl dX5_go_52 ?_
          refine z_icmp_ge (tgt := 62) hx hb rfl rfl dX5_go_55 (by decide) (fun c_7 => ?_) (fun c_7 => ?_)
          · refine lv_iconst (v := (0 : Int32)) hx hb dX5_go_62 (by decide) ?_
            refine lv_istore_n hx hb dX5_go_63 rfl hl (by decide) rfl (fun ls hl => ?_)
            have hl : lv_has ls 5 [(3, .int (0 : Int32)), (2, .int z4), (0, .ref o), (1, .int xd)] := hl
            refine lv_iload_n hx hb dX5_go_64 rfl (lv_at hl 0 rfl) ?_
            refine z_if_eq (tgt := 19) hx hb kI_0 dX5_go_65 (by decide) (fun c_8 => ?_) (fun c_8 => ?_)
            · exact ih19 z4 (i2 + (1 : Int)) e4 (0 : Int32) (0 : Int) kI_0 (upd m30.1 9 z3, m30.2.1, m30.2.2.1, m30.2.2.2.1, m30.2.2.2.2) (by show (0 * 100 + 60 - (m30.1 7).toInt).toNat < n19; omega) (Or.inr ⟨rfl, go_e hgr hx30 (by omega) (by omega) e3⟩) _ _ hM hS ls (lv_sub hl [2, 3, 1, 0] rfl)
            · omega
          · refine lv_iconst (v := (1 : Int32)) hx hb dX5_go_58 (by decide) ?_
            refine lv_goto (tgt := 63) hx hb dX5_go_59 (by decide) ?_
            refine lv_istore_n hx hb dX5_go_63 rfl hl (by decide) rfl (fun ls hl => ?_)
            have hl : lv_has ls 5 [(3, .int (1 : Int32)), (2, .int z4), (0, .ref o), (1, .int xd)] := hl
            refine lv_iload_n hx hb dX5_go_64 rfl (lv_at hl 0 rfl) ?_
            refine z_if_eq (tgt := 19) hx hb kI_1 dX5_go_65 (by decide) (fun c_9 => ?_) (fun c_9 => ?_)
            · omega
            · refine lv_aload_n hx hb dX5_go_68 rfl (lv_at hl 2 rfl) ?_
              refine lv_bipush (v := (59 : Int32)) hx hb dX5_go_69 (by decide) ?_
              refine lv_bipush (v := (59 : Int32)) hx hb dX5_go_71 (by decide) ?_
              refine z_cVw (As := [.int (59 : Int32), .int (59 : Int32)]) (rest := []) ⟨hx, hb, hml, hown, hts⟩ (kX5_sign l G o (upd m30.1 9 z3, m30.2.1, m30.2.2.1, m30.2.2.2.1, m30.2.2.2.2) (59 : Int32) (59 : Int) kI_59 (59 : Int32) (59 : Int) kI_59 t ((m30.1 7).toInt) (hRt.mk (hk30.tr (by exact ⟨rfl, rfl, rfl, rfl⟩))) (by first | assumption | omega) ⟨rfl, by omega, by omega⟩ (by show (m30.1 8).toInt = 0; omega)) (cwV 2 hts gX5_go_X5_sign rfl rfl rfl hyX5_sign ⟨Nat.le_of_ble_eq_true rfl, Nat.le_of_ble_eq_true rfl⟩) hK hM hM.1 rfl rfl hl.1 rfl (Nat.le_of_ble_eq_true rfl) dX5_go_73 ⟨Nat.zero_le _, Nat.zero_le _⟩ hS (fun q h => by simp only [iv] at h ⊢; omega) (fun z10 H locs e10 hB hsz hq hS => ?_)
              obtain ⟨m73, hM, hp73⟩ := hB
              have hM : MO G H o m73 := hM
              have hp73 : sgQ (59 : Int) (59 : Int) ((m30.1 7).toInt) (chZ t ((m30.1 7).toInt)) (upd m30.1 9 z3, m30.2.1, m30.2.2.1, m30.2.2.2.1, m30.2.2.2.2) m73 := hp73
              have e10 : z10.toInt = chZ t ((m30.1 7).toInt) := e10
              have hx73 := hp73
              have hd73 := hp73.2.2.2
              have hcb := chZ_b htx (m30.1 7).toInt
              refine lv_istore hx hb dX5_go_76 hl (by decide) rfl (fun ls hl => ?_)
              have hl : lv_has ls 5 [(4, .int z10), (3, .int (1 : Int32)), (2, .int z4), (0, .ref o), (1, .int xd)] := hl
              refine lv_aload_n hx hb dX5_go_78 rfl (lv_at hl 3 rfl) ?_
              refine z_get hx hb hts iwX5_go_5 hown hK hM.1 rfl 8 (by decide) flX5_go_75 rfl (v := .int (m73.1 8)) rfl dX5_go_79 ?_
              refine z_if_ne (tgt := 89) hx hb rfl dX5_go_82 (by decide) (fun c_11 => ?_) (fun c_11 => ?_)
              · refine lv_iconst (v := (0 : Int32)) hx hb dX5_go_89 (by decide) ?_
                refine lv_istore_n hx hb dX5_go_90 rfl hl (by decide) rfl (fun ls hl => ?_)
                have hl : lv_has ls 5 [(3, .int (0 : Int32)), (4, .int z10), (2, .int z4), (0, .ref o), (1, .int xd)] := hl
                refine lv_goto (tgt := 19) hx hb dX5_go_91 (by decide) ?_
                exact ih19 z4 (i2 + (1 : Int)) e4 (0 : Int32) (0 : Int) kI_0 m73 (by omega) (Or.inr ⟨rfl, go_w2 hgr hx30 (by omega) (by omega) hx73 rfl (by omega)⟩) _ _ hM hS ls (lv_sub hl [3, 4, 2, 0] rfl)
              · refine lv_iconst (v := (1 : Int32)) hx hb dX5_go_85 (by decide) ?_
                refine lv_goto (tgt := 90) hx hb dX5_go_86 (by decide) ?_
                refine lv_istore_n hx hb dX5_go_90 rfl hl (by decide) rfl (fun ls hl => ?_)
                have hl : lv_has ls 5 [(3, .int (1 : Int32)), (4, .int z10), (2, .int z4), (0, .ref o), (1, .int xd)] := hl
                refine lv_goto (tgt := 19) hx hb dX5_go_91 (by decide) ?_
                exact ih19 z4 (i2 + (1 : Int)) e4 (1 : Int32) (1 : Int) kI_1 m73 (by omega) (Or.inl ⟨rfl, go_s hgr hx30 (by omega) (by omega) hx73 rfl (by omega) e3⟩) _ _ hM hS ls (lv_sub hl [3, 4, 2, 0] rfl)
  refine lv_aload_n hx hb dX5_go_0 rfl (lv_at hl 0 rfl) ?_
  refine lv_iconst (v := (0 : Int32)) hx hb dX5_go_1 (by decide) ?_
  refine z_putM hx hb hts iwX5_go_5 hown hK hM hS (by simp only [iv]; omega) 7 (by decide) flX5_go_69 rfl rfl (ty := .int) rfl rfl rfl dX5_go_2 (fun H locs hM hsz hq hS => ?_)
  have hM : MO G H o (upd μ.1 7 (0 : Int32), μ.2.1, μ.2.2.1, μ.2.2.2.1, μ.2.2.2.2) := hM
  refine lv_aload_n hx hb dX5_go_5 rfl (lv_at hl 0 rfl) ?_
  refine lv_iconst (v := (0 : Int32)) hx hb dX5_go_6 (by decide) ?_
  refine z_putM hx hb hts iwX5_go_5 hown hK hM hS (by simp only [iv]; omega) 8 (by decide) flX5_go_75 rfl rfl (ty := .boolean) rfl rfl rfl dX5_go_7 (fun H locs hM hsz hq hS => ?_)
  have hM : MO G H o (upd (upd μ.1 7 (0 : Int32)) 8 (0 : Int32), μ.2.1, μ.2.2.1, μ.2.2.2.1, μ.2.2.2.2) := hM
  refine lv_aload_n hx hb dX5_go_10 rfl (lv_at hl 0 rfl) ?_
  refine lv_iconst (v := (0 : Int32)) hx hb dX5_go_11 (by decide) ?_
  refine z_putM hx hb hts iwX5_go_5 hown hK hM hS (by simp only [iv]; omega) 9 (by decide) flX5_go_86 rfl rfl (ty := .int) rfl rfl rfl dX5_go_12 (fun H locs hM hsz hq hS => ?_)
  have hM : MO G H o (upd (upd (upd μ.1 7 (0 : Int32)) 8 (0 : Int32)) 9 (0 : Int32), μ.2.1, μ.2.2.1, μ.2.2.2.1, μ.2.2.2.2) := hM
  refine lv_iconst (v := (0 : Int32)) hx hb dX5_go_15 (by decide) ?_
  refine lv_istore_n hx hb dX5_go_16 rfl hl (by decide) rfl (fun ls hl => ?_)
  have hl : lv_has ls 5 [(2, .int (0 : Int32)), (0, .ref o), (1, .int xd)] := hl
  refine lv_iconst (v := (1 : Int32)) hx hb dX5_go_17 (by decide) ?_
  refine lv_istore_n hx hb dX5_go_18 rfl hl (by decide) rfl (fun ls hl => ?_)
  have hl : lv_has ls 5 [(3, .int (1 : Int32)), (2, .int (0 : Int32)), (0, .ref o), (1, .int xd)] := hl
  exact cut19 ((((1 : Int) * 100 + 60 - ((upd (upd (upd μ.1 7 (0 : Int32)) 8 (0 : Int32)) 9 (0 : Int32), μ.2.1, μ.2.2.1, μ.2.2.2.1, μ.2.2.2.2).1 7).toInt).toNat) + 1) (0 : Int32) (0 : Int) kI_0 (1 : Int32) (1 : Int) kI_1 (upd (upd (upd μ.1 7 (0 : Int32)) 8 (0 : Int32)) 9 (0 : Int32), μ.2.1, μ.2.2.1, μ.2.2.2.1, μ.2.2.2.2) (Nat.lt_succ_self _) (Or.inl ⟨rfl, go_0 htx rfl rfl rfl hD⟩) _ _ hM hS ls (lv_sub hl [2, 3, 1, 0] rfl)

abbrev rmX5_follow : Room := { frames := 7, cells := 0, slots := 0, locals := 163 }
theorem iwX5_follow_5 : ∀ w ∈ wsX50, w ∈ wsX5_follow := fun _ h => List.mem_cons_of_mem _ (List.mem_append_right _ h)
theorem flX5_follow_69 : Cond.fieldLink RX5 69 "SiltedFloatsModel" "at" "I" ∈ wsX5_follow := by decide +kernel
theorem flX5_follow_7 : Cond.fieldLink RX5 7 "SiltedFloatsModel" "s" "[I" ∈ wsX5_follow := by decide +kernel
theorem flX5_follow_75 : Cond.fieldLink RX5 75 "SiltedFloatsModel" "isWrong" "Z" ∈ wsX5_follow := by decide +kernel
theorem flX5_follow_86 : Cond.fieldLink RX5 86 "SiltedFloatsModel" "hoursOfAll" "I" ∈ wsX5_follow := by decide +kernel
theorem hyX5_follow : yX5_follow.cls = RX5 ∧ yX5_follow.cls ≠ "java/lang/invoke/MethodHandle" ∧ yX5_follow.cls ≠ "java/lang/invoke/VarHandle" ∧ (parseMethodDescriptor yX5_follow.desc).map (fun d => d.parameters.length) = some 0 := by decide +kernel
set_option maxHeartbeats 1000000 in
set_option maxRecDepth 100000 in
theorem kX5_follow (l : Launch) (G : xG) (o : Nat) (μ : MD) (σ : FD) (hRel : Rel σ μ) (hfd : fdOk σ) : Met l yX5_follow wsX5_follow rmX5_follow (va_Pc [.ref o] (zPre G (fun H => MO G H o μ))) (zW (fun v => v.toInt = a_follow σ) (fun H => ∃ n9 : MD, MO G H o n9 ∧ (Rel (s_follow σ) n9)) (iv o 5)) 0 0 (iv o 5) := by
  refine z_ofW (cc := cX5_follow) (maxL := 2) (ret := some .int) (by decide +kernel) rfl (Nat.le_of_ble_eq_true rfl) ?_
  intro p e s m below meth c hx hb hml hr hts hown hlocks hK hP ls hl
  have hM := hP
  have hown : s.vm.findClass RX5 = some m.cls := hown
  have hl : lv_has ls 2 [(0, .ref o)] := hl
  have hS : va_S (iv o 5) s.heap s.heap [] := va_S.rf
  have hR := hRel.1
  have hok := hfd.1
  have hn0 := hR.1
  have hok1 := hok.1
  have hW := hR.w
  have hwo := hok.2.1
  have hkn : 0 ≤ (μ.1 2).toInt ∧ (μ.1 2).toInt ≤ 4 := by rw [hRel.2.1.1]; exact hfd.2.2.2.2.1
  have htx := hfd.2.2.2.2.2
  have hRt : Rt σ.2.2.2.2.2.2 μ := hRel.2.2.2
  refine lv_aload_n hx hb dX5_follow_0 rfl (lv_at hl 0 rfl) ?_
  refine lv_iconst (v := (0 : Int32)) hx hb dX5_follow_1 (by decide) ?_
  refine z_cVw (As := [.int (0 : Int32)]) (rest := []) ⟨hx, hb, hml, hown, hts⟩ (kX5_go l G o μ (0 : Int32) False (isB.f rfl (fun h => h)) σ.2.2.2.2.2.2 σ.1 (by first | assumption | omega) (by first | assumption | omega) (fun q => q.elim)) (cwV 1 hts gX5_follow_X5_go rfl rfl rfl hyX5_go ⟨Nat.le_of_ble_eq_true rfl, Nat.le_of_ble_eq_true rfl⟩) hK hM hM.1 rfl rfl hl.1 rfl (Nat.le_of_ble_eq_true rfl) dX5_follow_2 ⟨Nat.zero_le _, Nat.zero_le _⟩ hS (fun q h => by simp only [iv] at h ⊢; omega) (fun z1 H locs e1 hB hsz hq hS => ?_)
  obtain ⟨m2, hM, hp2⟩ := hB
  have hM : MO G H o m2 := hM
  have hp2 : goE False σ.1 σ.2.2.2.2.2.2 μ m2 := hp2
  have e1 : ftZ σ.2.2.2.2.2.2 = -1 → z1.toInt = ordZ σ.2.2.2.2.2.2 σ.2.2.2.2.2.2.1.toInt.toNat := e1
  have hs2 : m2.2.1 = μ.2.1 := hp2.2.2 (fun q => q)
  have hr2 := hRel.mk hp2.1 hs2
  have hd2 := hp2.2.1
  refine lv_istore_n hx hb dX5_follow_5 rfl hl (by decide) rfl (fun ls hl => ?_)
  have hl : lv_has ls 2 [(1, .int z1), (0, .ref o)] := hl
  refine lv_aload_n hx hb dX5_follow_6 rfl (lv_at hl 1 rfl) ?_
  refine z_get hx hb hts iwX5_follow_5 hown hK hM.1 rfl 8 (by decide) flX5_follow_75 rfl (v := .int (m2.1 8)) rfl dX5_follow_7 ?_
  refine z_if_eq (tgt := 21) hx hb rfl dX5_follow_10 (by decide) (fun c_2 => ?_) (fun c_2 => ?_)
  · have hfit : ftZ σ.2.2.2.2.2.2 = -1 := hd2.elim (fun q => q.1) (fun q => absurd (q.2.1.symm.trans c_2) (by omega))
    have hh2 : (m2.1 9).toInt = hrsZ σ.2.2.2.2.2.2 σ.2.2.2.2.2.2.1.toInt.toNat := hd2.elim (fun q => q.2.2.1) (fun q => absurd hfit q.1)
    have hhb := hrsZ_b σ.2.2.2.2.2.2 σ.2.2.2.2.2.2.1.toInt.toNat
    have htl := htx.1
    have hkm : 0 ≤ (m2.1 2).toInt ∧ (m2.1 2).toInt ≤ 4 := by rw [hp2.1.1]; exact hkn
    refine lv_aload_n hx hb dX5_follow_21 rfl (lv_at hl 1 rfl) ?_
    refine z_get hx hb hts iwX5_follow_5 hown hK hM.1 rfl 0 (by decide) flX5_follow_7 rfl (v := .ref (o + 1)) rfl dX5_follow_22 ?_
    refine lv_iconst (v := (0 : Int32)) hx hb dX5_follow_25 (by decide) ?_
    refine z_iald (f := m2.2.1) hx hb hK 0 hM.2.1 rfl kI_0 (by omega) dX5_follow_26 ?_
    have hcl3 : (m2.2.1 (0 : Int).toNat).toInt = σ.1.1.toInt := ((by rw [hs2]; exact hn0))
    refine lv_aload_n hx hb dX5_follow_27 rfl (lv_at hl 1 rfl) ?_
    refine z_get hx hb hts iwX5_follow_5 hown hK hM.1 rfl 9 (by decide) flX5_follow_86 rfl (v := .int (m2.1 9)) rfl dX5_follow_28 ?_
    refine z_iadd hx hb hcl3 rfl dX5_follow_31 (by omega) (fun z4 e4 => ?_)
    refine lv_bipush (v := (120 : Int32)) hx hb dX5_follow_32 (by decide) ?_
    refine z_icmp_le (tgt := 40) hx hb e4 kI_120 dX5_follow_34 (by decide) (fun c_5 => ?_) (fun c_5 => ?_)
    · refine lv_aload_n hx hb dX5_follow_40 rfl (lv_at hl 1 rfl) ?_
      refine z_cVv (As := []) (rest := []) ⟨hx, hb, hml, hown, hts⟩ (kX5_know l G o m2 hkm) (cwV 0 hts gX5_follow_X5_know rfl rfl rfl hyX5_know ⟨Nat.le_of_ble_eq_true rfl, Nat.le_of_ble_eq_true rfl⟩) hK hM hM.1 rfl rfl hl.1 rfl (Nat.le_of_ble_eq_true rfl) dX5_follow_41 ⟨Nat.zero_le _, Nat.zero_le _⟩ hS (fun q h => by simp only [iv] at h ⊢; omega) (fun H locs hB hsz hq hS => ?_)
      have hM := hB
      have hM : MO G H o (kwS m2, m2.2.1, kwB m2, m2.2.2.2) := hM
      refine lv_aload_n hx hb dX5_follow_44 rfl (lv_at hl 1 rfl) ?_
      refine lv_iconst (v := (1 : Int32)) hx hb dX5_follow_45 (by decide) ?_
      refine z_cVw (As := [.int (1 : Int32)]) (rest := []) ⟨hx, hb, hml, hown, hts⟩ (kX5_go l G o (kwS m2, m2.2.1, kwB m2, m2.2.2.2) (1 : Int32) True (isB.t rfl trivial) σ.2.2.2.2.2.2 σ.1 ((hRt.mk hp2.1).kw) (by first | assumption | omega) (fun _ => ⟨hR.of21 hs2, hok, fitT_of htx hfit, by omega⟩)) (cwV 1 hts gX5_follow_X5_go rfl rfl rfl hyX5_go ⟨Nat.le_of_ble_eq_true rfl, Nat.le_of_ble_eq_true rfl⟩) hK hM hM.1 rfl rfl hl.1 rfl (Nat.le_of_ble_eq_true rfl) dX5_follow_46 ⟨Nat.zero_le _, Nat.zero_le _⟩ hS (fun q h => by simp only [iv] at h ⊢; omega) (fun z7 H locs e7 hB hsz hq hS => ?_)
      obtain ⟨m46, hM, hp46⟩ := hB
      have hM : MO G H o m46 := hM
      have hp46 : goE True σ.1 σ.2.2.2.2.2.2 (kwS m2, m2.2.1, kwB m2, m2.2.2.2) m46 := hp46
      have e7 : ftZ σ.2.2.2.2.2.2 = -1 → z7.toInt = ordZ σ.2.2.2.2.2.2 σ.2.2.2.2.2.2.1.toInt.toNat := e7
      have hR46 : Rs (foN σ.1 σ.2.2.2.2.2.2 σ.2.2.2.2.2.2.1.toInt.toNat) m46.2.1 := hp46.2.1.elim (fun q => q.2.2.2 trivial) (fun q => absurd hfit q.1)
      exact z_riw (v := z7) hx hb hr hlocks (show z7.toInt = a_follow σ from (by unfold a_follow; rw [if_neg (by omega), if_neg (by omega)]; exact e7 hfit)) ⟨_, hM, (by unfold s_follow; rw [if_pos ⟨hfit, by omega⟩]; exact hr2.act2 hfd hR46 hp46.1)⟩ hS dX5_follow_49
    · refine lv_bipush (v := (-3 : Int32)) hx hb dX5_follow_37 (by decide) ?_
      exact z_riw (v := (-3 : Int32)) hx hb hr hlocks (show (-3 : Int32).toInt = a_follow σ from (by unfold a_follow; rw [if_neg (by omega), if_pos (by omega)]; rfl)) ⟨_, hM, (by unfold s_follow; rw [if_neg (fun q => by omega)]; exact hr2)⟩ hS dX5_follow_39
  · have hne : ftZ σ.2.2.2.2.2.2 ≠ -1 := hd2.elim (fun q => absurd q.2.1 c_2) (fun q => q.1)
    have hat : (m2.1 7).toInt = ftZ σ.2.2.2.2.2.2 := hd2.elim (fun q => absurd q.2.1 c_2) (fun q => q.2.2)
    have hfb := ftZ_b htx
    refine lv_bipush (v := (-100 : Int32)) hx hb dX5_follow_13 (by decide) ?_
    refine lv_aload_n hx hb dX5_follow_15 rfl (lv_at hl 1 rfl) ?_
    refine z_get hx hb hts iwX5_follow_5 hown hK hM.1 rfl 7 (by decide) flX5_follow_69 rfl (v := .int (m2.1 7)) rfl dX5_follow_16 ?_
    refine z_isub hx hb kI_m100 rfl dX5_follow_19 (by omega) (fun z8 e8 => ?_)
    exact z_riw (v := z8) hx hb hr hlocks (show z8.toInt = a_follow σ from (by unfold a_follow; rw [if_pos hne]; omega)) ⟨_, hM, (by unfold s_follow; rw [if_neg (fun q => by omega)]; exact hr2)⟩ hS dX5_follow_20
