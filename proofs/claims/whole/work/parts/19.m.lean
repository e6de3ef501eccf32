abbrev rmX5_know : Room := { frames := 0, cells := 0, slots := 0, locals := 0 }
theorem iwX5_know_5 : ∀ w ∈ wsX50, w ∈ wsX5_know := fun _ h => List.mem_cons_of_mem _ (List.mem_append_right _ h)
theorem flX5_know_13 : Cond.fieldLink RX5 13 "SiltedFloatsModel" "before" "[I" ∈ wsX5_know := by decide +kernel
theorem flX5_know_33 : Cond.fieldLink RX5 33 "SiltedFloatsModel" "known" "I" ∈ wsX5_know := by decide +kernel
theorem flX5_know_7 : Cond.fieldLink RX5 7 "SiltedFloatsModel" "s" "[I" ∈ wsX5_know := by decide +kernel
theorem hyX5_know : yX5_know.cls = RX5 ∧ yX5_know.cls ≠ "java/lang/invoke/MethodHandle" ∧ yX5_know.cls ≠ "java/lang/invoke/VarHandle" ∧ (parseMethodDescriptor yX5_know.desc).map (fun d => d.parameters.length) = some 0 := by decide +kernel
set_option maxHeartbeats 4000000 in
set_option maxRecDepth 100000 in
theorem kX5_know (l : Launch) (G : xG) (o : Nat) (μ : MD) (hk : 0 ≤ (μ.1 2).toInt ∧ (μ.1 2).toInt ≤ 4) : Met l yX5_know wsX5_know rmX5_know (va_Pc [.ref o] (zPre G (fun H => MO G H o μ))) (zV (fun H => MO G H o (kwS μ, μ.2.1, kwB μ, μ.2.2.2)) (iv o 5)) 0 0 (iv o 5) := by
  refine z_ofW (cc := cX5_know) (maxL := 2) (ret := none) (by decide +kernel) rfl (Nat.le_of_ble_eq_true rfl) ?_
  intro p e s m below meth c hx hb hml hr hts hown hlocks hK hP ls hl
  have hM := hP
  have hown : s.vm.findClass RX5 = some m.cls := hown
  have hl : lv_has ls 2 [(0, .ref o)] := hl
  have hS : va_S (iv o 5) s.heap s.heap [] := va_S.rf
  refine lv_aload_n hx hb dX5_know_0 rfl (lv_at hl 0 rfl) ?_
  refine z_get hx hb hts iwX5_know_5 hown hK hM.1 rfl 2 (by decide) flX5_know_33 rfl (v := .int (μ.1 2)) rfl dX5_know_1 ?_
  refine lv_iconst (v := (4 : Int32)) hx hb dX5_know_4 (by decide) ?_
  refine z_icmp_ne (tgt := 49) hx hb rfl kI_4 dX5_know_5 (by decide) (fun c_1 => ?_) (fun c_1 => ?_)
  · refine lv_iconst (v := (0 : Int32)) hx hb dX5_know_49 (by decide) ?_
    refine lv_istore_n hx hb dX5_know_50 rfl hl (by decide) rfl (fun ls hl => ?_)
    have hl : lv_has ls 2 [(1, .int (0 : Int32)), (0, .ref o)] := hl
    have cut51 : ∀ (n51 : Nat), ∀ (x1 : Int32) (i1 : Int) (_ : x1.toInt = i1), (2203 - i1).toNat < n51 → (0 ≤ i1 ∧ i1 ≤ 2203) → ∀ (H : Heap) (locs : List Loc), MO G H o (μ.1, μ.2.1, (cpB μ.2.2.1 μ.2.1 (2203 * ((μ.1 2).toInt)) i1), μ.2.2.2.1, μ.2.2.2.2) → va_S (iv o 5) s.heap H locs → ∀ ls : Array Slot, lv_has ls 2 [(0, .ref o), (1, .int x1)] → W p l e rmX5_know s m ([.ref o] : List Value).toArray below meth c H locs 0 0 (MQ below (zV (fun H => MO G H o (kwS μ, μ.2.1, kwB μ, μ.2.2.2)) (iv o 5)) ([.ref o] : List Value).toArray s 0 0 (iv o 5)) (F0 m 51 ls []) := by
      intro n51
      induction n51 with
      | zero =>
        intro x1 i1 hx1 hmu51 hi51_0 H locs hM hS ls hl
        exact absurd hmu51 (Nat.not_lt_zero _)
      | succ n51 ih51 =>
        intro x1 i1 hx1 hmu51 hi51_0 H locs hM hS ls hl
        refine lv_iload_n hx hb dX5_know_51 rfl (lv_at hl 1 rfl) ?_
        refine lv_sipush (v := (2203 : Int32)) hx hb dX5_know_52 (by decide) ?_
        refine z_icmp_ge (tgt := 85) hx hb hx1 kI_2203 dX5_know_55 (by decide) (fun c_2 => ?_) (fun c_2 => ?_)
        · refine lv_aload_n hx hb dX5_know_85 rfl (lv_at hl 0 rfl) ?_
          refine lv_dup hx hb dX5_know_86 rfl ?_
          refine z_get hx hb hts iwX5_know_5 hown hK hM.1 rfl 2 (by decide) flX5_know_33 rfl (v := .int (μ.1 2)) rfl dX5_know_87 ?_
          refine lv_iconst (v := (1 : Int32)) hx hb dX5_know_90 (by decide) ?_
          refine z_iadd hx hb rfl kI_1 dX5_know_91 (by omega) (fun z3 e3 => ?_)
          refine z_putM hx hb hts iwX5_know_5 hown hK hM hS (by simp only [iv]; omega) 2 (by decide) flX5_know_33 rfl rfl (ty := .int) rfl rfl rfl dX5_know_92 (fun H locs hM hsz hq hS => ?_)
          have hM : MO G H o (upd μ.1 2 z3, μ.2.1, (cpB μ.2.2.1 μ.2.1 (2203 * ((μ.1 2).toInt)) i1), μ.2.2.2.1, μ.2.2.2.2) := hM
          exact z_rv hx hb hr hlocks (hM.to (by rw [show i1 = 2203 by omega]; exact kw_f (by omega) e3)) hS dX5_know_95
        · refine lv_aload_n hx hb dX5_know_58 rfl (lv_at hl 0 rfl) ?_
          refine z_get hx hb hts iwX5_know_5 hown hK hM.1 rfl 1 (by decide) flX5_know_13 rfl (v := .ref (o + 2)) rfl dX5_know_59 ?_
          refine lv_sipush (v := (2203 : Int32)) hx hb dX5_know_62 (by decide) ?_
          refine lv_aload_n hx hb dX5_know_65 rfl (lv_at hl 0 rfl) ?_
          refine z_get hx hb hts iwX5_know_5 hown hK hM.1 rfl 2 (by decide) flX5_know_33 rfl (v := .int (μ.1 2)) rfl dX5_know_66 ?_
          refine z_imul hx hb kI_2203 rfl dX5_know_69 (by omega) (fun z4 e4 => ?_)
          refine lv_iload_n hx hb dX5_know_70 rfl (lv_at hl 1 rfl) ?_
          refine z_iadd hx hb e4 hx1 dX5_know_71 (by omega) (fun z5 e5 => ?_)
          refine lv_aload_n hx hb dX5_know_72 rfl (lv_at hl 0 rfl) ?_
          refine z_get hx hb hts iwX5_know_5 hown hK hM.1 rfl 0 (by decide) flX5_know_7 rfl (v := .ref (o + 1)) rfl dX5_know_73 ?_
          refine lv_iload_n hx hb dX5_know_76 rfl (lv_at hl 1 rfl) ?_
          refine z_iald (f := μ.2.1) hx hb hK 0 hM.2.1 rfl hx1 (by omega) dX5_know_77 ?_
          refine z_iastMb hx hb hK hM hS (by simp only [iv]; omega) e5 (by omega) dX5_know_78 (fun H locs hM hsz hq hS => ?_)
          have hM : MO G H o (μ.1, μ.2.1, upd (cpB μ.2.2.1 μ.2.1 (2203 * ((μ.1 2).toInt)) i1) (((2203 : Int) * ((μ.1 2).toInt)) + i1).toNat (μ.2.1 i1.toNat), μ.2.2.2.1, μ.2.2.2.2) := hM
          refine z_iinc (k := 1) hx hb dX5_know_79 hl rfl hx1 (show (Int32.ofInt 1).toInt = (1 : Int) from rfl) (by omega) (by decide) (fun z6 e6 ls hl => ?_)
          have hl : lv_has ls 2 [(1, .int z6), (0, .ref o)] := hl
          refine lv_goto (tgt := 51) hx hb dX5_know_82 (by decide) ?_
          exact ih51 z6 (i1 + (1 : Int)) e6 (by omega) (by omega) _ _ (hM.to (by rw [cpB_s (by omega) (by omega)])) hS ls (lv_sub hl [1, 0] rfl)
    exact cut51 (((2203 - (0 : Int)).toNat) + 1) (0 : Int32) (0 : Int) kI_0 (Nat.lt_succ_self _) (by omega) _ _ (hM.to (by rw [cpB_0])) hS ls (lv_sub hl [1, 0] rfl)
  · refine lv_iconst (v := (0 : Int32)) hx hb dX5_know_8 (by decide) ?_
    refine lv_istore_n hx hb dX5_know_9 rfl hl (by decide) rfl (fun ls hl => ?_)
    have hl : lv_has ls 2 [(1, .int (0 : Int32)), (0, .ref o)] := hl
    have cut10 : ∀ (n10 : Nat), ∀ (x1 : Int32) (i1 : Int) (_ : x1.toInt = i1), (6609 - i1).toNat < n10 → (0 ≤ i1 ∧ i1 ≤ 6609) → ∀ (H : Heap) (locs : List Loc), MO G H o (μ.1, μ.2.1, (shB μ.2.2.1 i1), μ.2.2.2.1, μ.2.2.2.2) → va_S (iv o 5) s.heap H locs → ∀ ls : Array Slot, lv_has ls 2 [(0, .ref o), (1, .int x1)] → W p l e rmX5_know s m ([.ref o] : List Value).toArray below meth c H locs 0 0 (MQ below (zV (fun H => MO G H o (kwS μ, μ.2.1, kwB μ, μ.2.2.2)) (iv o 5)) ([.ref o] : List Value).toArray s 0 0 (iv o 5)) (F0 m 10 ls []) := by
      intro n10
      induction n10 with
      | zero =>
        intro x1 i1 hx1 hmu10 hi10_0 H locs hM hS ls hl
        exact absurd hmu10 (Nat.not_lt_zero _)
      | succ n10 ih10 =>
        intro x1 i1 hx1 hmu10 hi10_0 H locs hM hS ls hl
        refine lv_iload_n hx hb dX5_know_10 rfl (lv_at hl 1 rfl) ?_
        refine lv_sipush (v := (6609 : Int32)) hx hb dX5_know_11 (by decide) ?_
        refine z_icmp_ge (tgt := 39) hx hb hx1 kI_6609 dX5_know_14 (by decide) (fun c_7 => ?_) (fun c_7 => ?_)
        · refine lv_aload_n hx hb dX5_know_39 rfl (lv_at hl 0 rfl) ?_
          refine lv_dup hx hb dX5_know_40 rfl ?_
          refine z_get hx hb hts iwX5_know_5 hown hK hM.1 rfl 2 (by decide) flX5_know_33 rfl (v := .int (μ.1 2)) rfl dX5_know_41 ?_
          refine lv_iconst (v := (1 : Int32)) hx hb dX5_know_44 (by decide) ?_
          refine z_isub hx hb rfl kI_1 dX5_know_45 (by omega) (fun z8 e8 => ?_)
          refine z_putM hx hb hts iwX5_know_5 hown hK hM hS (by simp only [iv]; omega) 2 (by decide) flX5_know_33 rfl rfl (ty := .int) rfl rfl rfl dX5_know_46 (fun H locs hM hsz hq hS => ?_)
          have hM : MO G H o (upd μ.1 2 z8, μ.2.1, (shB μ.2.2.1 i1), μ.2.2.2.1, μ.2.2.2.2) := hM
          refine lv_iconst (v := (0 : Int32)) hx hb dX5_know_49 (by decide) ?_
          refine lv_istore_n hx hb dX5_know_50 rfl hl (by decide) rfl (fun ls hl => ?_)
          have hl : lv_has ls 2 [(1, .int (0 : Int32)), (0, .ref o)] := hl
          have cut51 : ∀ (n51 : Nat), ∀ (x1 : Int32) (i1 : Int) (_ : x1.toInt = i1), (2203 - i1).toNat < n51 → (0 ≤ i1 ∧ i1 ≤ 2203) → ∀ (H : Heap) (locs : List Loc), MO G H o (upd μ.1 2 z8, μ.2.1, (cpB (shB μ.2.2.1 6609) μ.2.1 (2203 * (((μ.1 2).toInt) - (1 : Int))) i1), μ.2.2.2.1, μ.2.2.2.2) → va_S (iv o 5) s.heap H locs → ∀ ls : Array Slot, lv_has ls 2 [(0, .ref o), (1, .int x1)] → W p l e rmX5_know s m ([.ref o] : List Value).toArray below meth c H locs 0 0 (MQ below (zV (fun H => MO G H o (kwS μ, μ.2.1, kwB μ, μ.2.2.2)) (iv o 5)) ([.ref o] : List Value).toArray s 0 0 (iv o 5)) (F0 m 51 ls []) := by
            intro n51
            induction n51 with
            | zero =>
              intro x1 i1 hx1 hmu51 hi51_0 H locs hM hS ls hl
              exact absurd hmu51 (Nat.not_lt_zero _)
            | succ n51 ih51 =>
              intro x1 i1 hx1 hmu51 hi51_0 H locs hM hS ls hl
              refine lv_iload_n hx hb dX5_know_51 rfl (lv_at hl 1 rfl) ?_
              refine lv_sipush (v := (2203 : Int32)) hx hb dX5_know_52 (by decide) ?_
              refine z_icmp_ge (tgt := 85) hx hb hx1 kI_2203 dX5_know_55 (by decide) (fun c_9 => ?_) (fun c_9 => ?_)
              · refine lv_aload_n hx hb dX5_know_85 rfl (lv_at hl 0 rfl) ?_
                refine lv_dup hx hb dX5_know_86 rfl ?_
                refine z_get hx hb hts iwX5_know_5 hown hK hM.1 rfl 2 (by decide) flX5_know_33 rfl (v := .int z8) rfl dX5_know_87 ?_
                refine lv_iconst (v := (1 : Int32)) hx hb dX5_know_90 (by decide) ?_
                refine z_iadd hx hb e8 kI_1 dX5_know_91 (by omega) (fun z10 e10 => ?_)
                refine z_putM hx hb hts iwX5_know_5 hown hK hM hS (by simp only [iv]; omega) 2 (by decide) flX5_know_33 rfl rfl (ty := .int) rfl rfl rfl dX5_know_92 (fun H locs hM hsz hq hS => ?_)
                have hM : MO G H o (upd (upd μ.1 2 z8) 2 z10, μ.2.1, (cpB (shB μ.2.2.1 6609) μ.2.1 (2203 * (((μ.1 2).toInt) - (1 : Int))) i1), μ.2.2.2.1, μ.2.2.2.2) := hM
                exact z_rv hx hb hr hlocks (hM.to (by rw [show i1 = 2203 by omega]; exact kw_t (by omega) e10)) hS dX5_know_95
              · refine lv_aload_n hx hb dX5_know_58 rfl (lv_at hl 0 rfl) ?_
                refine z_get hx hb hts iwX5_know_5 hown hK hM.1 rfl 1 (by decide) flX5_know_13 rfl (v := .ref (o + 2)) rfl dX5_know_59 ?_
                refine lv_sipush (v := (2203 : Int32)) hx hb dX5_know_62 (by decide) ?_
                refine lv_aload_n hx hb dX5_know_65 rfl (lv_at hl 0 rfl) ?_
                refine z_get hx hb hts iwX5_know_5 hown hK hM.1 rfl 2 (by decide) flX5_know_33 rfl (v := .int z8) rfl dX5_know_66 ?_
                refine z_imul hx hb kI_2203 e8 dX5_know_69 (by omega) (fun z11 e11 => ?_)
                refine lv_iload_n hx hb dX5_know_70 rfl (lv_at hl 1 rfl) ?_
                refine z_iadd hx hb e11 hx1 dX5_know_71 (by omega) (fun z12 e12 => ?_)
                refine lv_aload_n hx hb dX5_know_72 rfl (lv_at hl 0 rfl) ?_
                refine z_get hx hb hts iwX5_know_5 hown hK hM.1 rfl 0 (by decide) flX5_know_7 rfl (v := .ref (o + 1)) rfl dX5_know_73 ?_
                refine lv_iload_n hx hb dX5_know_76 rfl (lv_at hl 1 rfl) ?_
                refine z_iald (f := μ.2.1) hx hb hK 0 hM.2.1 rfl hx1 (by omega) dX5_know_77 ?_
                refine z_iastMb hx hb hK hM hS (by simp only [iv]; omega) e12 (by omega) dX5_know_78 (fun H locs hM hsz hq hS => ?_)
                have hM : MO G H o (upd μ.1 2 z8, μ.2.1, upd (cpB (shB μ.2.2.1 6609) μ.2.1 (2203 * (((μ.1 2).toInt) - (1 : Int))) i1) (((2203 : Int) * (((μ.1 2).toInt) - (1 : Int))) + i1).toNat (μ.2.1 i1.toNat), μ.2.2.2.1, μ.2.2.2.2) := hM
                refine z_iinc (k := 1) hx hb dX5_know_79 hl rfl hx1 (show (Int32.ofInt 1).toInt = (1 : Int) from rfl) (by omega) (by decide) (fun z13 e13 ls hl => ?_)
                have hl : lv_has ls 2 [(1, .int z13), (0, .ref o)] := hl
                refine lv_goto (tgt := 51) hx hb dX5_know_82 (by decide) ?_
                exact ih51 z13 (i1 + (1 : Int)) e13 (by omega) (by omega) _ _ (hM.to (by rw [cpB_s (by omega) (by omega)])) hS ls (lv_sub hl [1, 0] rfl)
          exact cut51 (((2203 - (0 : Int)).toNat) + 1) (0 : Int32) (0 : Int) kI_0 (Nat.lt_succ_self _) (by omega) _ _ (hM.to (by rw [cpB_0, show i1 = 6609 by omega])) hS ls (lv_sub hl [1, 0] rfl)
        · refine lv_aload_n hx hb dX5_know_17 rfl (lv_at hl 0 rfl) ?_
          refine z_get hx hb hts iwX5_know_5 hown hK hM.1 rfl 1 (by decide) flX5_know_13 rfl (v := .ref (o + 2)) rfl dX5_know_18 ?_
          refine lv_iload_n hx hb dX5_know_21 rfl (lv_at hl 1 rfl) ?_
          refine lv_aload_n hx hb dX5_know_22 rfl (lv_at hl 0 rfl) ?_
          refine z_get hx hb hts iwX5_know_5 hown hK hM.1 rfl 1 (by decide) flX5_know_13 rfl (v := .ref (o + 2)) rfl dX5_know_23 ?_
          refine lv_sipush (v := (2203 : Int32)) hx hb dX5_know_26 (by decide) ?_
          refine lv_iload_n hx hb dX5_know_29 rfl (lv_at hl 1 rfl) ?_
          refine z_iadd hx hb kI_2203 hx1 dX5_know_30 (by omega) (fun z14 e14 => ?_)
          refine z_iald (f := (shB μ.2.2.1 i1)) hx hb hK 0 hM.2.2.1 rfl e14 (by omega) dX5_know_31 ?_
          refine z_iastMb hx hb hK hM hS (by simp only [iv]; omega) hx1 (by omega) dX5_know_32 (fun H locs hM hsz hq hS => ?_)
          have hM : MO G H o (μ.1, μ.2.1, upd (shB μ.2.2.1 i1) i1.toNat ((shB μ.2.2.1 i1) ((2203 : Int) + i1).toNat), μ.2.2.2.1, μ.2.2.2.2) := hM
          refine z_iinc (k := 1) hx hb dX5_know_33 hl rfl hx1 (show (Int32.ofInt 1).toInt = (1 : Int) from rfl) (by omega) (by decide) (fun z15 e15 ls hl => ?_)
          have hl : lv_has ls 2 [(1, .int z15), (0, .ref o)] := hl
          refine lv_goto (tgt := 10) hx hb dX5_know_36 (by decide) ?_
          exact ih10 z15 (i1 + (1 : Int)) e15 (by omega) (by omega) _ _ (hM.to (by rw [shB_at (by omega), shB_s (by omega)])) hS ls (lv_sub hl [1, 0] rfl)
    exact cut10 (((6609 - (0 : Int)).toNat) + 1) (0 : Int32) (0 : Int) kI_0 (Nat.lt_succ_self _) (by omega) _ _ (hM.to (by rw [shB_0])) hS ls (lv_sub hl [1, 0] rfl)
