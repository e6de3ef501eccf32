abbrev rmX2_init : Room := { frames := 5, cells := 17, slots := 1140, locals := 121 }
theorem iwX2_init_0 : ∀ w ∈ wsX00, w ∈ wsX2_init := fun _ h => List.mem_cons_of_mem _ (List.mem_append_right _ h)
theorem iwX2_init_2 : ∀ w ∈ wsX20, w ∈ wsX2_init := fun _ h => List.mem_cons_of_mem _ (List.mem_append_left _ (List.mem_append_left _ (List.mem_append_right _ h)))
theorem iwX2_init_3 : ∀ w ∈ wsX30, w ∈ wsX2_init := fun _ h => List.mem_cons_of_mem _ (List.mem_append_left _ (List.mem_append_right _ h))
theorem flX2_init_11 : Cond.fieldLink RX2 11 "SiltedFloats$State" "waves" "[LSiltedFloats$Wave;" ∈ wsX2_init := by decide +kernel
theorem flX2_init_22 : Cond.fieldLink RX2 22 "SiltedFloats$State" "gauges" "[LSiltedFloats$Gauge;" ∈ wsX2_init := by decide +kernel
theorem hyX2_init : yX2_init.cls ≠ "java/lang/invoke/MethodHandle" ∧ yX2_init.cls ≠ "java/lang/invoke/VarHandle" ∧ (parseMethodDescriptor yX2_init.desc).map (fun d => d.parameters.length) = some 0 := by decide +kernel
set_option maxHeartbeats 4000000 in
set_option maxRecDepth 100000 in
theorem kX2_init (l : Launch) (G : xG) (t : Nat) : Met l yX2_init wsX2_init rmX2_init (va_Pc [.ref t] (zPreC G (fun H => ZS H (t + 1) ∧ xat G H t (.inr (2, [.int 0, .null, .null]))))) (zV (fun H => ZS H (t + 18) ∧ ST G H t (settle st0)) (fun q : Nat => t ≤ q)) 17 1140 (fun q : Nat => t ≤ q) := by
  refine z_ofWC (cc := cX2_init) (maxL := 2) (ret := none) (by decide +kernel) rfl (Nat.le_of_ble_eq_true rfl) ?_
  intro p e s m below meth c hx hb hml hr hts hown hlocks hin hC hP ls hl
  have hK := hC.1
  have hown : s.vm.findClass RX2 = some m.cls := hown
  have hl : lv_has ls 2 [(0, .ref t)] := hl
  have hS : va_S (fun q : Nat => t ≤ q) s.heap s.heap [] := va_S.rf
  generalize hHe : s.heap = H at hP
  have hS : va_S (fun q : Nat => t ≤ q) s.heap H [] := by rw [← hHe]; exact va_S.rf
  suffices hW9 : W p l e rmX2_init s m ([.ref t] : List Value).toArray below meth c H [] 0 0 (MQ below (zV (fun H => ZS H (t + 18) ∧ ST G H t (settle st0)) (fun q : Nat => t ≤ q)) ([.ref t] : List Value).toArray s 17 1140 (fun q : Nat => t ≤ q)) (F0 m 0 ls []) by first | exact hW9 | (rw [hHe]; exact hW9)
  generalize hL : ([] : List Loc) = locs at hS ⊢
  refine lv_aload_n hx hb dX2_init_0 rfl (lv_at hl 0 rfl) ?_
  refine W.objInit hx hb hown (hts _ (List.mem_of_getElem? (i := 1) rfl)) (hts _ (List.mem_of_getElem? (i := 2) rfl)) (hts _ (List.mem_of_getElem? (i := 3) rfl)) rfl (by rw [hml]; exact hl.1) rfl dX2_init_1 (Nat.le_of_ble_eq_true rfl) (Nat.le_of_ble_eq_true rfl) ?_
  refine lv_aload_n hx hb dX2_init_4 rfl (lv_at hl 0 rfl) ?_
  refine lv_iconst (v := (3 : Int32)) hx hb dX2_init_5 (by decide) ?_
  obtain ⟨hsz, hO⟩ := hP
  refine z_newq hx hb hown (C := RX3) (index := 9) (hts _ (by decide +kernel)) hC.2.1 hK 2 rfl (h := t + 1) hsz hS (N' := 3) (by decide) (by decide) (Nat.le_of_ble_eq_true rfl) (by show _ ≤ 17; omega) (by show _ ≤ 1140; omega) dX2_init_6 (fun H hA hsz ho hS => ?_)
  have hO := hO.kept (ho t (by omega))
  refine z_putF hx hb hts iwX2_init_2 tyX2 tyX2_ok nmX2 hown hK hO rfl hS (by show t ≤ t; omega) 1 (by decide) flX2_init_11 rfl rfl hin rfl (ty := .array (.object "SiltedFloats$Wave")) rfl rfl rfl (by show _ < 3; omega) dX2_init_9 (fun H locs hO hz1 hq hS => ?_)
  have hA := hA.kept (hq _ (by omega))
  have hsz := hz1.trans hsz
  have hO : xat G H t (.inr (2, [.int 0, .ref (t + 1), .null])) := hO
  refine lv_aload_n hx hb dX2_init_12 rfl (lv_at hl 0 rfl) ?_
  refine z_get hx hb hts iwX2_init_2 hown hK hO rfl 1 (by decide) flX2_init_11 rfl (v := .ref (t + 1)) rfl dX2_init_13 ?_
  refine lv_iconst (v := (0 : Int32)) hx hb dX2_init_16 (by decide) ?_
  refine z_new (ci := 3) (fs := [.int 0, .int 0, .int 0]) hx hb hts iwX2_init_3 tyX3 tyX3_ok hown (C := RX3) (index := 9) (by decide +kernel) (by decide +kernel) (by decide +kernel) hK (h := t + 2) hsz hS rfl (fun j hj => by rcases (show j = 0 ∨ j = 1 ∨ j = 2 by omega) with rfl | rfl | rfl <;> rfl) (by show _ ≤ 17; omega) (by show _ ≤ 1140; omega) dX2_init_17 (fun H hV hsz ho hS => ?_)
  have hO := hO.kept (ho t (by omega))
  have hA := hA.kept (ho (t + 1) (by omega))
  refine lv_dup hx hb dX2_init_20 rfl ?_
  refine lv_sipush (v := (1000 : Int32)) hx hb dX2_init_21 (by decide) ?_
  refine lv_bipush (v := (12 : Int32)) hx hb dX2_init_24 (by decide) ?_
  refine lv_iconst (v := (0 : Int32)) hx hb dX2_init_26 (by decide) ?_
  refine z_cI (As := [.int 1000, .int 12, .int 0]) (rest := [.ref (t + 2), .int (0 : Int32), .ref (t + 1)]) ⟨hx, hb, hml, hown, hts⟩ (kX3_init l G (t + 2) 1000 1000 rfl 12 12 rfl 0 0 rfl) (cwI 3 hts gX2_init_X3_init rfl rfl rfl (hts _ (by decide +kernel)) (hts (.methodLink RX2 17 yX3_init) (by decide +kernel)) (hts (.instanceMethod yX3_init) (by decide +kernel)) rfl hyX3_init ⟨Nat.le_of_ble_eq_true rfl, Nat.le_of_ble_eq_true rfl⟩) hC ⟨hsz, hV⟩ rfl hl.1 rfl (Nat.le_of_ble_eq_true rfl) dX2_init_27 ⟨by show _ ≤ 17; omega, by show _ ≤ 1140; omega⟩ hS (fun q h => by have h9 : t + 2 ≤ q := h; show t ≤ q; omega) (fun H locs hP9 hsz9 hq hS => ?_)
  have hz9 : _ = t + 2 + 1 := hsz
  have hO := hO.kept (hq (t) (by omega) (by show ¬ (_ ≤ _); omega))
  have hA := hA.kept (hq (t + 1) (by omega) (by show ¬ (_ ≤ _); omega))
  obtain ⟨hsz, hV⟩ := hP9
  refine z_aast (r := (RX3, TX3, 3)) hx hb hK 2 hA rfl hV rfl hS (by show t ≤ _; omega) kI_0 (by omega) dX2_init_30 (fun H locs hA hz1 hq hS => ?_)
  have hO := hO.kept (hq t (by omega))
  have hV := hV.kept (fun q _ _ => hq q (by omega))
  have hsz := hz1.trans hsz
  refine lv_iconst (v := (1 : Int32)) hx hb dX2_init_31 (by decide) ?_
  refine lv_istore_n hx hb dX2_init_32 rfl hl (by decide) rfl (fun ls hl => ?_)
  have hl : lv_has ls 2 [(1, .int (1 : Int32)), (0, .ref t)] := hl
  have cut33 : ∀ (n33 : Nat), ∀ (x1 : Int32) (i1 : Int) (_ : x1.toInt = i1), (3 - i1).toNat < n33 → (1 ≤ i1 ∧ i1 ≤ 3) → ∀ (H : Heap) (locs : List Loc), P2a G t i1 H → va_S (fun q : Nat => t ≤ q) s.heap H locs → ∀ ls : Array Slot, lv_has ls 2 [(0, .ref t), (1, .int x1)] → W p l e rmX2_init s m ([.ref t] : List Value).toArray below meth c H locs (1 + i1.toNat) (3 + 3 * i1.toNat) (MQ below (zV (fun H => ZS H (t + 18) ∧ ST G H t (settle st0)) (fun q : Nat => t ≤ q)) ([.ref t] : List Value).toArray s 17 1140 (fun q : Nat => t ≤ q)) (F0 m 33 ls []) := by
    intro n33
    induction n33 with
    | zero =>
      intro x1 i1 hx1 hmu33 hi33_0 H locs hP hS ls hl
      exact absurd hmu33 (Nat.not_lt_zero _)
    | succ n33 ih33 =>
      intro x1 i1 hx1 hmu33 hi33_0 H locs hP hS ls hl
      obtain ⟨hsz, hO, f, hA, hf, hw⟩ := hP
      refine lv_iload_n hx hb dX2_init_33 rfl (lv_at hl 1 rfl) ?_
      refine lv_iconst (v := (3 : Int32)) hx hb dX2_init_34 (by decide) ?_
      refine z_icmp_ge (tgt := 61) hx hb hx1 kI_3 dX2_init_35 (by decide) (fun c_1 => ?_) (fun c_1 => ?_)
      · refine lv_aload_n hx hb dX2_init_61 rfl (lv_at hl 0 rfl) ?_
        refine lv_iconst (v := (3 : Int32)) hx hb dX2_init_62 (by decide) ?_
        have hi3 : i1 = 3 := by omega
        subst hi3
        refine z_newq hx hb hown (C := RX0) (index := 20) (hts _ (by decide +kernel)) hC.2.2.1 hK 3 rfl (h := t + 5) hsz hS (N' := 3) (by decide) (by decide) (Nat.le_of_ble_eq_true rfl) (by show _ ≤ 17; omega) (by show _ ≤ 1140; omega) dX2_init_63 (fun H hA5 hsz ho hS => ?_)
        have hO := hO.kept (ho t (by omega))
        have hA := hA.kept (ho (t + 1) (by omega))
        have hw := fun (j : Nat) (hj : (j : Int) < 3) => (hw j hj).kept (fun q _ _ => ho q (by omega))
        refine z_putF hx hb hts iwX2_init_2 tyX2 tyX2_ok nmX2 hown hK hO rfl hS (by show t ≤ t; omega) 2 (by decide) flX2_init_22 rfl rfl hin rfl (ty := .array (.object "SiltedFloats$Gauge")) rfl rfl rfl (by show _ < 3; omega) dX2_init_66 (fun H locs hO hz1 hq hS => ?_)
        have hA := hA.kept (hq _ (by omega))
        have hA5 := hA5.kept (hq _ (by omega))
        have hsz := hz1.trans hsz
        have hO : xat G H t (.inr (2, [.int 0, .ref (t + 1), .ref (t + 5)])) := hO
        have hw := fun (j : Nat) (hj : (j : Int) < 3) => (hw j hj).kept (fun q _ _ => hq q (by omega))
        have hT := SW_of hO hA hf hw
        refine lv_iconst (v := (0 : Int32)) hx hb dX2_init_69 (by decide) ?_
        refine lv_istore_n hx hb dX2_init_70 rfl hl (by decide) rfl (fun ls hl => ?_)
        have hl : lv_has ls 2 [(1, .int (0 : Int32)), (0, .ref t)] := hl
        have cut71 : ∀ (n71 : Nat), ∀ (x1 : Int32) (i1 : Int) (_ : x1.toInt = i1), (3 - i1).toNat < n71 → (0 ≤ i1 ∧ i1 ≤ 3) → ∀ (H : Heap) (locs : List Loc), P2b G t i1 H → va_S (fun q : Nat => t ≤ q) s.heap H locs → ∀ ls : Array Slot, lv_has ls 2 [(0, .ref t), (1, .int x1)] → W p l e rmX2_init s m ([.ref t] : List Value).toArray below meth c H locs (5 + 4 * i1.toNat) (15 + 375 * i1.toNat) (MQ below (zV (fun H => ZS H (t + 18) ∧ ST G H t (settle st0)) (fun q : Nat => t ≤ q)) ([.ref t] : List Value).toArray s 17 1140 (fun q : Nat => t ≤ q)) (F0 m 71 ls []) := by
          intro n71
          induction n71 with
          | zero =>
            intro x1 i1 hx1 hmu71 hi71_0 H locs hP hS ls hl
            exact absurd hmu71 (Nat.not_lt_zero _)
          | succ n71 ih71 =>
            intro x1 i1 hx1 hmu71 hi71_0 H locs hP hS ls hl
            obtain ⟨hsz, hT, f, hA, hf, hw⟩ := hP
            refine lv_iload_n hx hb dX2_init_71 rfl (lv_at hl 1 rfl) ?_
            refine lv_iconst (v := (3 : Int32)) hx hb dX2_init_72 (by decide) ?_
            refine z_icmp_ge (tgt := 106) hx hb hx1 kI_3 dX2_init_73 (by decide) (fun c_2 => ?_) (fun c_2 => ?_)
            · refine W.widen (k := 17) (n := 1140) (by omega) (by omega) ?_
              exact z_rvN hx hb hr hlocks (P2b_e ⟨hsz, hT, _, hA, hf, hw⟩ (by omega)) hS dX2_init_106
            · refine lv_aload_n hx hb dX2_init_76 rfl (lv_at hl 0 rfl) ?_
              refine z_get hx hb hts iwX2_init_2 hown hK hT.1 rfl 2 (by decide) flX2_init_22 rfl (v := .ref (t + 5)) rfl dX2_init_77 ?_
              refine lv_iload_n hx hb dX2_init_80 rfl (lv_at hl 1 rfl) ?_
              refine z_new (ci := 0) (fs := gB (fun _ => 0)) hx hb hts iwX2_init_0 tyX0 tyX0_ok hown (C := RX0) (index := 20) (by decide +kernel) (by decide +kernel) (by decide +kernel) hK (h := t + 6 + 4 * i1.toNat) hsz hS rfl (fun j hj => by rcases (show j = 0 ∨ j = 1 ∨ j = 2 ∨ j = 3 ∨ j = 4 ∨ j = 5 ∨ j = 6 ∨ j = 7 ∨ j = 8 ∨ j = 9 ∨ j = 10 ∨ j = 11 ∨ j = 12 ∨ j = 13 ∨ j = 14 by omega) with rfl | rfl | rfl | rfl | rfl | rfl | rfl | rfl | rfl | rfl | rfl | rfl | rfl | rfl | rfl <;> rfl) (by show _ ≤ 17; omega) (by show _ ≤ 1140; omega) dX2_init_81 (fun H hB hsz ho hS => ?_)
              have hT := hT.kept (fun q _ _ => ho q (by omega))
              have hA := hA.kept (ho (t + 5) (by omega))
              have hw := fun (j : Nat) (hj : (j : Int) < i1) => (hw j hj).kept (fun q _ _ => ho q (by omega))
              refine lv_dup hx hb dX2_init_84 rfl ?_
              refine lv_iload_n hx hb dX2_init_85 rfl (lv_at hl 1 rfl) ?_
              refine z_cI (As := [.int x1]) (rest := [.ref (t + 6 + 4 * i1.toNat), .int x1, .ref (t + 5)]) ⟨hx, hb, hml, hown, hts⟩ (kX0_init l G (t + 6 + 4 * i1.toNat) x1 i1 hx1) (cwI 1 hts gX2_init_X0_init rfl rfl rfl (hts _ (by decide +kernel)) (hts (.methodLink RX2 26 yX0_init) (by decide +kernel)) (hts (.instanceMethod yX0_init) (by decide +kernel)) rfl hyX0_init ⟨Nat.le_of_ble_eq_true rfl, Nat.le_of_ble_eq_true rfl⟩) hC ⟨hsz, hB⟩ rfl hl.1 rfl (Nat.le_of_ble_eq_true rfl) dX2_init_86 ⟨by show _ ≤ 17; omega, by show _ ≤ 1140; omega⟩ hS (fun q h => by have h9 : t + 6 + 4 * i1.toNat ≤ q := h; show t ≤ q; omega) (fun H locs hP9 hsz9 hq hS => ?_)
              have hz9 : _ = t + 6 + 4 * i1.toNat + 1 := hsz
              have hT := hT.kept (fun q _ _ => hq q (by omega) (by show ¬ (_ ≤ _); omega))
              have hA := hA.kept (hq (t + 5) (by omega) (by show ¬ (_ ≤ _); omega))
              have hw := fun (j : Nat) (hj : (j : Int) < i1) => (hw j hj).kept (fun q _ _ => hq q (by omega) (by show ¬ (_ ≤ _); omega))
              obtain ⟨hsz, hJ⟩ := hP9
              refine z_aast (r := (RX0, TX0, 15)) hx hb hK 3 hA rfl hJ.1 rfl hS (by show t ≤ _; omega) hx1 (by omega) dX2_init_89 (fun H locs hA hz1 hq hS => ?_)
              have hw := fun (j : Nat) (hj : (j : Int) < i1) => (hw j hj).kept (fun q _ _ => hq q (by omega))
              have hT := hT.kept (fun q _ _ => hq q (by omega))
              have hJ := hJ.kept (fun q _ _ => hq q (by omega))
              have hsz := hz1.trans hsz
              refine lv_aload_n hx hb dX2_init_90 rfl (lv_at hl 0 rfl) ?_
              refine lv_aload_n hx hb dX2_init_91 rfl (lv_at hl 0 rfl) ?_
              refine z_get hx hb hts iwX2_init_2 hown hK hT.1 rfl 2 (by decide) flX2_init_22 rfl (v := .ref (t + 5)) rfl dX2_init_92 ?_
              refine lv_iload_n hx hb dX2_init_95 rfl (lv_at hl 1 rfl) ?_
              refine z_aald (b := t + 6 + 4 * i1.toNat) hx hb hK 3 hA rfl hx1 (by omega) (va_up_self _ _ _) dX2_init_96 ?_
              have hz9 : _ = t + 6 + 4 * i1.toNat + 4 := hsz
              refine z_cVv (As := [.ref (t + 6 + 4 * i1.toNat)]) (rest := []) ⟨hx, hb, hml, hown, hts⟩ (kX2_settleFloatP l G t (0, W0) (t + 6 + 4 * i1.toNat) (gd0 x1) 0 (t + 6 + 4 * i1.toNat + 4) W0_ok ((gd0_ok (x := x1) (by omega)).sta) (by omega)) (cwV 1 hts gX2_init_X2_settleFloat rfl rfl rfl hyX2_settleFloat ⟨Nat.le_of_ble_eq_true rfl, Nat.le_of_ble_eq_true rfl⟩) hK ⟨hT, hJ, hsz⟩ hT.1 rfl rfl hl.1 rfl (Nat.le_of_ble_eq_true rfl) dX2_init_97 ⟨by show _ ≤ 17; omega, by show _ ≤ 1140; omega⟩ hS (fun q h => by simp only [iv] at h; show t ≤ q; omega) (fun H locs hP9 hsz9 hq hS => ?_)
              have hA := hA.kept (hq (t + 5) (by omega) (by simp only [iv]; omega))
              have hw := fun (j : Nat) (hj : (j : Int) < i1) => (hw j hj).kept (fun q _ _ => hq q (by omega) (by simp only [iv]; omega))
              obtain ⟨hT, hJ, hsz⟩ := hP9
              refine z_iinc (k := 1) hx hb dX2_init_100 hl rfl hx1 (show (Int32.ofInt 1).toInt = (1 : Int) from rfl) (by omega) (by decide) (fun z3 e3 ls hl => ?_)
              have hl : lv_has ls 2 [(1, .int z3), (0, .ref t)] := hl
              refine lv_goto (tgt := 71) hx hb dX2_init_103 (by decide) ?_
              refine W.widen (k := (5 + 4 * (i1 + (1 : Int)).toNat)) (n := (15 + 375 * (i1 + (1 : Int)).toNat)) (by omega) (by omega) ?_
              exact ih71 z3 (i1 + (1 : Int)) e3 (by omega) (by omega) _ _ (P2b_s hx1 (by omega) hsz hT hA hf hw hJ) hS ls (lv_sub hl [1, 0] rfl)
        refine W.widen (k := (5 + 4 * (0 : Int).toNat)) (n := (15 + 375 * (0 : Int).toNat)) (by omega) (by omega) ?_
        exact cut71 (((3 - (0 : Int)).toNat) + 1) (0 : Int32) (0 : Int) kI_0 (Nat.lt_succ_self _) (by omega) _ _ (P2b_0 hsz hT hA5) hS ls (lv_sub hl [1, 0] rfl)
      · refine lv_aload_n hx hb dX2_init_38 rfl (lv_at hl 0 rfl) ?_
        refine z_get hx hb hts iwX2_init_2 hown hK hO rfl 1 (by decide) flX2_init_11 rfl (v := .ref (t + 1)) rfl dX2_init_39 ?_
        refine lv_iload_n hx hb dX2_init_42 rfl (lv_at hl 1 rfl) ?_
        refine z_new (ci := 3) (fs := [.int 0, .int 0, .int 0]) hx hb hts iwX2_init_3 tyX3 tyX3_ok hown (C := RX3) (index := 9) (by decide +kernel) (by decide +kernel) (by decide +kernel) hK (h := t + 2 + i1.toNat) hsz hS rfl (fun j hj => by rcases (show j = 0 ∨ j = 1 ∨ j = 2 by omega) with rfl | rfl | rfl <;> rfl) (by show _ ≤ 17; omega) (by show _ ≤ 1140; omega) dX2_init_43 (fun H hV hsz ho hS => ?_)
        have hO := hO.kept (ho t (by omega))
        have hA := hA.kept (ho (t + 1) (by omega))
        have hw := fun (j : Nat) (hj : (j : Int) < i1) => (hw j hj).kept (fun q _ _ => ho q (by omega))
        refine lv_dup hx hb dX2_init_46 rfl ?_
        refine lv_iconst (v := (0 : Int32)) hx hb dX2_init_47 (by decide) ?_
        refine lv_bipush (v := (24 : Int32)) hx hb dX2_init_48 (by decide) ?_
        refine lv_iconst (v := (0 : Int32)) hx hb dX2_init_50 (by decide) ?_
        refine z_cI (As := [.int 0, .int 24, .int 0]) (rest := [.ref (t + 2 + i1.toNat), .int x1, .ref (t + 1)]) ⟨hx, hb, hml, hown, hts⟩ (kX3_init l G (t + 2 + i1.toNat) 0 0 rfl 24 24 rfl 0 0 rfl) (cwI 3 hts gX2_init_X3_init rfl rfl rfl (hts _ (by decide +kernel)) (hts (.methodLink RX2 17 yX3_init) (by decide +kernel)) (hts (.instanceMethod yX3_init) (by decide +kernel)) rfl hyX3_init ⟨Nat.le_of_ble_eq_true rfl, Nat.le_of_ble_eq_true rfl⟩) hC ⟨hsz, hV⟩ rfl hl.1 rfl (Nat.le_of_ble_eq_true rfl) dX2_init_51 ⟨by show _ ≤ 17; omega, by show _ ≤ 1140; omega⟩ hS (fun q h => by have h9 : t + 2 + i1.toNat ≤ q := h; show t ≤ q; omega) (fun H locs hP9 hsz9 hq hS => ?_)
        have hz9 : _ = t + 2 + i1.toNat + 1 := hsz
        have hO := hO.kept (hq (t) (by omega) (by show ¬ (_ ≤ _); omega))
        have hA := hA.kept (hq (t + 1) (by omega) (by show ¬ (_ ≤ _); omega))
        have hw := fun (j : Nat) (hj : (j : Int) < i1) => (hw j hj).kept (fun q _ _ => hq q (by omega) (by show ¬ (_ ≤ _); omega))
        obtain ⟨hsz, hV⟩ := hP9
        refine z_aast (r := (RX3, TX3, 3)) hx hb hK 2 hA rfl hV rfl hS (by show t ≤ _; omega) hx1 (by omega) dX2_init_54 (fun H locs hA hz1 hq hS => ?_)
        have hw := fun (j : Nat) (hj : (j : Int) < i1) => (hw j hj).kept (fun q _ _ => hq q (by omega))
        have hO := hO.kept (hq t (by omega))
        have hV := hV.kept (fun q _ _ => hq q (by omega))
        have hsz := hz1.trans hsz
        refine z_iinc (k := 1) hx hb dX2_init_55 hl rfl hx1 (show (Int32.ofInt 1).toInt = (1 : Int) from rfl) (by omega) (by decide) (fun z4 e4 ls hl => ?_)
        have hl : lv_has ls 2 [(1, .int z4), (0, .ref t)] := hl
        refine lv_goto (tgt := 33) hx hb dX2_init_58 (by decide) ?_
        refine W.widen (k := (1 + (i1 + (1 : Int)).toNat)) (n := (3 + 3 * (i1 + (1 : Int)).toNat)) (by omega) (by omega) ?_
        exact ih33 z4 (i1 + (1 : Int)) e4 (by omega) (by omega) _ _ (P2a_s (by omega) hsz hO hA hf hw hV) hS ls (lv_sub hl [1, 0] rfl)
  refine W.widen (k := (1 + (1 : Int).toNat)) (n := (3 + 3 * (1 : Int).toNat)) (by omega) (by omega) ?_
  exact cut33 (((3 - (1 : Int)).toNat) + 1) (1 : Int32) (1 : Int) kI_1 (Nat.lt_succ_self _) (by omega) _ _ (P2a_1 hsz hO hA hV) hS ls (lv_sub hl [1, 0] rfl)

abbrev rmX4_init : Room := { frames := 6, cells := 111, slots := 6924, locals := 142 }
theorem iwX4_init_1 : ∀ w ∈ wsX10, w ∈ wsX4_init := fun _ h => List.mem_cons_of_mem _ (List.mem_append_left _ (List.mem_append_left _ (List.mem_append_right _ h)))
theorem iwX4_init_2 : ∀ w ∈ wsX20, w ∈ wsX4_init := fun _ h => List.mem_cons_of_mem _ (List.mem_append_left _ (List.mem_append_left _ (List.mem_append_left _ (List.mem_append_left _ (List.mem_append_right _ h)))))
theorem iwX4_init_4 : ∀ w ∈ wsX40, w ∈ wsX4_init := fun _ h => List.mem_cons_of_mem _ (List.mem_append_left _ (List.mem_append_left _ (List.mem_append_left _ (List.mem_append_right _ h))))
theorem flX4_init_10 : Cond.fieldLink RX4 10 "SiltedFloats" "now" "LSiltedFloats$State;" ∈ wsX4_init := by decide +kernel
theorem flX4_init_16 : Cond.fieldLink RX4 16 "SiltedFloats" "kept" "LSiltedFloats$State;" ∈ wsX4_init := by decide +kernel
theorem flX4_init_19 : Cond.fieldLink RX4 19 "SiltedFloats" "past" "[LSiltedFloats$State;" ∈ wsX4_init := by decide +kernel
theorem flX4_init_26 : Cond.fieldLink RX4 26 "SiltedFloats" "text" "LSiltedFloats$OrderText;" ∈ wsX4_init := by decide +kernel
theorem hyX4_init : yX4_init.cls ≠ "java/lang/invoke/MethodHandle" ∧ yX4_init.cls ≠ "java/lang/invoke/VarHandle" ∧ (parseMethodDescriptor yX4_init.desc).map (fun d => d.parameters.length) = some 0 := by decide +kernel
set_option maxHeartbeats 4000000 in
set_option maxRecDepth 100000 in
theorem kX4_init (l : Launch) (G : xG) (z : Nat) : Met l yX4_init wsX4_init rmX4_init (va_Pc [.ref z] (zPreC G (fun H => ZS H (z + 1) ∧ xat G H z (.inr (4, [.null, .null, .int 0, .null, .int 0, .null]))))) (zV (fun H => ZS H (z + 112) ∧ SFP G H z (fd0 z)) (fun q : Nat => z ≤ q)) 111 6924 (fun q : Nat => z ≤ q) := by
  refine z_ofWC (cc := cX4_init) (maxL := 2) (ret := none) (by decide +kernel) rfl (Nat.le_of_ble_eq_true rfl) ?_
  intro p e s m below meth c hx hb hml hr hts hown hlocks hin hC hP ls hl
  have hK := hC.1
  have hown : s.vm.findClass RX4 = some m.cls := hown
  have hl : lv_has ls 2 [(0, .ref z)] := hl
  have hS : va_S (fun q : Nat => z ≤ q) s.heap s.heap [] := va_S.rf
  generalize hHe : s.heap = H at hP
  have hS : va_S (fun q : Nat => z ≤ q) s.heap H [] := by rw [← hHe]; exact va_S.rf
  suffices hW9 : W p l e rmX4_init s m ([.ref z] : List Value).toArray below meth c H [] 0 0 (MQ below (zV (fun H => ZS H (z + 112) ∧ SFP G H z (fd0 z)) (fun q : Nat => z ≤ q)) ([.ref z] : List Value).toArray s 111 6924 (fun q : Nat => z ≤ q)) (F0 m 0 ls []) by first | exact hW9 | (rw [hHe]; exact hW9)
  generalize hL : ([] : List Loc) = locs at hS ⊢
  refine lv_aload_n hx hb dX4_init_0 rfl (lv_at hl 0 rfl) ?_
  refine W.objInit hx hb hown (hts _ (List.mem_of_getElem? (i := 1) rfl)) (hts _ (List.mem_of_getElem? (i := 2) rfl)) (hts _ (List.mem_of_getElem? (i := 3) rfl)) rfl (by rw [hml]; exact hl.1) rfl dX4_init_1 (Nat.le_of_ble_eq_true rfl) (Nat.le_of_ble_eq_true rfl) ?_
  refine lv_aload_n hx hb dX4_init_4 rfl (lv_at hl 0 rfl) ?_
  obtain ⟨hsz, hO⟩ := hP
  refine z_new (ci := 2) (fs := [.int 0, .null, .null]) hx hb hts iwX4_init_2 tyX2 tyX2_ok hown (C := RX2) (index := 7) (by decide +kernel) (by decide +kernel) (by decide +kernel) hK (h := z + 1) hsz hS rfl (fun j hj => by rcases (show j = 0 ∨ j = 1 ∨ j = 2 by omega) with rfl | rfl | rfl <;> rfl) (by show _ ≤ 111; omega) (by show _ ≤ 6924; omega) dX4_init_5 (fun H h1 hsz ho hS => ?_)
  have hO := hO.kept (ho z (by omega))
  refine lv_dup hx hb dX4_init_8 rfl ?_
  refine z_cI (As := []) (rest := [.ref (z + 1), .ref z]) ⟨hx, hb, hml, hown, hts⟩ (kX2_init l G (z + 1)) (cwI 0 hts gX4_init_X2_init rfl rfl rfl (hts _ (by decide +kernel)) (hts (.methodLink RX4 9 yX2_init) (by decide +kernel)) (hts (.instanceMethod yX2_init) (by decide +kernel)) rfl hyX2_init ⟨Nat.le_of_ble_eq_true rfl, Nat.le_of_ble_eq_true rfl⟩) hC ⟨hsz, h1⟩ rfl hl.1 rfl (Nat.le_of_ble_eq_true rfl) dX4_init_9 ⟨by show _ ≤ 111; omega, by show _ ≤ 6924; omega⟩ hS (fun q h => by have h9 : z + 1 ≤ q := h; show z ≤ q; omega) (fun H locs hP9 hsz9 hq hS => ?_)
  have hz9 : _ = z + 1 + 1 := hsz
  have hO := hO.kept (hq (z) (by omega) (by show ¬ (_ ≤ _); omega))
  obtain ⟨hsz, h1⟩ := hP9
  refine z_putF hx hb hts iwX4_init_4 tyX4 tyX4_ok nmX4 hown hK hO rfl hS (by show z ≤ z; omega) 0 (by decide) flX4_init_10 rfl rfl hin rfl (ty := .object "SiltedFloats$State") rfl rfl rfl (by show _ < 6; omega) dX4_init_12 (fun H locs hO hz1 hq hS => ?_)
  have h1 := h1.kept (fun q _ _ => hq q (by omega))
  have hsz := hz1.trans hsz
  have hO : xat G H z (.inr (4, [.ref (z + 1), .null, .int 0, .null, .int 0, .null])) := hO
  refine lv_aload_n hx hb dX4_init_15 rfl (lv_at hl 0 rfl) ?_
  refine z_new (ci := 2) (fs := [.int 0, .null, .null]) hx hb hts iwX4_init_2 tyX2 tyX2_ok hown (C := RX2) (index := 7) (by decide +kernel) (by decide +kernel) (by decide +kernel) hK (h := z + 19) hsz hS rfl (fun j hj => by rcases (show j = 0 ∨ j = 1 ∨ j = 2 by omega) with rfl | rfl | rfl <;> rfl) (by show _ ≤ 111; omega) (by show _ ≤ 6924; omega) dX4_init_16 (fun H h2 hsz ho hS => ?_)
  have hO := hO.kept (ho z (by omega))
  have h1 := h1.kept (fun q _ _ => ho q (by omega))
  refine lv_dup hx hb dX4_init_19 rfl ?_
  refine z_cI (As := []) (rest := [.ref (z + 19), .ref z]) ⟨hx, hb, hml, hown, hts⟩ (kX2_init l G (z + 19)) (cwI 0 hts gX4_init_X2_init rfl rfl rfl (hts _ (by decide +kernel)) (hts (.methodLink RX4 9 yX2_init) (by decide +kernel)) (hts (.instanceMethod yX2_init) (by decide +kernel)) rfl hyX2_init ⟨Nat.le_of_ble_eq_true rfl, Nat.le_of_ble_eq_true rfl⟩) hC ⟨hsz, h2⟩ rfl hl.1 rfl (Nat.le_of_ble_eq_true rfl) dX4_init_20 ⟨by show _ ≤ 111; omega, by show _ ≤ 6924; omega⟩ hS (fun q h => by have h9 : z + 19 ≤ q := h; show z ≤ q; omega) (fun H locs hP9 hsz9 hq hS => ?_)
  have hz9 : _ = z + 19 + 1 := hsz
  have hO := hO.kept (hq (z) (by omega) (by show ¬ (_ ≤ _); omega))
  have h1 := h1.kept (fun q _ _ => hq q (by omega) (by show ¬ (_ ≤ _); omega))
  obtain ⟨hsz, h2⟩ := hP9
  refine z_putF hx hb hts iwX4_init_4 tyX4 tyX4_ok nmX4 hown hK hO rfl hS (by show z ≤ z; omega) 1 (by decide) flX4_init_16 rfl rfl hin rfl (ty := .object "SiltedFloats$State") rfl rfl rfl (by show _ < 6; omega) dX4_init_23 (fun H locs hO hz1 hq hS => ?_)
  have h1 := h1.kept (fun q _ _ => hq q (by omega))
  have h2 := h2.kept (fun q _ _ => hq q (by omega))
  have hsz := hz1.trans hsz
  have hO : xat G H z (.inr (4, [.ref (z + 1), .ref (z + 19), .int 0, .null, .int 0, .null])) := hO
  refine lv_aload_n hx hb dX4_init_26 rfl (lv_at hl 0 rfl) ?_
  refine lv_iconst (v := (4 : Int32)) hx hb dX4_init_27 (by decide) ?_
  refine z_newq hx hb hown (C := RX2) (index := 7) (hts _ (by decide +kernel)) hC.2.2.2 hK 4 rfl (h := z + 37) hsz hS (N' := 4) (by decide) (by decide) (Nat.le_of_ble_eq_true rfl) (by show _ ≤ 111; omega) (by show _ ≤ 6924; omega) dX4_init_28 (fun H hA hsz ho hS => ?_)
  have hO := hO.kept (ho z (by omega))
  have h1 := h1.kept (fun q _ _ => ho q (by omega))
  have h2 := h2.kept (fun q _ _ => ho q (by omega))
  refine z_putF hx hb hts iwX4_init_4 tyX4 tyX4_ok nmX4 hown hK hO rfl hS (by show z ≤ z; omega) 3 (by decide) flX4_init_19 rfl rfl hin rfl (ty := .array (.object "SiltedFloats$State")) rfl rfl rfl (by show _ < 6; omega) dX4_init_31 (fun H locs hO hz1 hq hS => ?_)
  have h1 := h1.kept (fun q _ _ => hq q (by omega))
  have h2 := h2.kept (fun q _ _ => hq q (by omega))
  have hA := hA.kept (hq _ (by omega))
  have hsz := hz1.trans hsz
  have hO : xat G H z (.inr (4, [.ref (z + 1), .ref (z + 19), .int 0, .ref (z + 37), .int 0, .null])) := hO
  refine lv_iconst (v := (0 : Int32)) hx hb dX4_init_34 (by decide) ?_
  refine lv_istore_n hx hb dX4_init_35 rfl hl (by decide) rfl (fun ls hl => ?_)
  have hl : lv_has ls 2 [(1, .int (0 : Int32)), (0, .ref z)] := hl
  have cut36 : ∀ (n36 : Nat), ∀ (x1 : Int32) (i1 : Int) (_ : x1.toInt = i1), (4 - i1).toNat < n36 → (0 ≤ i1 ∧ i1 ≤ 4) → ∀ (H : Heap) (locs : List Loc), P4 G z i1 H → va_S (fun q : Nat => z ≤ q) s.heap H locs → ∀ ls : Array Slot, lv_has ls 2 [(0, .ref z), (1, .int x1)] → W p l e rmX4_init s m ([.ref z] : List Value).toArray below meth c H locs (37 + 18 * i1.toNat) (2290 + 1143 * i1.toNat) (MQ below (zV (fun H => ZS H (z + 112) ∧ SFP G H z (fd0 z)) (fun q : Nat => z ≤ q)) ([.ref z] : List Value).toArray s 111 6924 (fun q : Nat => z ≤ q)) (F0 m 36 ls []) := by
    intro n36
    induction n36 with
    | zero =>
      intro x1 i1 hx1 hmu36 hi36_0 H locs hP hS ls hl
      exact absurd hmu36 (Nat.not_lt_zero _)
    | succ n36 ih36 =>
      intro x1 i1 hx1 hmu36 hi36_0 H locs hP hS ls hl
      obtain ⟨hsz, hO, h1, h2, f, hA, hf, hw⟩ := hP
      refine lv_iload_n hx hb dX4_init_36 rfl (lv_at hl 1 rfl) ?_
      refine lv_iconst (v := (4 : Int32)) hx hb dX4_init_37 (by decide) ?_
      refine z_icmp_ge (tgt := 60) hx hb hx1 kI_4 dX4_init_38 (by decide) (fun c_1 => ?_) (fun c_1 => ?_)
      · refine lv_aload_n hx hb dX4_init_60 rfl (lv_at hl 0 rfl) ?_
        have hi4 : i1 = 4 := by omega
        subst hi4
        refine z_new (ci := 1) (fs := [.int 0, .null]) hx hb hts iwX4_init_1 tyX1 tyX1_ok hown (C := RX1) (index := 23) (by decide +kernel) (by decide +kernel) (by decide +kernel) hK (h := z + 110) hsz hS rfl (fun j hj => by rcases (show j = 0 ∨ j = 1 by omega) with rfl | rfl <;> rfl) (by show _ ≤ 111; omega) (by show _ ≤ 6924; omega) dX4_init_61 (fun H hX hsz ho hS => ?_)
        have hO := hO.kept (ho z (by omega))
        have h1 := h1.kept (fun q _ _ => ho q (by omega))
        have h2 := h2.kept (fun q _ _ => ho q (by omega))
        have hA := hA.kept (ho (z + 37) (by omega))
        have hw := fun (j : Nat) (hj : (j : Int) < 4) => (hw j hj).kept (fun q _ _ => ho q (by omega))
        refine lv_dup hx hb dX4_init_64 rfl ?_
        refine z_cI (As := []) (rest := [.ref (z + 110), .ref z]) ⟨hx, hb, hml, hown, hts⟩ (kX1_init l G (z + 110)) (cwI 0 hts gX4_init_X1_init rfl rfl rfl (hts _ (by decide +kernel)) (hts (.methodLink RX4 25 yX1_init) (by decide +kernel)) (hts (.instanceMethod yX1_init) (by decide +kernel)) rfl hyX1_init ⟨Nat.le_of_ble_eq_true rfl, Nat.le_of_ble_eq_true rfl⟩) hC ⟨hsz, hX⟩ rfl hl.1 rfl (Nat.le_of_ble_eq_true rfl) dX4_init_65 ⟨by show _ ≤ 111; omega, by show _ ≤ 6924; omega⟩ hS (fun q h => by have h9 : z + 110 ≤ q := h; show z ≤ q; omega) (fun H locs hP9 hsz9 hq hS => ?_)
        have hz9 : _ = z + 110 + 1 := hsz
        have hO := hO.kept (hq (z) (by omega) (by show ¬ (_ ≤ _); omega))
        have h1 := h1.kept (fun q _ _ => hq q (by omega) (by show ¬ (_ ≤ _); omega))
        have h2 := h2.kept (fun q _ _ => hq q (by omega) (by show ¬ (_ ≤ _); omega))
        have hA := hA.kept (hq (z + 37) (by omega) (by show ¬ (_ ≤ _); omega))
        have hw := fun (j : Nat) (hj : (j : Int) < 4) => (hw j hj).kept (fun q _ _ => hq q (by omega) (by show ¬ (_ ≤ _); omega))
        obtain ⟨hsz, hX⟩ := hP9
        refine z_putF hx hb hts iwX4_init_4 tyX4 tyX4_ok nmX4 hown hK hO rfl hS (by show z ≤ z; omega) 5 (by decide) flX4_init_26 rfl rfl hin rfl (ty := .object "SiltedFloats$OrderText") rfl rfl rfl (by show _ < 6; omega) dX4_init_68 (fun H locs hO hz1 hq hS => ?_)
        have h1 := h1.kept (fun q _ _ => hq q (by omega))
        have h2 := h2.kept (fun q _ _ => hq q (by omega))
        have hA := hA.kept (hq _ (by omega))
        have hX := hX.kept (fun q _ _ => hq q (by omega))
        have hsz := hz1.trans hsz
        have hO : xat G H z (.inr (4, [.ref (z + 1), .ref (z + 19), .int 0, .ref (z + 37), .int 0, .ref (z + 110)])) := hO
        have hw := fun (j : Nat) (hj : (j : Int) < 4) => (hw j hj).kept (fun q _ _ => hq q (by omega))
        refine W.widen (k := 111) (n := 6924) (by omega) (by omega) ?_
        exact z_rvN hx hb hr hlocks ⟨hsz, P4_e hO h1 h2 hA hf hw hX⟩ hS dX4_init_71
      · refine lv_aload_n hx hb dX4_init_41 rfl (lv_at hl 0 rfl) ?_
        refine z_get hx hb hts iwX4_init_4 hown hK hO rfl 3 (by decide) flX4_init_19 rfl (v := .ref (z + 37)) rfl dX4_init_42 ?_
        refine lv_iload_n hx hb dX4_init_45 rfl (lv_at hl 1 rfl) ?_
        refine z_new (ci := 2) (fs := [.int 0, .null, .null]) hx hb hts iwX4_init_2 tyX2 tyX2_ok hown (C := RX2) (index := 7) (by decide +kernel) (by decide +kernel) (by decide +kernel) hK (h := z + 38 + 18 * i1.toNat) hsz hS rfl (fun j hj => by rcases (show j = 0 ∨ j = 1 ∨ j = 2 by omega) with rfl | rfl | rfl <;> rfl) (by show _ ≤ 111; omega) (by show _ ≤ 6924; omega) dX4_init_46 (fun H hV hsz ho hS => ?_)
        have hO := hO.kept (ho z (by omega))
        have h1 := h1.kept (fun q _ _ => ho q (by omega))
        have h2 := h2.kept (fun q _ _ => ho q (by omega))
        have hA := hA.kept (ho (z + 37) (by omega))
        have hw := fun (j : Nat) (hj : (j : Int) < i1) => (hw j hj).kept (fun q _ _ => ho q (by omega))
        refine lv_dup hx hb dX4_init_49 rfl ?_
        refine z_cI (As := []) (rest := [.ref (z + 38 + 18 * i1.toNat), .int x1, .ref (z + 37)]) ⟨hx, hb, hml, hown, hts⟩ (kX2_init l G (z + 38 + 18 * i1.toNat)) (cwI 0 hts gX4_init_X2_init rfl rfl rfl (hts _ (by decide +kernel)) (hts (.methodLink RX4 9 yX2_init) (by decide +kernel)) (hts (.instanceMethod yX2_init) (by decide +kernel)) rfl hyX2_init ⟨Nat.le_of_ble_eq_true rfl, Nat.le_of_ble_eq_true rfl⟩) hC ⟨hsz, hV⟩ rfl hl.1 rfl (Nat.le_of_ble_eq_true rfl) dX4_init_50 ⟨by show _ ≤ 111; omega, by show _ ≤ 6924; omega⟩ hS (fun q h => by have h9 : z + 38 + 18 * i1.toNat ≤ q := h; show z ≤ q; omega) (fun H locs hP9 hsz9 hq hS => ?_)
        have hz9 : _ = z + 38 + 18 * i1.toNat + 1 := hsz
        have hO := hO.kept (hq (z) (by omega) (by show ¬ (_ ≤ _); omega))
        have h1 := h1.kept (fun q _ _ => hq q (by omega) (by show ¬ (_ ≤ _); omega))
        have h2 := h2.kept (fun q _ _ => hq q (by omega) (by show ¬ (_ ≤ _); omega))
        have hA := hA.kept (hq (z + 37) (by omega) (by show ¬ (_ ≤ _); omega))
        have hw := fun (j : Nat) (hj : (j : Int) < i1) => (hw j hj).kept (fun q _ _ => hq q (by omega) (by show ¬ (_ ≤ _); omega))
        obtain ⟨hsz, hV⟩ := hP9
        refine z_aast (r := (RX2, TX2, 3)) hx hb hK 4 hA rfl hV.1 rfl hS (by show z ≤ _; omega) hx1 (by omega) dX4_init_53 (fun H locs hA hz1 hq hS => ?_)
        have hw := fun (j : Nat) (hj : (j : Int) < i1) => (hw j hj).kept (fun q _ _ => hq q (by omega))
        have hO := hO.kept (hq z (by omega))
        have h1 := h1.kept (fun q _ _ => hq q (by omega))
        have h2 := h2.kept (fun q _ _ => hq q (by omega))
        have hV := hV.kept (fun q _ _ => hq q (by omega))
        have hsz := hz1.trans hsz
        refine z_iinc (k := 1) hx hb dX4_init_54 hl rfl hx1 (show (Int32.ofInt 1).toInt = (1 : Int) from rfl) (by omega) (by decide) (fun z2 e2 ls hl => ?_)
        have hl : lv_has ls 2 [(1, .int z2), (0, .ref z)] := hl
        refine lv_goto (tgt := 36) hx hb dX4_init_57 (by decide) ?_
        refine W.widen (k := (37 + 18 * (i1 + (1 : Int)).toNat)) (n := (2290 + 1143 * (i1 + (1 : Int)).toNat)) (by omega) (by omega) ?_
        exact ih36 z2 (i1 + (1 : Int)) e2 (by omega) (by omega) _ _ (P4_s (by omega) hsz hO h1 h2 hA hf hw hV) hS ls (lv_sub hl [1, 0] rfl)
  refine W.widen (k := (37 + 18 * (0 : Int).toNat)) (n := (2290 + 1143 * (0 : Int).toNat)) (by omega) (by omega) ?_
  exact cut36 (((4 - (0 : Int)).toNat) + 1) (0 : Int32) (0 : Int) kI_0 (Nat.lt_succ_self _) (by omega) _ _ (P4_0 hsz hO h1 h2 hA) hS ls (lv_sub hl [1, 0] rfl)
