abbrev rmX5_init : Room := { frames := 4, cells := 4, slots := 13278, locals := 90 }
theorem iwX5_init_5 : ∀ w ∈ wsX50, w ∈ wsX5_init := fun _ h => List.mem_cons_of_mem _ (List.mem_append_right _ h)
theorem flX5_init_13 : Cond.fieldLink RX5 13 "SiltedFloatsModel" "before" "[I" ∈ wsX5_init := by decide +kernel
theorem flX5_init_16 : Cond.fieldLink RX5 16 "SiltedFloatsModel" "kept" "[I" ∈ wsX5_init := by decide +kernel
theorem flX5_init_19 : Cond.fieldLink RX5 19 "SiltedFloatsModel" "text" "[I" ∈ wsX5_init := by decide +kernel
theorem flX5_init_7 : Cond.fieldLink RX5 7 "SiltedFloatsModel" "s" "[I" ∈ wsX5_init := by decide +kernel
theorem hyX5_init : yX5_init.cls ≠ "java/lang/invoke/MethodHandle" ∧ yX5_init.cls ≠ "java/lang/invoke/VarHandle" ∧ (parseMethodDescriptor yX5_init.desc).map (fun d => d.parameters.length) = some 0 := by decide +kernel
set_option maxHeartbeats 4000000 in
set_option maxRecDepth 100000 in
theorem kX5_init (l : Launch) (G : xG) (o : Nat) : Met l yX5_init wsX5_init rmX5_init (va_Pc [.ref o] (zPreC G (fun H => ZS H (o + 1) ∧ xat G H o (.inr (5, [.null, .null, .int 0, .null, .int 0, .null, .int 0, .int 0, .int 0, .int 0]))))) (zV (fun H => ∃ n9 : MD, MO G H o n9 ∧ Rs (settle st0) n9.2.1 ∧ n9.1 = md0.1) (fun q : Nat => o ≤ q)) 4 13278 (fun q : Nat => o ≤ q) := by
  refine z_ofWC (cc := cX5_init) (maxL := 2) (ret := none) (by decide +kernel) rfl (Nat.le_of_ble_eq_true rfl) ?_
  intro p e s m below meth c hx hb hml hr hts hown hlocks hin hC hP ls hl
  have hK := hC.1
  have hown : s.vm.findClass RX5 = some m.cls := hown
  have hl : lv_has ls 2 [(0, .ref o)] := hl
  have hS : va_S (fun q : Nat => o ≤ q) s.heap s.heap [] := va_S.rf
  generalize hHe : s.heap = H at hP
  have hS : va_S (fun q : Nat => o ≤ q) s.heap H [] := by rw [← hHe]; exact va_S.rf
  suffices hW9 : W p l e rmX5_init s m ([.ref o] : List Value).toArray below meth c H [] 0 0 (MQ below (zV (fun H => ∃ n9 : MD, MO G H o n9 ∧ Rs (settle st0) n9.2.1 ∧ n9.1 = md0.1) (fun q : Nat => o ≤ q)) ([.ref o] : List Value).toArray s 4 13278 (fun q : Nat => o ≤ q)) (F0 m 0 ls []) by first | exact hW9 | (rw [hHe]; exact hW9)
  generalize hL : ([] : List Loc) = locs at hS ⊢
  refine lv_aload_n hx hb dX5_init_0 rfl (lv_at hl 0 rfl) ?_
  refine W.objInit hx hb hown (hts _ (List.mem_of_getElem? (i := 1) rfl)) (hts _ (List.mem_of_getElem? (i := 2) rfl)) (hts _ (List.mem_of_getElem? (i := 3) rfl)) rfl (by rw [hml]; exact hl.1) rfl dX5_init_1 (Nat.le_of_ble_eq_true rfl) (Nat.le_of_ble_eq_true rfl) ?_
  refine lv_aload_n hx hb dX5_init_4 rfl (lv_at hl 0 rfl) ?_
  refine lv_sipush (v := (2203 : Int32)) hx hb dX5_init_5 (by decide) ?_
  obtain ⟨hsz, hO⟩ := hP
  refine z_newai hx hb (hts _ (by decide +kernel)) hK (h := o + 1) hsz hS (N' := 2203) (by decide) (by decide) (Nat.le_of_ble_eq_true rfl) (Nat.le_of_ble_eq_true rfl) (Nat.le_of_ble_eq_true rfl) dX5_init_8 (fun H h1 hsz ho hS => ?_)
  have hO := hO.kept (ho o (by omega))
  refine z_putF hx hb hts iwX5_init_5 tyX5 tyX5_ok nmX5 hown hK hO rfl hS (by show o ≤ o; omega) 0 (by decide) flX5_init_7 rfl rfl hin rfl (ty := .array .int) rfl rfl rfl (by show _ < 10; omega) dX5_init_10 (fun H locs hO hz1 hq hS => ?_)
  have h1 := h1.kept (hq (o + 1) (by omega))
  have hsz := hz1.trans hsz
  have hO : xat G H o (.inr (5, [.ref (o + 1), .null, .int 0, .null, .int 0, .null, .int 0, .int 0, .int 0, .int 0])) := hO
  refine lv_aload_n hx hb dX5_init_13 rfl (lv_at hl 0 rfl) ?_
  refine lv_sipush (v := (8812 : Int32)) hx hb dX5_init_14 (by decide) ?_
  refine z_newai hx hb (hts _ (by decide +kernel)) hK (h := o + 2) hsz hS (N' := 8812) (by decide) (by decide) (Nat.le_of_ble_eq_true rfl) (Nat.le_of_ble_eq_true rfl) (Nat.le_of_ble_eq_true rfl) dX5_init_17 (fun H h2 hsz ho hS => ?_)
  have hO := hO.kept (ho o (by omega))
  have h1 := h1.kept (ho (o + 1) (by omega))
  refine z_putF hx hb hts iwX5_init_5 tyX5 tyX5_ok nmX5 hown hK hO rfl hS (by show o ≤ o; omega) 1 (by decide) flX5_init_13 rfl rfl hin rfl (ty := .array .int) rfl rfl rfl (by show _ < 10; omega) dX5_init_19 (fun H locs hO hz1 hq hS => ?_)
  have h1 := h1.kept (hq (o + 1) (by omega))
  have h2 := h2.kept (hq (o + 2) (by omega))
  have hsz := hz1.trans hsz
  have hO : xat G H o (.inr (5, [.ref (o + 1), .ref (o + 2), .int 0, .null, .int 0, .null, .int 0, .int 0, .int 0, .int 0])) := hO
  refine lv_aload_n hx hb dX5_init_22 rfl (lv_at hl 0 rfl) ?_
  refine lv_sipush (v := (2203 : Int32)) hx hb dX5_init_23 (by decide) ?_
  refine z_newai hx hb (hts _ (by decide +kernel)) hK (h := o + 3) hsz hS (N' := 2203) (by decide) (by decide) (Nat.le_of_ble_eq_true rfl) (Nat.le_of_ble_eq_true rfl) (Nat.le_of_ble_eq_true rfl) dX5_init_26 (fun H h3 hsz ho hS => ?_)
  have hO := hO.kept (ho o (by omega))
  have h1 := h1.kept (ho (o + 1) (by omega))
  have h2 := h2.kept (ho (o + 2) (by omega))
  refine z_putF hx hb hts iwX5_init_5 tyX5 tyX5_ok nmX5 hown hK hO rfl hS (by show o ≤ o; omega) 3 (by decide) flX5_init_16 rfl rfl hin rfl (ty := .array .int) rfl rfl rfl (by show _ < 10; omega) dX5_init_28 (fun H locs hO hz1 hq hS => ?_)
  have h1 := h1.kept (hq (o + 1) (by omega))
  have h2 := h2.kept (hq (o + 2) (by omega))
  have h3 := h3.kept (hq (o + 3) (by omega))
  have hsz := hz1.trans hsz
  have hO : xat G H o (.inr (5, [.ref (o + 1), .ref (o + 2), .int 0, .ref (o + 3), .int 0, .null, .int 0, .int 0, .int 0, .int 0])) := hO
  refine lv_aload_n hx hb dX5_init_31 rfl (lv_at hl 0 rfl) ?_
  refine lv_bipush (v := (60 : Int32)) hx hb dX5_init_32 (by decide) ?_
  refine z_newai hx hb (hts _ (by decide +kernel)) hK (h := o + 4) hsz hS (N' := 60) (by decide) (by decide) (Nat.le_of_ble_eq_true rfl) (Nat.le_of_ble_eq_true rfl) (Nat.le_of_ble_eq_true rfl) dX5_init_34 (fun H h4 hsz ho hS => ?_)
  have hO := hO.kept (ho o (by omega))
  have h1 := h1.kept (ho (o + 1) (by omega))
  have h2 := h2.kept (ho (o + 2) (by omega))
  have h3 := h3.kept (ho (o + 3) (by omega))
  refine z_putF hx hb hts iwX5_init_5 tyX5 tyX5_ok nmX5 hown hK hO rfl hS (by show o ≤ o; omega) 5 (by decide) flX5_init_19 rfl rfl hin rfl (ty := .array .int) rfl rfl rfl (by show _ < 10; omega) dX5_init_36 (fun H locs hO hz1 hq hS => ?_)
  have h1 := h1.kept (hq (o + 1) (by omega))
  have h2 := h2.kept (hq (o + 2) (by omega))
  have h3 := h3.kept (hq (o + 3) (by omega))
  have h4 := h4.kept (hq (o + 4) (by omega))
  have hsz := hz1.trans hsz
  have hO : xat G H o (.inr (5, [.ref (o + 1), .ref (o + 2), .int 0, .ref (o + 3), .int 0, .ref (o + 4), .int 0, .int 0, .int 0, .int 0])) := hO
  have hM : MO G H o md0 := ⟨hO, h1, h2, h3, h4⟩
  refine lv_aload_n hx hb dX5_init_39 rfl (lv_at hl 0 rfl) ?_
  refine z_get hx hb hts iwX5_init_5 hown hK hM.1 rfl 0 (by decide) flX5_init_7 rfl (v := .ref (o + 1)) rfl dX5_init_40 ?_
  refine lv_iconst (v := (1 : Int32)) hx hb dX5_init_43 (by decide) ?_
  refine lv_sipush (v := (1000 : Int32)) hx hb dX5_init_44 (by decide) ?_
  refine z_iastMs hx hb hK hM hS (by show o ≤ _; omega) kI_1 (by omega) dX5_init_47 (fun H locs hM hsz hq hS => ?_)
  have hM : MO G H o (md0.1, upd md0.2.1 (1 : Int).toNat (1000 : Int32), md0.2.2.1, md0.2.2.2.1, md0.2.2.2.2) := hM
  refine lv_aload_n hx hb dX5_init_48 rfl (lv_at hl 0 rfl) ?_
  refine z_get hx hb hts iwX5_init_5 hown hK hM.1 rfl 0 (by decide) flX5_init_7 rfl (v := .ref (o + 1)) rfl dX5_init_49 ?_
  refine lv_iconst (v := (2 : Int32)) hx hb dX5_init_52 (by decide) ?_
  refine lv_bipush (v := (12 : Int32)) hx hb dX5_init_53 (by decide) ?_
  refine z_iastMs hx hb hK hM hS (by show o ≤ _; omega) kI_2 (by omega) dX5_init_55 (fun H locs hM hsz hq hS => ?_)
  have hM : MO G H o (md0.1, upd (upd md0.2.1 (1 : Int).toNat (1000 : Int32)) (2 : Int).toNat (12 : Int32), md0.2.2.1, md0.2.2.2.1, md0.2.2.2.2) := hM
  refine lv_aload_n hx hb dX5_init_56 rfl (lv_at hl 0 rfl) ?_
  refine z_get hx hb hts iwX5_init_5 hown hK hM.1 rfl 0 (by decide) flX5_init_7 rfl (v := .ref (o + 1)) rfl dX5_init_57 ?_
  refine lv_iconst (v := (5 : Int32)) hx hb dX5_init_60 (by decide) ?_
  refine lv_bipush (v := (24 : Int32)) hx hb dX5_init_61 (by decide) ?_
  refine z_iastMs hx hb hK hM hS (by show o ≤ _; omega) kI_5 (by omega) dX5_init_63 (fun H locs hM hsz hq hS => ?_)
  have hM : MO G H o (md0.1, upd (upd (upd md0.2.1 (1 : Int).toNat (1000 : Int32)) (2 : Int).toNat (12 : Int32)) (5 : Int).toNat (24 : Int32), md0.2.2.1, md0.2.2.2.1, md0.2.2.2.2) := hM
  refine lv_aload_n hx hb dX5_init_64 rfl (lv_at hl 0 rfl) ?_
  refine z_get hx hb hts iwX5_init_5 hown hK hM.1 rfl 0 (by decide) flX5_init_7 rfl (v := .ref (o + 1)) rfl dX5_init_65 ?_
  refine lv_bipush (v := (8 : Int32)) hx hb dX5_init_68 (by decide) ?_
  refine lv_bipush (v := (24 : Int32)) hx hb dX5_init_70 (by decide) ?_
  refine z_iastMs hx hb hK hM hS (by show o ≤ _; omega) kI_8 (by omega) dX5_init_72 (fun H locs hM hsz hq hS => ?_)
  have hM : MO G H o (md0.1, upd (upd (upd (upd md0.2.1 (1 : Int).toNat (1000 : Int32)) (2 : Int).toNat (12 : Int32)) (5 : Int).toNat (24 : Int32)) (8 : Int).toNat (24 : Int32), md0.2.2.1, md0.2.2.2.1, md0.2.2.2.2) := hM
  refine lv_iconst (v := (0 : Int32)) hx hb dX5_init_73 (by decide) ?_
  refine lv_istore_n hx hb dX5_init_74 rfl hl (by decide) rfl (fun ls hl => ?_)
  have hl : lv_has ls 2 [(1, .int (0 : Int32)), (0, .ref o)] := hl
  have cut75 : ∀ (n75 : Nat), ∀ (x1 : Int32) (i1 : Int) (_ : x1.toInt = i1) (d_hM : MD), (3 - i1).toNat < n75 → (0 ≤ i1 ∧ i1 ≤ 3) → (In5 d_hM.2.1 i1 ∧ d_hM.1 = md0.1) → ∀ (H : Heap) (locs : List Loc), MO G H o d_hM → va_S (fun q : Nat => o ≤ q) s.heap H locs → ∀ ls : Array Slot, lv_has ls 2 [(0, .ref o), (1, .int x1)] → W p l e rmX5_init s m ([.ref o] : List Value).toArray below meth c H locs 4 13278 (MQ below (zV (fun H => ∃ n9 : MD, MO G H o n9 ∧ Rs (settle st0) n9.2.1 ∧ n9.1 = md0.1) (fun q : Nat => o ≤ q)) ([.ref o] : List Value).toArray s 4 13278 (fun q : Nat => o ≤ q)) (F0 m 75 ls []) := by
    intro n75
    induction n75 with
    | zero =>
      intro x1 i1 hx1 d_hM hmu75 hi75_0 hi75_1 H locs hM hS ls hl
      exact absurd hmu75 (Nat.not_lt_zero _)
    | succ n75 ih75 =>
      intro x1 i1 hx1 d_hM hmu75 hi75_0 hi75_1 H locs hM hS ls hl
      refine lv_iload_n hx hb dX5_init_75 rfl (lv_at hl 1 rfl) ?_
      refine lv_iconst (v := (3 : Int32)) hx hb dX5_init_76 (by decide) ?_
      refine z_icmp_ge (tgt := 134) hx hb hx1 kI_3 dX5_init_77 (by decide) (fun c_1 => ?_) (fun c_1 => ?_)
      · refine lv_aload_n hx hb dX5_init_134 rfl (lv_at hl 0 rfl) ?_
        refine z_cVv (As := []) (rest := []) ⟨hx, hb, hml, hown, hts⟩ (kX5_letFloat l G o d_hM st0 (In5_Rs hi75_1.1 (by omega)) st0_ok) (cwV 0 hts gX5_init_X5_letFloat rfl rfl rfl hyX5_letFloat ⟨Nat.le_of_ble_eq_true rfl, Nat.le_of_ble_eq_true rfl⟩) hK hM hM.1 rfl rfl hl.1 rfl (Nat.le_of_ble_eq_true rfl) dX5_init_135 ⟨(Nat.le_of_ble_eq_true rfl), (Nat.le_of_ble_eq_true rfl)⟩ hS (fun q h => by simp only [iv] at h; show o ≤ q; omega) (fun H locs hB hsz hq hS => ?_)
        obtain ⟨m135, hM, hp135⟩ := hB
        have hM : MO G H o m135 := hM
        have hp135 : (Rs (settle st0) m135.2.1 ∧ Mf d_hM m135) := hp135
        exact z_rvN hx hb hr hlocks ⟨_, hM, hp135.1, hp135.2.1.trans hi75_1.2⟩ hS dX5_init_138
      · refine lv_aload_n hx hb dX5_init_80 rfl (lv_at hl 0 rfl) ?_
        refine z_get hx hb hts iwX5_init_5 hown hK hM.1 rfl 0 (by decide) flX5_init_7 rfl (v := .ref (o + 1)) rfl dX5_init_81 ?_
        refine lv_iload_n hx hb dX5_init_84 rfl (lv_at hl 1 rfl) ?_
        refine lv_iconst (v := (0 : Int32)) hx hb dX5_init_85 (by decide) ?_
        refine z_cS (As := [.int x1, .int (0 : Int32)]) (rest := [.ref (o + 1)]) ⟨hx, hb, hml, hown, hts⟩ (kX5_of l G x1 i1 hx1 (0 : Int32) (0 : Int) kI_0 (by first | assumption | omega)) (va_cwS 2 hts gX5_init_X5_of rfl rfl rfl hyX5_of ⟨Nat.le_of_ble_eq_true rfl, Nat.le_of_ble_eq_true rfl⟩) hK trivial rfl hl.1 rfl (Nat.le_of_ble_eq_true rfl) dX5_init_86 ⟨(Nat.le_of_ble_eq_true rfl), (Nat.le_of_ble_eq_true rfl)⟩ (fun z3 e3 => ?_)
        have e3 : z3.toInt = 10 + 731 * i1 + (0 : Int) := e3
        refine lv_iload_n hx hb dX5_init_89 rfl (lv_at hl 1 rfl) ?_
        refine z_iastMs hx hb hK hM hS (by show o ≤ _; omega) e3 (by omega) dX5_init_90 (fun H locs hM hsz hq hS => ?_)
        have hM : MO G H o (d_hM.1, upd d_hM.2.1 (10 + 731 * i1 + (0 : Int)).toNat x1, d_hM.2.2.1, d_hM.2.2.2.1, d_hM.2.2.2.2) := hM
        refine lv_aload_n hx hb dX5_init_91 rfl (lv_at hl 0 rfl) ?_
        refine z_get hx hb hts iwX5_init_5 hown hK hM.1 rfl 0 (by decide) flX5_init_7 rfl (v := .ref (o + 1)) rfl dX5_init_92 ?_
        refine lv_iload_n hx hb dX5_init_95 rfl (lv_at hl 1 rfl) ?_
        refine lv_iconst (v := (1 : Int32)) hx hb dX5_init_96 (by decide) ?_
        refine z_cS (As := [.int x1, .int (1 : Int32)]) (rest := [.ref (o + 1)]) ⟨hx, hb, hml, hown, hts⟩ (kX5_of l G x1 i1 hx1 (1 : Int32) (1 : Int) kI_1 (by first | assumption | omega)) (va_cwS 2 hts gX5_init_X5_of rfl rfl rfl hyX5_of ⟨Nat.le_of_ble_eq_true rfl, Nat.le_of_ble_eq_true rfl⟩) hK trivial rfl hl.1 rfl (Nat.le_of_ble_eq_true rfl) dX5_init_97 ⟨(Nat.le_of_ble_eq_true rfl), (Nat.le_of_ble_eq_true rfl)⟩ (fun z4 e4 => ?_)
        have e4 : z4.toInt = 10 + 731 * i1 + (1 : Int) := e4
        refine lv_bipush (v := (100 : Int32)) hx hb dX5_init_100 (by decide) ?_
        refine z_iastMs hx hb hK hM hS (by show o ≤ _; omega) e4 (by omega) dX5_init_102 (fun H locs hM hsz hq hS => ?_)
        have hM : MO G H o (d_hM.1, upd (upd d_hM.2.1 (10 + 731 * i1 + (0 : Int)).toNat x1) (10 + 731 * i1 + (1 : Int)).toNat (100 : Int32), d_hM.2.2.1, d_hM.2.2.2.1, d_hM.2.2.2.2) := hM
        refine lv_aload_n hx hb dX5_init_103 rfl (lv_at hl 0 rfl) ?_
        refine z_get hx hb hts iwX5_init_5 hown hK hM.1 rfl 0 (by decide) flX5_init_7 rfl (v := .ref (o + 1)) rfl dX5_init_104 ?_
        refine lv_iload_n hx hb dX5_init_107 rfl (lv_at hl 1 rfl) ?_
        refine lv_bipush (v := (8 : Int32)) hx hb dX5_init_108 (by decide) ?_
        refine z_cS (As := [.int x1, .int (8 : Int32)]) (rest := [.ref (o + 1)]) ⟨hx, hb, hml, hown, hts⟩ (kX5_of l G x1 i1 hx1 (8 : Int32) (8 : Int) kI_8 (by first | assumption | omega)) (va_cwS 2 hts gX5_init_X5_of rfl rfl rfl hyX5_of ⟨Nat.le_of_ble_eq_true rfl, Nat.le_of_ble_eq_true rfl⟩) hK trivial rfl hl.1 rfl (Nat.le_of_ble_eq_true rfl) dX5_init_110 ⟨(Nat.le_of_ble_eq_true rfl), (Nat.le_of_ble_eq_true rfl)⟩ (fun z5 e5 => ?_)
        have e5 : z5.toInt = 10 + 731 * i1 + (8 : Int) := e5
        refine lv_iconst (v := (1 : Int32)) hx hb dX5_init_113 (by decide) ?_
        refine z_iastMs hx hb hK hM hS (by show o ≤ _; omega) e5 (by omega) dX5_init_114 (fun H locs hM hsz hq hS => ?_)
        have hM : MO G H o (d_hM.1, upd (upd (upd d_hM.2.1 (10 + 731 * i1 + (0 : Int)).toNat x1) (10 + 731 * i1 + (1 : Int)).toNat (100 : Int32)) (10 + 731 * i1 + (8 : Int)).toNat (1 : Int32), d_hM.2.2.1, d_hM.2.2.2.1, d_hM.2.2.2.2) := hM
        refine lv_aload_n hx hb dX5_init_115 rfl (lv_at hl 0 rfl) ?_
        refine z_get hx hb hts iwX5_init_5 hown hK hM.1 rfl 0 (by decide) flX5_init_7 rfl (v := .ref (o + 1)) rfl dX5_init_116 ?_
        refine lv_iload_n hx hb dX5_init_119 rfl (lv_at hl 1 rfl) ?_
        refine lv_sipush (v := (610 : Int32)) hx hb dX5_init_120 (by decide) ?_
        refine z_cS (As := [.int x1, .int (610 : Int32)]) (rest := [.ref (o + 1)]) ⟨hx, hb, hml, hown, hts⟩ (kX5_of l G x1 i1 hx1 (610 : Int32) (610 : Int) kI_610 (by first | assumption | omega)) (va_cwS 2 hts gX5_init_X5_of rfl rfl rfl hyX5_of ⟨Nat.le_of_ble_eq_true rfl, Nat.le_of_ble_eq_true rfl⟩) hK trivial rfl hl.1 rfl (Nat.le_of_ble_eq_true rfl) dX5_init_123 ⟨(Nat.le_of_ble_eq_true rfl), (Nat.le_of_ble_eq_true rfl)⟩ (fun z6 e6 => ?_)
        have e6 : z6.toInt = 10 + 731 * i1 + (610 : Int) := e6
        refine lv_iconst (v := (1 : Int32)) hx hb dX5_init_126 (by decide) ?_
        refine z_iastMs hx hb hK hM hS (by show o ≤ _; omega) e6 (by omega) dX5_init_127 (fun H locs hM hsz hq hS => ?_)
        have hM : MO G H o (d_hM.1, upd (upd (upd (upd d_hM.2.1 (10 + 731 * i1 + (0 : Int)).toNat x1) (10 + 731 * i1 + (1 : Int)).toNat (100 : Int32)) (10 + 731 * i1 + (8 : Int)).toNat (1 : Int32)) (10 + 731 * i1 + (610 : Int)).toNat (1 : Int32), d_hM.2.2.1, d_hM.2.2.2.1, d_hM.2.2.2.2) := hM
        refine z_iinc (k := 1) hx hb dX5_init_128 hl rfl hx1 (show (Int32.ofInt 1).toInt = (1 : Int) from rfl) (by omega) (by decide) (fun z7 e7 ls hl => ?_)
        have hl : lv_has ls 2 [(1, .int z7), (0, .ref o)] := hl
        refine lv_goto (tgt := 75) hx hb dX5_init_131 (by decide) ?_
        refine W.widen (k := 4) (n := 13278) (by omega) (by omega) ?_
        exact ih75 z7 (i1 + (1 : Int)) e7 (d_hM.1, upd (upd (upd (upd d_hM.2.1 (10 + 731 * i1 + (0 : Int)).toNat x1) (10 + 731 * i1 + (1 : Int)).toNat (100 : Int32)) (10 + 731 * i1 + (8 : Int)).toNat (1 : Int32)) (10 + 731 * i1 + (610 : Int)).toNat (1 : Int32), d_hM.2.2.1, d_hM.2.2.2.1, d_hM.2.2.2.2) (by omega) (by omega) ⟨In5_s hi75_1.1 (by omega) hx1, hi75_1.2⟩ _ _ hM hS ls (lv_sub hl [1, 0] rfl)
  refine W.widen (k := 4) (n := 13278) (by omega) (by omega) ?_
  exact cut75 (((3 - (0 : Int)).toNat) + 1) (0 : Int32) (0 : Int) kI_0 (md0.1, upd (upd (upd (upd md0.2.1 (1 : Int).toNat (1000 : Int32)) (2 : Int).toNat (12 : Int32)) (5 : Int).toNat (24 : Int32)) (8 : Int).toNat (24 : Int32), md0.2.2.1, md0.2.2.2.1, md0.2.2.2.2) (Nat.lt_succ_self _) (by omega) ⟨In5_0, rfl⟩ _ _ hM hS ls (lv_sub hl [1, 0] rfl)
