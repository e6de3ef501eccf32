abbrev rmX5_letFloat : Room := { frames := 3, cells := 0, slots := 0, locals := 69 }
theorem iwX5_letFloat_5 : ∀ w ∈ wsX50, w ∈ wsX5_letFloat := fun _ h => List.mem_cons_of_mem _ (List.mem_append_right _ h)
theorem flX5_letFloat_7 : Cond.fieldLink RX5 7 "SiltedFloatsModel" "s" "[I" ∈ wsX5_letFloat := by decide +kernel
theorem hyX5_letFloat : yX5_letFloat.cls = RX5 ∧ yX5_letFloat.cls ≠ "java/lang/invoke/MethodHandle" ∧ yX5_letFloat.cls ≠ "java/lang/invoke/VarHandle" ∧ (parseMethodDescriptor yX5_letFloat.desc).map (fun d => d.parameters.length) = some 0 := by decide +kernel
set_option maxHeartbeats 4000000 in
set_option maxRecDepth 100000 in
theorem kX5_letFloat (l : Launch) (G : xG) (o : Nat) (μ : MD) (τ : SD) (hR : Rs τ μ.2.1) (hok : stOk τ) : Met l yX5_letFloat wsX5_letFloat rmX5_letFloat (va_Pc [.ref o] (zPre G (fun H => MO G H o μ))) (zV (fun H => ∃ n9 : MD, MO G H o n9 ∧ (Rs (settle τ) n9.2.1 ∧ Mf μ n9)) (iv o 5)) 0 0 (iv o 5) := by
  refine z_ofW (cc := cX5_letFloat) (maxL := 2) (ret := none) (by decide +kernel) rfl (Nat.le_of_ble_eq_true rfl) ?_
  intro p e s m below meth c hx hb hml hr hts hown hlocks hK hP ls hl
  have hM := hP
  have hown : s.vm.findClass RX5 = some m.cls := hown
  have hl : lv_has ls 2 [(0, .ref o)] := hl
  have hS : va_S (iv o 5) s.heap s.heap [] := va_S.rf
  have cut2 : ∀ (n2 : Nat), ∀ (x1 : Int32) (i1 : Int) (_ : x1.toInt = i1) (d_hM : MD), (3 - i1).toNat < n2 → (0 ≤ i1 ∧ i1 ≤ 3) → (Rs (τ.1, τ.2.1, sfN τ i1) d_hM.2.1 ∧ Mf μ d_hM) → ∀ (H : Heap) (locs : List Loc), MO G H o d_hM → va_S (iv o 5) s.heap H locs → ∀ ls : Array Slot, lv_has ls 2 [(0, .ref o), (1, .int x1)] → W p l e rmX5_letFloat s m ([.ref o] : List Value).toArray below meth c H locs 0 0 (MQ below (zV (fun H => ∃ n9 : MD, MO G H o n9 ∧ (Rs (settle τ) n9.2.1 ∧ Mf μ n9)) (iv o 5)) ([.ref o] : List Value).toArray s 0 0 (iv o 5)) (F0 m 2 ls []) := by
    intro n2
    induction n2 with
    | zero =>
      intro x1 i1 hx1 d_hM hmu2 hi2_0 hi2_1 H locs hM hS ls hl
      exact absurd hmu2 (Nat.not_lt_zero _)
    | succ n2 ih2 =>
      intro x1 i1 hx1 d_hM hmu2 hi2_0 hi2_1 H locs hM hS ls hl
      have hsN := sfN_ok hok i1
      refine lv_iload_n hx hb dX5_letFloat_2 rfl (lv_at hl 1 rfl) ?_
      refine lv_iconst (v := (3 : Int32)) hx hb dX5_letFloat_3 (by decide) ?_
      refine z_icmp_ge (tgt := 29) hx hb hx1 kI_3 dX5_letFloat_4 (by decide) (fun c_1 => ?_) (fun c_1 => ?_)
      · exact z_rv hx hb hr hlocks ⟨_, hM, ⟨hi2_1.1.to (by rw [show i1 = 3 by omega]; rfl), hi2_1.2⟩⟩ hS dX5_letFloat_29
      · refine lv_aload_n hx hb dX5_letFloat_7 rfl (lv_at hl 0 rfl) ?_
        refine z_get hx hb hts iwX5_letFloat_5 hown hK hM.1 rfl 0 (by decide) flX5_letFloat_7 rfl (v := .ref (o + 1)) rfl dX5_letFloat_8 ?_
        refine lv_iload_n hx hb dX5_letFloat_11 rfl (lv_at hl 1 rfl) ?_
        refine lv_iconst (v := (3 : Int32)) hx hb dX5_letFloat_12 (by decide) ?_
        refine z_cS (As := [.int x1, .int (3 : Int32)]) (rest := [.ref (o + 1)]) ⟨hx, hb, hml, hown, hts⟩ (kX5_of l G x1 i1 hx1 (3 : Int32) (3 : Int) kI_3 (by first | assumption | omega)) (va_cwS 2 hts gX5_letFloat_X5_of rfl rfl rfl hyX5_of ⟨Nat.le_of_ble_eq_true rfl, Nat.le_of_ble_eq_true rfl⟩) hK trivial rfl hl.1 rfl (Nat.le_of_ble_eq_true rfl) dX5_letFloat_13 ⟨Nat.zero_le _, Nat.zero_le _⟩ (fun z2 e2 => ?_)
        have e2 : z2.toInt = 10 + 731 * i1 + (3 : Int) := e2
        refine lv_aload_n hx hb dX5_letFloat_16 rfl (lv_at hl 0 rfl) ?_
        refine lv_iload_n hx hb dX5_letFloat_17 rfl (lv_at hl 1 rfl) ?_
        refine lv_iconst (v := (0 : Int32)) hx hb dX5_letFloat_18 (by decide) ?_
        refine z_cV (As := [.int x1, .int (0 : Int32)]) (rest := [.int z2, .ref (o + 1)]) ⟨hx, hb, hml, hown, hts⟩ (kX5_outsideAt l G o d_hM x1 i1 hx1 (0 : Int32) (0 : Int) kI_0 ((τ.1, τ.2.1, sfN τ i1) : SD) hi2_1.1.w hok.2.1 (by first | assumption | omega) ((hsN.2.2 _ (by omega)).sta) (by first | assumption | omega)) (cwV 2 hts gX5_letFloat_X5_outsideAt rfl rfl rfl hyX5_outsideAt ⟨Nat.le_of_ble_eq_true rfl, Nat.le_of_ble_eq_true rfl⟩) hK hM hM.1 rfl rfl hl.1 rfl (Nat.le_of_ble_eq_true rfl) dX5_letFloat_19 ⟨Nat.zero_le _, Nat.zero_le _⟩ (fun z3 e3 => ?_)
        have e3 : z3.toInt = watZ ((τ.1, τ.2.1, sfN τ i1) : SD).2.1 (((τ.1, τ.2.1, sfN τ i1) : SD).2.2 i1.toNat) (0 : Int) := e3
        refine z_iastMs hx hb hK hM hS (by simp only [iv]; omega) e2 (by omega) dX5_letFloat_22 (fun H locs hM hsz hq hS => ?_)
        have hM : MO G H o (d_hM.1, upd d_hM.2.1 (10 + 731 * i1 + (3 : Int)).toNat z3, d_hM.2.2.1, d_hM.2.2.2.1, d_hM.2.2.2.2) := hM
        refine z_iinc (k := 1) hx hb dX5_letFloat_23 hl rfl hx1 (show (Int32.ofInt 1).toInt = (1 : Int) from rfl) (by omega) (by decide) (fun z4 e4 ls hl => ?_)
        have hl : lv_has ls 2 [(1, .int z4), (0, .ref o)] := hl
        refine lv_goto (tgt := 2) hx hb dX5_letFloat_26 (by decide) ?_
        exact ih2 z4 (i1 + (1 : Int)) e4 (d_hM.1, upd d_hM.2.1 (10 + 731 * i1 + (3 : Int)).toNat z3, d_hM.2.2.1, d_hM.2.2.2.1, d_hM.2.2.2.2) (by omega) (by omega) ⟨(hi2_1.1.set (t := i1) (k := 3) (v := z3) hsN (by omega) (by omega)).to (by rw [zi_eqOf e3, ← sfN_s (σ := τ) (i := i1) (by omega)]; rfl), hi2_1.2⟩ _ _ hM hS ls (lv_sub hl [1, 0] rfl)
  refine lv_iconst (v := (0 : Int32)) hx hb dX5_letFloat_0 (by decide) ?_
  refine lv_istore_n hx hb dX5_letFloat_1 rfl hl (by decide) rfl (fun ls hl => ?_)
  have hl : lv_has ls 2 [(1, .int (0 : Int32)), (0, .ref o)] := hl
  exact cut2 (((3 - (0 : Int)).toNat) + 1) (0 : Int32) (0 : Int) kI_0 μ (Nat.lt_succ_self _) (by omega) ⟨hR.to (by rw [sfN_0 (by omega)]), rfl, rfl⟩ _ _ hM hS ls (lv_sub hl [1, 0] rfl)
