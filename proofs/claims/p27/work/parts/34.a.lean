abbrev rmX3_init : Room := { frames := 2, cells := 0, slots := 0, locals := 80 }
theorem hyX3_init : yX3_init.cls ≠ "java/lang/invoke/MethodHandle" ∧ yX3_init.cls ≠ "java/lang/invoke/VarHandle" ∧ (parseMethodDescriptor yX3_init.desc).map (fun d => d.parameters.length) = some 3 := by decide +kernel
set_option maxHeartbeats 2000000 in
set_option maxRecDepth 100000 in
theorem kX3_init (l : Launch) (G : xG) (w : Nat) (x : Int32) (a : Int) (e_x : x.toInt = a) (y : Int32) (b : Int) (e_y : y.toInt = b) (z : Int32) (f : Int) (e_z : z.toInt = f) : Met l yX3_init wsX3_init rmX3_init (va_Pc [.ref w, .int x, .int y, .int z] (zPreC G (fun H => ZS H (w + 1) ∧ WV G H w (fun _ => 0)))) (zV (fun H => ZS H (w + 1) ∧ WV G H w (wv0 x y z)) (fun q : Nat => w ≤ q)) 0 0 (fun q : Nat => w ≤ q) := by
  refine z_ofWC (cc := cX3_init) (maxL := 4) (ret := none) (by decide +kernel) rfl (Nat.le_of_ble_eq_true rfl) ?_
  intro p e s m below meth c hx hb hml hr hts hown hlocks hin hC hP ls hl
  have hK := hC.1
  have hown : s.vm.findClass RX3 = some m.cls := hown
  have hl : lv_has ls 4 [(0, .ref w), (1, .int x), (2, .int y), (3, .int z)] := hl
  have hS : va_S (fun q : Nat => w ≤ q) s.heap s.heap [] := va_S.rf
  generalize hHe : s.heap = H at hP
  have hS : va_S (fun q : Nat => w ≤ q) s.heap H [] := by rw [← hHe]; exact va_S.rf
  suffices hW9 : W p l e rmX3_init s m ([.ref w, .int x, .int y, .int z] : List Value).toArray below meth c H [] 0 0 (MQ below (zV (fun H => ZS H (w + 1) ∧ WV G H w (wv0 x y z)) (fun q : Nat => w ≤ q)) ([.ref w, .int x, .int y, .int z] : List Value).toArray s 0 0 (fun q : Nat => w ≤ q)) (F0 m 0 ls []) by first | exact hW9 | (rw [hHe]; exact hW9)
  generalize hL : ([] : List Loc) = locs at hS ⊢
  refine lv_aload_n hx hb dX3_init_0 rfl (lv_at hl 0 rfl) ?_
  refine W.objInit hx hb hown (hts _ (List.mem_of_getElem? (i := 1) rfl)) (hts _ (List.mem_of_getElem? (i := 2) rfl)) (hts _ (List.mem_of_getElem? (i := 3) rfl)) rfl (by rw [hml]; exact hl.1) rfl dX3_init_1 (Nat.le_of_ble_eq_true rfl) (Nat.le_of_ble_eq_true rfl) ?_
  refine lv_aload_n hx hb dX3_init_4 rfl (lv_at hl 0 rfl) ?_
  refine lv_iload_n hx hb dX3_init_5 rfl (lv_at hl 1 rfl) ?_
  refine lv_iload_n hx hb dX3_init_6 rfl (lv_at hl 2 rfl) ?_
  refine lv_iload_n hx hb dX3_init_7 rfl (lv_at hl 3 rfl) ?_
  obtain ⟨hZ, hV⟩ := hP
  refine z_cVv (As := [.int x, .int y, .int z]) (rest := []) ⟨hx, hb, hml, hown, hts⟩ (kX3_becomeS l G w (fun _ => 0) 0 (w + 1) x a e_x y b e_y z f e_z) (cwV 3 hts gX3_init_X3_become rfl rfl rfl hyX3_become ⟨Nat.le_of_ble_eq_true rfl, Nat.le_of_ble_eq_true rfl⟩) hK ⟨hV, hZ⟩ hV rfl rfl hl.1 rfl (Nat.le_of_ble_eq_true rfl) dX3_init_8 ⟨Nat.zero_le _, Nat.zero_le _⟩ hS (fun q h => by simp only [iv] at h; show w ≤ q; omega) (fun H locs hP hsz hq hS => ?_)
  exact z_rvN hx hb hr hlocks ⟨hP.2, hP.1⟩ hS dX3_init_11

abbrev rmX1_init : Room := { frames := 1, cells := 1, slots := 60, locals := 40 }
theorem iwX1_init_1 : ∀ w ∈ wsX10, w ∈ wsX1_init := fun _ h => List.mem_cons_of_mem _ (List.mem_append_right _ h)
theorem flX1_init_9 : Cond.fieldLink RX1 9 "SiltedFloats$OrderText" "characters" "[C" ∈ wsX1_init := by decide +kernel
theorem hyX1_init : yX1_init.cls ≠ "java/lang/invoke/MethodHandle" ∧ yX1_init.cls ≠ "java/lang/invoke/VarHandle" ∧ (parseMethodDescriptor yX1_init.desc).map (fun d => d.parameters.length) = some 0 := by decide +kernel
set_option maxHeartbeats 2000000 in
set_option maxRecDepth 100000 in
theorem kX1_init (l : Launch) (G : xG) (a : Nat) : Met l yX1_init wsX1_init rmX1_init (va_Pc [.ref a] (zPreC G (fun H => ZS H (a + 1) ∧ xat G H a (.inr (1, [.int 0, .null]))))) (zV (fun H => ZS H (a + 2) ∧ TX G H a (0, fun _ => 0)) (fun q : Nat => a ≤ q)) 1 60 (fun q : Nat => a ≤ q) := by
  refine z_ofWC (cc := cX1_init) (maxL := 1) (ret := none) (by decide +kernel) rfl (Nat.le_of_ble_eq_true rfl) ?_
  intro p e s m below meth c hx hb hml hr hts hown hlocks hin hC hP ls hl
  have hK := hC.1
  have hown : s.vm.findClass RX1 = some m.cls := hown
  have hl : lv_has ls 1 [(0, .ref a)] := hl
  have hS : va_S (fun q : Nat => a ≤ q) s.heap s.heap [] := va_S.rf
  generalize hHe : s.heap = H at hP
  have hS : va_S (fun q : Nat => a ≤ q) s.heap H [] := by rw [← hHe]; exact va_S.rf
  suffices hW9 : W p l e rmX1_init s m ([.ref a] : List Value).toArray below meth c H [] 0 0 (MQ below (zV (fun H => ZS H (a + 2) ∧ TX G H a (0, fun _ => 0)) (fun q : Nat => a ≤ q)) ([.ref a] : List Value).toArray s 1 60 (fun q : Nat => a ≤ q)) (F0 m 0 ls []) by first | exact hW9 | (rw [hHe]; exact hW9)
  generalize hL : ([] : List Loc) = locs at hS ⊢
  refine lv_aload_n hx hb dX1_init_0 rfl (lv_at hl 0 rfl) ?_
  refine W.objInit hx hb hown (hts _ (List.mem_of_getElem? (i := 1) rfl)) (hts _ (List.mem_of_getElem? (i := 2) rfl)) (hts _ (List.mem_of_getElem? (i := 3) rfl)) rfl (by rw [hml]; exact hl.1) rfl dX1_init_1 (Nat.le_of_ble_eq_true rfl) (Nat.le_of_ble_eq_true rfl) ?_
  refine lv_aload_n hx hb dX1_init_4 rfl (lv_at hl 0 rfl) ?_
  refine lv_bipush (v := (60 : Int32)) hx hb dX1_init_5 (by decide) ?_
  obtain ⟨hsz, hO⟩ := hP
  refine z_newac hx hb (hts _ (by decide +kernel)) hK (h := a + 1) hsz hS (N' := 60) (by decide) (by decide) (Nat.le_of_ble_eq_true rfl) (Nat.le_of_ble_eq_true rfl) (Nat.le_of_ble_eq_true rfl) dX1_init_7 (fun H hR hsz ho hS => ?_)
  have hO := hO.kept (ho a (by omega))
  refine z_putF hx hb hts iwX1_init_1 tyX1 tyX1_ok nmX1 hown hK hO rfl hS (by show a ≤ a; omega) 1 (by decide) flX1_init_9 rfl rfl hin rfl (ty := .array .char) rfl rfl rfl (by show _ < 2; omega) dX1_init_9 (fun H locs hO hz1 hq hS => ?_)
  exact z_rvN hx hb hr hlocks ⟨hz1.trans hsz, hO, hR.kept (hq _ (by omega))⟩ hS dX1_init_12

abbrev rmX0_init : Room := { frames := 3, cells := 3, slots := 360, locals := 100 }
theorem iwX0_init_0 : ∀ w ∈ wsX00, w ∈ wsX0_init := fun _ h => List.mem_cons_of_mem _ (List.mem_append_right _ h)
theorem flX0_init_15 : Cond.fieldLink RX0 15 "SiltedFloats$Gauge" "on" "Z" ∈ wsX0_init := by decide +kernel
theorem flX0_init_19 : Cond.fieldLink RX0 19 "SiltedFloats$Gauge" "notes" "I" ∈ wsX0_init := by decide +kernel
theorem flX0_init_23 : Cond.fieldLink RX0 23 "SiltedFloats$Gauge" "kinds" "[I" ∈ wsX0_init := by decide +kernel
theorem flX0_init_33 : Cond.fieldLink RX0 33 "SiltedFloats$Gauge" "values" "[I" ∈ wsX0_init := by decide +kernel
theorem flX0_init_36 : Cond.fieldLink RX0 36 "SiltedFloats$Gauge" "corrections" "[I" ∈ wsX0_init := by decide +kernel
theorem hyX0_init : yX0_init.cls ≠ "java/lang/invoke/MethodHandle" ∧ yX0_init.cls ≠ "java/lang/invoke/VarHandle" ∧ (parseMethodDescriptor yX0_init.desc).map (fun d => d.parameters.length) = some 1 := by decide +kernel
set_option maxHeartbeats 2000000 in
set_option maxRecDepth 100000 in
theorem kX0_init (l : Launch) (G : xG) (g : Nat) (x : Int32) (i : Int) (e_x : x.toInt = i) : Met l yX0_init wsX0_init rmX0_init (va_Pc [.ref g, .int x] (zPreC G (fun H => ZS H (g + 1) ∧ BG G H g (fun _ => 0)))) (zV (fun H => ZS H (g + 4) ∧ GA G H g (gd0 x)) (fun q : Nat => g ≤ q)) 3 360 (fun q : Nat => g ≤ q) := by
  refine z_ofWC (cc := cX0_init) (maxL := 2) (ret := none) (by decide +kernel) rfl (Nat.le_of_ble_eq_true rfl) ?_
  intro p e s m below meth c hx hb hml hr hts hown hlocks hin hC hP ls hl
  have hK := hC.1
  have hown : s.vm.findClass RX0 = some m.cls := hown
  have hl : lv_has ls 2 [(0, .ref g), (1, .int x)] := hl
  have hS : va_S (fun q : Nat => g ≤ q) s.heap s.heap [] := va_S.rf
  generalize hHe : s.heap = H at hP
  have hS : va_S (fun q : Nat => g ≤ q) s.heap H [] := by rw [← hHe]; exact va_S.rf
  suffices hW9 : W p l e rmX0_init s m ([.ref g, .int x] : List Value).toArray below meth c H [] 0 0 (MQ below (zV (fun H => ZS H (g + 4) ∧ GA G H g (gd0 x)) (fun q : Nat => g ≤ q)) ([.ref g, .int x] : List Value).toArray s 3 360 (fun q : Nat => g ≤ q)) (F0 m 0 ls []) by first | exact hW9 | (rw [hHe]; exact hW9)
  generalize hL : ([] : List Loc) = locs at hS ⊢
  refine lv_aload_n hx hb dX0_init_0 rfl (lv_at hl 0 rfl) ?_
  refine W.objInit hx hb hown (hts _ (List.mem_of_getElem? (i := 1) rfl)) (hts _ (List.mem_of_getElem? (i := 2) rfl)) (hts _ (List.mem_of_getElem? (i := 3) rfl)) rfl (by rw [hml]; exact hl.1) rfl dX0_init_1 (Nat.le_of_ble_eq_true rfl) (Nat.le_of_ble_eq_true rfl) ?_
  refine lv_aload_n hx hb dX0_init_4 rfl (lv_at hl 0 rfl) ?_
  refine lv_iload_n hx hb dX0_init_5 rfl (lv_at hl 1 rfl) ?_
  refine lv_bipush (v := (100 : Int32)) hx hb dX0_init_6 (by decide) ?_
  refine lv_iconst (v := (0 : Int32)) hx hb dX0_init_8 (by decide) ?_
  obtain ⟨hZ, hB⟩ := hP
  refine z_cVv (As := [.int x, .int 100, .int 0]) (rest := []) ⟨hx, hb, hml, hown, hts⟩ (kX0_becomeB l G g (fun _ => 0) 0 (g + 1) x i e_x 100 100 rfl 0 0 rfl) (cwV 3 hts gX0_init_X0_become rfl rfl rfl hyX0_become ⟨Nat.le_of_ble_eq_true rfl, Nat.le_of_ble_eq_true rfl⟩) hK ⟨hB, hZ⟩ hB rfl rfl hl.1 rfl (Nat.le_of_ble_eq_true rfl) dX0_init_9 ⟨Nat.zero_le _, Nat.zero_le _⟩ hS (fun q h => by simp only [iv] at h; show g ≤ q; omega) (fun H locs hP hsz9 hq hS => ?_)
  obtain ⟨hB, hsz⟩ := hP
  refine lv_aload_n hx hb dX0_init_12 rfl (lv_at hl 0 rfl) ?_
  refine lv_iconst (v := (1 : Int32)) hx hb dX0_init_13 (by decide) ?_
  refine z_putB hx hb hts iwX0_init_0 hown hK hB hS (by show g ≤ g; omega) 8 (by decide) flX0_init_15 rfl rfl (ty := .boolean) rfl rfl rfl dX0_init_14 (fun H locs hB hz1 hq hS => ?_)
  have hsz := hz1.trans hsz
  refine lv_aload_n hx hb dX0_init_17 rfl (lv_at hl 0 rfl) ?_
  refine lv_iconst (v := (1 : Int32)) hx hb dX0_init_18 (by decide) ?_
  refine z_putB hx hb hts iwX0_init_0 hown hK hB hS (by show g ≤ g; omega) 9 (by decide) flX0_init_19 rfl rfl (ty := .int) rfl rfl rfl dX0_init_19 (fun H locs hB hz1 hq hS => ?_)
  have hsz := hz1.trans hsz
  have hO : xat G H g (.inr (0, [.int (f0 x 0), .int (f0 x 1), .int (f0 x 2), .int (f0 x 3), .int (f0 x 4), .int (f0 x 5), .int (f0 x 6), .int (f0 x 7), .int (f0 x 8), .int (f0 x 9), .int (f0 x 10), .int (f0 x 11), .null, .null, .null])) := hB
  refine lv_aload_n hx hb dX0_init_22 rfl (lv_at hl 0 rfl) ?_
  refine lv_bipush (v := (120 : Int32)) hx hb dX0_init_23 (by decide) ?_
  refine z_newai hx hb (hts _ (by decide +kernel)) hK (h := g + 1) hsz hS (N' := 120) (by decide) (by decide) (Nat.le_of_ble_eq_true rfl) (Nat.le_of_ble_eq_true rfl) (Nat.le_of_ble_eq_true rfl) dX0_init_25 (fun H h1 hsz ho hS => ?_)
  have hO := hO.kept (ho g (by omega))
  refine z_putF hx hb hts iwX0_init_0 tyX0 tyX0_ok nmX0 hown hK hO rfl hS (by show g ≤ g; omega) 12 (by decide) flX0_init_23 rfl rfl hin rfl (ty := .array .int) rfl rfl rfl (by show _ < 15; omega) dX0_init_27 (fun H locs hO hz1 hq hS => ?_)
  have h1 := h1.kept (hq (g + 1) (by omega))
  have hsz := hz1.trans hsz
  have hO : xat G H g (.inr (0, [.int (f0 x 0), .int (f0 x 1), .int (f0 x 2), .int (f0 x 3), .int (f0 x 4), .int (f0 x 5), .int (f0 x 6), .int (f0 x 7), .int (f0 x 8), .int (f0 x 9), .int (f0 x 10), .int (f0 x 11), .ref (g + 1), .null, .null])) := hO
  refine lv_aload_n hx hb dX0_init_30 rfl (lv_at hl 0 rfl) ?_
  refine z_get hx hb hts iwX0_init_0 hown hK hO rfl 12 (by decide) flX0_init_23 rfl (v := .ref (g + 1)) rfl dX0_init_31 ?_
  refine lv_iconst (v := (3 : Int32)) hx hb dX0_init_34 (by decide) ?_
  refine z_cSv (As := [.ref (g + 1), .int 3]) (rest := []) ⟨hx, hb, hml, hown, hts⟩ (kJ7_fill_53178 l G (g + 1) (fun _ => 0) 0 (g + 2) 3 3 rfl) (va_cwS 2 hts gX0_init_J7_fill_53178 rfl rfl rfl hyJ7_fill_53178 ⟨Nat.le_of_ble_eq_true rfl, Nat.le_of_ble_eq_true rfl⟩) hK ⟨h1, hsz⟩ rfl hl.1 rfl (Nat.le_of_ble_eq_true rfl) dX0_init_35 ⟨by show _ ≤ 3; omega, by show _ ≤ 360; omega⟩ hS (fun q h => by simp only [iv] at h; show g ≤ q; omega) (fun H locs hP hsz9 hq hS => ?_)
  obtain ⟨h1, hsz1⟩ := hP
  have hO := hO.kept (hq g (by have h9 : _ = g + 2 := hsz; omega) (by simp only [iv]; omega))
  have hsz : ZS H (g + 2) := hsz1
  have h1 : xat G H (g + 1) (.inl (G.2.1, 120, .inl (fun _ => 3))) := xat.row h1 (fun j hj => if_pos (by omega))
  refine lv_aload_n hx hb dX0_init_38 rfl (lv_at hl 0 rfl) ?_
  refine lv_bipush (v := (120 : Int32)) hx hb dX0_init_39 (by decide) ?_
  refine z_newai hx hb (hts _ (by decide +kernel)) hK (h := g + 2) hsz hS (N' := 120) (by decide) (by decide) (Nat.le_of_ble_eq_true rfl) (Nat.le_of_ble_eq_true rfl) (Nat.le_of_ble_eq_true rfl) dX0_init_41 (fun H h2 hsz ho hS => ?_)
  have hO := hO.kept (ho g (by omega))
  have h1 := h1.kept (ho (g + 1) (by omega))
  refine z_putF hx hb hts iwX0_init_0 tyX0 tyX0_ok nmX0 hown hK hO rfl hS (by show g ≤ g; omega) 13 (by decide) flX0_init_33 rfl rfl hin rfl (ty := .array .int) rfl rfl rfl (by show _ < 15; omega) dX0_init_43 (fun H locs hO hz1 hq hS => ?_)
  have h1 := h1.kept (hq (g + 1) (by omega))
  have h2 := h2.kept (hq (g + 2) (by omega))
  have hsz := hz1.trans hsz
  have hO : xat G H g (.inr (0, [.int (f0 x 0), .int (f0 x 1), .int (f0 x 2), .int (f0 x 3), .int (f0 x 4), .int (f0 x 5), .int (f0 x 6), .int (f0 x 7), .int (f0 x 8), .int (f0 x 9), .int (f0 x 10), .int (f0 x 11), .ref (g + 1), .ref (g + 2), .null])) := hO
  refine lv_aload_n hx hb dX0_init_46 rfl (lv_at hl 0 rfl) ?_
  refine lv_bipush (v := (120 : Int32)) hx hb dX0_init_47 (by decide) ?_
  refine z_newai hx hb (hts _ (by decide +kernel)) hK (h := g + 3) hsz hS (N' := 120) (by decide) (by decide) (Nat.le_of_ble_eq_true rfl) (Nat.le_of_ble_eq_true rfl) (Nat.le_of_ble_eq_true rfl) dX0_init_49 (fun H h3 hsz ho hS => ?_)
  have hO := hO.kept (ho g (by omega))
  have h1 := h1.kept (ho (g + 1) (by omega))
  have h2 := h2.kept (ho (g + 2) (by omega))
  refine z_putF hx hb hts iwX0_init_0 tyX0 tyX0_ok nmX0 hown hK hO rfl hS (by show g ≤ g; omega) 14 (by decide) flX0_init_36 rfl rfl hin rfl (ty := .array .int) rfl rfl rfl (by show _ < 15; omega) dX0_init_51 (fun H locs hO hz1 hq hS => ?_)
  have h1 := h1.kept (hq (g + 1) (by omega))
  have h2 := h2.kept (hq (g + 2) (by omega))
  have h3 := h3.kept (hq (g + 3) (by omega))
  have hsz := hz1.trans hsz
  have hO : xat G H g (.inr (0, [.int (f0 x 0), .int (f0 x 1), .int (f0 x 2), .int (f0 x 3), .int (f0 x 4), .int (f0 x 5), .int (f0 x 6), .int (f0 x 7), .int (f0 x 8), .int (f0 x 9), .int (f0 x 10), .int (f0 x 11), .ref (g + 1), .ref (g + 2), .ref (g + 3)])) := hO
  exact z_rvN hx hb hr hlocks ⟨hsz, hO, h1, h2, h3⟩ hS dX0_init_54
