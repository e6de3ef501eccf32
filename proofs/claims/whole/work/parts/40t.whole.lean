set_option maxHeartbeats 4000000 in
set_option maxRecDepth 100000 in
theorem law_loop {p : Program} {l : Launch} {e : Env} {s : State} {m : MethodId} {below : List Frame} {meth : Method} {c : Code} {b L z : Nat} {xs : Nat → Int32} {G : xG} (C : LC p s m c b L xs G z) (hr : meth.sig.returnType = ret) (hlocks : meth.locks = false) : ∀ (n : Nat) (x3 : Int32) (i : Int) (_ : x3.toInt = i), ((L : Int) - i).toNat < n → 0 ≤ i ∧ i ≤ L → ∀ (σ : FD) (μ : MD) (H : Heap) (locs : List Loc), LI G z s.heap H locs σ μ → ∀ ls : Array Slot, lv_has ls 4 [(0, .ref b), (1, .ref z), (2, .ref (z + 112)), (3, .int x3)] → W p l e room_1 s m (#[Value.ref b] : Array Value) below meth c H locs 117 20218 (lw_Z below #[Value.ref b] s) (F0 m 18 ls []) := by
  obtain ⟨hx, hb, hml, hown, hts, hK, hX, hbl, hL, hz⟩ := id C
  have hbA : ¬ (fun q : Nat => s.heap.size ≤ q) b := Nat.not_le.mpr hbl
  intro n
  induction n with
  | zero =>
    intro x3 i hx3 hmu
    exact absurd hmu (Nat.not_lt_zero _)
  | succ n ih =>
    intro x3 i hx3 hmu hi σ μ H locs I ls hl
    have hS := I.2.2.2.2
    refine lv_iload_n hx hb dL_law_18 rfl (lv_at hl 3 rfl) ?_
    refine lv_aload_n hx hb dL_law_19 rfl (lv_at hl 0 rfl) ?_
    refine z_slen hx hb hX hbl hbA hS hL dL_law_20 (fun z1 e1 => ?_)
    refine lv_iconst (v := (5 : Int32)) hx hb dL_law_21 (by decide) ?_
    refine z_isub hx hb e1 kI_5 dL_law_22 (by omega) (fun z2 e2 => ?_)
    refine z_icmp_gt (tgt := 926) hx hb hx3 e2 dL_law_23 (by decide) (fun c_1 => ?_) (fun c_1 => ?_)
    · refine lv_iconst (v := (1 : Int32)) hx hb dL_law_926 (by decide) ?_
      refine va_forget (fun q h => hS.2.2 q h) ?_
      refine W.widen (k := 600000) (n := 7302250) (Nat.le_of_ble_eq_true rfl) (Nat.le_of_ble_eq_true rfl) ?_
      exact lw_ret hx hb hr hlocks dL_law_927
    · have hi5 : 0 ≤ i ∧ i + 5 ≤ (L : Int) := by omega
      have kk : ∀ (σ' : FD) (μ' : MD) (H' : Heap) (locs' : List Loc), LI G z s.heap H' locs' σ' μ' → W p l e room_1 s m (#[Value.ref b] : Array Value) below meth c H' locs' 117 20218 (lw_Z below #[Value.ref b] s) (F0 m 920 ls []) := by
        intro σ' μ' H' locs' I'
        refine z_iinc (k := 3) hx hb dL_law_920 hl rfl hx3 (show (Int32.ofInt 5).toInt = (5 : Int) from rfl) (by omega) (by decide) (fun z4 e4 ls hl => ?_)
        have hl : lv_has ls 4 [(3, .int z4), (0, .ref b), (1, .ref z), (2, .ref (z + 112))] := hl
        refine lv_goto (tgt := 18) hx hb dL_law_923 (by decide) ?_
        exact ih z4 (i + 5) e4 (by omega) (by omega) σ' μ' H' locs' I' ls (lv_sub hl [1, 2, 3, 0] rfl)
      refine lv_aload_n hx hb dL_law_26 rfl (lv_at hl 0 rfl) ?_
      refine lv_iload_n hx hb dL_law_27 rfl (lv_at hl 3 rfl) ?_
      refine z_sld hx hb hX hbl hbA hS hx3 (by omega) dL_law_28 ?_
      refine lv_bipush (v := (31 : Int32)) hx hb dL_law_29 (by decide) ?_
      refine lv_iand hx hb dL_law_31 ?_
      generalize xs i.toNat &&& 31 = v
      obtain ⟨a, ea⟩ : ∃ a : Int, v.toInt = a := ⟨_, rfl⟩
      rcases (show a < 0 ∨ 23 < a ∨ a = 0 ∨ a = 1 ∨ a = 2 ∨ a = 3 ∨ a = 4 ∨ a = 5 ∨ a = 6 ∨ a = 7 ∨ a = 8 ∨ a = 9 ∨ a = 10 ∨ a = 11 ∨ a = 12 ∨ a = 13 ∨ a = 14 ∨ a = 15 ∨ a = 16 ∨ a = 17 ∨ a = 18 ∨ a = 19 ∨ a = 20 ∨ a = 21 ∨ a = 22 ∨ a = 23 from by omega) with c_2 | c_2 | c_2 | c_2 | c_2 | c_2 | c_2 | c_2 | c_2 | c_2 | c_2 | c_2 | c_2 | c_2 | c_2 | c_2 | c_2 | c_2 | c_2 | c_2 | c_2 | c_2 | c_2 | c_2 | c_2 | c_2
      · refine lv_tableOut (tgt := 920) hx hb dL_law_32 (by rw [ea]; omega) (by decide) ?_
        exact kk σ μ H locs I
      · refine lv_tableOut (tgt := 920) hx hb dL_law_32 (by rw [ea]; omega) (by decide) ?_
        exact kk σ μ H locs I
      · refine lv_tableIn (off := 112) (tgt := 144) hx hb dL_law_32 (by rw [ea]; omega) (by rw [ea]; omega) (by rw [ea, c_2]; rfl) (by decide) ?_
        exact law_144 C hx3 hi5 I hl kk
      · refine lv_tableIn (off := 165) (tgt := 197) hx hb dL_law_32 (by rw [ea]; omega) (by rw [ea]; omega) (by rw [ea, c_2]; rfl) (by decide) ?_
        exact law_197 C hx3 hi5 I hl kk
      · refine lv_tableIn (off := 218) (tgt := 250) hx hb dL_law_32 (by rw [ea]; omega) (by rw [ea]; omega) (by rw [ea, c_2]; rfl) (by decide) ?_
        exact law_250 C hx3 hi5 I hl kk
      · refine lv_tableIn (off := 277) (tgt := 309) hx hb dL_law_32 (by rw [ea]; omega) (by rw [ea]; omega) (by rw [ea, c_2]; rfl) (by decide) ?_
        exact law_309 C hx3 hi5 I hl kk
      · refine lv_tableIn (off := 326) (tgt := 358) hx hb dL_law_32 (by rw [ea]; omega) (by rw [ea]; omega) (by rw [ea, c_2]; rfl) (by decide) ?_
        exact law_358 C hx3 hi5 I hl kk
      · refine lv_tableIn (off := 349) (tgt := 381) hx hb dL_law_32 (by rw [ea]; omega) (by rw [ea]; omega) (by rw [ea, c_2]; rfl) (by decide) ?_
        exact law_381 C hx3 hi5 I hl kk
      · refine lv_tableIn (off := 372) (tgt := 404) hx hb dL_law_32 (by rw [ea]; omega) (by rw [ea]; omega) (by rw [ea, c_2]; rfl) (by decide) ?_
        exact law_404 C hx3 hi5 I hl kk
      · refine lv_tableIn (off := 395) (tgt := 427) hx hb dL_law_32 (by rw [ea]; omega) (by rw [ea]; omega) (by rw [ea, c_2]; rfl) (by decide) ?_
        exact law_427 C hx3 hi5 I hl kk
      · refine lv_tableIn (off := 408) (tgt := 440) hx hb dL_law_32 (by rw [ea]; omega) (by rw [ea]; omega) (by rw [ea, c_2]; rfl) (by decide) ?_
        exact law_440 C hx3 hi5 I hl kk
      · refine lv_tableIn (off := 461) (tgt := 493) hx hb dL_law_32 (by rw [ea]; omega) (by rw [ea]; omega) (by rw [ea, c_2]; rfl) (by decide) ?_
        exact law_493 C hx3 hi5 I hl kk
      · refine lv_tableIn (off := 484) (tgt := 516) hx hb dL_law_32 (by rw [ea]; omega) (by rw [ea]; omega) (by rw [ea, c_2]; rfl) (by decide) ?_
        exact law_516 C hx3 hi5 I hl kk
      · refine lv_tableIn (off := 509) (tgt := 541) hx hb dL_law_32 (by rw [ea]; omega) (by rw [ea]; omega) (by rw [ea, c_2]; rfl) (by decide) ?_
        exact law_541 C hx3 hi5 I hl kk
      · refine lv_tableIn (off := 522) (tgt := 554) hx hb dL_law_32 (by rw [ea]; omega) (by rw [ea]; omega) (by rw [ea, c_2]; rfl) (by decide) ?_
        exact law_554 C hx3 hi5 I hl kk
      · refine lv_tableIn (off := 535) (tgt := 567) hx hb dL_law_32 (by rw [ea]; omega) (by rw [ea]; omega) (by rw [ea, c_2]; rfl) (by decide) ?_
        exact law_567 C hx3 hi5 I hl kk
      · refine lv_tableIn (off := 548) (tgt := 580) hx hb dL_law_32 (by rw [ea]; omega) (by rw [ea]; omega) (by rw [ea, c_2]; rfl) (by decide) ?_
        exact law_580 C hx3 hi5 I hl kk
      · refine lv_tableIn (off := 561) (tgt := 593) hx hb dL_law_32 (by rw [ea]; omega) (by rw [ea]; omega) (by rw [ea, c_2]; rfl) (by decide) ?_
        exact law_593 C hx3 hi5 I hl kk
      · refine lv_tableIn (off := 584) (tgt := 616) hx hb dL_law_32 (by rw [ea]; omega) (by rw [ea]; omega) (by rw [ea, c_2]; rfl) (by decide) ?_
        exact law_616 C hx3 hi5 I hl kk
      · refine lv_tableIn (off := 617) (tgt := 649) hx hb dL_law_32 (by rw [ea]; omega) (by rw [ea]; omega) (by rw [ea, c_2]; rfl) (by decide) ?_
        exact law_649 C hx3 hi5 I hl kk
      · refine lv_tableIn (off := 650) (tgt := 682) hx hb dL_law_32 (by rw [ea]; omega) (by rw [ea]; omega) (by rw [ea, c_2]; rfl) (by decide) ?_
        exact law_682 C hx3 hi5 I hl kk
      · refine lv_tableIn (off := 693) (tgt := 725) hx hb dL_law_32 (by rw [ea]; omega) (by rw [ea]; omega) (by rw [ea, c_2]; rfl) (by decide) ?_
        exact law_725 C hx3 hi5 I hl kk
      · refine lv_tableIn (off := 736) (tgt := 768) hx hb dL_law_32 (by rw [ea]; omega) (by rw [ea]; omega) (by rw [ea, c_2]; rfl) (by decide) ?_
        exact law_768 C hx3 hi5 I hl kk
      · refine lv_tableIn (off := 789) (tgt := 821) hx hb dL_law_32 (by rw [ea]; omega) (by rw [ea]; omega) (by rw [ea, c_2]; rfl) (by decide) ?_
        exact law_821 C hx3 hi5 I hl kk
      · refine lv_tableIn (off := 832) (tgt := 864) hx hb dL_law_32 (by rw [ea]; omega) (by rw [ea]; omega) (by rw [ea, c_2]; rfl) (by decide) ?_
        exact law_864 C hx3 hi5 I hl kk
      · refine lv_tableIn (off := 865) (tgt := 897) hx hb dL_law_32 (by rw [ea]; omega) (by rw [ea]; omega) (by rw [ea, c_2]; rfl) (by decide) ?_
        exact law_897 C hx3 hi5 I hl kk
set_option maxHeartbeats 4000000 in
set_option maxRecDepth 100000 in
/-- the law, from its entry -/
theorem whole_start {p : Program} {e : Env} {s : State} {m : MethodId} {below : List Frame} {meth : Method} {c : Code} (l : Launch) (hflags : l.flags = flags0) {b L : Nat} {xs : Nat → Int32} (hL : L ≤ 2560) (C0 : lw_At p s m meth c b L xs) : W p l e room_1 s m #[Value.ref b] below meth c s.heap [] 0 0 (lw_Z below #[Value.ref b] s) (entryFrame m ([Value.ref b] : List Value).toArray 4) := by
  obtain ⟨hx, hb, hr, hml, hown, hts0, hX, hbl, hlocks, hgv⟩ := C0
  have hb : c.code = cL_law := hb
  have hown : s.vm.findClass RL = some m.cls := hown
  have hts : ∀ w ∈ wsL_law, w.before (#[Value.ref b] : Array Value) s = true := fun w hw => hts0 w (wsL_law_in w hw)
  obtain ⟨G, hC⟩ := G_ex hts0
  have hK := hC.1
  obtain ⟨z, hz⟩ : ∃ z : Nat, s.heap.size = z := ⟨_, rfl⟩
  have hS : va_S (fun q : Nat => s.heap.size ≤ q) s.heap s.heap [] := va_S.rf
  have hl := lv_entry ([.ref b]) (n := 4) (Nat.le_of_ble_eq_true rfl)
  rw [lg_entry_eq]
  generalize (lg_sl ([.ref b]) ++ List.replicate (4 - (lg_sl ([.ref b])).length) Slot.unset).toArray = ls at hl ⊢
  have hl : lv_has ls 4 [(0, .ref b)] := hl
  refine z_new (ci := 4) (fs := [.null, .null, .int 0, .null, .int 0, .null]) hx hb hts0 in_wsX40 tyX4 tyX4_ok hown (C := RX4) (index := 7) (by decide +kernel) (by decide +kernel) (by decide +kernel) hK (h := z) hz hS rfl (fun j hj => by rcases (show j = 0 ∨ j = 1 ∨ j = 2 ∨ j = 3 ∨ j = 4 ∨ j = 5 by omega) with rfl | rfl | rfl | rfl | rfl | rfl <;> rfl) (Nat.le_of_ble_eq_true rfl) (Nat.le_of_ble_eq_true rfl) dL_law_0 (fun H hO hsz ho hS => ?_)
  refine lv_dup hx hb dL_law_3 rfl ?_
  refine z_cI (As := []) (rest := [.ref z]) ⟨hx, hb, hml, hown, hts⟩ (kX4_init l G z) (cwI 0 hts gL_law_X4_init rfl rfl rfl (hts0 _ (by decide +kernel)) (hts0 (.methodLink RL 9 yX4_init) (by decide +kernel)) (hts0 (.instanceMethod yX4_init) (by decide +kernel)) rfl hyX4_init ⟨Nat.le_of_ble_eq_true rfl, Nat.le_of_ble_eq_true rfl⟩) hC ⟨hsz, hO⟩ rfl hl.1 rfl (Nat.le_of_ble_eq_true rfl) dL_law_4 ⟨Nat.le_of_ble_eq_true rfl, Nat.le_of_ble_eq_true rfl⟩ hS (fun q h => by have h9 : z ≤ q := h; show s.heap.size ≤ q; omega) (fun H locs hP9 hsz9 hq hS => ?_)
  obtain ⟨hsz, hF⟩ := hP9
  refine lv_astore_n hx hb dL_law_7 rfl hl (by decide) rfl (fun ls hl => ?_)
  have hl : lv_has ls 4 [(1, .ref z), (0, .ref b)] := hl
  refine z_new (ci := 5) (fs := [.null, .null, .int 0, .null, .int 0, .null, .int 0, .int 0, .int 0, .int 0]) hx hb hts0 in_wsX50 tyX5 tyX5_ok hown (C := RX5) (index := 10) (by decide +kernel) (by decide +kernel) (by decide +kernel) hK (h := z + 112) hsz hS rfl (fun j hj => by rcases (show j = 0 ∨ j = 1 ∨ j = 2 ∨ j = 3 ∨ j = 4 ∨ j = 5 ∨ j = 6 ∨ j = 7 ∨ j = 8 ∨ j = 9 by omega) with rfl | rfl | rfl | rfl | rfl | rfl | rfl | rfl | rfl | rfl <;> rfl) (Nat.le_of_ble_eq_true rfl) (Nat.le_of_ble_eq_true rfl) dL_law_8 (fun H hO hsz ho hS => ?_)
  have hF := hF.kept (fun q _ _ => ho q (by omega))
  refine lv_dup hx hb dL_law_11 rfl ?_
  refine z_cI (As := []) (rest := [.ref (z + 112)]) ⟨hx, hb, hml, hown, hts⟩ (kX5_init l G (z + 112)) (cwI 0 hts gL_law_X5_init rfl rfl rfl (hts0 _ (by decide +kernel)) (hts0 (.methodLink RL 12 yX5_init) (by decide +kernel)) (hts0 (.instanceMethod yX5_init) (by decide +kernel)) rfl hyX5_init ⟨Nat.le_of_ble_eq_true rfl, Nat.le_of_ble_eq_true rfl⟩) hC ⟨hsz, hO⟩ rfl hl.1 rfl (Nat.le_of_ble_eq_true rfl) dL_law_12 ⟨Nat.le_of_ble_eq_true rfl, Nat.le_of_ble_eq_true rfl⟩ hS (fun q h => by have h9 : z + 112 ≤ q := h; show s.heap.size ≤ q; omega) (fun H locs hP9 hsz9 hq hS => ?_)
  have hz9 : _ = z + 112 + 1 := hsz
  have hF := hF.kept (fun q _ _ => hq q (by omega) (by show ¬ (_ ≤ _); omega))
  obtain ⟨μ, hM, hR0, hμ⟩ := hP9
  refine lv_astore_n hx hb dL_law_15 rfl hl (by decide) rfl (fun ls hl => ?_)
  have hl : lv_has ls 4 [(2, .ref (z + 112)), (1, .ref z), (0, .ref b)] := hl
  refine lv_iconst (v := (0 : Int32)) hx hb dL_law_16 (by decide) ?_
  refine lv_istore_n hx hb dL_law_17 rfl hl (by decide) rfl (fun ls hl => ?_)
  have hl : lv_has ls 4 [(3, .int (0 : Int32)), (2, .ref (z + 112)), (1, .ref z), (0, .ref b)] := hl
  exact law_loop ⟨hx, hb, hml, hown, hts, hK, hX, hbl, hL, Nat.le_of_eq hz⟩ hr hlocks (L + 1) 0 0 rfl (by omega) (by omega) (fd0 z) μ _ _ ⟨hF, hM, Rel_0 hR0 hμ, fd0_ok z, hS⟩ ls (lv_sub hl [3, 2, 1, 0] rfl)
-- ===== YOUR PART ENDS =====
set_option maxHeartbeats 4000000 in
theorem lw_walk (l : Launch) (hflags : l.flags = flags0) (b : Addr) (xs : List Int32) : MetFree l x (headSpec (Jvm.Cond.code x code maxLocals ret :: tables_1) room_1) (lw_P b xs) (fun _ _ _ _ _ => True) lw_Q := by
  refine MetFree.of_bodyS (code := code) (maxLocals := maxLocals) (ret := ret) (by decide) ?_ ?_
  · intro args s m h hn
    obtain ⟨meth, c, h1, h2, h3, h4, h5, h6, -, -⟩ := Cond.code_spec hn (atoms_spec (ws := Jvm.Cond.code x code maxLocals ret :: tables_1) h _ List.mem_cons_self)
    exact ⟨meth, c, h1, h2, h3, h4, h5, h6⟩
  · intro p e s m args below meth c s₁ B hml0 hP _
    obtain ⟨rfl, hx, hbd, hgv⟩ := hP
    obtain ⟨scr, harrAt, hlist, hof, hsmall⟩ := hx
    obtain ⟨hcb, hkn, -, -⟩ := State.arrayAt?_spec harrAt
    have hown : s.vm.findClass R_law = some m.cls := findClass_of_methodNamed B.named
    have hts0 : ∀ c ∈ (Jvm.Cond.code x code maxLocals ret :: tables_1), c.before #[Value.ref b] s = true := atoms_spec (ws := Jvm.Cond.code x code maxLocals ret :: tables_1) B.pre
    have hts : ∀ w ∈ lw_tbl, w.before #[Value.ref b] s = true := k2_hts_sels lw_privs (fun w hw => hts0 w (List.mem_cons_of_mem _ hw)) lw_privs_ok
    have hml : c.maxLocals = 4 := B.maxLocals_eq (hts0 _ List.mem_cons_self)
    have X₀ : Stand p l e room_1 s m #[Value.ref b] below meth c s₁ [] 0 0 := Stand.of_body B
    have hh0 : s₁.heap = s.heap := by rw [B.state]; rfl
    have hsz : scr.slots.size = xs.length := by rw [← Array.length_toList, hlist, List.length_map]
    have hval : ∀ j : Nat, j < xs.length → scr.slots[j]? = some (.int (xs.getD j 0)) := fun j hj => by
      rw [← Array.getElem?_toList, hlist]
      simp [hj]
    have hbl : b < s.heap.size := (Array.getElem?_eq_some_iff.mp hcb).1
    have hX : va_X b xs.length (fun j => xs.getD j 0) s s.heap := ⟨scr, hcb, hof, hkn, hsz, hval⟩
    have K : W p l e room_1 s m #[Value.ref b] below meth c s₁.heap [] 0 0 (lw_Z below #[Value.ref b] s) (entryFrame m ([Value.ref b] : List Value).toArray 4) := by
      rw [hh0]
      exact whole_start l hflags hbd ⟨B.exec, B.bytes, B.returns, hml, hown, hts, hX, hbl, B.notSynchronized, hgv⟩
    obtain ⟨t, a1, o, b1, b2, b3⟩ := K s₁ rfl X₀
    exact ⟨t, o, a1, b1, b2, b3⟩
theorem lw_pre_spec {args : Array Value} {s : State} (h : (Jvm.Cond.and given_1 narrow_1).before args s = true) (hr : rest_1_c.before args s = true) : ∃ (b : Addr) (xs : List Int32), lw_P b xs args s := by
  have hs := flat_of_before _ h
  have hq := flat_of_before _ hr
  have hc : (Cond.count 1).before args s = true := hs _ (by decide +kernel)
  have harr : (Cond.arrayOf (.arg 0) .int).before args s = true := hs _ (by decide +kernel)
  have hle : (Cond.le (.length (.arg 0)) (.int 2560)).before args s = true := hs _ (by decide +kernel)
  have hlen : (Cond.isInt (.length (.arg 0))).before args s = true := hq _ (by decide +kernel)
  have hall : (Cond.all (.arg 0) (.isInt (.elem (.arg 0) (.index 0)))).before args s = true := hq _ (by decide +kernel)
  obtain ⟨b, xs, hb, hx⟩ := State.ints_of_pre rfl harr hlen hall
  have hsm : xs.length < 2 ^ 31 := hx.choose_spec.2.2.2
  have hev : (Term.length (.arg 0)).eval args s none [] s = some (.int xs.length.toInt32) := hx.length_eval hb
  have hv := Cond.le_ints hev (show (Term.int 2560).eval args s none [] s = some (.int 2560) from rfl)
  have hd : xs.length.toInt32 ≤ 2560 := by
    simpa [Cond.before, Cond.holds, hv] using hle
  have hN : xs.length ≤ 2560 := (Int32.ofNat_le_ofNat hsm (by decide)).mp (show Int32.ofNat xs.length ≤ Int32.ofNat 2560 from hd)
  exact ⟨b, xs, Cond.one_arg hc (show args[0]? = some (.ref b) from hb), hx, hN, h⟩
theorem lw_comes (l : Launch) (hflags : l.flags = flags0) : Comes l x (Jvm.Cond.code x code maxLocals ret :: tables_1) room_1 (fun tb e args s => Calls_1 tb e args s ∧ rest_1 tb e args s ∧ Pre_1 tb e args s)
    (fun _ _ args s o t => lw_Q args s o t) := by
  intro p e ha hc hk s m args below hf hfit hheap happ hpre
  obtain ⟨b, xs, hP⟩ := lw_pre_spec hpre.2.2 hpre.2.1
  obtain ⟨k, o, h1, h2, h3, hQ⟩ := lw_walk l hflags b xs p e ha hc hk s m args below hf ((Spec.applies_iff_loose hf).mp happ).1 hP trivial
  exact ⟨k, o, h1, h2, h3, hQ⟩
theorem lw_frame {s t : State} {o : Outcome} {args : Array Value} (h : Framed s o t [] 600000 7302250) :
    Framed s o t (fieldLocs frame_1_writes args s ++ arrayLocs frame_1_arrays args s ++ staticLocs frame_1_statics s) 600000 7302250 := h
theorem lw_limb (L : Cond) (hL : ∀ (args : Array Value) (s t : State), L.after args s (.returned (some (.int 1))) t = true) :
    ArmFor flags0 classFile x code maxLocals ret World_1 tables_1 room_1 Calls_1 rest_1 Pre_1
      (fun tb e a s o t => postC L tb e a s o t ∧ Framed s o t (fieldLocs frame_1_writes a s ++ arrayLocs frame_1_arrays a s ++ staticLocs frame_1_statics s) 600000 7302250) := by
  intro l hflags _ _ p e ha hc hk s m args below hf hfit hheap happ hpre
  obtain ⟨k, o, h1, h2, h3, rfl, hF⟩ := lw_comes l hflags p e ha hc hk s m args below hf hfit hheap happ hpre
  exact ⟨k, _, h1, h2, h3, hL args s _, lw_frame hF⟩
theorem i_vc : Claimed_1_1 ∧ Claimed_1_2 := ⟨lw_limb limb_1_1 (fun args s t => by simp [limb_1_1, Cond.after, Cond.holds, Cond.value]), lw_limb limb_1_2 (fun args s t => Cond.after_iff.mpr (by
  first | (rw [show limb_1_2 = Cond.eq .result (.int 1) from rfl, Cond.eq_ints (x := 1) (y := 1) rfl rfl]; simp; done) | (simp [limb_1_2, Cond.value, Term.eval]; done)))⟩
