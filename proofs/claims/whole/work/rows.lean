section
-- ===== PART A: goes FIRST, ahead of the names: the tables' words, and 'selects' of the private methods out of them =====
/-- a private method of a class that the tables say can be made, by its rows of tables_1 -/
def lw_okq (q : MethodName × Nat) : Prop := (q.1.cls ≠ "java/lang/invoke/MethodHandle" ∧ q.1.cls ≠ "java/lang/invoke/VarHandle") ∧ Cond.instantiable q.1.cls q.2 ∈ tables_1 ∧ Cond.privateMethod q.1 ∈ tables_1 ∧ Cond.instanceMethod q.1 ∈ tables_1
theorem lw_p0 : lw_okq (⟨"SiltedFloats", "remember", "()V"⟩, 6) := ⟨⟨by decide +kernel, by decide +kernel⟩, List.mem_of_getElem? (i := 11) (by decide +kernel), List.mem_of_getElem? (i := 208) (by decide +kernel), List.mem_of_getElem? (i := 209) (by decide +kernel)⟩
theorem lw_p1 : lw_okq (⟨"SiltedFloats", "dropOldest", "()V"⟩, 6) := ⟨⟨by decide +kernel, by decide +kernel⟩, List.mem_of_getElem? (i := 11) (by decide +kernel), List.mem_of_getElem? (i := 212) (by decide +kernel), List.mem_of_getElem? (i := 213) (by decide +kernel)⟩
theorem lw_p2 : lw_okq (⟨"SiltedFloats$State", "obeyAt", "(LSiltedFloats$Gauge;C)V"⟩, 3) := ⟨⟨by decide +kernel, by decide +kernel⟩, List.mem_of_getElem? (i := 19) (by decide +kernel), List.mem_of_getElem? (i := 348) (by decide +kernel), List.mem_of_getElem? (i := 349) (by decide +kernel)⟩
theorem lw_p3 : lw_okq (⟨"SiltedFloats", "checkMending", "(IIII)I"⟩, 6) := ⟨⟨by decide +kernel, by decide +kernel⟩, List.mem_of_getElem? (i := 11) (by decide +kernel), List.mem_of_getElem? (i := 357) (by decide +kernel), List.mem_of_getElem? (i := 358) (by decide +kernel)⟩
theorem lw_p4 : lw_okq (⟨"SiltedFloats$Gauge", "misfitWithin", "(IILSiltedFloats$Gauge;I)I"⟩, 15) := ⟨⟨by decide +kernel, by decide +kernel⟩, List.mem_of_getElem? (i := 50) (by decide +kernel), List.mem_of_getElem? (i := 496) (by decide +kernel), List.mem_of_getElem? (i := 497) (by decide +kernel)⟩
theorem lw_p5 : lw_okq (⟨"SiltedFloats$Gauge", "riseAt", "(I)I"⟩, 15) := ⟨⟨by decide +kernel, by decide +kernel⟩, List.mem_of_getElem? (i := 50) (by decide +kernel), List.mem_of_getElem? (i := 501) (by decide +kernel), List.mem_of_getElem? (i := 502) (by decide +kernel)⟩
theorem lw_p6 : lw_okq (⟨"SiltedFloatsModel", "letFloat", "()V"⟩, 10) := ⟨⟨by decide +kernel, by decide +kernel⟩, List.mem_of_getElem? (i := 537) (by decide +kernel), List.mem_of_getElem? (i := 546) (by decide +kernel), List.mem_of_getElem? (i := 547) (by decide +kernel)⟩
theorem lw_p7 : lw_okq (⟨"SiltedFloatsModel", "outsideAt", "(II)I"⟩, 10) := ⟨⟨by decide +kernel, by decide +kernel⟩, List.mem_of_getElem? (i := 537) (by decide +kernel), List.mem_of_getElem? (i := 550) (by decide +kernel), List.mem_of_getElem? (i := 551) (by decide +kernel)⟩
theorem lw_p8 : lw_okq (⟨"SiltedFloatsModel", "seaAt", "(I)I"⟩, 10) := ⟨⟨by decide +kernel, by decide +kernel⟩, List.mem_of_getElem? (i := 537) (by decide +kernel), List.mem_of_getElem? (i := 554) (by decide +kernel), List.mem_of_getElem? (i := 555) (by decide +kernel)⟩
theorem lw_p9 : lw_okq (⟨"SiltedFloatsModel", "waveAt", "(II)I"⟩, 10) := ⟨⟨by decide +kernel, by decide +kernel⟩, List.mem_of_getElem? (i := 537) (by decide +kernel), List.mem_of_getElem? (i := 558) (by decide +kernel), List.mem_of_getElem? (i := 559) (by decide +kernel)⟩
theorem lw_p10 : lw_okq (⟨"SiltedFloatsModel", "know", "()V"⟩, 10) := ⟨⟨by decide +kernel, by decide +kernel⟩, List.mem_of_getElem? (i := 537) (by decide +kernel), List.mem_of_getElem? (i := 603) (by decide +kernel), List.mem_of_getElem? (i := 604) (by decide +kernel)⟩
theorem lw_p11 : lw_okq (⟨"SiltedFloatsModel", "manyOn", "()I"⟩, 10) := ⟨⟨by decide +kernel, by decide +kernel⟩, List.mem_of_getElem? (i := 537) (by decide +kernel), List.mem_of_getElem? (i := 623) (by decide +kernel), List.mem_of_getElem? (i := 624) (by decide +kernel)⟩
theorem lw_p12 : lw_okq (⟨"SiltedFloatsModel", "note", "(I)V"⟩, 10) := ⟨⟨by decide +kernel, by decide +kernel⟩, List.mem_of_getElem? (i := 537) (by decide +kernel), List.mem_of_getElem? (i := 635) (by decide +kernel), List.mem_of_getElem? (i := 636) (by decide +kernel)⟩
theorem lw_p13 : lw_okq (⟨"SiltedFloatsModel", "goBy", "()V"⟩, 10) := ⟨⟨by decide +kernel, by decide +kernel⟩, List.mem_of_getElem? (i := 537) (by decide +kernel), List.mem_of_getElem? (i := 643) (by decide +kernel), List.mem_of_getElem? (i := 644) (by decide +kernel)⟩
theorem lw_p14 : lw_okq (⟨"SiltedFloatsModel", "go", "(Z)I"⟩, 10) := ⟨⟨by decide +kernel, by decide +kernel⟩, List.mem_of_getElem? (i := 537) (by decide +kernel), List.mem_of_getElem? (i := 651) (by decide +kernel), List.mem_of_getElem? (i := 652) (by decide +kernel)⟩
theorem lw_p15 : lw_okq (⟨"SiltedFloatsModel", "order", "(Z)I"⟩, 10) := ⟨⟨by decide +kernel, by decide +kernel⟩, List.mem_of_getElem? (i := 537) (by decide +kernel), List.mem_of_getElem? (i := 655) (by decide +kernel), List.mem_of_getElem? (i := 656) (by decide +kernel)⟩
def lw_privs_1 : List (MethodName × Nat) := [(⟨"SiltedFloats", "remember", "()V"⟩, 6), (⟨"SiltedFloats", "dropOldest", "()V"⟩, 6), (⟨"SiltedFloats$State", "obeyAt", "(LSiltedFloats$Gauge;C)V"⟩, 3), (⟨"SiltedFloats", "checkMending", "(IIII)I"⟩, 6), (⟨"SiltedFloats$Gauge", "misfitWithin", "(IILSiltedFloats$Gauge;I)I"⟩, 15), (⟨"SiltedFloats$Gauge", "riseAt", "(I)I"⟩, 15), (⟨"SiltedFloatsModel", "letFloat", "()V"⟩, 10), (⟨"SiltedFloatsModel", "outsideAt", "(II)I"⟩, 10), (⟨"SiltedFloatsModel", "seaAt", "(I)I"⟩, 10), (⟨"SiltedFloatsModel", "waveAt", "(II)I"⟩, 10), (⟨"SiltedFloatsModel", "know", "()V"⟩, 10), (⟨"SiltedFloatsModel", "manyOn", "()I"⟩, 10), (⟨"SiltedFloatsModel", "note", "(I)V"⟩, 10), (⟨"SiltedFloatsModel", "goBy", "()V"⟩, 10), (⟨"SiltedFloatsModel", "go", "(Z)I"⟩, 10), (⟨"SiltedFloatsModel", "order", "(Z)I"⟩, 10)]
theorem lw_r1 : ∀ q ∈ lw_privs_1, lw_okq q := List.forall_mem_cons.mpr ⟨lw_p0, List.forall_mem_cons.mpr ⟨lw_p1, List.forall_mem_cons.mpr ⟨lw_p2, List.forall_mem_cons.mpr ⟨lw_p3, List.forall_mem_cons.mpr ⟨lw_p4, List.forall_mem_cons.mpr ⟨lw_p5, List.forall_mem_cons.mpr ⟨lw_p6, List.forall_mem_cons.mpr ⟨lw_p7, List.forall_mem_cons.mpr ⟨lw_p8, List.forall_mem_cons.mpr ⟨lw_p9, List.forall_mem_cons.mpr ⟨lw_p10, List.forall_mem_cons.mpr ⟨lw_p11, List.forall_mem_cons.mpr ⟨lw_p12, List.forall_mem_cons.mpr ⟨lw_p13, List.forall_mem_cons.mpr ⟨lw_p14, List.forall_mem_cons.mpr ⟨lw_p15, fun _ h => absurd h List.not_mem_nil⟩⟩⟩⟩⟩⟩⟩⟩⟩⟩⟩⟩⟩⟩⟩⟩
theorem lw_p16 : lw_okq (⟨"SiltedFloatsModel", "sign", "(II)I"⟩, 10) := ⟨⟨by decide +kernel, by decide +kernel⟩, List.mem_of_getElem? (i := 537) (by decide +kernel), List.mem_of_getElem? (i := 659) (by decide +kernel), List.mem_of_getElem? (i := 660) (by decide +kernel)⟩
theorem lw_p17 : lw_okq (⟨"SiltedFloatsModel", "does", "(II)V"⟩, 10) := ⟨⟨by decide +kernel, by decide +kernel⟩, List.mem_of_getElem? (i := 537) (by decide +kernel), List.mem_of_getElem? (i := 663) (by decide +kernel), List.mem_of_getElem? (i := 664) (by decide +kernel)⟩
theorem lw_p18 : lw_okq (⟨"SiltedFloatsModel", "isGap", "(II)Z"⟩, 10) := ⟨⟨by decide +kernel, by decide +kernel⟩, List.mem_of_getElem? (i := 537) (by decide +kernel), List.mem_of_getElem? (i := 679) (by decide +kernel), List.mem_of_getElem? (i := 680) (by decide +kernel)⟩
theorem lw_p19 : lw_okq (⟨"SiltedFloatsModel", "gapsOf", "(I)I"⟩, 10) := ⟨⟨by decide +kernel, by decide +kernel⟩, List.mem_of_getElem? (i := 537) (by decide +kernel), List.mem_of_getElem? (i := 683) (by decide +kernel), List.mem_of_getElem? (i := 684) (by decide +kernel)⟩
theorem lw_p20 : lw_okq (⟨"SiltedFloatsModel", "isBegin", "(II)Z"⟩, 10) := ⟨⟨by decide +kernel, by decide +kernel⟩, List.mem_of_getElem? (i := 537) (by decide +kernel), List.mem_of_getElem? (i := 687) (by decide +kernel), List.mem_of_getElem? (i := 688) (by decide +kernel)⟩
theorem lw_p21 : lw_okq (⟨"SiltedFloatsModel", "isRead", "(II)Z"⟩, 10) := ⟨⟨by decide +kernel, by decide +kernel⟩, List.mem_of_getElem? (i := 537) (by decide +kernel), List.mem_of_getElem? (i := 691) (by decide +kernel), List.mem_of_getElem? (i := 692) (by decide +kernel)⟩
theorem lw_p22 : lw_okq (⟨"SiltedFloatsModel", "isInner", "(II)Z"⟩, 10) := ⟨⟨by decide +kernel, by decide +kernel⟩, List.mem_of_getElem? (i := 537) (by decide +kernel), List.mem_of_getElem? (i := 695) (by decide +kernel), List.mem_of_getElem? (i := 696) (by decide +kernel)⟩
theorem lw_p23 : lw_okq (⟨"SiltedFloatsModel", "beginOf", "(II)I"⟩, 10) := ⟨⟨by decide +kernel, by decide +kernel⟩, List.mem_of_getElem? (i := 537) (by decide +kernel), List.mem_of_getElem? (i := 699) (by decide +kernel), List.mem_of_getElem? (i := 700) (by decide +kernel)⟩
theorem lw_p24 : lw_okq (⟨"SiltedFloatsModel", "endOf", "(II)I"⟩, 10) := ⟨⟨by decide +kernel, by decide +kernel⟩, List.mem_of_getElem? (i := 537) (by decide +kernel), List.mem_of_getElem? (i := 703) (by decide +kernel), List.mem_of_getElem? (i := 704) (by decide +kernel)⟩
theorem lw_p25 : lw_okq (⟨"SiltedFloatsModel", "canMend", "(IIII)Z"⟩, 10) := ⟨⟨by decide +kernel, by decide +kernel⟩, List.mem_of_getElem? (i := 537) (by decide +kernel), List.mem_of_getElem? (i := 707) (by decide +kernel), List.mem_of_getElem? (i := 708) (by decide +kernel)⟩
theorem lw_p26 : lw_okq (⟨"SiltedFloatsModel", "corrected", "(II)I"⟩, 10) := ⟨⟨by decide +kernel, by decide +kernel⟩, List.mem_of_getElem? (i := 537) (by decide +kernel), List.mem_of_getElem? (i := 711) (by decide +kernel), List.mem_of_getElem? (i := 712) (by decide +kernel)⟩
theorem lw_p27 : lw_okq (⟨"SiltedFloatsModel", "correction", "(II)I"⟩, 10) := ⟨⟨by decide +kernel, by decide +kernel⟩, List.mem_of_getElem? (i := 537) (by decide +kernel), List.mem_of_getElem? (i := 715) (by decide +kernel), List.mem_of_getElem? (i := 716) (by decide +kernel)⟩
theorem lw_p28 : lw_okq (⟨"SiltedFloatsModel", "sum", "(II)I"⟩, 10) := ⟨⟨by decide +kernel, by decide +kernel⟩, List.mem_of_getElem? (i := 537) (by decide +kernel), List.mem_of_getElem? (i := 723) (by decide +kernel), List.mem_of_getElem? (i := 724) (by decide +kernel)⟩
theorem lw_p29 : lw_okq (⟨"SiltedFloatsModel", "misfitOf", "(IIII)I"⟩, 10) := ⟨⟨by decide +kernel, by decide +kernel⟩, List.mem_of_getElem? (i := 537) (by decide +kernel), List.mem_of_getElem? (i := 763) (by decide +kernel), List.mem_of_getElem? (i := 764) (by decide +kernel)⟩
theorem lw_p30 : lw_okq (⟨"SiltedFloatsModel", "areRead", "(II)Z"⟩, 10) := ⟨⟨by decide +kernel, by decide +kernel⟩, List.mem_of_getElem? (i := 537) (by decide +kernel), List.mem_of_getElem? (i := 767) (by decide +kernel), List.mem_of_getElem? (i := 768) (by decide +kernel)⟩
theorem lw_p31 : lw_okq (⟨"SiltedFloatsModel", "isThere", "(II)Z"⟩, 10) := ⟨⟨by decide +kernel, by decide +kernel⟩, List.mem_of_getElem? (i := 537) (by decide +kernel), List.mem_of_getElem? (i := 782) (by decide +kernel), List.mem_of_getElem? (i := 783) (by decide +kernel)⟩
def lw_privs_2 : List (MethodName × Nat) := [(⟨"SiltedFloatsModel", "sign", "(II)I"⟩, 10), (⟨"SiltedFloatsModel", "does", "(II)V"⟩, 10), (⟨"SiltedFloatsModel", "isGap", "(II)Z"⟩, 10), (⟨"SiltedFloatsModel", "gapsOf", "(I)I"⟩, 10), (⟨"SiltedFloatsModel", "isBegin", "(II)Z"⟩, 10), (⟨"SiltedFloatsModel", "isRead", "(II)Z"⟩, 10), (⟨"SiltedFloatsModel", "isInner", "(II)Z"⟩, 10), (⟨"SiltedFloatsModel", "beginOf", "(II)I"⟩, 10), (⟨"SiltedFloatsModel", "endOf", "(II)I"⟩, 10), (⟨"SiltedFloatsModel", "canMend", "(IIII)Z"⟩, 10), (⟨"SiltedFloatsModel", "corrected", "(II)I"⟩, 10), (⟨"SiltedFloatsModel", "correction", "(II)I"⟩, 10), (⟨"SiltedFloatsModel", "sum", "(II)I"⟩, 10), (⟨"SiltedFloatsModel", "misfitOf", "(IIII)I"⟩, 10), (⟨"SiltedFloatsModel", "areRead", "(II)Z"⟩, 10), (⟨"SiltedFloatsModel", "isThere", "(II)Z"⟩, 10)]
theorem lw_r2 : ∀ q ∈ lw_privs_2, lw_okq q := List.forall_mem_cons.mpr ⟨lw_p16, List.forall_mem_cons.mpr ⟨lw_p17, List.forall_mem_cons.mpr ⟨lw_p18, List.forall_mem_cons.mpr ⟨lw_p19, List.forall_mem_cons.mpr ⟨lw_p20, List.forall_mem_cons.mpr ⟨lw_p21, List.forall_mem_cons.mpr ⟨lw_p22, List.forall_mem_cons.mpr ⟨lw_p23, List.forall_mem_cons.mpr ⟨lw_p24, List.forall_mem_cons.mpr ⟨lw_p25, List.forall_mem_cons.mpr ⟨lw_p26, List.forall_mem_cons.mpr ⟨lw_p27, List.forall_mem_cons.mpr ⟨lw_p28, List.forall_mem_cons.mpr ⟨lw_p29, List.forall_mem_cons.mpr ⟨lw_p30, List.forall_mem_cons.mpr ⟨lw_p31, fun _ h => absurd h List.not_mem_nil⟩⟩⟩⟩⟩⟩⟩⟩⟩⟩⟩⟩⟩⟩⟩⟩
theorem lw_p32 : lw_okq (⟨"SiltedFloatsModel", "valueOf", "(II)I"⟩, 10) := ⟨⟨by decide +kernel, by decide +kernel⟩, List.mem_of_getElem? (i := 537) (by decide +kernel), List.mem_of_getElem? (i := 786) (by decide +kernel), List.mem_of_getElem? (i := 787) (by decide +kernel)⟩
theorem lw_p33 : lw_okq (⟨"SiltedFloatsModel", "sumOfAll", "(I)I"⟩, 10) := ⟨⟨by decide +kernel, by decide +kernel⟩, List.mem_of_getElem? (i := 537) (by decide +kernel), List.mem_of_getElem? (i := 794) (by decide +kernel), List.mem_of_getElem? (i := 795) (by decide +kernel)⟩
def lw_privs_3 : List (MethodName × Nat) := [(⟨"SiltedFloatsModel", "valueOf", "(II)I"⟩, 10), (⟨"SiltedFloatsModel", "sumOfAll", "(I)I"⟩, 10)]
theorem lw_r3 : ∀ q ∈ lw_privs_3, lw_okq q := List.forall_mem_cons.mpr ⟨lw_p32, List.forall_mem_cons.mpr ⟨lw_p33, fun _ h => absurd h List.not_mem_nil⟩⟩
def lw_privs : List (MethodName × Nat) := lw_privs_1 ++ (lw_privs_2 ++ (lw_privs_3))
def lw_tbl : List Cond := k2_sels lw_privs ++ tables_1
theorem lw_privs_ok : ∀ q ∈ lw_privs, lw_okq q := by
  show ∀ q ∈ lw_privs_1 ++ (lw_privs_2 ++ (lw_privs_3)), lw_okq q
  exact List.forall_mem_append.mpr ⟨lw_r1, List.forall_mem_append.mpr ⟨lw_r2, lw_r3⟩⟩
end
section
/-! ===== BEGIN words of one list among another's, by their places ===== -/
theorem goodIn_r {big : List Cond} (ws : List Cond) (ps : List Nat) (hp : ws = ps.filterMap (fun i => big[i]?)) (h : ws.all goodWord = true) : GoodIn big ws := by
  intro w hw
  have h1 := List.all_eq_true.mp h w hw
  rw [hp] at hw
  obtain ⟨i, -, hi⟩ := List.mem_filterMap.mp hw
  have hm : w ∈ big := by first | exact List.mem_of_getElem? hi | exact List.getElem?_mem hi
  exact ⟨hm, good_of_word h1⟩
theorem goodIn_app {big a b : List Cond} (ha : GoodIn big a) (hb : GoodIn big b) : GoodIn big (a ++ b) := fun w h => (List.mem_append.mp h).elim (ha w) (hb w)
theorem goodIn_ca {big a b : List Cond} {c : Cond} (ha : GoodIn big (c :: a)) (hb : GoodIn big b) : GoodIn big (c :: (a ++ b)) := fun w h => (List.mem_cons.mp h).elim (fun e => ha w (List.mem_cons.mpr (Or.inl e))) (fun h => (List.mem_append.mp h).elim (fun h => ha w (List.mem_cons.mpr (Or.inr h))) (hb w))
theorem goodIn_sub {big ws : List Cond} (hm : ∀ w ∈ ws, w ∈ big) (h : ws.all goodWord = true) : GoodIn big ws := fun w hw => ⟨hm w hw, good_of_word (List.all_eq_true.mp h w hw)⟩
/-! ===== END ===== -/

/-! ===== BEGIN printed: names, fields, word lists, decode rows ===== -/
def RX0 : String := "SiltedFloats$Gauge"
def TX0 : u_T := fun k => match k with
  | 0 => ("SiltedFloats$Gauge", "delay", "I", false)
  | 1 => ("SiltedFloats$Gauge", "scale", "I", false)
  | 2 => ("SiltedFloats$Gauge", "offset", "I", false)
  | 3 => ("SiltedFloats$Gauge", "floatLevel", "I", false)
  | 4 => ("SiltedFloats$Gauge", "silt", "I", false)
  | 5 => ("SiltedFloats$Gauge", "silting", "I", false)
  | 6 => ("SiltedFloats$Gauge", "sinking", "I", false)
  | 7 => ("SiltedFloats$Gauge", "sunk", "I", false)
  | 8 => ("SiltedFloats$Gauge", "on", "Z", false)
  | 9 => ("SiltedFloats$Gauge", "notes", "I", false)
  | 10 => ("SiltedFloats$Gauge", "lastNote", "I", false)
  | 11 => ("SiltedFloats$Gauge", "lastNoteHour", "I", false)
  | 12 => ("SiltedFloats$Gauge", "kinds", "[I", true)
  | 13 => ("SiltedFloats$Gauge", "values", "[I", true)
  | _ => ("SiltedFloats$Gauge", "corrections", "[I", true)
def tyX0 : Nat → FieldType := fun k => match k with
  | 0 => .int
  | 1 => .int
  | 2 => .int
  | 3 => .int
  | 4 => .int
  | 5 => .int
  | 6 => .int
  | 7 => .int
  | 8 => .boolean
  | 9 => .int
  | 10 => .int
  | 11 => .int
  | 12 => .array .int
  | 13 => .array .int
  | _ => .array .int
abbrev wsX00 : List Cond := u_ws RX0 TX0 15
theorem nmX0 : ∀ a, a < 15 → ∀ b, b < 15 → a ≠ b → (TX0 a).2.1 ≠ (TX0 b).2.1 := by decide +kernel
theorem tyX0_ok : ∀ k, k < 15 → parseFieldDescriptor (TX0 k).2.2.1 = some (tyX0 k) := by decide +kernel
abbrev cX0_init : ByteArray := prog_2_method_1_code
def yX0_init : MethodName := ⟨RX0, "<init>", "(I)V"⟩
abbrev cX0_become : ByteArray := prog_2_method_2_code
def yX0_become : MethodName := ⟨RX0, "become", "(III)V"⟩
abbrev cX0_isSo : ByteArray := prog_2_method_3_code
def yX0_isSo : MethodName := ⟨RX0, "isSo", "(III)Z"⟩
abbrev cX0_copyFrom : ByteArray := prog_2_method_4_code
def yX0_copyFrom : MethodName := ⟨RX0, "copyFrom", "(LSiltedFloats$Gauge;)V"⟩
abbrev cX0_passHour : ByteArray := prog_2_method_5_code
def yX0_passHour : MethodName := ⟨RX0, "passHour", "(II)V"⟩
abbrev cX0_isDue : ByteArray := prog_2_method_6_code
def yX0_isDue : MethodName := ⟨RX0, "isDue", "(II)Z"⟩
abbrev cX0_isNotedAt : ByteArray := prog_2_method_7_code
def yX0_isNotedAt : MethodName := ⟨RX0, "isNotedAt", "(I)Z"⟩
abbrev cX0_noteAt : ByteArray := prog_2_method_8_code
def yX0_noteAt : MethodName := ⟨RX0, "noteAt", "(I)V"⟩
abbrev cX0_kindAt : ByteArray := prog_2_method_9_code
def yX0_kindAt : MethodName := ⟨RX0, "kindAt", "(I)I"⟩
abbrev cX0_correctionAt : ByteArray := prog_2_method_10_code
def yX0_correctionAt : MethodName := ⟨RX0, "correctionAt", "(I)I"⟩
abbrev cX0_readingAt : ByteArray := prog_2_method_11_code
def yX0_readingAt : MethodName := ⟨RX0, "readingAt", "(I)I"⟩
abbrev cX0_correctedAt : ByteArray := prog_2_method_12_code
def yX0_correctedAt : MethodName := ⟨RX0, "correctedAt", "(I)I"⟩
abbrev cX0_valueAt : ByteArray := prog_2_method_13_code
def yX0_valueAt : MethodName := ⟨RX0, "valueAt", "(I)I"⟩
abbrev cX0_hasValue : ByteArray := prog_2_method_14_code
def yX0_hasValue : MethodName := ⟨RX0, "hasValue", "(I)Z"⟩
abbrev cX0_hasReading : ByteArray := prog_2_method_15_code
def yX0_hasReading : MethodName := ⟨RX0, "hasReading", "(I)Z"⟩
abbrev cX0_hasReadings : ByteArray := prog_2_method_16_code
def yX0_hasReadings : MethodName := ⟨RX0, "hasReadings", "(II)Z"⟩
abbrev cX0_isHighAt : ByteArray := prog_2_method_17_code
def yX0_isHighAt : MethodName := ⟨RX0, "isHighAt", "(I)Z"⟩
abbrev cX0_hoursOfKind : ByteArray := prog_2_method_18_code
def yX0_hoursOfKind : MethodName := ⟨RX0, "hoursOfKind", "(I)I"⟩
abbrev cX0_isInGap : ByteArray := prog_2_method_19_code
def yX0_isInGap : MethodName := ⟨RX0, "isInGap", "(I)Z"⟩
abbrev cX0_startsGap : ByteArray := prog_2_method_20_code
def yX0_startsGap : MethodName := ⟨RX0, "startsGap", "(I)Z"⟩
abbrev cX0_gaps : ByteArray := prog_2_method_21_code
def yX0_gaps : MethodName := ⟨RX0, "gaps", "()I"⟩
abbrev cX0_firstHourOfGap : ByteArray := prog_2_method_22_code
def yX0_firstHourOfGap : MethodName := ⟨RX0, "firstHourOfGap", "(I)I"⟩
abbrev cX0_hasGap : ByteArray := prog_2_method_23_code
def yX0_hasGap : MethodName := ⟨RX0, "hasGap", "(I)Z"⟩
abbrev cX0_hourBehindGapFrom : ByteArray := prog_2_method_24_code
def yX0_hourBehindGapFrom : MethodName := ⟨RX0, "hourBehindGapFrom", "(I)I"⟩
abbrev cX0_isInner : ByteArray := prog_2_method_25_code
def yX0_isInner : MethodName := ⟨RX0, "isInner", "(I)Z"⟩
abbrev cX0_mendedWithin : ByteArray := prog_2_method_26_code
def yX0_mendedWithin : MethodName := ⟨RX0, "mendedWithin", "(II)I"⟩
abbrev cX0_mendBetween : ByteArray := prog_2_method_27_code
def yX0_mendBetween : MethodName := ⟨RX0, "mendBetween", "(IILSiltedFloats$Gauge;I)V"⟩
abbrev cX0_forgetMended : ByteArray := prog_2_method_28_code
def yX0_forgetMended : MethodName := ⟨RX0, "forgetMended", "()V"⟩
abbrev cX0_misfitAround : ByteArray := prog_2_method_29_code
def yX0_misfitAround : MethodName := ⟨RX0, "misfitAround", "(IILSiltedFloats$Gauge;I)I"⟩
abbrev cX0_misfitWithin : ByteArray := prog_2_method_30_code
def yX0_misfitWithin : MethodName := ⟨RX0, "misfitWithin", "(IILSiltedFloats$Gauge;I)I"⟩
abbrev cX0_riseAt : ByteArray := prog_2_method_31_code
def yX0_riseAt : MethodName := ⟨RX0, "riseAt", "(I)I"⟩
def RX1 : String := "SiltedFloats$OrderText"
def TX1 : u_T := fun k => match k with
  | 0 => ("SiltedFloats$OrderText", "length", "I", false)
  | _ => ("SiltedFloats$OrderText", "characters", "[C", true)
def tyX1 : Nat → FieldType := fun k => match k with
  | 0 => .int
  | _ => .array .char
abbrev wsX10 : List Cond := u_ws RX1 TX1 2
theorem nmX1 : ∀ a, a < 2 → ∀ b, b < 2 → a ≠ b → (TX1 a).2.1 ≠ (TX1 b).2.1 := by decide +kernel
theorem tyX1_ok : ∀ k, k < 2 → parseFieldDescriptor (TX1 k).2.2.1 = some (tyX1 k) := by decide +kernel
abbrev cX1_init : ByteArray := prog_3_method_1_code
def yX1_init : MethodName := ⟨RX1, "<init>", "()V"⟩
abbrev cX1_add : ByteArray := prog_3_method_2_code
def yX1_add : MethodName := ⟨RX1, "add", "(C)V"⟩
abbrev cX1_characterAt : ByteArray := prog_3_method_3_code
def yX1_characterAt : MethodName := ⟨RX1, "characterAt", "(I)C"⟩
abbrev cX1_faultAt : ByteArray := prog_3_method_4_code
def yX1_faultAt : MethodName := ⟨RX1, "faultAt", "()I"⟩
abbrev cX1_dueBehind : ByteArray := prog_3_method_5_code
def yX1_dueBehind : MethodName := ⟨RX1, "dueBehind", "(IC)I"⟩
abbrev cX1_dueBehindLetter : ByteArray := prog_3_method_6_code
def yX1_dueBehindLetter : MethodName := ⟨RX1, "dueBehindLetter", "(C)I"⟩
abbrev cX1_dueBehindOrder : ByteArray := prog_3_method_7_code
def yX1_dueBehindOrder : MethodName := ⟨RX1, "dueBehindOrder", "(C)I"⟩
abbrev cX1_isStationLetter : ByteArray := prog_3_method_8_code
def yX1_isStationLetter : MethodName := ⟨RX1, "isStationLetter", "(C)Z"⟩
abbrev cX1_isDigit : ByteArray := prog_3_method_9_code
def yX1_isDigit : MethodName := ⟨RX1, "isDigit", "(C)Z"⟩
abbrev cX1_startsOrder : ByteArray := prog_3_method_10_code
def yX1_startsOrder : MethodName := ⟨RX1, "startsOrder", "(I)Z"⟩
abbrev cX1_numberFrom : ByteArray := prog_3_method_11_code
def yX1_numberFrom : MethodName := ⟨RX1, "numberFrom", "(I)I"⟩
abbrev cX1_hoursInAll : ByteArray := prog_3_method_12_code
def yX1_hoursInAll : MethodName := ⟨RX1, "hoursInAll", "()I"⟩
def RX2 : String := "SiltedFloats$State"
def TX2 : u_T := fun k => match k with
  | 0 => ("SiltedFloats$State", "hour", "I", false)
  | 1 => ("SiltedFloats$State", "waves", "[LSiltedFloats$Wave;", true)
  | _ => ("SiltedFloats$State", "gauges", "[LSiltedFloats$Gauge;", true)
def tyX2 : Nat → FieldType := fun k => match k with
  | 0 => .int
  | 1 => .array (.object "SiltedFloats$Wave")
  | _ => .array (.object "SiltedFloats$Gauge")
abbrev wsX20 : List Cond := u_ws RX2 TX2 3
theorem nmX2 : ∀ a, a < 3 → ∀ b, b < 3 → a ≠ b → (TX2 a).2.1 ≠ (TX2 b).2.1 := by decide +kernel
theorem tyX2_ok : ∀ k, k < 3 → parseFieldDescriptor (TX2 k).2.2.1 = some (tyX2 k) := by decide +kernel
abbrev cX2_init : ByteArray := prog_4_method_1_code
def yX2_init : MethodName := ⟨RX2, "<init>", "()V"⟩
abbrev cX2_copyFrom : ByteArray := prog_4_method_2_code
def yX2_copyFrom : MethodName := ⟨RX2, "copyFrom", "(LSiltedFloats$State;)V"⟩
abbrev cX2_seaAt : ByteArray := prog_4_method_3_code
def yX2_seaAt : MethodName := ⟨RX2, "seaAt", "(I)I"⟩
abbrev cX2_waterAt : ByteArray := prog_4_method_4_code
def yX2_waterAt : MethodName := ⟨RX2, "waterAt", "(LSiltedFloats$Gauge;I)I"⟩
abbrev cX2_settleFloat : ByteArray := prog_4_method_5_code
def yX2_settleFloat : MethodName := ⟨RX2, "settleFloat", "(LSiltedFloats$Gauge;)V"⟩
abbrev cX2_settleFloats : ByteArray := prog_4_method_6_code
def yX2_settleFloats : MethodName := ⟨RX2, "settleFloats", "()V"⟩
abbrev cX2_passHours : ByteArray := prog_4_method_7_code
def yX2_passHours : MethodName := ⟨RX2, "passHours", "(I)V"⟩
abbrev cX2_obey : ByteArray := prog_4_method_8_code
def yX2_obey : MethodName := ⟨RX2, "obey", "(CI)V"⟩
abbrev cX2_obeyAt : ByteArray := prog_4_method_9_code
def yX2_obeyAt : MethodName := ⟨RX2, "obeyAt", "(LSiltedFloats$Gauge;C)V"⟩
abbrev cX2_stationsOn : ByteArray := prog_4_method_10_code
def yX2_stationsOn : MethodName := ⟨RX2, "stationsOn", "()I"⟩
abbrev cX2_hoursOfKind : ByteArray := prog_4_method_11_code
def yX2_hoursOfKind : MethodName := ⟨RX2, "hoursOfKind", "(I)I"⟩
def RX3 : String := "SiltedFloats$Wave"
def TX3 : u_T := fun k => match k with
  | 0 => ("SiltedFloats$Wave", "amplitude", "I", false)
  | 1 => ("SiltedFloats$Wave", "period", "I", false)
  | _ => ("SiltedFloats$Wave", "phase", "I", false)
def tyX3 : Nat → FieldType := fun k => match k with
  | 0 => .int
  | 1 => .int
  | _ => .int
abbrev wsX30 : List Cond := u_ws RX3 TX3 3
theorem nmX3 : ∀ a, a < 3 → ∀ b, b < 3 → a ≠ b → (TX3 a).2.1 ≠ (TX3 b).2.1 := by decide +kernel
theorem tyX3_ok : ∀ k, k < 3 → parseFieldDescriptor (TX3 k).2.2.1 = some (tyX3 k) := by decide +kernel
abbrev cX3_init : ByteArray := prog_5_method_1_code
def yX3_init : MethodName := ⟨RX3, "<init>", "(III)V"⟩
abbrev cX3_become : ByteArray := prog_5_method_2_code
def yX3_become : MethodName := ⟨RX3, "become", "(III)V"⟩
abbrev cX3_isSo : ByteArray := prog_5_method_3_code
def yX3_isSo : MethodName := ⟨RX3, "isSo", "(III)Z"⟩
abbrev cX3_heightAt : ByteArray := prog_5_method_4_code
def yX3_heightAt : MethodName := ⟨RX3, "heightAt", "(I)I"⟩
def RX4 : String := "SiltedFloats"
def TX4 : u_T := fun k => match k with
  | 0 => ("SiltedFloats", "now", "LSiltedFloats$State;", true)
  | 1 => ("SiltedFloats", "kept", "LSiltedFloats$State;", true)
  | 2 => ("SiltedFloats", "isKept", "Z", false)
  | 3 => ("SiltedFloats", "past", "[LSiltedFloats$State;", true)
  | 4 => ("SiltedFloats", "pastCount", "I", false)
  | _ => ("SiltedFloats", "text", "LSiltedFloats$OrderText;", true)
def tyX4 : Nat → FieldType := fun k => match k with
  | 0 => .object "SiltedFloats$State"
  | 1 => .object "SiltedFloats$State"
  | 2 => .boolean
  | 3 => .array (.object "SiltedFloats$State")
  | 4 => .int
  | _ => .object "SiltedFloats$OrderText"
abbrev wsX40 : List Cond := u_ws RX4 TX4 6
theorem nmX4 : ∀ a, a < 6 → ∀ b, b < 6 → a ≠ b → (TX4 a).2.1 ≠ (TX4 b).2.1 := by decide +kernel
theorem tyX4_ok : ∀ k, k < 6 → parseFieldDescriptor (TX4 k).2.2.1 = some (tyX4 k) := by decide +kernel
abbrev cX4_init : ByteArray := prog_1_method_1_code
def yX4_init : MethodName := ⟨RX4, "<init>", "()V"⟩
abbrev cX4_setWave : ByteArray := prog_1_method_2_code
def yX4_setWave : MethodName := ⟨RX4, "setWave", "(IIII)I"⟩
abbrev cX4_setStation : ByteArray := prog_1_method_3_code
def yX4_setStation : MethodName := ⟨RX4, "setStation", "(IIII)I"⟩
abbrev cX4_setRate : ByteArray := prog_1_method_4_code
def yX4_setRate : MethodName := ⟨RX4, "setRate", "(IZI)I"⟩
abbrev cX4_turn : ByteArray := prog_1_method_5_code
def yX4_turn : MethodName := ⟨RX4, "turn", "(IZ)I"⟩
abbrev cX4_clean : ByteArray := prog_1_method_6_code
def yX4_clean : MethodName := ⟨RX4, "clean", "(I)I"⟩
abbrev cX4_level : ByteArray := prog_1_method_7_code
def yX4_level : MethodName := ⟨RX4, "level", "(I)I"⟩
abbrev cX4_pass : ByteArray := prog_1_method_8_code
def yX4_pass : MethodName := ⟨RX4, "pass", "(I)I"⟩
abbrev cX4_follow : ByteArray := prog_1_method_9_code
def yX4_follow : MethodName := ⟨RX4, "follow", "()I"⟩
abbrev cX4_mend : ByteArray := prog_1_method_10_code
def yX4_mend : MethodName := ⟨RX4, "mend", "(IIII)I"⟩
abbrev cX4_forget : ByteArray := prog_1_method_11_code
def yX4_forget : MethodName := ⟨RX4, "forget", "(I)I"⟩
abbrev cX4_type : ByteArray := prog_1_method_12_code
def yX4_type : MethodName := ⟨RX4, "type", "(C)I"⟩
abbrev cX4_clearText : ByteArray := prog_1_method_13_code
def yX4_clearText : MethodName := ⟨RX4, "clearText", "()I"⟩
abbrev cX4_undo : ByteArray := prog_1_method_14_code
def yX4_undo : MethodName := ⟨RX4, "undo", "()I"⟩
abbrev cX4_keep : ByteArray := prog_1_method_15_code
def yX4_keep : MethodName := ⟨RX4, "keep", "()I"⟩
abbrev cX4_restore : ByteArray := prog_1_method_16_code
def yX4_restore : MethodName := ⟨RX4, "restore", "()I"⟩
abbrev cX4_sea : ByteArray := prog_1_method_17_code
def yX4_sea : MethodName := ⟨RX4, "sea", "(I)I"⟩
abbrev cX4_outside : ByteArray := prog_1_method_18_code
def yX4_outside : MethodName := ⟨RX4, "outside", "(II)I"⟩
abbrev cX4_station : ByteArray := prog_1_method_19_code
def yX4_station : MethodName := ⟨RX4, "station", "(II)I"⟩
abbrev cX4_hour : ByteArray := prog_1_method_20_code
def yX4_hour : MethodName := ⟨RX4, "hour", "(III)I"⟩
abbrev cX4_gap : ByteArray := prog_1_method_21_code
def yX4_gap : MethodName := ⟨RX4, "gap", "(III)I"⟩
abbrev cX4_misfit : ByteArray := prog_1_method_22_code
def yX4_misfit : MethodName := ⟨RX4, "misfit", "(IIII)I"⟩
abbrev cX4_bestPhase : ByteArray := prog_1_method_23_code
def yX4_bestPhase : MethodName := ⟨RX4, "bestPhase", "(III)I"⟩
abbrev cX4_high : ByteArray := prog_1_method_24_code
def yX4_high : MethodName := ⟨RX4, "high", "(II)I"⟩
abbrev cX4_count : ByteArray := prog_1_method_25_code
def yX4_count : MethodName := ⟨RX4, "count", "(I)I"⟩
abbrev cX4_remember : ByteArray := prog_1_method_26_code
def yX4_remember : MethodName := ⟨RX4, "remember", "()V"⟩
abbrev cX4_dropOldest : ByteArray := prog_1_method_27_code
def yX4_dropOldest : MethodName := ⟨RX4, "dropOldest", "()V"⟩
abbrev cX4_checkMending : ByteArray := prog_1_method_28_code
def yX4_checkMending : MethodName := ⟨RX4, "checkMending", "(IIII)I"⟩
abbrev cX4_phaseOfStep : ByteArray := prog_1_method_29_code
def yX4_phaseOfStep : MethodName := ⟨RX4, "phaseOfStep", "(I)I"⟩
abbrev cX4_isStation : ByteArray := prog_1_method_30_code
def yX4_isStation : MethodName := ⟨RX4, "isStation", "(I)Z"⟩
abbrev cX4_isWithin : ByteArray := prog_1_method_31_code
def yX4_isWithin : MethodName := ⟨RX4, "isWithin", "(III)Z"⟩
abbrev cX4_shareOf : ByteArray := prog_1_method_32_code
def yX4_shareOf : MethodName := ⟨RX4, "shareOf", "(III)I"⟩
def RX5 : String := "SiltedFloatsModel"
def TX5 : u_T := fun k => match k with
  | 0 => ("SiltedFloatsModel", "s", "[I", true)
  | 1 => ("SiltedFloatsModel", "before", "[I", true)
  | 2 => ("SiltedFloatsModel", "known", "I", false)
  | 3 => ("SiltedFloatsModel", "kept", "[I", true)
  | 4 => ("SiltedFloatsModel", "isKept", "Z", false)
  | 5 => ("SiltedFloatsModel", "text", "[I", true)
  | 6 => ("SiltedFloatsModel", "typed", "I", false)
  | 7 => ("SiltedFloatsModel", "at", "I", false)
  | 8 => ("SiltedFloatsModel", "isWrong", "Z", false)
  | _ => ("SiltedFloatsModel", "hoursOfAll", "I", false)
def tyX5 : Nat → FieldType := fun k => match k with
  | 0 => .array .int
  | 1 => .array .int
  | 2 => .int
  | 3 => .array .int
  | 4 => .boolean
  | 5 => .array .int
  | 6 => .int
  | 7 => .int
  | 8 => .boolean
  | _ => .int
abbrev wsX50 : List Cond := u_ws RX5 TX5 10
theorem nmX5 : ∀ a, a < 10 → ∀ b, b < 10 → a ≠ b → (TX5 a).2.1 ≠ (TX5 b).2.1 := by decide +kernel
theorem tyX5_ok : ∀ k, k < 10 → parseFieldDescriptor (TX5 k).2.2.1 = some (tyX5 k) := by decide +kernel
abbrev cX5_init : ByteArray := prog_7_method_1_code
def yX5_init : MethodName := ⟨RX5, "<init>", "()V"⟩
abbrev cX5_in : ByteArray := prog_7_method_3_code
def yX5_in : MethodName := ⟨RX5, "in", "(III)Z"⟩
abbrev cX5_of : ByteArray := prog_7_method_4_code
def yX5_of : MethodName := ⟨RX5, "of", "(II)I"⟩
abbrev cX5_isStation : ByteArray := prog_7_method_5_code
def yX5_isStation : MethodName := ⟨RX5, "isStation", "(I)Z"⟩
abbrev cX5_size : ByteArray := prog_7_method_6_code
def yX5_size : MethodName := ⟨RX5, "size", "(I)I"⟩
abbrev cX5_divide : ByteArray := prog_7_method_7_code
def yX5_divide : MethodName := ⟨RX5, "divide", "(II)I"⟩
abbrev cX5_know : ByteArray := prog_7_method_8_code
def yX5_know : MethodName := ⟨RX5, "know", "()V"⟩
abbrev cX5_waveAt : ByteArray := prog_7_method_9_code
def yX5_waveAt : MethodName := ⟨RX5, "waveAt", "(II)I"⟩
abbrev cX5_seaAt : ByteArray := prog_7_method_10_code
def yX5_seaAt : MethodName := ⟨RX5, "seaAt", "(I)I"⟩
abbrev cX5_outsideAt : ByteArray := prog_7_method_11_code
def yX5_outsideAt : MethodName := ⟨RX5, "outsideAt", "(II)I"⟩
abbrev cX5_letFloat : ByteArray := prog_7_method_12_code
def yX5_letFloat : MethodName := ⟨RX5, "letFloat", "()V"⟩
abbrev cX5_setWave : ByteArray := prog_7_method_13_code
def yX5_setWave : MethodName := ⟨RX5, "setWave", "(IIII)I"⟩
abbrev cX5_setStation : ByteArray := prog_7_method_14_code
def yX5_setStation : MethodName := ⟨RX5, "setStation", "(IIII)I"⟩
abbrev cX5_setRate : ByteArray := prog_7_method_15_code
def yX5_setRate : MethodName := ⟨RX5, "setRate", "(IZI)I"⟩
abbrev cX5_manyOn : ByteArray := prog_7_method_16_code
def yX5_manyOn : MethodName := ⟨RX5, "manyOn", "()I"⟩
abbrev cX5_turn : ByteArray := prog_7_method_17_code
def yX5_turn : MethodName := ⟨RX5, "turn", "(IZ)I"⟩
abbrev cX5_clean : ByteArray := prog_7_method_18_code
def yX5_clean : MethodName := ⟨RX5, "clean", "(I)I"⟩
abbrev cX5_note : ByteArray := prog_7_method_19_code
def yX5_note : MethodName := ⟨RX5, "note", "(I)V"⟩
abbrev cX5_level : ByteArray := prog_7_method_20_code
def yX5_level : MethodName := ⟨RX5, "level", "(I)I"⟩
abbrev cX5_goBy : ByteArray := prog_7_method_21_code
def yX5_goBy : MethodName := ⟨RX5, "goBy", "()V"⟩
abbrev cX5_pass : ByteArray := prog_7_method_22_code
def yX5_pass : MethodName := ⟨RX5, "pass", "(I)I"⟩
abbrev cX5_sign : ByteArray := prog_7_method_23_code
def yX5_sign : MethodName := ⟨RX5, "sign", "(II)I"⟩
abbrev cX5_order : ByteArray := prog_7_method_24_code
def yX5_order : MethodName := ⟨RX5, "order", "(Z)I"⟩
abbrev cX5_does : ByteArray := prog_7_method_25_code
def yX5_does : MethodName := ⟨RX5, "does", "(II)V"⟩
abbrev cX5_go : ByteArray := prog_7_method_26_code
def yX5_go : MethodName := ⟨RX5, "go", "(Z)I"⟩
abbrev cX5_follow : ByteArray := prog_7_method_27_code
def yX5_follow : MethodName := ⟨RX5, "follow", "()I"⟩
abbrev cX5_type : ByteArray := prog_7_method_28_code
def yX5_type : MethodName := ⟨RX5, "type", "(C)I"⟩
abbrev cX5_clearText : ByteArray := prog_7_method_29_code
def yX5_clearText : MethodName := ⟨RX5, "clearText", "()I"⟩
abbrev cX5_isRead : ByteArray := prog_7_method_30_code
def yX5_isRead : MethodName := ⟨RX5, "isRead", "(II)Z"⟩
abbrev cX5_correction : ByteArray := prog_7_method_31_code
def yX5_correction : MethodName := ⟨RX5, "correction", "(II)I"⟩
abbrev cX5_corrected : ByteArray := prog_7_method_32_code
def yX5_corrected : MethodName := ⟨RX5, "corrected", "(II)I"⟩
abbrev cX5_isBegin : ByteArray := prog_7_method_33_code
def yX5_isBegin : MethodName := ⟨RX5, "isBegin", "(II)Z"⟩
abbrev cX5_gapsOf : ByteArray := prog_7_method_34_code
def yX5_gapsOf : MethodName := ⟨RX5, "gapsOf", "(I)I"⟩
abbrev cX5_beginOf : ByteArray := prog_7_method_35_code
def yX5_beginOf : MethodName := ⟨RX5, "beginOf", "(II)I"⟩
abbrev cX5_endOf : ByteArray := prog_7_method_36_code
def yX5_endOf : MethodName := ⟨RX5, "endOf", "(II)I"⟩
abbrev cX5_isGap : ByteArray := prog_7_method_37_code
def yX5_isGap : MethodName := ⟨RX5, "isGap", "(II)Z"⟩
abbrev cX5_isInner : ByteArray := prog_7_method_38_code
def yX5_isInner : MethodName := ⟨RX5, "isInner", "(II)Z"⟩
abbrev cX5_canMend : ByteArray := prog_7_method_39_code
def yX5_canMend : MethodName := ⟨RX5, "canMend", "(IIII)Z"⟩
abbrev cX5_mend : ByteArray := prog_7_method_40_code
def yX5_mend : MethodName := ⟨RX5, "mend", "(IIII)I"⟩
abbrev cX5_sum : ByteArray := prog_7_method_41_code
def yX5_sum : MethodName := ⟨RX5, "sum", "(II)I"⟩
abbrev cX5_forget : ByteArray := prog_7_method_42_code
def yX5_forget : MethodName := ⟨RX5, "forget", "(I)I"⟩
abbrev cX5_undo : ByteArray := prog_7_method_43_code
def yX5_undo : MethodName := ⟨RX5, "undo", "()I"⟩
abbrev cX5_keep : ByteArray := prog_7_method_44_code
def yX5_keep : MethodName := ⟨RX5, "keep", "()I"⟩
abbrev cX5_restore : ByteArray := prog_7_method_45_code
def yX5_restore : MethodName := ⟨RX5, "restore", "()I"⟩
abbrev cX5_sea : ByteArray := prog_7_method_46_code
def yX5_sea : MethodName := ⟨RX5, "sea", "(I)I"⟩
abbrev cX5_outside : ByteArray := prog_7_method_47_code
def yX5_outside : MethodName := ⟨RX5, "outside", "(II)I"⟩
abbrev cX5_station : ByteArray := prog_7_method_48_code
def yX5_station : MethodName := ⟨RX5, "station", "(II)I"⟩
abbrev cX5_hour : ByteArray := prog_7_method_49_code
def yX5_hour : MethodName := ⟨RX5, "hour", "(III)I"⟩
abbrev cX5_gap : ByteArray := prog_7_method_50_code
def yX5_gap : MethodName := ⟨RX5, "gap", "(III)I"⟩
abbrev cX5_areRead : ByteArray := prog_7_method_51_code
def yX5_areRead : MethodName := ⟨RX5, "areRead", "(II)Z"⟩
abbrev cX5_misfitOf : ByteArray := prog_7_method_52_code
def yX5_misfitOf : MethodName := ⟨RX5, "misfitOf", "(IIII)I"⟩
abbrev cX5_misfit : ByteArray := prog_7_method_53_code
def yX5_misfit : MethodName := ⟨RX5, "misfit", "(IIII)I"⟩
abbrev cX5_bestPhase : ByteArray := prog_7_method_54_code
def yX5_bestPhase : MethodName := ⟨RX5, "bestPhase", "(III)I"⟩
abbrev cX5_isThere : ByteArray := prog_7_method_55_code
def yX5_isThere : MethodName := ⟨RX5, "isThere", "(II)Z"⟩
abbrev cX5_valueOf : ByteArray := prog_7_method_56_code
def yX5_valueOf : MethodName := ⟨RX5, "valueOf", "(II)I"⟩
abbrev cX5_high : ByteArray := prog_7_method_57_code
def yX5_high : MethodName := ⟨RX5, "high", "(II)I"⟩
abbrev cX5_sumOfAll : ByteArray := prog_7_method_58_code
def yX5_sumOfAll : MethodName := ⟨RX5, "sumOfAll", "(I)I"⟩
abbrev cX5_count : ByteArray := prog_7_method_59_code
def yX5_count : MethodName := ⟨RX5, "count", "(I)I"⟩
def RJ9 : String := "java/lang/Math"
def TJ9 : u_T := fun k => match k with
  | _ => ("", "", "", false)
def tyJ9 : Nat → FieldType := fun k => match k with
  | _ => .int
abbrev wsJ90 : List Cond := u_ws RJ9 TJ9 0
theorem nmJ9 : ∀ a, a < 0 → ∀ b, b < 0 → a ≠ b → (TJ9 a).2.1 ≠ (TJ9 b).2.1 := by decide +kernel
theorem tyJ9_ok : ∀ k, k < 0 → parseFieldDescriptor (TJ9 k).2.2.1 = some (tyJ9 k) := by decide +kernel
abbrev cJ9_floorDiv_7cf53 : ByteArray := prog_8_method_47_code
def yJ9_floorDiv_7cf53 : MethodName := ⟨RJ9, "floorDiv", "(II)I"⟩
abbrev cJ9_floorMod_7cf53 : ByteArray := prog_8_method_50_code
def yJ9_floorMod_7cf53 : MethodName := ⟨RJ9, "floorMod", "(II)I"⟩
abbrev cJ9_abs_0f7a4 : ByteArray := prog_8_method_59_code
def yJ9_abs_0f7a4 : MethodName := ⟨RJ9, "abs", "(I)I"⟩
abbrev cJ9_max_7cf53 : ByteArray := prog_8_method_65_code
def yJ9_max_7cf53 : MethodName := ⟨RJ9, "max", "(II)I"⟩
def RJ10 : String := "java/lang/System"
def TJ10 : u_T := fun k => match k with
  | _ => ("", "", "", false)
def tyJ10 : Nat → FieldType := fun k => match k with
  | _ => .int
abbrev wsJ100 : List Cond := u_ws RJ10 TJ10 0
theorem nmJ10 : ∀ a, a < 0 → ∀ b, b < 0 → a ≠ b → (TJ10 a).2.1 ≠ (TJ10 b).2.1 := by decide +kernel
theorem tyJ10_ok : ∀ k, k < 0 → parseFieldDescriptor (TJ10 k).2.2.1 = some (tyJ10 k) := by decide +kernel
def RJ7 : String := "java/util/Arrays"
def TJ7 : u_T := fun k => match k with
  | _ => ("", "", "", false)
def tyJ7 : Nat → FieldType := fun k => match k with
  | _ => .int
abbrev wsJ70 : List Cond := u_ws RJ7 TJ7 0
theorem nmJ7 : ∀ a, a < 0 → ∀ b, b < 0 → a ≠ b → (TJ7 a).2.1 ≠ (TJ7 b).2.1 := by decide +kernel
theorem tyJ7_ok : ∀ k, k < 0 → parseFieldDescriptor (TJ7 k).2.2.1 = some (tyJ7 k) := by decide +kernel
abbrev cJ7_fill_53178 : ByteArray := prog_10_method_103_code
def yJ7_fill_53178 : MethodName := ⟨RJ7, "fill", "([II)V"⟩
def RL : String := "SiltedFloatsLaw"
abbrev cL_law : ByteArray := code
def yL_law : MethodName := ⟨RL, "law", "([I)Z"⟩
def wsX0_become : List Cond := .code yX0_become cX0_become 4 none :: ([.fieldLink RX0 39 "SiltedFloats$Gauge" "delay" "I", .fieldLink RX0 42 "SiltedFloats$Gauge" "scale" "I", .fieldLink RX0 45 "SiltedFloats$Gauge" "offset" "I"] ++ wsX00)
def wsJ7_fill_53178 : List Cond := .code yJ7_fill_53178 cJ7_fill_53178 4 none :: ([])
def wsX0_init : List Cond := .code yX0_init cX0_init 2 none :: ([.methodLink RX0 3 objectInit, .instanceMethod objectInit, .code objectInit ⟨#[0xb1]⟩ 1 none, .fieldLink RX0 15 "SiltedFloats$Gauge" "on" "Z", .fieldLink RX0 19 "SiltedFloats$Gauge" "notes" "I", .arrayClass .int, .fieldLink RX0 23 "SiltedFloats$Gauge" "kinds" "[I", .fieldLink RX0 33 "SiltedFloats$Gauge" "values" "[I", .fieldLink RX0 36 "SiltedFloats$Gauge" "corrections" "[I", .methodLink RX0 9 yX0_become, .instanceMethod yX0_become, .selects RX0 yX0_become yX0_become, .initialized RX0, .code yX0_become cX0_become 4 none, .fieldLink RX0 39 "SiltedFloats$Gauge" "delay" "I", .fieldLink RX0 42 "SiltedFloats$Gauge" "scale" "I", .fieldLink RX0 45 "SiltedFloats$Gauge" "offset" "I", .methodLink RX0 27 yJ7_fill_53178, .static yJ7_fill_53178, .initialized RJ7, .code yJ7_fill_53178 cJ7_fill_53178 4 none] ++ wsX00)
def wsX0_isSo : List Cond := .code yX0_isSo cX0_isSo 4 (some .boolean) :: ([.fieldLink RX0 39 "SiltedFloats$Gauge" "delay" "I", .fieldLink RX0 42 "SiltedFloats$Gauge" "scale" "I", .fieldLink RX0 45 "SiltedFloats$Gauge" "offset" "I"] ++ wsX00)
def wsX0_copyFrom : List Cond := .code yX0_copyFrom cX0_copyFrom 2 none :: ([.fieldLink RX0 39 "SiltedFloats$Gauge" "delay" "I", .fieldLink RX0 42 "SiltedFloats$Gauge" "scale" "I", .fieldLink RX0 45 "SiltedFloats$Gauge" "offset" "I", .fieldLink RX0 48 "SiltedFloats$Gauge" "floatLevel" "I", .fieldLink RX0 51 "SiltedFloats$Gauge" "silt" "I", .fieldLink RX0 54 "SiltedFloats$Gauge" "silting" "I", .fieldLink RX0 57 "SiltedFloats$Gauge" "sinking" "I", .fieldLink RX0 60 "SiltedFloats$Gauge" "sunk" "I", .fieldLink RX0 15 "SiltedFloats$Gauge" "on" "Z", .fieldLink RX0 19 "SiltedFloats$Gauge" "notes" "I", .fieldLink RX0 63 "SiltedFloats$Gauge" "lastNote" "I", .fieldLink RX0 66 "SiltedFloats$Gauge" "lastNoteHour" "I", .fieldLink RX0 23 "SiltedFloats$Gauge" "kinds" "[I", .methodLink RX0 69 arraycopyName, .native arraycopyName, .static arraycopyName, .initialized "java/lang/System", .fieldLink RX0 33 "SiltedFloats$Gauge" "values" "[I", .fieldLink RX0 36 "SiltedFloats$Gauge" "corrections" "[I", .methodLink RX0 9 yX0_become, .instanceMethod yX0_become, .selects RX0 yX0_become yX0_become, .initialized RX0, .code yX0_become cX0_become 4 none] ++ wsX00)
def wsJ9_floorDiv_7cf53 : List Cond := .code yJ9_floorDiv_7cf53 cJ9_floorDiv_7cf53 3 (some .int) :: ([])
def wsX0_isDue : List Cond := .code yX0_isDue cX0_isDue 2 (some .boolean) :: ([])
def wsX0_passHour : List Cond := .code yX0_passHour cX0_passHour 3 none :: ([.fieldLink RX0 48 "SiltedFloats$Gauge" "floatLevel" "I", .fieldLink RX0 51 "SiltedFloats$Gauge" "silt" "I", .fieldLink RX0 23 "SiltedFloats$Gauge" "kinds" "[I", .fieldLink RX0 15 "SiltedFloats$Gauge" "on" "Z", .fieldLink RX0 33 "SiltedFloats$Gauge" "values" "[I", .fieldLink RX0 60 "SiltedFloats$Gauge" "sunk" "I", .fieldLink RX0 36 "SiltedFloats$Gauge" "corrections" "[I", .fieldLink RX0 63 "SiltedFloats$Gauge" "lastNote" "I", .fieldLink RX0 54 "SiltedFloats$Gauge" "silting" "I", .fieldLink RX0 57 "SiltedFloats$Gauge" "sinking" "I", .methodLink RX0 75 yJ9_floorDiv_7cf53, .static yJ9_floorDiv_7cf53, .initialized RJ9, .code yJ9_floorDiv_7cf53 cJ9_floorDiv_7cf53 3 (some .int), .methodLink RX0 81 yX0_isDue, .static yX0_isDue, .initialized RX0, .code yX0_isDue cX0_isDue 2 (some .boolean)] ++ wsX00)
def wsX0_isNotedAt : List Cond := .code yX0_isNotedAt cX0_isNotedAt 2 (some .boolean) :: ([.fieldLink RX0 66 "SiltedFloats$Gauge" "lastNoteHour" "I"] ++ wsX00)
def wsX4_shareOf : List Cond := .code yX4_shareOf cX4_shareOf 3 (some .int) :: ([.methodLink RX4 230 yJ9_floorDiv_7cf53, .static yJ9_floorDiv_7cf53, .initialized RJ9, .code yJ9_floorDiv_7cf53 cJ9_floorDiv_7cf53 3 (some .int)])
def wsX0_noteAt : List Cond := .code yX0_noteAt cX0_noteAt 3 none :: ([.fieldLink RX0 66 "SiltedFloats$Gauge" "lastNoteHour" "I", .methodLink RX0 89 Lib.Math.max.name, .static Lib.Math.max.name, .initialized "java/lang/Math", .code Lib.Math.max.name Lib.Math.max.code 2 (some .int), .fieldLink RX0 36 "SiltedFloats$Gauge" "corrections" "[I", .fieldLink RX0 63 "SiltedFloats$Gauge" "lastNote" "I", .fieldLink RX0 60 "SiltedFloats$Gauge" "sunk" "I", .fieldLink RX0 19 "SiltedFloats$Gauge" "notes" "I", .methodLink RX0 85 yX0_isNotedAt, .instanceMethod yX0_isNotedAt, .selects RX0 yX0_isNotedAt yX0_isNotedAt, .initialized RX0, .code yX0_isNotedAt cX0_isNotedAt 2 (some .boolean), .static yX4_shareOf, .initialized RX4, .code yX4_shareOf cX4_shareOf 3 (some .int), .methodLink RX4 230 yJ9_floorDiv_7cf53, .static yJ9_floorDiv_7cf53, .initialized RJ9, .code yJ9_floorDiv_7cf53 cJ9_floorDiv_7cf53 3 (some .int)] ++ wsX00)
def wsX0_kindAt : List Cond := .code yX0_kindAt cX0_kindAt 2 (some .int) :: ([.fieldLink RX0 23 "SiltedFloats$Gauge" "kinds" "[I"] ++ wsX00)
def wsX0_correctionAt : List Cond := .code yX0_correctionAt cX0_correctionAt 2 (some .int) :: ([.fieldLink RX0 36 "SiltedFloats$Gauge" "corrections" "[I"] ++ wsX00)
def wsX0_readingAt : List Cond := .code yX0_readingAt cX0_readingAt 2 (some .int) :: ([.fieldLink RX0 33 "SiltedFloats$Gauge" "values" "[I"] ++ wsX00)
def wsX0_correctedAt : List Cond := .code yX0_correctedAt cX0_correctedAt 2 (some .int) :: ([.methodLink RX0 96 yX0_readingAt, .instanceMethod yX0_readingAt, .selects RX0 yX0_readingAt yX0_readingAt, .initialized RX0, .code yX0_readingAt cX0_readingAt 2 (some .int), .fieldLink RX0 33 "SiltedFloats$Gauge" "values" "[I", .methodLink RX0 100 yX0_correctionAt, .instanceMethod yX0_correctionAt, .selects RX0 yX0_correctionAt yX0_correctionAt, .code yX0_correctionAt cX0_correctionAt 2 (some .int), .fieldLink RX0 36 "SiltedFloats$Gauge" "corrections" "[I"] ++ wsX00)
def wsX0_valueAt : List Cond := .code yX0_valueAt cX0_valueAt 2 (some .int) :: ([.methodLink RX0 103 yX0_kindAt, .instanceMethod yX0_kindAt, .selects RX0 yX0_kindAt yX0_kindAt, .initialized RX0, .code yX0_kindAt cX0_kindAt 2 (some .int), .fieldLink RX0 23 "SiltedFloats$Gauge" "kinds" "[I", .methodLink RX0 96 yX0_readingAt, .instanceMethod yX0_readingAt, .selects RX0 yX0_readingAt yX0_readingAt, .code yX0_readingAt cX0_readingAt 2 (some .int), .fieldLink RX0 33 "SiltedFloats$Gauge" "values" "[I", .methodLink RX0 106 yX0_correctedAt, .instanceMethod yX0_correctedAt, .selects RX0 yX0_correctedAt yX0_correctedAt, .code yX0_correctedAt cX0_correctedAt 2 (some .int), .methodLink RX0 100 yX0_correctionAt, .instanceMethod yX0_correctionAt, .selects RX0 yX0_correctionAt yX0_correctionAt, .code yX0_correctionAt cX0_correctionAt 2 (some .int), .fieldLink RX0 36 "SiltedFloats$Gauge" "corrections" "[I"] ++ wsX00)
def wsX0_hasValue : List Cond := .code yX0_hasValue cX0_hasValue 3 (some .boolean) :: ([.methodLink RX0 103 yX0_kindAt, .instanceMethod yX0_kindAt, .selects RX0 yX0_kindAt yX0_kindAt, .initialized RX0, .code yX0_kindAt cX0_kindAt 2 (some .int), .fieldLink RX0 23 "SiltedFloats$Gauge" "kinds" "[I"] ++ wsX00)
def wsX0_hasReading : List Cond := .code yX0_hasReading cX0_hasReading 2 (some .boolean) :: ([.methodLink RX0 103 yX0_kindAt, .instanceMethod yX0_kindAt, .selects RX0 yX0_kindAt yX0_kindAt, .initialized RX0, .code yX0_kindAt cX0_kindAt 2 (some .int), .fieldLink RX0 23 "SiltedFloats$Gauge" "kinds" "[I"] ++ wsX00)
def wsX0_hasReadings : List Cond := .code yX0_hasReadings cX0_hasReadings 4 (some .boolean) :: ([.methodLink RX0 109 yX0_hasReading, .instanceMethod yX0_hasReading, .selects RX0 yX0_hasReading yX0_hasReading, .initialized RX0, .code yX0_hasReading cX0_hasReading 2 (some .boolean), .methodLink RX0 103 yX0_kindAt, .instanceMethod yX0_kindAt, .selects RX0 yX0_kindAt yX0_kindAt, .code yX0_kindAt cX0_kindAt 2 (some .int), .fieldLink RX0 23 "SiltedFloats$Gauge" "kinds" "[I"] ++ wsX00)
def wsX0_isHighAt_r1 : List Cond := [Cond.methodLink RX0 112 yX0_hasValue, Cond.instanceMethod yX0_hasValue, Cond.selects RX0 yX0_hasValue yX0_hasValue, Cond.initialized RX0, Cond.code yX0_hasValue cX0_hasValue 3 (some .boolean), Cond.methodLink RX0 103 yX0_kindAt, Cond.instanceMethod yX0_kindAt, Cond.selects RX0 yX0_kindAt yX0_kindAt, Cond.code yX0_kindAt cX0_kindAt 2 (some .int), Cond.fieldLink RX0 23 "SiltedFloats$Gauge" "kinds" "[I", Cond.methodLink RX0 115 yX0_valueAt, Cond.instanceMethod yX0_valueAt, Cond.selects RX0 yX0_valueAt yX0_valueAt, Cond.code yX0_valueAt cX0_valueAt 2 (some .int), Cond.methodLink RX0 96 yX0_readingAt, Cond.instanceMethod yX0_readingAt, Cond.selects RX0 yX0_readingAt yX0_readingAt, Cond.code yX0_readingAt cX0_readingAt 2 (some .int), Cond.fieldLink RX0 33 "SiltedFloats$Gauge" "values" "[I", Cond.methodLink RX0 106 yX0_correctedAt, Cond.instanceMethod yX0_correctedAt, Cond.selects RX0 yX0_correctedAt yX0_correctedAt, Cond.code yX0_correctedAt cX0_correctedAt 2 (some .int), Cond.methodLink RX0 100 yX0_correctionAt]
def wsX0_isHighAt_r2 : List Cond := [Cond.instanceMethod yX0_correctionAt, Cond.selects RX0 yX0_correctionAt yX0_correctionAt, Cond.code yX0_correctionAt cX0_correctionAt 2 (some .int), Cond.fieldLink RX0 36 "SiltedFloats$Gauge" "corrections" "[I"]
def wsX0_isHighAt : List Cond := .code yX0_isHighAt cX0_isHighAt 2 (some .boolean) :: ((wsX0_isHighAt_r1 ++ wsX0_isHighAt_r2) ++ wsX00)
def wsX0_hoursOfKind : List Cond := .code yX0_hoursOfKind cX0_hoursOfKind 4 (some .int) :: ([.fieldLink RX0 23 "SiltedFloats$Gauge" "kinds" "[I"] ++ wsX00)
def wsX0_isInGap : List Cond := .code yX0_isInGap cX0_isInGap 3 (some .boolean) :: ([.methodLink RX0 103 yX0_kindAt, .instanceMethod yX0_kindAt, .selects RX0 yX0_kindAt yX0_kindAt, .initialized RX0, .code yX0_kindAt cX0_kindAt 2 (some .int), .fieldLink RX0 23 "SiltedFloats$Gauge" "kinds" "[I"] ++ wsX00)
def wsX0_startsGap : List Cond := .code yX0_startsGap cX0_startsGap 2 (some .boolean) :: ([.methodLink RX0 118 yX0_isInGap, .instanceMethod yX0_isInGap, .selects RX0 yX0_isInGap yX0_isInGap, .initialized RX0, .code yX0_isInGap cX0_isInGap 3 (some .boolean), .methodLink RX0 103 yX0_kindAt, .instanceMethod yX0_kindAt, .selects RX0 yX0_kindAt yX0_kindAt, .code yX0_kindAt cX0_kindAt 2 (some .int), .fieldLink RX0 23 "SiltedFloats$Gauge" "kinds" "[I"] ++ wsX00)
def wsX0_gaps : List Cond := .code yX0_gaps cX0_gaps 3 (some .int) :: ([.methodLink RX0 121 yX0_startsGap, .instanceMethod yX0_startsGap, .selects RX0 yX0_startsGap yX0_startsGap, .initialized RX0, .code yX0_startsGap cX0_startsGap 2 (some .boolean), .methodLink RX0 118 yX0_isInGap, .instanceMethod yX0_isInGap, .selects RX0 yX0_isInGap yX0_isInGap, .code yX0_isInGap cX0_isInGap 3 (some .boolean), .methodLink RX0 103 yX0_kindAt, .instanceMethod yX0_kindAt, .selects RX0 yX0_kindAt yX0_kindAt, .code yX0_kindAt cX0_kindAt 2 (some .int), .fieldLink RX0 23 "SiltedFloats$Gauge" "kinds" "[I"] ++ wsX00)
def wsX0_firstHourOfGap : List Cond := .code yX0_firstHourOfGap cX0_firstHourOfGap 4 (some .int) :: ([.methodLink RX0 121 yX0_startsGap, .instanceMethod yX0_startsGap, .selects RX0 yX0_startsGap yX0_startsGap, .initialized RX0, .code yX0_startsGap cX0_startsGap 2 (some .boolean), .methodLink RX0 118 yX0_isInGap, .instanceMethod yX0_isInGap, .selects RX0 yX0_isInGap yX0_isInGap, .code yX0_isInGap cX0_isInGap 3 (some .boolean), .methodLink RX0 103 yX0_kindAt, .instanceMethod yX0_kindAt, .selects RX0 yX0_kindAt yX0_kindAt, .code yX0_kindAt cX0_kindAt 2 (some .int), .fieldLink RX0 23 "SiltedFloats$Gauge" "kinds" "[I"] ++ wsX00)
def wsX0_hasGap : List Cond := .code yX0_hasGap cX0_hasGap 2 (some .boolean) :: ([.methodLink RX0 124 yX0_firstHourOfGap, .instanceMethod yX0_firstHourOfGap, .selects RX0 yX0_firstHourOfGap yX0_firstHourOfGap, .initialized RX0, .code yX0_firstHourOfGap cX0_firstHourOfGap 4 (some .int), .methodLink RX0 121 yX0_startsGap, .instanceMethod yX0_startsGap, .selects RX0 yX0_startsGap yX0_startsGap, .code yX0_startsGap cX0_startsGap 2 (some .boolean), .methodLink RX0 118 yX0_isInGap, .instanceMethod yX0_isInGap, .selects RX0 yX0_isInGap yX0_isInGap, .code yX0_isInGap cX0_isInGap 3 (some .boolean), .methodLink RX0 103 yX0_kindAt, .instanceMethod yX0_kindAt, .selects RX0 yX0_kindAt yX0_kindAt, .code yX0_kindAt cX0_kindAt 2 (some .int), .fieldLink RX0 23 "SiltedFloats$Gauge" "kinds" "[I"] ++ wsX00)
def wsX0_hourBehindGapFrom : List Cond := .code yX0_hourBehindGapFrom cX0_hourBehindGapFrom 3 (some .int) :: ([.methodLink RX0 118 yX0_isInGap, .instanceMethod yX0_isInGap, .selects RX0 yX0_isInGap yX0_isInGap, .initialized RX0, .code yX0_isInGap cX0_isInGap 3 (some .boolean), .methodLink RX0 103 yX0_kindAt, .instanceMethod yX0_kindAt, .selects RX0 yX0_kindAt yX0_kindAt, .code yX0_kindAt cX0_kindAt 2 (some .int), .fieldLink RX0 23 "SiltedFloats$Gauge" "kinds" "[I"] ++ wsX00)
def wsX0_isInner_r1 : List Cond := [Cond.methodLink RX0 124 yX0_firstHourOfGap, Cond.instanceMethod yX0_firstHourOfGap, Cond.selects RX0 yX0_firstHourOfGap yX0_firstHourOfGap, Cond.initialized RX0, Cond.code yX0_firstHourOfGap cX0_firstHourOfGap 4 (some .int), Cond.methodLink RX0 121 yX0_startsGap, Cond.instanceMethod yX0_startsGap, Cond.selects RX0 yX0_startsGap yX0_startsGap, Cond.code yX0_startsGap cX0_startsGap 2 (some .boolean), Cond.methodLink RX0 118 yX0_isInGap, Cond.instanceMethod yX0_isInGap, Cond.selects RX0 yX0_isInGap yX0_isInGap, Cond.code yX0_isInGap cX0_isInGap 3 (some .boolean), Cond.methodLink RX0 103 yX0_kindAt, Cond.instanceMethod yX0_kindAt, Cond.selects RX0 yX0_kindAt yX0_kindAt, Cond.code yX0_kindAt cX0_kindAt 2 (some .int), Cond.fieldLink RX0 23 "SiltedFloats$Gauge" "kinds" "[I", Cond.methodLink RX0 109 yX0_hasReading, Cond.instanceMethod yX0_hasReading, Cond.selects RX0 yX0_hasReading yX0_hasReading, Cond.code yX0_hasReading cX0_hasReading 2 (some .boolean), Cond.methodLink RX0 127 yX0_hourBehindGapFrom, Cond.instanceMethod yX0_hourBehindGapFrom]
def wsX0_isInner_r2 : List Cond := [Cond.selects RX0 yX0_hourBehindGapFrom yX0_hourBehindGapFrom, Cond.code yX0_hourBehindGapFrom cX0_hourBehindGapFrom 3 (some .int)]
def wsX0_isInner : List Cond := .code yX0_isInner cX0_isInner 3 (some .boolean) :: ((wsX0_isInner_r1 ++ wsX0_isInner_r2) ++ wsX00)
def wsX0_mendedWithin : List Cond := .code yX0_mendedWithin cX0_mendedWithin 5 (some .int) :: ([.methodLink RX0 103 yX0_kindAt, .instanceMethod yX0_kindAt, .selects RX0 yX0_kindAt yX0_kindAt, .initialized RX0, .code yX0_kindAt cX0_kindAt 2 (some .int), .fieldLink RX0 23 "SiltedFloats$Gauge" "kinds" "[I"] ++ wsX00)
def wsX0_mendBetween_r1 : List Cond := [Cond.methodLink RX0 89 Lib.Math.max.name, Cond.static Lib.Math.max.name, Cond.initialized "java/lang/Math", Cond.code Lib.Math.max.name Lib.Math.max.code 2 (some .int), Cond.fieldLink RX0 23 "SiltedFloats$Gauge" "kinds" "[I", Cond.fieldLink RX0 33 "SiltedFloats$Gauge" "values" "[I", Cond.methodLink RX0 106 yX0_correctedAt, Cond.instanceMethod yX0_correctedAt, Cond.selects RX0 yX0_correctedAt yX0_correctedAt, Cond.initialized RX0, Cond.code yX0_correctedAt cX0_correctedAt 2 (some .int), Cond.methodLink RX0 96 yX0_readingAt, Cond.instanceMethod yX0_readingAt, Cond.selects RX0 yX0_readingAt yX0_readingAt, Cond.code yX0_readingAt cX0_readingAt 2 (some .int), Cond.methodLink RX0 100 yX0_correctionAt, Cond.instanceMethod yX0_correctionAt, Cond.selects RX0 yX0_correctionAt yX0_correctionAt, Cond.code yX0_correctionAt cX0_correctionAt 2 (some .int), Cond.fieldLink RX0 36 "SiltedFloats$Gauge" "corrections" "[I", Cond.static yX4_shareOf, Cond.initialized RX4, Cond.code yX4_shareOf cX4_shareOf 3 (some .int), Cond.methodLink RX4 230 yJ9_floorDiv_7cf53]
def wsX0_mendBetween_r2 : List Cond := [Cond.static yJ9_floorDiv_7cf53, Cond.initialized RJ9, Cond.code yJ9_floorDiv_7cf53 cJ9_floorDiv_7cf53 3 (some .int)]
def wsX0_mendBetween : List Cond := .code yX0_mendBetween cX0_mendBetween 8 none :: ((wsX0_mendBetween_r1 ++ wsX0_mendBetween_r2) ++ wsX00)
def wsX0_forgetMended : List Cond := .code yX0_forgetMended cX0_forgetMended 2 none :: ([.fieldLink RX0 23 "SiltedFloats$Gauge" "kinds" "[I"] ++ wsX00)
def wsX0_riseAt : List Cond := .code yX0_riseAt cX0_riseAt 2 (some .int) :: ([.methodLink RX0 106 yX0_correctedAt, .instanceMethod yX0_correctedAt, .selects RX0 yX0_correctedAt yX0_correctedAt, .initialized RX0, .code yX0_correctedAt cX0_correctedAt 2 (some .int), .methodLink RX0 96 yX0_readingAt, .instanceMethod yX0_readingAt, .selects RX0 yX0_readingAt yX0_readingAt, .code yX0_readingAt cX0_readingAt 2 (some .int), .fieldLink RX0 33 "SiltedFloats$Gauge" "values" "[I", .methodLink RX0 100 yX0_correctionAt, .instanceMethod yX0_correctionAt, .selects RX0 yX0_correctionAt yX0_correctionAt, .code yX0_correctionAt cX0_correctionAt 2 (some .int), .fieldLink RX0 36 "SiltedFloats$Gauge" "corrections" "[I"] ++ wsX00)
def wsX0_misfitWithin_r1 : List Cond := [Cond.methodLink RX0 140 Lib.Math.abs.name, Cond.static Lib.Math.abs.name, Cond.initialized "java/lang/Math", Cond.code Lib.Math.abs.name Lib.Math.abs.code 1 (some .int), Cond.methodLink RX0 134 yX0_hasReadings, Cond.instanceMethod yX0_hasReadings, Cond.selects RX0 yX0_hasReadings yX0_hasReadings, Cond.initialized RX0, Cond.code yX0_hasReadings cX0_hasReadings 4 (some .boolean), Cond.methodLink RX0 109 yX0_hasReading, Cond.instanceMethod yX0_hasReading, Cond.selects RX0 yX0_hasReading yX0_hasReading, Cond.code yX0_hasReading cX0_hasReading 2 (some .boolean), Cond.methodLink RX0 103 yX0_kindAt, Cond.instanceMethod yX0_kindAt, Cond.selects RX0 yX0_kindAt yX0_kindAt, Cond.code yX0_kindAt cX0_kindAt 2 (some .int), Cond.fieldLink RX0 23 "SiltedFloats$Gauge" "kinds" "[I", Cond.methodLink RX0 137 yX0_riseAt, Cond.instanceMethod yX0_riseAt, Cond.selects RX0 yX0_riseAt yX0_riseAt, Cond.code yX0_riseAt cX0_riseAt 2 (some .int), Cond.methodLink RX0 106 yX0_correctedAt, Cond.instanceMethod yX0_correctedAt]
def wsX0_misfitWithin_r2 : List Cond := [Cond.selects RX0 yX0_correctedAt yX0_correctedAt, Cond.code yX0_correctedAt cX0_correctedAt 2 (some .int), Cond.methodLink RX0 96 yX0_readingAt, Cond.instanceMethod yX0_readingAt, Cond.selects RX0 yX0_readingAt yX0_readingAt, Cond.code yX0_readingAt cX0_readingAt 2 (some .int), Cond.fieldLink RX0 33 "SiltedFloats$Gauge" "values" "[I", Cond.methodLink RX0 100 yX0_correctionAt, Cond.instanceMethod yX0_correctionAt, Cond.selects RX0 yX0_correctionAt yX0_correctionAt, Cond.code yX0_correctionAt cX0_correctionAt 2 (some .int), Cond.fieldLink RX0 36 "SiltedFloats$Gauge" "corrections" "[I"]
def wsX0_misfitWithin : List Cond := .code yX0_misfitWithin cX0_misfitWithin 7 (some .int) :: ((wsX0_misfitWithin_r1 ++ wsX0_misfitWithin_r2) ++ wsX00)
def wsX0_misfitAround_r1 : List Cond := [Cond.methodLink RX0 130 yX0_misfitWithin, Cond.instanceMethod yX0_misfitWithin, Cond.selects RX0 yX0_misfitWithin yX0_misfitWithin, Cond.initialized RX0, Cond.code yX0_misfitWithin cX0_misfitWithin 7 (some .int), Cond.methodLink RX0 140 Lib.Math.abs.name, Cond.static Lib.Math.abs.name, Cond.initialized "java/lang/Math", Cond.code Lib.Math.abs.name Lib.Math.abs.code 1 (some .int), Cond.methodLink RX0 134 yX0_hasReadings, Cond.instanceMethod yX0_hasReadings, Cond.selects RX0 yX0_hasReadings yX0_hasReadings, Cond.code yX0_hasReadings cX0_hasReadings 4 (some .boolean), Cond.methodLink RX0 109 yX0_hasReading, Cond.instanceMethod yX0_hasReading, Cond.selects RX0 yX0_hasReading yX0_hasReading, Cond.code yX0_hasReading cX0_hasReading 2 (some .boolean), Cond.methodLink RX0 103 yX0_kindAt, Cond.instanceMethod yX0_kindAt, Cond.selects RX0 yX0_kindAt yX0_kindAt, Cond.code yX0_kindAt cX0_kindAt 2 (some .int), Cond.fieldLink RX0 23 "SiltedFloats$Gauge" "kinds" "[I", Cond.methodLink RX0 137 yX0_riseAt, Cond.instanceMethod yX0_riseAt]
def wsX0_misfitAround_r2 : List Cond := [Cond.selects RX0 yX0_riseAt yX0_riseAt, Cond.code yX0_riseAt cX0_riseAt 2 (some .int), Cond.methodLink RX0 106 yX0_correctedAt, Cond.instanceMethod yX0_correctedAt, Cond.selects RX0 yX0_correctedAt yX0_correctedAt, Cond.code yX0_correctedAt cX0_correctedAt 2 (some .int), Cond.methodLink RX0 96 yX0_readingAt, Cond.instanceMethod yX0_readingAt, Cond.selects RX0 yX0_readingAt yX0_readingAt, Cond.code yX0_readingAt cX0_readingAt 2 (some .int), Cond.fieldLink RX0 33 "SiltedFloats$Gauge" "values" "[I", Cond.methodLink RX0 100 yX0_correctionAt, Cond.instanceMethod yX0_correctionAt, Cond.selects RX0 yX0_correctionAt yX0_correctionAt, Cond.code yX0_correctionAt cX0_correctionAt 2 (some .int), Cond.fieldLink RX0 36 "SiltedFloats$Gauge" "corrections" "[I"]
def wsX0_misfitAround : List Cond := .code yX0_misfitAround cX0_misfitAround 5 (some .int) :: ((wsX0_misfitAround_r1 ++ wsX0_misfitAround_r2) ++ wsX00)
def wsX1_init : List Cond := .code yX1_init cX1_init 1 none :: ([.methodLink RX1 3 objectInit, .instanceMethod objectInit, .code objectInit ⟨#[0xb1]⟩ 1 none, .arrayClass .char, .fieldLink RX1 9 "SiltedFloats$OrderText" "characters" "[C"] ++ wsX10)
def wsX1_add : List Cond := .code yX1_add cX1_add 2 none :: ([.fieldLink RX1 15 "SiltedFloats$OrderText" "length" "I", .fieldLink RX1 9 "SiltedFloats$OrderText" "characters" "[C"] ++ wsX10)
def wsX1_characterAt : List Cond := .code yX1_characterAt cX1_characterAt 2 (some .char) :: ([.fieldLink RX1 15 "SiltedFloats$OrderText" "length" "I", .fieldLink RX1 9 "SiltedFloats$OrderText" "characters" "[C"] ++ wsX10)
def wsX1_isStationLetter : List Cond := .code yX1_isStationLetter cX1_isStationLetter 1 (some .boolean) :: ([])
def wsX1_dueBehindLetter : List Cond := .code yX1_dueBehindLetter cX1_dueBehindLetter 1 (some .int) :: ([.methodLink RX1 42 yX1_isStationLetter, .static yX1_isStationLetter, .initialized RX1, .code yX1_isStationLetter cX1_isStationLetter 1 (some .boolean)])
def wsX4_isWithin : List Cond := .code yX4_isWithin cX4_isWithin 3 (some .boolean) :: ([])
def wsX1_isDigit : List Cond := .code yX1_isDigit cX1_isDigit 1 (some .boolean) :: ([])
def wsX1_dueBehindOrder : List Cond := .code yX1_dueBehindOrder cX1_dueBehindOrder 1 (some .int) :: ([])
def wsX1_dueBehind : List Cond := .code yX1_dueBehind cX1_dueBehind 2 (some .int) :: ([.methodLink RX1 27 yX1_dueBehindLetter, .static yX1_dueBehindLetter, .initialized RX1, .code yX1_dueBehindLetter cX1_dueBehindLetter 1 (some .int), .methodLink RX1 42 yX1_isStationLetter, .static yX1_isStationLetter, .code yX1_isStationLetter cX1_isStationLetter 1 (some .boolean), .static yX4_isWithin, .initialized RX4, .code yX4_isWithin cX4_isWithin 3 (some .boolean), .methodLink RX1 35 yX1_isDigit, .static yX1_isDigit, .code yX1_isDigit cX1_isDigit 1 (some .boolean), .methodLink RX1 39 yX1_dueBehindOrder, .static yX1_dueBehindOrder, .code yX1_dueBehindOrder cX1_dueBehindOrder 1 (some .int)])
def wsX1_faultAt_r1 : List Cond := [Cond.fieldLink RX1 15 "SiltedFloats$OrderText" "length" "I", Cond.methodLink RX1 19 yX1_characterAt, Cond.instanceMethod yX1_characterAt, Cond.selects RX1 yX1_characterAt yX1_characterAt, Cond.initialized RX1, Cond.code yX1_characterAt cX1_characterAt 2 (some .char), Cond.fieldLink RX1 9 "SiltedFloats$OrderText" "characters" "[C", Cond.methodLink RX1 23 yX1_dueBehind, Cond.static yX1_dueBehind, Cond.code yX1_dueBehind cX1_dueBehind 2 (some .int), Cond.methodLink RX1 27 yX1_dueBehindLetter, Cond.static yX1_dueBehindLetter, Cond.code yX1_dueBehindLetter cX1_dueBehindLetter 1 (some .int), Cond.methodLink RX1 42 yX1_isStationLetter, Cond.static yX1_isStationLetter, Cond.code yX1_isStationLetter cX1_isStationLetter 1 (some .boolean), Cond.static yX4_isWithin, Cond.initialized RX4, Cond.code yX4_isWithin cX4_isWithin 3 (some .boolean), Cond.methodLink RX1 35 yX1_isDigit, Cond.static yX1_isDigit, Cond.code yX1_isDigit cX1_isDigit 1 (some .boolean), Cond.methodLink RX1 39 yX1_dueBehindOrder, Cond.static yX1_dueBehindOrder]
def wsX1_faultAt_r2 : List Cond := [Cond.code yX1_dueBehindOrder cX1_dueBehindOrder 1 (some .int)]
def wsX1_faultAt : List Cond := .code yX1_faultAt cX1_faultAt 3 (some .int) :: ((wsX1_faultAt_r1 ++ wsX1_faultAt_r2) ++ wsX10)
def wsX1_startsOrder : List Cond := .code yX1_startsOrder cX1_startsOrder 3 (some .boolean) :: ([.methodLink RX1 19 yX1_characterAt, .instanceMethod yX1_characterAt, .selects RX1 yX1_characterAt yX1_characterAt, .initialized RX1, .code yX1_characterAt cX1_characterAt 2 (some .char), .fieldLink RX1 15 "SiltedFloats$OrderText" "length" "I", .fieldLink RX1 9 "SiltedFloats$OrderText" "characters" "[C", .methodLink RX1 42 yX1_isStationLetter, .static yX1_isStationLetter, .code yX1_isStationLetter cX1_isStationLetter 1 (some .boolean)] ++ wsX10)
def wsX1_numberFrom : List Cond := .code yX1_numberFrom cX1_numberFrom 4 (some .int) :: ([.fieldLink RX1 15 "SiltedFloats$OrderText" "length" "I", .methodLink RX1 19 yX1_characterAt, .instanceMethod yX1_characterAt, .selects RX1 yX1_characterAt yX1_characterAt, .initialized RX1, .code yX1_characterAt cX1_characterAt 2 (some .char), .fieldLink RX1 9 "SiltedFloats$OrderText" "characters" "[C", .methodLink RX1 35 yX1_isDigit, .static yX1_isDigit, .code yX1_isDigit cX1_isDigit 1 (some .boolean)] ++ wsX10)
def wsX1_hoursInAll : List Cond := .code yX1_hoursInAll cX1_hoursInAll 3 (some .int) :: ([.fieldLink RX1 15 "SiltedFloats$OrderText" "length" "I", .methodLink RX1 19 yX1_characterAt, .instanceMethod yX1_characterAt, .selects RX1 yX1_characterAt yX1_characterAt, .initialized RX1, .code yX1_characterAt cX1_characterAt 2 (some .char), .fieldLink RX1 9 "SiltedFloats$OrderText" "characters" "[C", .methodLink RX1 45 yX1_numberFrom, .instanceMethod yX1_numberFrom, .selects RX1 yX1_numberFrom yX1_numberFrom, .code yX1_numberFrom cX1_numberFrom 4 (some .int), .methodLink RX1 35 yX1_isDigit, .static yX1_isDigit, .code yX1_isDigit cX1_isDigit 1 (some .boolean)] ++ wsX10)
def wsX3_become : List Cond := .code yX3_become cX3_become 4 none :: ([.fieldLink RX3 13 "SiltedFloats$Wave" "amplitude" "I", .fieldLink RX3 17 "SiltedFloats$Wave" "period" "I", .fieldLink RX3 20 "SiltedFloats$Wave" "phase" "I"] ++ wsX30)
def wsX3_init : List Cond := .code yX3_init cX3_init 4 none :: ([.methodLink RX3 1 objectInit, .instanceMethod objectInit, .code objectInit ⟨#[0xb1]⟩ 1 none, .methodLink RX3 7 yX3_become, .instanceMethod yX3_become, .selects RX3 yX3_become yX3_become, .initialized RX3, .code yX3_become cX3_become 4 none, .fieldLink RX3 13 "SiltedFloats$Wave" "amplitude" "I", .fieldLink RX3 17 "SiltedFloats$Wave" "period" "I", .fieldLink RX3 20 "SiltedFloats$Wave" "phase" "I"] ++ wsX30)
def wsJ9_floorMod_7cf53 : List Cond := .code yJ9_floorMod_7cf53 cJ9_floorMod_7cf53 3 (some .int) :: ([])
def wsX3_heightAt : List Cond := .code yX3_heightAt cX3_heightAt 4 (some .int) :: ([.fieldLink RX3 17 "SiltedFloats$Wave" "period" "I", .fieldLink RX3 20 "SiltedFloats$Wave" "phase" "I", .fieldLink RX3 13 "SiltedFloats$Wave" "amplitude" "I", .methodLink RX3 23 yJ9_floorMod_7cf53, .static yJ9_floorMod_7cf53, .initialized RJ9, .code yJ9_floorMod_7cf53 cJ9_floorMod_7cf53 3 (some .int), .methodLink RX3 29 yJ9_floorDiv_7cf53, .static yJ9_floorDiv_7cf53, .code yJ9_floorDiv_7cf53 cJ9_floorDiv_7cf53 3 (some .int)] ++ wsX30)
def wsX2_seaAt : List Cond := .code yX2_seaAt cX2_seaAt 4 (some .int) :: ([.fieldLink RX2 11 "SiltedFloats$State" "waves" "[LSiltedFloats$Wave;", .methodLink RX2 52 yX3_heightAt, .instanceMethod yX3_heightAt, .selects RX3 yX3_heightAt yX3_heightAt, .initialized RX3, .code yX3_heightAt cX3_heightAt 4 (some .int), .fieldLink RX3 17 "SiltedFloats$Wave" "period" "I", .fieldLink RX3 20 "SiltedFloats$Wave" "phase" "I", .fieldLink RX3 13 "SiltedFloats$Wave" "amplitude" "I", .methodLink RX3 23 yJ9_floorMod_7cf53, .static yJ9_floorMod_7cf53, .initialized RJ9, .code yJ9_floorMod_7cf53 cJ9_floorMod_7cf53 3 (some .int), .methodLink RX3 29 yJ9_floorDiv_7cf53, .static yJ9_floorDiv_7cf53, .code yJ9_floorDiv_7cf53 cJ9_floorDiv_7cf53 3 (some .int)] ++ wsX20 ++ wsX30)
def wsX2_waterAt_r1 : List Cond := [Cond.fieldLink RX2 56 "SiltedFloats$Gauge" "scale" "I", Cond.fieldLink RX2 59 "SiltedFloats$Gauge" "delay" "I", Cond.fieldLink RX2 71 "SiltedFloats$Gauge" "offset" "I", Cond.methodLink RX2 62 yX2_seaAt, Cond.instanceMethod yX2_seaAt, Cond.selects RX2 yX2_seaAt yX2_seaAt, Cond.initialized RX2, Cond.code yX2_seaAt cX2_seaAt 4 (some .int), Cond.fieldLink RX2 11 "SiltedFloats$State" "waves" "[LSiltedFloats$Wave;", Cond.methodLink RX2 52 yX3_heightAt, Cond.instanceMethod yX3_heightAt, Cond.selects RX3 yX3_heightAt yX3_heightAt, Cond.initialized RX3, Cond.code yX3_heightAt cX3_heightAt 4 (some .int), Cond.fieldLink RX3 17 "SiltedFloats$Wave" "period" "I", Cond.fieldLink RX3 20 "SiltedFloats$Wave" "phase" "I", Cond.fieldLink RX3 13 "SiltedFloats$Wave" "amplitude" "I", Cond.methodLink RX3 23 yJ9_floorMod_7cf53, Cond.static yJ9_floorMod_7cf53, Cond.initialized RJ9, Cond.code yJ9_floorMod_7cf53 cJ9_floorMod_7cf53 3 (some .int), Cond.methodLink RX3 29 yJ9_floorDiv_7cf53, Cond.static yJ9_floorDiv_7cf53, Cond.code yJ9_floorDiv_7cf53 cJ9_floorDiv_7cf53 3 (some .int)]
def wsX2_waterAt_r2 : List Cond := [Cond.methodLink RX2 65 yJ9_floorDiv_7cf53]
def wsX2_waterAt : List Cond := .code yX2_waterAt cX2_waterAt 3 (some .int) :: ((wsX2_waterAt_r1 ++ wsX2_waterAt_r2) ++ wsX00 ++ wsX20 ++ wsX30)
def wsX2_settleFloat_r1 : List Cond := [Cond.fieldLink RX2 78 "SiltedFloats$Gauge" "floatLevel" "I", Cond.methodLink RX2 74 yX2_waterAt, Cond.instanceMethod yX2_waterAt, Cond.selects RX2 yX2_waterAt yX2_waterAt, Cond.initialized RX2, Cond.code yX2_waterAt cX2_waterAt 3 (some .int), Cond.fieldLink RX2 56 "SiltedFloats$Gauge" "scale" "I", Cond.fieldLink RX2 59 "SiltedFloats$Gauge" "delay" "I", Cond.fieldLink RX2 71 "SiltedFloats$Gauge" "offset" "I", Cond.methodLink RX2 62 yX2_seaAt, Cond.instanceMethod yX2_seaAt, Cond.selects RX2 yX2_seaAt yX2_seaAt, Cond.code yX2_seaAt cX2_seaAt 4 (some .int), Cond.fieldLink RX2 11 "SiltedFloats$State" "waves" "[LSiltedFloats$Wave;", Cond.methodLink RX2 52 yX3_heightAt, Cond.instanceMethod yX3_heightAt, Cond.selects RX3 yX3_heightAt yX3_heightAt, Cond.initialized RX3, Cond.code yX3_heightAt cX3_heightAt 4 (some .int), Cond.fieldLink RX3 17 "SiltedFloats$Wave" "period" "I", Cond.fieldLink RX3 20 "SiltedFloats$Wave" "phase" "I", Cond.fieldLink RX3 13 "SiltedFloats$Wave" "amplitude" "I", Cond.methodLink RX3 23 yJ9_floorMod_7cf53, Cond.static yJ9_floorMod_7cf53]
def wsX2_settleFloat_r2 : List Cond := [Cond.initialized RJ9, Cond.code yJ9_floorMod_7cf53 cJ9_floorMod_7cf53 3 (some .int), Cond.methodLink RX3 29 yJ9_floorDiv_7cf53, Cond.static yJ9_floorDiv_7cf53, Cond.code yJ9_floorDiv_7cf53 cJ9_floorDiv_7cf53 3 (some .int), Cond.methodLink RX2 65 yJ9_floorDiv_7cf53]
def wsX2_settleFloat : List Cond := .code yX2_settleFloat cX2_settleFloat 2 none :: ((wsX2_settleFloat_r1 ++ wsX2_settleFloat_r2) ++ wsX00 ++ wsX20 ++ wsX30)
def wsX2_init_r1 : List Cond := [Cond.methodLink RX2 3 objectInit, Cond.instanceMethod objectInit, Cond.code objectInit ⟨#[0xb1]⟩ 1 none, Cond.classLink RX2 9 RX3, Cond.fieldLink RX2 11 "SiltedFloats$State" "waves" "[LSiltedFloats$Wave;", Cond.instantiable RX3 3, Cond.initialized RX3, Cond.classLink RX2 20 RX0, Cond.fieldLink RX2 22 "SiltedFloats$State" "gauges" "[LSiltedFloats$Gauge;", Cond.instantiable RX0 15, Cond.initialized RX0, Cond.methodLink RX2 17 yX3_init, Cond.instanceMethod yX3_init, Cond.code yX3_init cX3_init 4 none, Cond.methodLink RX3 1 objectInit, Cond.methodLink RX3 7 yX3_become, Cond.instanceMethod yX3_become, Cond.selects RX3 yX3_become yX3_become, Cond.code yX3_become cX3_become 4 none, Cond.fieldLink RX3 13 "SiltedFloats$Wave" "amplitude" "I", Cond.fieldLink RX3 17 "SiltedFloats$Wave" "period" "I", Cond.fieldLink RX3 20 "SiltedFloats$Wave" "phase" "I", Cond.methodLink RX2 26 yX0_init, Cond.instanceMethod yX0_init]
def wsX2_init_r2 : List Cond := [Cond.code yX0_init cX0_init 2 none, Cond.methodLink RX0 3 objectInit, Cond.fieldLink RX0 15 "SiltedFloats$Gauge" "on" "Z", Cond.fieldLink RX0 19 "SiltedFloats$Gauge" "notes" "I", Cond.arrayClass .int, Cond.fieldLink RX0 23 "SiltedFloats$Gauge" "kinds" "[I", Cond.fieldLink RX0 33 "SiltedFloats$Gauge" "values" "[I", Cond.fieldLink RX0 36 "SiltedFloats$Gauge" "corrections" "[I", Cond.methodLink RX0 9 yX0_become, Cond.instanceMethod yX0_become, Cond.selects RX0 yX0_become yX0_become, Cond.code yX0_become cX0_become 4 none, Cond.fieldLink RX0 39 "SiltedFloats$Gauge" "delay" "I", Cond.fieldLink RX0 42 "SiltedFloats$Gauge" "scale" "I", Cond.fieldLink RX0 45 "SiltedFloats$Gauge" "offset" "I", Cond.methodLink RX0 27 yJ7_fill_53178, Cond.static yJ7_fill_53178, Cond.initialized RJ7, Cond.code yJ7_fill_53178 cJ7_fill_53178 4 none, Cond.methodLink RX2 29 yX2_settleFloat, Cond.instanceMethod yX2_settleFloat, Cond.selects RX2 yX2_settleFloat yX2_settleFloat, Cond.initialized RX2, Cond.code yX2_settleFloat cX2_settleFloat 2 none]
def wsX2_init_r3 : List Cond := [Cond.fieldLink RX2 78 "SiltedFloats$Gauge" "floatLevel" "I", Cond.methodLink RX2 74 yX2_waterAt, Cond.instanceMethod yX2_waterAt, Cond.selects RX2 yX2_waterAt yX2_waterAt, Cond.code yX2_waterAt cX2_waterAt 3 (some .int), Cond.fieldLink RX2 56 "SiltedFloats$Gauge" "scale" "I", Cond.fieldLink RX2 59 "SiltedFloats$Gauge" "delay" "I", Cond.fieldLink RX2 71 "SiltedFloats$Gauge" "offset" "I", Cond.methodLink RX2 62 yX2_seaAt, Cond.instanceMethod yX2_seaAt, Cond.selects RX2 yX2_seaAt yX2_seaAt, Cond.code yX2_seaAt cX2_seaAt 4 (some .int), Cond.methodLink RX2 52 yX3_heightAt, Cond.instanceMethod yX3_heightAt, Cond.selects RX3 yX3_heightAt yX3_heightAt, Cond.code yX3_heightAt cX3_heightAt 4 (some .int), Cond.methodLink RX3 23 yJ9_floorMod_7cf53, Cond.static yJ9_floorMod_7cf53, Cond.initialized RJ9, Cond.code yJ9_floorMod_7cf53 cJ9_floorMod_7cf53 3 (some .int), Cond.methodLink RX3 29 yJ9_floorDiv_7cf53, Cond.static yJ9_floorDiv_7cf53, Cond.code yJ9_floorDiv_7cf53 cJ9_floorDiv_7cf53 3 (some .int), Cond.methodLink RX2 65 yJ9_floorDiv_7cf53]
def wsX2_init : List Cond := .code yX2_init cX2_init 2 none :: ((wsX2_init_r1 ++ (wsX2_init_r2 ++ wsX2_init_r3)) ++ wsX20 ++ wsX30 ++ wsX00)
def wsX2_copyFrom_r1 : List Cond := [Cond.fieldLink RX2 33 "SiltedFloats$State" "hour" "I", Cond.fieldLink RX2 11 "SiltedFloats$State" "waves" "[LSiltedFloats$Wave;", Cond.fieldLink RX2 37 "SiltedFloats$Wave" "amplitude" "I", Cond.fieldLink RX2 40 "SiltedFloats$Wave" "period" "I", Cond.fieldLink RX2 43 "SiltedFloats$Wave" "phase" "I", Cond.fieldLink RX2 22 "SiltedFloats$State" "gauges" "[LSiltedFloats$Gauge;", Cond.methodLink RX2 46 yX3_become, Cond.instanceMethod yX3_become, Cond.selects RX3 yX3_become yX3_become, Cond.initialized RX3, Cond.code yX3_become cX3_become 4 none, Cond.fieldLink RX3 13 "SiltedFloats$Wave" "amplitude" "I", Cond.fieldLink RX3 17 "SiltedFloats$Wave" "period" "I", Cond.fieldLink RX3 20 "SiltedFloats$Wave" "phase" "I", Cond.methodLink RX2 49 yX0_copyFrom, Cond.instanceMethod yX0_copyFrom, Cond.selects RX0 yX0_copyFrom yX0_copyFrom, Cond.initialized RX0, Cond.code yX0_copyFrom cX0_copyFrom 2 none, Cond.fieldLink RX0 39 "SiltedFloats$Gauge" "delay" "I", Cond.fieldLink RX0 42 "SiltedFloats$Gauge" "scale" "I", Cond.fieldLink RX0 45 "SiltedFloats$Gauge" "offset" "I", Cond.fieldLink RX0 48 "SiltedFloats$Gauge" "floatLevel" "I", Cond.fieldLink RX0 51 "SiltedFloats$Gauge" "silt" "I"]
def wsX2_copyFrom_r2 : List Cond := [Cond.fieldLink RX0 54 "SiltedFloats$Gauge" "silting" "I", Cond.fieldLink RX0 57 "SiltedFloats$Gauge" "sinking" "I", Cond.fieldLink RX0 60 "SiltedFloats$Gauge" "sunk" "I", Cond.fieldLink RX0 15 "SiltedFloats$Gauge" "on" "Z", Cond.fieldLink RX0 19 "SiltedFloats$Gauge" "notes" "I", Cond.fieldLink RX0 63 "SiltedFloats$Gauge" "lastNote" "I", Cond.fieldLink RX0 66 "SiltedFloats$Gauge" "lastNoteHour" "I", Cond.fieldLink RX0 23 "SiltedFloats$Gauge" "kinds" "[I", Cond.methodLink RX0 69 arraycopyName, Cond.native arraycopyName, Cond.static arraycopyName, Cond.initialized "java/lang/System", Cond.fieldLink RX0 33 "SiltedFloats$Gauge" "values" "[I", Cond.fieldLink RX0 36 "SiltedFloats$Gauge" "corrections" "[I", Cond.methodLink RX0 9 yX0_become, Cond.instanceMethod yX0_become, Cond.selects RX0 yX0_become yX0_become, Cond.code yX0_become cX0_become 4 none]
def wsX2_copyFrom : List Cond := .code yX2_copyFrom cX2_copyFrom 3 none :: ((wsX2_copyFrom_r1 ++ wsX2_copyFrom_r2) ++ wsX20 ++ wsX30 ++ wsX00)
def wsX2_settleFloats_r1 : List Cond := [Cond.fieldLink RX2 22 "SiltedFloats$State" "gauges" "[LSiltedFloats$Gauge;", Cond.methodLink RX2 29 yX2_settleFloat, Cond.instanceMethod yX2_settleFloat, Cond.selects RX2 yX2_settleFloat yX2_settleFloat, Cond.initialized RX2, Cond.code yX2_settleFloat cX2_settleFloat 2 none, Cond.fieldLink RX2 78 "SiltedFloats$Gauge" "floatLevel" "I", Cond.methodLink RX2 74 yX2_waterAt, Cond.instanceMethod yX2_waterAt, Cond.selects RX2 yX2_waterAt yX2_waterAt, Cond.code yX2_waterAt cX2_waterAt 3 (some .int), Cond.fieldLink RX2 56 "SiltedFloats$Gauge" "scale" "I", Cond.fieldLink RX2 59 "SiltedFloats$Gauge" "delay" "I", Cond.fieldLink RX2 71 "SiltedFloats$Gauge" "offset" "I", Cond.methodLink RX2 62 yX2_seaAt, Cond.instanceMethod yX2_seaAt, Cond.selects RX2 yX2_seaAt yX2_seaAt, Cond.code yX2_seaAt cX2_seaAt 4 (some .int), Cond.fieldLink RX2 11 "SiltedFloats$State" "waves" "[LSiltedFloats$Wave;", Cond.methodLink RX2 52 yX3_heightAt, Cond.instanceMethod yX3_heightAt, Cond.selects RX3 yX3_heightAt yX3_heightAt, Cond.initialized RX3, Cond.code yX3_heightAt cX3_heightAt 4 (some .int)]
def wsX2_settleFloats_r2 : List Cond := [Cond.fieldLink RX3 17 "SiltedFloats$Wave" "period" "I", Cond.fieldLink RX3 20 "SiltedFloats$Wave" "phase" "I", Cond.fieldLink RX3 13 "SiltedFloats$Wave" "amplitude" "I", Cond.methodLink RX3 23 yJ9_floorMod_7cf53, Cond.static yJ9_floorMod_7cf53, Cond.initialized RJ9, Cond.code yJ9_floorMod_7cf53 cJ9_floorMod_7cf53 3 (some .int), Cond.methodLink RX3 29 yJ9_floorDiv_7cf53, Cond.static yJ9_floorDiv_7cf53, Cond.code yJ9_floorDiv_7cf53 cJ9_floorDiv_7cf53 3 (some .int), Cond.methodLink RX2 65 yJ9_floorDiv_7cf53]
def wsX2_settleFloats : List Cond := .code yX2_settleFloats cX2_settleFloats 2 none :: ((wsX2_settleFloats_r1 ++ wsX2_settleFloats_r2) ++ wsX20 ++ wsX00 ++ wsX30)
def wsX2_passHours_r1 : List Cond := [Cond.fieldLink RX2 33 "SiltedFloats$State" "hour" "I", Cond.fieldLink RX2 22 "SiltedFloats$State" "gauges" "[LSiltedFloats$Gauge;", Cond.methodLink RX2 74 yX2_waterAt, Cond.instanceMethod yX2_waterAt, Cond.selects RX2 yX2_waterAt yX2_waterAt, Cond.initialized RX2, Cond.code yX2_waterAt cX2_waterAt 3 (some .int), Cond.fieldLink RX2 56 "SiltedFloats$Gauge" "scale" "I", Cond.fieldLink RX2 59 "SiltedFloats$Gauge" "delay" "I", Cond.fieldLink RX2 71 "SiltedFloats$Gauge" "offset" "I", Cond.methodLink RX2 62 yX2_seaAt, Cond.instanceMethod yX2_seaAt, Cond.selects RX2 yX2_seaAt yX2_seaAt, Cond.code yX2_seaAt cX2_seaAt 4 (some .int), Cond.fieldLink RX2 11 "SiltedFloats$State" "waves" "[LSiltedFloats$Wave;", Cond.methodLink RX2 52 yX3_heightAt, Cond.instanceMethod yX3_heightAt, Cond.selects RX3 yX3_heightAt yX3_heightAt, Cond.initialized RX3, Cond.code yX3_heightAt cX3_heightAt 4 (some .int), Cond.fieldLink RX3 17 "SiltedFloats$Wave" "period" "I", Cond.fieldLink RX3 20 "SiltedFloats$Wave" "phase" "I", Cond.fieldLink RX3 13 "SiltedFloats$Wave" "amplitude" "I", Cond.methodLink RX3 23 yJ9_floorMod_7cf53]
def wsX2_passHours_r2 : List Cond := [Cond.static yJ9_floorMod_7cf53, Cond.initialized RJ9, Cond.code yJ9_floorMod_7cf53 cJ9_floorMod_7cf53 3 (some .int), Cond.methodLink RX3 29 yJ9_floorDiv_7cf53, Cond.static yJ9_floorDiv_7cf53, Cond.code yJ9_floorDiv_7cf53 cJ9_floorDiv_7cf53 3 (some .int), Cond.methodLink RX2 65 yJ9_floorDiv_7cf53, Cond.methodLink RX2 81 yX0_passHour, Cond.instanceMethod yX0_passHour, Cond.selects RX0 yX0_passHour yX0_passHour, Cond.initialized RX0, Cond.code yX0_passHour cX0_passHour 3 none, Cond.fieldLink RX0 48 "SiltedFloats$Gauge" "floatLevel" "I", Cond.fieldLink RX0 51 "SiltedFloats$Gauge" "silt" "I", Cond.fieldLink RX0 23 "SiltedFloats$Gauge" "kinds" "[I", Cond.fieldLink RX0 15 "SiltedFloats$Gauge" "on" "Z", Cond.fieldLink RX0 33 "SiltedFloats$Gauge" "values" "[I", Cond.fieldLink RX0 60 "SiltedFloats$Gauge" "sunk" "I", Cond.fieldLink RX0 36 "SiltedFloats$Gauge" "corrections" "[I", Cond.fieldLink RX0 63 "SiltedFloats$Gauge" "lastNote" "I", Cond.fieldLink RX0 54 "SiltedFloats$Gauge" "silting" "I", Cond.fieldLink RX0 57 "SiltedFloats$Gauge" "sinking" "I", Cond.methodLink RX0 75 yJ9_floorDiv_7cf53, Cond.methodLink RX0 81 yX0_isDue]
def wsX2_passHours_r3 : List Cond := [Cond.static yX0_isDue, Cond.code yX0_isDue cX0_isDue 2 (some .boolean)]
def wsX2_passHours : List Cond := .code yX2_passHours cX2_passHours 4 none :: ((wsX2_passHours_r1 ++ (wsX2_passHours_r2 ++ wsX2_passHours_r3)) ++ wsX20 ++ wsX00 ++ wsX30)
def wsX4_isStation : List Cond := .code yX4_isStation cX4_isStation 1 (some .boolean) :: ([])
def wsX2_obeyAt_r1 : List Cond := [Cond.fieldLink RX2 96 "SiltedFloats$Gauge" "on" "Z", Cond.fieldLink RX2 100 "SiltedFloats$Gauge" "silt" "I", Cond.fieldLink RX2 33 "SiltedFloats$State" "hour" "I", Cond.methodLink RX2 103 yX0_noteAt, Cond.instanceMethod yX0_noteAt, Cond.selects RX0 yX0_noteAt yX0_noteAt, Cond.initialized RX0, Cond.code yX0_noteAt cX0_noteAt 3 none, Cond.fieldLink RX0 66 "SiltedFloats$Gauge" "lastNoteHour" "I", Cond.methodLink RX0 89 Lib.Math.max.name, Cond.static Lib.Math.max.name, Cond.initialized "java/lang/Math", Cond.code Lib.Math.max.name Lib.Math.max.code 2 (some .int), Cond.fieldLink RX0 36 "SiltedFloats$Gauge" "corrections" "[I", Cond.fieldLink RX0 63 "SiltedFloats$Gauge" "lastNote" "I", Cond.fieldLink RX0 60 "SiltedFloats$Gauge" "sunk" "I", Cond.fieldLink RX0 19 "SiltedFloats$Gauge" "notes" "I", Cond.methodLink RX0 85 yX0_isNotedAt, Cond.instanceMethod yX0_isNotedAt, Cond.selects RX0 yX0_isNotedAt yX0_isNotedAt, Cond.code yX0_isNotedAt cX0_isNotedAt 2 (some .boolean), Cond.static yX4_shareOf, Cond.initialized RX4, Cond.code yX4_shareOf cX4_shareOf 3 (some .int)]
def wsX2_obeyAt_r2 : List Cond := [Cond.methodLink RX4 230 yJ9_floorDiv_7cf53, Cond.static yJ9_floorDiv_7cf53, Cond.initialized RJ9, Cond.code yJ9_floorDiv_7cf53 cJ9_floorDiv_7cf53 3 (some .int)]
def wsX2_obeyAt : List Cond := .code yX2_obeyAt cX2_obeyAt 3 none :: ((wsX2_obeyAt_r1 ++ wsX2_obeyAt_r2) ++ wsX00 ++ wsX20)
def wsX2_obey_r1 : List Cond := [Cond.fieldLink RX2 22 "SiltedFloats$State" "gauges" "[LSiltedFloats$Gauge;", Cond.methodLink RX2 85 yX2_passHours, Cond.instanceMethod yX2_passHours, Cond.selects RX2 yX2_passHours yX2_passHours, Cond.initialized RX2, Cond.code yX2_passHours cX2_passHours 4 none, Cond.fieldLink RX2 33 "SiltedFloats$State" "hour" "I", Cond.methodLink RX2 74 yX2_waterAt, Cond.instanceMethod yX2_waterAt, Cond.selects RX2 yX2_waterAt yX2_waterAt, Cond.code yX2_waterAt cX2_waterAt 3 (some .int), Cond.fieldLink RX2 56 "SiltedFloats$Gauge" "scale" "I", Cond.fieldLink RX2 59 "SiltedFloats$Gauge" "delay" "I", Cond.fieldLink RX2 71 "SiltedFloats$Gauge" "offset" "I", Cond.methodLink RX2 62 yX2_seaAt, Cond.instanceMethod yX2_seaAt, Cond.selects RX2 yX2_seaAt yX2_seaAt, Cond.code yX2_seaAt cX2_seaAt 4 (some .int), Cond.fieldLink RX2 11 "SiltedFloats$State" "waves" "[LSiltedFloats$Wave;", Cond.methodLink RX2 52 yX3_heightAt, Cond.instanceMethod yX3_heightAt, Cond.selects RX3 yX3_heightAt yX3_heightAt, Cond.initialized RX3, Cond.code yX3_heightAt cX3_heightAt 4 (some .int)]
def wsX2_obey_r2 : List Cond := [Cond.fieldLink RX3 17 "SiltedFloats$Wave" "period" "I", Cond.fieldLink RX3 20 "SiltedFloats$Wave" "phase" "I", Cond.fieldLink RX3 13 "SiltedFloats$Wave" "amplitude" "I", Cond.methodLink RX3 23 yJ9_floorMod_7cf53, Cond.static yJ9_floorMod_7cf53, Cond.initialized RJ9, Cond.code yJ9_floorMod_7cf53 cJ9_floorMod_7cf53 3 (some .int), Cond.methodLink RX3 29 yJ9_floorDiv_7cf53, Cond.static yJ9_floorDiv_7cf53, Cond.code yJ9_floorDiv_7cf53 cJ9_floorDiv_7cf53 3 (some .int), Cond.methodLink RX2 65 yJ9_floorDiv_7cf53, Cond.methodLink RX2 81 yX0_passHour, Cond.instanceMethod yX0_passHour, Cond.selects RX0 yX0_passHour yX0_passHour, Cond.initialized RX0, Cond.code yX0_passHour cX0_passHour 3 none, Cond.fieldLink RX0 48 "SiltedFloats$Gauge" "floatLevel" "I", Cond.fieldLink RX0 51 "SiltedFloats$Gauge" "silt" "I", Cond.fieldLink RX0 23 "SiltedFloats$Gauge" "kinds" "[I", Cond.fieldLink RX0 15 "SiltedFloats$Gauge" "on" "Z", Cond.fieldLink RX0 33 "SiltedFloats$Gauge" "values" "[I", Cond.fieldLink RX0 60 "SiltedFloats$Gauge" "sunk" "I", Cond.fieldLink RX0 36 "SiltedFloats$Gauge" "corrections" "[I", Cond.fieldLink RX0 63 "SiltedFloats$Gauge" "lastNote" "I"]
def wsX2_obey_r3 : List Cond := [Cond.fieldLink RX0 54 "SiltedFloats$Gauge" "silting" "I", Cond.fieldLink RX0 57 "SiltedFloats$Gauge" "sinking" "I", Cond.methodLink RX0 75 yJ9_floorDiv_7cf53, Cond.methodLink RX0 81 yX0_isDue, Cond.static yX0_isDue, Cond.code yX0_isDue cX0_isDue 2 (some .boolean), Cond.static yX4_isStation, Cond.initialized RX4, Cond.code yX4_isStation cX4_isStation 1 (some .boolean), Cond.methodLink RX2 92 yX2_obeyAt, Cond.instanceMethod yX2_obeyAt, Cond.selects RX2 yX2_obeyAt yX2_obeyAt, Cond.code yX2_obeyAt cX2_obeyAt 3 none, Cond.fieldLink RX2 96 "SiltedFloats$Gauge" "on" "Z", Cond.fieldLink RX2 100 "SiltedFloats$Gauge" "silt" "I", Cond.methodLink RX2 103 yX0_noteAt, Cond.instanceMethod yX0_noteAt, Cond.selects RX0 yX0_noteAt yX0_noteAt, Cond.code yX0_noteAt cX0_noteAt 3 none, Cond.fieldLink RX0 66 "SiltedFloats$Gauge" "lastNoteHour" "I", Cond.methodLink RX0 89 Lib.Math.max.name, Cond.static Lib.Math.max.name, Cond.initialized "java/lang/Math", Cond.code Lib.Math.max.name Lib.Math.max.code 2 (some .int)]
def wsX2_obey_r4 : List Cond := [Cond.fieldLink RX0 19 "SiltedFloats$Gauge" "notes" "I", Cond.methodLink RX0 85 yX0_isNotedAt, Cond.instanceMethod yX0_isNotedAt, Cond.selects RX0 yX0_isNotedAt yX0_isNotedAt, Cond.code yX0_isNotedAt cX0_isNotedAt 2 (some .boolean), Cond.static yX4_shareOf, Cond.code yX4_shareOf cX4_shareOf 3 (some .int), Cond.methodLink RX4 230 yJ9_floorDiv_7cf53]
def wsX2_obey : List Cond := .code yX2_obey cX2_obey 3 none :: ((wsX2_obey_r1 ++ (wsX2_obey_r2 ++ (wsX2_obey_r3 ++ wsX2_obey_r4))) ++ wsX20 ++ wsX00 ++ wsX30)
def wsX2_stationsOn : List Cond := .code yX2_stationsOn cX2_stationsOn 3 (some .int) :: ([.fieldLink RX2 22 "SiltedFloats$State" "gauges" "[LSiltedFloats$Gauge;", .fieldLink RX2 96 "SiltedFloats$Gauge" "on" "Z"] ++ wsX20 ++ wsX00)
def wsX2_hoursOfKind : List Cond := .code yX2_hoursOfKind cX2_hoursOfKind 4 (some .int) :: ([.fieldLink RX2 22 "SiltedFloats$State" "gauges" "[LSiltedFloats$Gauge;", .methodLink RX2 106 yX0_hoursOfKind, .instanceMethod yX0_hoursOfKind, .selects RX0 yX0_hoursOfKind yX0_hoursOfKind, .initialized RX0, .code yX0_hoursOfKind cX0_hoursOfKind 4 (some .int), .fieldLink RX0 23 "SiltedFloats$Gauge" "kinds" "[I"] ++ wsX20 ++ wsX00)
def wsX3_isSo : List Cond := .code yX3_isSo cX3_isSo 4 (some .boolean) :: ([.fieldLink RX3 13 "SiltedFloats$Wave" "amplitude" "I", .fieldLink RX3 17 "SiltedFloats$Wave" "period" "I", .fieldLink RX3 20 "SiltedFloats$Wave" "phase" "I"] ++ wsX30)
def wsX4_init_r1 : List Cond := [Cond.methodLink RX4 1 objectInit, Cond.instanceMethod objectInit, Cond.code objectInit ⟨#[0xb1]⟩ 1 none, Cond.classLink RX4 7 RX2, Cond.instantiable RX2 3, Cond.initialized RX2, Cond.fieldLink RX4 10 "SiltedFloats" "now" "LSiltedFloats$State;", Cond.fieldLink RX4 16 "SiltedFloats" "kept" "LSiltedFloats$State;", Cond.fieldLink RX4 19 "SiltedFloats" "past" "[LSiltedFloats$State;", Cond.classLink RX4 23 RX1, Cond.instantiable RX1 2, Cond.initialized RX1, Cond.fieldLink RX4 26 "SiltedFloats" "text" "LSiltedFloats$OrderText;", Cond.methodLink RX4 9 yX2_init, Cond.instanceMethod yX2_init, Cond.code yX2_init cX2_init 2 none, Cond.methodLink RX2 3 objectInit, Cond.classLink RX2 9 RX3, Cond.fieldLink RX2 11 "SiltedFloats$State" "waves" "[LSiltedFloats$Wave;", Cond.instantiable RX3 3, Cond.initialized RX3, Cond.classLink RX2 20 RX0, Cond.fieldLink RX2 22 "SiltedFloats$State" "gauges" "[LSiltedFloats$Gauge;", Cond.instantiable RX0 15]
def wsX4_init_r2 : List Cond := [Cond.initialized RX0, Cond.methodLink RX2 17 yX3_init, Cond.instanceMethod yX3_init, Cond.code yX3_init cX3_init 4 none, Cond.methodLink RX3 1 objectInit, Cond.methodLink RX3 7 yX3_become, Cond.instanceMethod yX3_become, Cond.selects RX3 yX3_become yX3_become, Cond.code yX3_become cX3_become 4 none, Cond.fieldLink RX3 13 "SiltedFloats$Wave" "amplitude" "I", Cond.fieldLink RX3 17 "SiltedFloats$Wave" "period" "I", Cond.fieldLink RX3 20 "SiltedFloats$Wave" "phase" "I", Cond.methodLink RX2 26 yX0_init, Cond.instanceMethod yX0_init, Cond.code yX0_init cX0_init 2 none, Cond.methodLink RX0 3 objectInit, Cond.fieldLink RX0 15 "SiltedFloats$Gauge" "on" "Z", Cond.fieldLink RX0 19 "SiltedFloats$Gauge" "notes" "I", Cond.arrayClass .int, Cond.fieldLink RX0 23 "SiltedFloats$Gauge" "kinds" "[I", Cond.fieldLink RX0 33 "SiltedFloats$Gauge" "values" "[I", Cond.fieldLink RX0 36 "SiltedFloats$Gauge" "corrections" "[I", Cond.methodLink RX0 9 yX0_become, Cond.instanceMethod yX0_become]
def wsX4_init_r3 : List Cond := [Cond.selects RX0 yX0_become yX0_become, Cond.code yX0_become cX0_become 4 none, Cond.fieldLink RX0 39 "SiltedFloats$Gauge" "delay" "I", Cond.fieldLink RX0 42 "SiltedFloats$Gauge" "scale" "I", Cond.fieldLink RX0 45 "SiltedFloats$Gauge" "offset" "I", Cond.methodLink RX0 27 yJ7_fill_53178, Cond.static yJ7_fill_53178, Cond.initialized RJ7, Cond.code yJ7_fill_53178 cJ7_fill_53178 4 none, Cond.methodLink RX2 29 yX2_settleFloat, Cond.instanceMethod yX2_settleFloat, Cond.selects RX2 yX2_settleFloat yX2_settleFloat, Cond.code yX2_settleFloat cX2_settleFloat 2 none, Cond.fieldLink RX2 78 "SiltedFloats$Gauge" "floatLevel" "I", Cond.methodLink RX2 74 yX2_waterAt, Cond.instanceMethod yX2_waterAt, Cond.selects RX2 yX2_waterAt yX2_waterAt, Cond.code yX2_waterAt cX2_waterAt 3 (some .int), Cond.fieldLink RX2 56 "SiltedFloats$Gauge" "scale" "I", Cond.fieldLink RX2 59 "SiltedFloats$Gauge" "delay" "I", Cond.fieldLink RX2 71 "SiltedFloats$Gauge" "offset" "I", Cond.methodLink RX2 62 yX2_seaAt, Cond.instanceMethod yX2_seaAt, Cond.selects RX2 yX2_seaAt yX2_seaAt]
def wsX4_init_r4 : List Cond := [Cond.code yX2_seaAt cX2_seaAt 4 (some .int), Cond.methodLink RX2 52 yX3_heightAt, Cond.instanceMethod yX3_heightAt, Cond.selects RX3 yX3_heightAt yX3_heightAt, Cond.code yX3_heightAt cX3_heightAt 4 (some .int), Cond.methodLink RX3 23 yJ9_floorMod_7cf53, Cond.static yJ9_floorMod_7cf53, Cond.initialized RJ9, Cond.code yJ9_floorMod_7cf53 cJ9_floorMod_7cf53 3 (some .int), Cond.methodLink RX3 29 yJ9_floorDiv_7cf53, Cond.static yJ9_floorDiv_7cf53, Cond.code yJ9_floorDiv_7cf53 cJ9_floorDiv_7cf53 3 (some .int), Cond.methodLink RX2 65 yJ9_floorDiv_7cf53, Cond.methodLink RX4 25 yX1_init, Cond.instanceMethod yX1_init, Cond.code yX1_init cX1_init 1 none, Cond.methodLink RX1 3 objectInit, Cond.arrayClass .char, Cond.fieldLink RX1 9 "SiltedFloats$OrderText" "characters" "[C"]
def wsX4_init : List Cond := .code yX4_init cX4_init 2 none :: ((wsX4_init_r1 ++ (wsX4_init_r2 ++ (wsX4_init_r3 ++ wsX4_init_r4))) ++ wsX20 ++ wsX40 ++ wsX10 ++ wsX30 ++ wsX00)
def wsX4_dropOldest : List Cond := .code yX4_dropOldest cX4_dropOldest 3 none :: ([.fieldLink RX4 19 "SiltedFloats" "past" "[LSiltedFloats$State;", .fieldLink RX4 162 "SiltedFloats" "pastCount" "I"] ++ wsX40)
def wsX4_remember_r1 : List Cond := [Cond.fieldLink RX4 162 "SiltedFloats" "pastCount" "I", Cond.fieldLink RX4 19 "SiltedFloats" "past" "[LSiltedFloats$State;", Cond.fieldLink RX4 10 "SiltedFloats" "now" "LSiltedFloats$State;", Cond.methodLink RX4 227 yX4_dropOldest, Cond.instanceMethod yX4_dropOldest, Cond.selects RX4 yX4_dropOldest yX4_dropOldest, Cond.initialized RX4, Cond.code yX4_dropOldest cX4_dropOldest 3 none, Cond.methodLink RX4 165 yX2_copyFrom, Cond.instanceMethod yX2_copyFrom, Cond.selects RX2 yX2_copyFrom yX2_copyFrom, Cond.initialized RX2, Cond.code yX2_copyFrom cX2_copyFrom 3 none, Cond.fieldLink RX2 33 "SiltedFloats$State" "hour" "I", Cond.fieldLink RX2 11 "SiltedFloats$State" "waves" "[LSiltedFloats$Wave;", Cond.fieldLink RX2 37 "SiltedFloats$Wave" "amplitude" "I", Cond.fieldLink RX2 40 "SiltedFloats$Wave" "period" "I", Cond.fieldLink RX2 43 "SiltedFloats$Wave" "phase" "I", Cond.fieldLink RX2 22 "SiltedFloats$State" "gauges" "[LSiltedFloats$Gauge;", Cond.methodLink RX2 46 yX3_become, Cond.instanceMethod yX3_become, Cond.selects RX3 yX3_become yX3_become, Cond.initialized RX3, Cond.code yX3_become cX3_become 4 none]
def wsX4_remember_r2 : List Cond := [Cond.fieldLink RX3 13 "SiltedFloats$Wave" "amplitude" "I", Cond.fieldLink RX3 17 "SiltedFloats$Wave" "period" "I", Cond.fieldLink RX3 20 "SiltedFloats$Wave" "phase" "I", Cond.methodLink RX2 49 yX0_copyFrom, Cond.instanceMethod yX0_copyFrom, Cond.selects RX0 yX0_copyFrom yX0_copyFrom, Cond.initialized RX0, Cond.code yX0_copyFrom cX0_copyFrom 2 none, Cond.fieldLink RX0 39 "SiltedFloats$Gauge" "delay" "I", Cond.fieldLink RX0 42 "SiltedFloats$Gauge" "scale" "I", Cond.fieldLink RX0 45 "SiltedFloats$Gauge" "offset" "I", Cond.fieldLink RX0 48 "SiltedFloats$Gauge" "floatLevel" "I", Cond.fieldLink RX0 51 "SiltedFloats$Gauge" "silt" "I", Cond.fieldLink RX0 54 "SiltedFloats$Gauge" "silting" "I", Cond.fieldLink RX0 57 "SiltedFloats$Gauge" "sinking" "I", Cond.fieldLink RX0 60 "SiltedFloats$Gauge" "sunk" "I", Cond.fieldLink RX0 15 "SiltedFloats$Gauge" "on" "Z", Cond.fieldLink RX0 19 "SiltedFloats$Gauge" "notes" "I", Cond.fieldLink RX0 63 "SiltedFloats$Gauge" "lastNote" "I", Cond.fieldLink RX0 66 "SiltedFloats$Gauge" "lastNoteHour" "I", Cond.fieldLink RX0 23 "SiltedFloats$Gauge" "kinds" "[I", Cond.methodLink RX0 69 arraycopyName, Cond.native arraycopyName, Cond.static arraycopyName]
def wsX4_remember_r3 : List Cond := [Cond.initialized "java/lang/System", Cond.fieldLink RX0 33 "SiltedFloats$Gauge" "values" "[I", Cond.fieldLink RX0 36 "SiltedFloats$Gauge" "corrections" "[I", Cond.methodLink RX0 9 yX0_become, Cond.instanceMethod yX0_become, Cond.selects RX0 yX0_become yX0_become, Cond.code yX0_become cX0_become 4 none]
def wsX4_remember : List Cond := .code yX4_remember cX4_remember 1 none :: ((wsX4_remember_r1 ++ (wsX4_remember_r2 ++ wsX4_remember_r3)) ++ wsX40 ++ wsX20 ++ wsX30 ++ wsX00)
def wsX4_setWave_r1 : List Cond := [Cond.fieldLink RX4 10 "SiltedFloats" "now" "LSiltedFloats$State;", Cond.fieldLink RX4 34 "SiltedFloats$State" "hour" "I", Cond.fieldLink RX4 38 "SiltedFloats$State" "waves" "[LSiltedFloats$Wave;", Cond.constant RX4 61 (100000), Cond.methodLink RX4 30 yX4_isWithin, Cond.static yX4_isWithin, Cond.initialized RX4, Cond.code yX4_isWithin cX4_isWithin 3 (some .boolean), Cond.methodLink RX4 42 yX3_isSo, Cond.instanceMethod yX3_isSo, Cond.selects RX3 yX3_isSo yX3_isSo, Cond.initialized RX3, Cond.code yX3_isSo cX3_isSo 4 (some .boolean), Cond.fieldLink RX3 13 "SiltedFloats$Wave" "amplitude" "I", Cond.fieldLink RX3 17 "SiltedFloats$Wave" "period" "I", Cond.fieldLink RX3 20 "SiltedFloats$Wave" "phase" "I", Cond.methodLink RX4 47 yX4_remember, Cond.instanceMethod yX4_remember, Cond.selects RX4 yX4_remember yX4_remember, Cond.code yX4_remember cX4_remember 1 none, Cond.fieldLink RX4 162 "SiltedFloats" "pastCount" "I", Cond.fieldLink RX4 19 "SiltedFloats" "past" "[LSiltedFloats$State;", Cond.methodLink RX4 227 yX4_dropOldest, Cond.instanceMethod yX4_dropOldest]
def wsX4_setWave_r2 : List Cond := [Cond.selects RX4 yX4_dropOldest yX4_dropOldest, Cond.code yX4_dropOldest cX4_dropOldest 3 none, Cond.methodLink RX4 165 yX2_copyFrom, Cond.instanceMethod yX2_copyFrom, Cond.selects RX2 yX2_copyFrom yX2_copyFrom, Cond.initialized RX2, Cond.code yX2_copyFrom cX2_copyFrom 3 none, Cond.fieldLink RX2 33 "SiltedFloats$State" "hour" "I", Cond.fieldLink RX2 11 "SiltedFloats$State" "waves" "[LSiltedFloats$Wave;", Cond.fieldLink RX2 37 "SiltedFloats$Wave" "amplitude" "I", Cond.fieldLink RX2 40 "SiltedFloats$Wave" "period" "I", Cond.fieldLink RX2 43 "SiltedFloats$Wave" "phase" "I", Cond.fieldLink RX2 22 "SiltedFloats$State" "gauges" "[LSiltedFloats$Gauge;", Cond.methodLink RX2 46 yX3_become, Cond.instanceMethod yX3_become, Cond.selects RX3 yX3_become yX3_become, Cond.code yX3_become cX3_become 4 none, Cond.methodLink RX2 49 yX0_copyFrom, Cond.instanceMethod yX0_copyFrom, Cond.selects RX0 yX0_copyFrom yX0_copyFrom, Cond.initialized RX0, Cond.code yX0_copyFrom cX0_copyFrom 2 none, Cond.fieldLink RX0 39 "SiltedFloats$Gauge" "delay" "I", Cond.fieldLink RX0 42 "SiltedFloats$Gauge" "scale" "I"]
def wsX4_setWave_r3 : List Cond := [Cond.fieldLink RX0 45 "SiltedFloats$Gauge" "offset" "I", Cond.fieldLink RX0 48 "SiltedFloats$Gauge" "floatLevel" "I", Cond.fieldLink RX0 51 "SiltedFloats$Gauge" "silt" "I", Cond.fieldLink RX0 54 "SiltedFloats$Gauge" "silting" "I", Cond.fieldLink RX0 57 "SiltedFloats$Gauge" "sinking" "I", Cond.fieldLink RX0 60 "SiltedFloats$Gauge" "sunk" "I", Cond.fieldLink RX0 15 "SiltedFloats$Gauge" "on" "Z", Cond.fieldLink RX0 19 "SiltedFloats$Gauge" "notes" "I", Cond.fieldLink RX0 63 "SiltedFloats$Gauge" "lastNote" "I", Cond.fieldLink RX0 66 "SiltedFloats$Gauge" "lastNoteHour" "I", Cond.fieldLink RX0 23 "SiltedFloats$Gauge" "kinds" "[I", Cond.methodLink RX0 69 arraycopyName, Cond.native arraycopyName, Cond.static arraycopyName, Cond.initialized "java/lang/System", Cond.fieldLink RX0 33 "SiltedFloats$Gauge" "values" "[I", Cond.fieldLink RX0 36 "SiltedFloats$Gauge" "corrections" "[I", Cond.methodLink RX0 9 yX0_become, Cond.instanceMethod yX0_become, Cond.selects RX0 yX0_become yX0_become, Cond.code yX0_become cX0_become 4 none, Cond.methodLink RX4 50 yX3_become, Cond.methodLink RX4 54 yX2_settleFloats, Cond.instanceMethod yX2_settleFloats]
def wsX4_setWave_r4 : List Cond := [Cond.selects RX2 yX2_settleFloats yX2_settleFloats, Cond.code yX2_settleFloats cX2_settleFloats 2 none, Cond.methodLink RX2 29 yX2_settleFloat, Cond.instanceMethod yX2_settleFloat, Cond.selects RX2 yX2_settleFloat yX2_settleFloat, Cond.code yX2_settleFloat cX2_settleFloat 2 none, Cond.fieldLink RX2 78 "SiltedFloats$Gauge" "floatLevel" "I", Cond.methodLink RX2 74 yX2_waterAt, Cond.instanceMethod yX2_waterAt, Cond.selects RX2 yX2_waterAt yX2_waterAt, Cond.code yX2_waterAt cX2_waterAt 3 (some .int), Cond.fieldLink RX2 56 "SiltedFloats$Gauge" "scale" "I", Cond.fieldLink RX2 59 "SiltedFloats$Gauge" "delay" "I", Cond.fieldLink RX2 71 "SiltedFloats$Gauge" "offset" "I", Cond.methodLink RX2 62 yX2_seaAt, Cond.instanceMethod yX2_seaAt, Cond.selects RX2 yX2_seaAt yX2_seaAt, Cond.code yX2_seaAt cX2_seaAt 4 (some .int), Cond.methodLink RX2 52 yX3_heightAt, Cond.instanceMethod yX3_heightAt, Cond.selects RX3 yX3_heightAt yX3_heightAt, Cond.code yX3_heightAt cX3_heightAt 4 (some .int), Cond.methodLink RX3 23 yJ9_floorMod_7cf53, Cond.static yJ9_floorMod_7cf53]
def wsX4_setWave_r5 : List Cond := [Cond.initialized RJ9, Cond.code yJ9_floorMod_7cf53 cJ9_floorMod_7cf53 3 (some .int), Cond.methodLink RX3 29 yJ9_floorDiv_7cf53, Cond.static yJ9_floorDiv_7cf53, Cond.code yJ9_floorDiv_7cf53 cJ9_floorDiv_7cf53 3 (some .int), Cond.methodLink RX2 65 yJ9_floorDiv_7cf53, Cond.methodLink RX4 57 yX2_seaAt]
def wsX4_setWave : List Cond := .code yX4_setWave cX4_setWave 5 (some .int) :: ((wsX4_setWave_r1 ++ (wsX4_setWave_r2 ++ (wsX4_setWave_r3 ++ (wsX4_setWave_r4 ++ wsX4_setWave_r5)))) ++ wsX40 ++ wsX20 ++ wsX30 ++ wsX00)
def wsX4_setStation_r1 : List Cond := [Cond.fieldLink RX4 10 "SiltedFloats" "now" "LSiltedFloats$State;", Cond.fieldLink RX4 34 "SiltedFloats$State" "hour" "I", Cond.fieldLink RX4 66 "SiltedFloats$State" "gauges" "[LSiltedFloats$Gauge;", Cond.fieldLink RX4 78 "SiltedFloats$Gauge" "floatLevel" "I", Cond.constant RX4 61 (100000), Cond.methodLink RX4 62 yX4_isStation, Cond.static yX4_isStation, Cond.initialized RX4, Cond.code yX4_isStation cX4_isStation 1 (some .boolean), Cond.methodLink RX4 30 yX4_isWithin, Cond.static yX4_isWithin, Cond.code yX4_isWithin cX4_isWithin 3 (some .boolean), Cond.methodLink RX4 70 yX0_isSo, Cond.instanceMethod yX0_isSo, Cond.selects RX0 yX0_isSo yX0_isSo, Cond.initialized RX0, Cond.code yX0_isSo cX0_isSo 4 (some .boolean), Cond.fieldLink RX0 39 "SiltedFloats$Gauge" "delay" "I", Cond.fieldLink RX0 42 "SiltedFloats$Gauge" "scale" "I", Cond.fieldLink RX0 45 "SiltedFloats$Gauge" "offset" "I", Cond.methodLink RX4 47 yX4_remember, Cond.instanceMethod yX4_remember, Cond.selects RX4 yX4_remember yX4_remember, Cond.code yX4_remember cX4_remember 1 none]
def wsX4_setStation_r2 : List Cond := [Cond.fieldLink RX4 162 "SiltedFloats" "pastCount" "I", Cond.fieldLink RX4 19 "SiltedFloats" "past" "[LSiltedFloats$State;", Cond.methodLink RX4 227 yX4_dropOldest, Cond.instanceMethod yX4_dropOldest, Cond.selects RX4 yX4_dropOldest yX4_dropOldest, Cond.code yX4_dropOldest cX4_dropOldest 3 none, Cond.methodLink RX4 165 yX2_copyFrom, Cond.instanceMethod yX2_copyFrom, Cond.selects RX2 yX2_copyFrom yX2_copyFrom, Cond.initialized RX2, Cond.code yX2_copyFrom cX2_copyFrom 3 none, Cond.fieldLink RX2 33 "SiltedFloats$State" "hour" "I", Cond.fieldLink RX2 11 "SiltedFloats$State" "waves" "[LSiltedFloats$Wave;", Cond.fieldLink RX2 37 "SiltedFloats$Wave" "amplitude" "I", Cond.fieldLink RX2 40 "SiltedFloats$Wave" "period" "I", Cond.fieldLink RX2 43 "SiltedFloats$Wave" "phase" "I", Cond.fieldLink RX2 22 "SiltedFloats$State" "gauges" "[LSiltedFloats$Gauge;", Cond.methodLink RX2 46 yX3_become, Cond.instanceMethod yX3_become, Cond.selects RX3 yX3_become yX3_become, Cond.initialized RX3, Cond.code yX3_become cX3_become 4 none, Cond.fieldLink RX3 13 "SiltedFloats$Wave" "amplitude" "I", Cond.fieldLink RX3 17 "SiltedFloats$Wave" "period" "I"]
def wsX4_setStation_r3 : List Cond := [Cond.fieldLink RX3 20 "SiltedFloats$Wave" "phase" "I", Cond.methodLink RX2 49 yX0_copyFrom, Cond.instanceMethod yX0_copyFrom, Cond.selects RX0 yX0_copyFrom yX0_copyFrom, Cond.code yX0_copyFrom cX0_copyFrom 2 none, Cond.fieldLink RX0 48 "SiltedFloats$Gauge" "floatLevel" "I", Cond.fieldLink RX0 51 "SiltedFloats$Gauge" "silt" "I", Cond.fieldLink RX0 54 "SiltedFloats$Gauge" "silting" "I", Cond.fieldLink RX0 57 "SiltedFloats$Gauge" "sinking" "I", Cond.fieldLink RX0 60 "SiltedFloats$Gauge" "sunk" "I", Cond.fieldLink RX0 15 "SiltedFloats$Gauge" "on" "Z", Cond.fieldLink RX0 19 "SiltedFloats$Gauge" "notes" "I", Cond.fieldLink RX0 63 "SiltedFloats$Gauge" "lastNote" "I", Cond.fieldLink RX0 66 "SiltedFloats$Gauge" "lastNoteHour" "I", Cond.fieldLink RX0 23 "SiltedFloats$Gauge" "kinds" "[I", Cond.methodLink RX0 69 arraycopyName, Cond.native arraycopyName, Cond.static arraycopyName, Cond.initialized "java/lang/System", Cond.fieldLink RX0 33 "SiltedFloats$Gauge" "values" "[I", Cond.fieldLink RX0 36 "SiltedFloats$Gauge" "corrections" "[I", Cond.methodLink RX0 9 yX0_become, Cond.instanceMethod yX0_become, Cond.selects RX0 yX0_become yX0_become]
def wsX4_setStation_r4 : List Cond := [Cond.code yX0_become cX0_become 4 none, Cond.methodLink RX4 73 yX0_become, Cond.methodLink RX4 74 yX2_settleFloat, Cond.instanceMethod yX2_settleFloat, Cond.selects RX2 yX2_settleFloat yX2_settleFloat, Cond.code yX2_settleFloat cX2_settleFloat 2 none, Cond.fieldLink RX2 78 "SiltedFloats$Gauge" "floatLevel" "I", Cond.methodLink RX2 74 yX2_waterAt, Cond.instanceMethod yX2_waterAt, Cond.selects RX2 yX2_waterAt yX2_waterAt, Cond.code yX2_waterAt cX2_waterAt 3 (some .int), Cond.fieldLink RX2 56 "SiltedFloats$Gauge" "scale" "I", Cond.fieldLink RX2 59 "SiltedFloats$Gauge" "delay" "I", Cond.fieldLink RX2 71 "SiltedFloats$Gauge" "offset" "I", Cond.methodLink RX2 62 yX2_seaAt, Cond.instanceMethod yX2_seaAt, Cond.selects RX2 yX2_seaAt yX2_seaAt, Cond.code yX2_seaAt cX2_seaAt 4 (some .int), Cond.methodLink RX2 52 yX3_heightAt, Cond.instanceMethod yX3_heightAt, Cond.selects RX3 yX3_heightAt yX3_heightAt, Cond.code yX3_heightAt cX3_heightAt 4 (some .int), Cond.methodLink RX3 23 yJ9_floorMod_7cf53, Cond.static yJ9_floorMod_7cf53]
def wsX4_setStation_r5 : List Cond := [Cond.initialized RJ9, Cond.code yJ9_floorMod_7cf53 cJ9_floorMod_7cf53 3 (some .int), Cond.methodLink RX3 29 yJ9_floorDiv_7cf53, Cond.static yJ9_floorDiv_7cf53, Cond.code yJ9_floorDiv_7cf53 cJ9_floorDiv_7cf53 3 (some .int), Cond.methodLink RX2 65 yJ9_floorDiv_7cf53]
def wsX4_setStation : List Cond := .code yX4_setStation cX4_setStation 6 (some .int) :: ((wsX4_setStation_r1 ++ (wsX4_setStation_r2 ++ (wsX4_setStation_r3 ++ (wsX4_setStation_r4 ++ wsX4_setStation_r5)))) ++ wsX40 ++ wsX20 ++ wsX00 ++ wsX30)
def wsX4_setRate_r1 : List Cond := [Cond.fieldLink RX4 10 "SiltedFloats" "now" "LSiltedFloats$State;", Cond.fieldLink RX4 66 "SiltedFloats$State" "gauges" "[LSiltedFloats$Gauge;", Cond.fieldLink RX4 81 "SiltedFloats$Gauge" "sinking" "I", Cond.fieldLink RX4 84 "SiltedFloats$Gauge" "silting" "I", Cond.methodLink RX4 62 yX4_isStation, Cond.static yX4_isStation, Cond.initialized RX4, Cond.code yX4_isStation cX4_isStation 1 (some .boolean), Cond.methodLink RX4 30 yX4_isWithin, Cond.static yX4_isWithin, Cond.code yX4_isWithin cX4_isWithin 3 (some .boolean), Cond.methodLink RX4 47 yX4_remember, Cond.instanceMethod yX4_remember, Cond.selects RX4 yX4_remember yX4_remember, Cond.code yX4_remember cX4_remember 1 none, Cond.fieldLink RX4 162 "SiltedFloats" "pastCount" "I", Cond.fieldLink RX4 19 "SiltedFloats" "past" "[LSiltedFloats$State;", Cond.methodLink RX4 227 yX4_dropOldest, Cond.instanceMethod yX4_dropOldest, Cond.selects RX4 yX4_dropOldest yX4_dropOldest, Cond.code yX4_dropOldest cX4_dropOldest 3 none, Cond.methodLink RX4 165 yX2_copyFrom, Cond.instanceMethod yX2_copyFrom, Cond.selects RX2 yX2_copyFrom yX2_copyFrom]
def wsX4_setRate_r2 : List Cond := [Cond.initialized RX2, Cond.code yX2_copyFrom cX2_copyFrom 3 none, Cond.fieldLink RX2 33 "SiltedFloats$State" "hour" "I", Cond.fieldLink RX2 11 "SiltedFloats$State" "waves" "[LSiltedFloats$Wave;", Cond.fieldLink RX2 37 "SiltedFloats$Wave" "amplitude" "I", Cond.fieldLink RX2 40 "SiltedFloats$Wave" "period" "I", Cond.fieldLink RX2 43 "SiltedFloats$Wave" "phase" "I", Cond.fieldLink RX2 22 "SiltedFloats$State" "gauges" "[LSiltedFloats$Gauge;", Cond.methodLink RX2 46 yX3_become, Cond.instanceMethod yX3_become, Cond.selects RX3 yX3_become yX3_become, Cond.initialized RX3, Cond.code yX3_become cX3_become 4 none, Cond.fieldLink RX3 13 "SiltedFloats$Wave" "amplitude" "I", Cond.fieldLink RX3 17 "SiltedFloats$Wave" "period" "I", Cond.fieldLink RX3 20 "SiltedFloats$Wave" "phase" "I", Cond.methodLink RX2 49 yX0_copyFrom, Cond.instanceMethod yX0_copyFrom, Cond.selects RX0 yX0_copyFrom yX0_copyFrom, Cond.initialized RX0, Cond.code yX0_copyFrom cX0_copyFrom 2 none, Cond.fieldLink RX0 39 "SiltedFloats$Gauge" "delay" "I", Cond.fieldLink RX0 42 "SiltedFloats$Gauge" "scale" "I", Cond.fieldLink RX0 45 "SiltedFloats$Gauge" "offset" "I"]
def wsX4_setRate_r3 : List Cond := [Cond.fieldLink RX0 48 "SiltedFloats$Gauge" "floatLevel" "I", Cond.fieldLink RX0 51 "SiltedFloats$Gauge" "silt" "I", Cond.fieldLink RX0 54 "SiltedFloats$Gauge" "silting" "I", Cond.fieldLink RX0 57 "SiltedFloats$Gauge" "sinking" "I", Cond.fieldLink RX0 60 "SiltedFloats$Gauge" "sunk" "I", Cond.fieldLink RX0 15 "SiltedFloats$Gauge" "on" "Z", Cond.fieldLink RX0 19 "SiltedFloats$Gauge" "notes" "I", Cond.fieldLink RX0 63 "SiltedFloats$Gauge" "lastNote" "I", Cond.fieldLink RX0 66 "SiltedFloats$Gauge" "lastNoteHour" "I", Cond.fieldLink RX0 23 "SiltedFloats$Gauge" "kinds" "[I", Cond.methodLink RX0 69 arraycopyName, Cond.native arraycopyName, Cond.static arraycopyName, Cond.initialized "java/lang/System", Cond.fieldLink RX0 33 "SiltedFloats$Gauge" "values" "[I", Cond.fieldLink RX0 36 "SiltedFloats$Gauge" "corrections" "[I", Cond.methodLink RX0 9 yX0_become, Cond.instanceMethod yX0_become, Cond.selects RX0 yX0_become yX0_become, Cond.code yX0_become cX0_become 4 none]
def wsX4_setRate : List Cond := .code yX4_setRate cX4_setRate 6 (some .int) :: ((wsX4_setRate_r1 ++ (wsX4_setRate_r2 ++ wsX4_setRate_r3)) ++ wsX40 ++ wsX20 ++ wsX00 ++ wsX30)
def wsX4_turn_r1 : List Cond := [Cond.fieldLink RX4 10 "SiltedFloats" "now" "LSiltedFloats$State;", Cond.fieldLink RX4 66 "SiltedFloats$State" "gauges" "[LSiltedFloats$Gauge;", Cond.fieldLink RX4 87 "SiltedFloats$Gauge" "on" "Z", Cond.methodLink RX4 62 yX4_isStation, Cond.static yX4_isStation, Cond.initialized RX4, Cond.code yX4_isStation cX4_isStation 1 (some .boolean), Cond.methodLink RX4 47 yX4_remember, Cond.instanceMethod yX4_remember, Cond.selects RX4 yX4_remember yX4_remember, Cond.code yX4_remember cX4_remember 1 none, Cond.fieldLink RX4 162 "SiltedFloats" "pastCount" "I", Cond.fieldLink RX4 19 "SiltedFloats" "past" "[LSiltedFloats$State;", Cond.methodLink RX4 227 yX4_dropOldest, Cond.instanceMethod yX4_dropOldest, Cond.selects RX4 yX4_dropOldest yX4_dropOldest, Cond.code yX4_dropOldest cX4_dropOldest 3 none, Cond.methodLink RX4 165 yX2_copyFrom, Cond.instanceMethod yX2_copyFrom, Cond.selects RX2 yX2_copyFrom yX2_copyFrom, Cond.initialized RX2, Cond.code yX2_copyFrom cX2_copyFrom 3 none, Cond.fieldLink RX2 33 "SiltedFloats$State" "hour" "I", Cond.fieldLink RX2 11 "SiltedFloats$State" "waves" "[LSiltedFloats$Wave;"]
def wsX4_turn_r2 : List Cond := [Cond.fieldLink RX2 37 "SiltedFloats$Wave" "amplitude" "I", Cond.fieldLink RX2 40 "SiltedFloats$Wave" "period" "I", Cond.fieldLink RX2 43 "SiltedFloats$Wave" "phase" "I", Cond.fieldLink RX2 22 "SiltedFloats$State" "gauges" "[LSiltedFloats$Gauge;", Cond.methodLink RX2 46 yX3_become, Cond.instanceMethod yX3_become, Cond.selects RX3 yX3_become yX3_become, Cond.initialized RX3, Cond.code yX3_become cX3_become 4 none, Cond.fieldLink RX3 13 "SiltedFloats$Wave" "amplitude" "I", Cond.fieldLink RX3 17 "SiltedFloats$Wave" "period" "I", Cond.fieldLink RX3 20 "SiltedFloats$Wave" "phase" "I", Cond.methodLink RX2 49 yX0_copyFrom, Cond.instanceMethod yX0_copyFrom, Cond.selects RX0 yX0_copyFrom yX0_copyFrom, Cond.initialized RX0, Cond.code yX0_copyFrom cX0_copyFrom 2 none, Cond.fieldLink RX0 39 "SiltedFloats$Gauge" "delay" "I", Cond.fieldLink RX0 42 "SiltedFloats$Gauge" "scale" "I", Cond.fieldLink RX0 45 "SiltedFloats$Gauge" "offset" "I", Cond.fieldLink RX0 48 "SiltedFloats$Gauge" "floatLevel" "I", Cond.fieldLink RX0 51 "SiltedFloats$Gauge" "silt" "I", Cond.fieldLink RX0 54 "SiltedFloats$Gauge" "silting" "I", Cond.fieldLink RX0 57 "SiltedFloats$Gauge" "sinking" "I"]
def wsX4_turn_r3 : List Cond := [Cond.fieldLink RX0 60 "SiltedFloats$Gauge" "sunk" "I", Cond.fieldLink RX0 15 "SiltedFloats$Gauge" "on" "Z", Cond.fieldLink RX0 19 "SiltedFloats$Gauge" "notes" "I", Cond.fieldLink RX0 63 "SiltedFloats$Gauge" "lastNote" "I", Cond.fieldLink RX0 66 "SiltedFloats$Gauge" "lastNoteHour" "I", Cond.fieldLink RX0 23 "SiltedFloats$Gauge" "kinds" "[I", Cond.methodLink RX0 69 arraycopyName, Cond.native arraycopyName, Cond.static arraycopyName, Cond.initialized "java/lang/System", Cond.fieldLink RX0 33 "SiltedFloats$Gauge" "values" "[I", Cond.fieldLink RX0 36 "SiltedFloats$Gauge" "corrections" "[I", Cond.methodLink RX0 9 yX0_become, Cond.instanceMethod yX0_become, Cond.selects RX0 yX0_become yX0_become, Cond.code yX0_become cX0_become 4 none, Cond.methodLink RX4 91 yX2_stationsOn, Cond.instanceMethod yX2_stationsOn, Cond.selects RX2 yX2_stationsOn yX2_stationsOn, Cond.code yX2_stationsOn cX2_stationsOn 3 (some .int), Cond.fieldLink RX2 96 "SiltedFloats$Gauge" "on" "Z"]
def wsX4_turn : List Cond := .code yX4_turn cX4_turn 4 (some .int) :: ((wsX4_turn_r1 ++ (wsX4_turn_r2 ++ wsX4_turn_r3)) ++ wsX40 ++ wsX20 ++ wsX00 ++ wsX30)
def wsX4_clean_r1 : List Cond := [Cond.fieldLink RX4 10 "SiltedFloats" "now" "LSiltedFloats$State;", Cond.fieldLink RX4 66 "SiltedFloats$State" "gauges" "[LSiltedFloats$Gauge;", Cond.fieldLink RX4 95 "SiltedFloats$Gauge" "silt" "I", Cond.methodLink RX4 62 yX4_isStation, Cond.static yX4_isStation, Cond.initialized RX4, Cond.code yX4_isStation cX4_isStation 1 (some .boolean), Cond.methodLink RX4 47 yX4_remember, Cond.instanceMethod yX4_remember, Cond.selects RX4 yX4_remember yX4_remember, Cond.code yX4_remember cX4_remember 1 none, Cond.fieldLink RX4 162 "SiltedFloats" "pastCount" "I", Cond.fieldLink RX4 19 "SiltedFloats" "past" "[LSiltedFloats$State;", Cond.methodLink RX4 227 yX4_dropOldest, Cond.instanceMethod yX4_dropOldest, Cond.selects RX4 yX4_dropOldest yX4_dropOldest, Cond.code yX4_dropOldest cX4_dropOldest 3 none, Cond.methodLink RX4 165 yX2_copyFrom, Cond.instanceMethod yX2_copyFrom, Cond.selects RX2 yX2_copyFrom yX2_copyFrom, Cond.initialized RX2, Cond.code yX2_copyFrom cX2_copyFrom 3 none, Cond.fieldLink RX2 33 "SiltedFloats$State" "hour" "I", Cond.fieldLink RX2 11 "SiltedFloats$State" "waves" "[LSiltedFloats$Wave;"]
def wsX4_clean_r2 : List Cond := [Cond.fieldLink RX2 37 "SiltedFloats$Wave" "amplitude" "I", Cond.fieldLink RX2 40 "SiltedFloats$Wave" "period" "I", Cond.fieldLink RX2 43 "SiltedFloats$Wave" "phase" "I", Cond.fieldLink RX2 22 "SiltedFloats$State" "gauges" "[LSiltedFloats$Gauge;", Cond.methodLink RX2 46 yX3_become, Cond.instanceMethod yX3_become, Cond.selects RX3 yX3_become yX3_become, Cond.initialized RX3, Cond.code yX3_become cX3_become 4 none, Cond.fieldLink RX3 13 "SiltedFloats$Wave" "amplitude" "I", Cond.fieldLink RX3 17 "SiltedFloats$Wave" "period" "I", Cond.fieldLink RX3 20 "SiltedFloats$Wave" "phase" "I", Cond.methodLink RX2 49 yX0_copyFrom, Cond.instanceMethod yX0_copyFrom, Cond.selects RX0 yX0_copyFrom yX0_copyFrom, Cond.initialized RX0, Cond.code yX0_copyFrom cX0_copyFrom 2 none, Cond.fieldLink RX0 39 "SiltedFloats$Gauge" "delay" "I", Cond.fieldLink RX0 42 "SiltedFloats$Gauge" "scale" "I", Cond.fieldLink RX0 45 "SiltedFloats$Gauge" "offset" "I", Cond.fieldLink RX0 48 "SiltedFloats$Gauge" "floatLevel" "I", Cond.fieldLink RX0 51 "SiltedFloats$Gauge" "silt" "I", Cond.fieldLink RX0 54 "SiltedFloats$Gauge" "silting" "I", Cond.fieldLink RX0 57 "SiltedFloats$Gauge" "sinking" "I"]
def wsX4_clean_r3 : List Cond := [Cond.fieldLink RX0 60 "SiltedFloats$Gauge" "sunk" "I", Cond.fieldLink RX0 15 "SiltedFloats$Gauge" "on" "Z", Cond.fieldLink RX0 19 "SiltedFloats$Gauge" "notes" "I", Cond.fieldLink RX0 63 "SiltedFloats$Gauge" "lastNote" "I", Cond.fieldLink RX0 66 "SiltedFloats$Gauge" "lastNoteHour" "I", Cond.fieldLink RX0 23 "SiltedFloats$Gauge" "kinds" "[I", Cond.methodLink RX0 69 arraycopyName, Cond.native arraycopyName, Cond.static arraycopyName, Cond.initialized "java/lang/System", Cond.fieldLink RX0 33 "SiltedFloats$Gauge" "values" "[I", Cond.fieldLink RX0 36 "SiltedFloats$Gauge" "corrections" "[I", Cond.methodLink RX0 9 yX0_become, Cond.instanceMethod yX0_become, Cond.selects RX0 yX0_become yX0_become, Cond.code yX0_become cX0_become 4 none]
def wsX4_clean : List Cond := .code yX4_clean cX4_clean 4 (some .int) :: ((wsX4_clean_r1 ++ (wsX4_clean_r2 ++ wsX4_clean_r3)) ++ wsX40 ++ wsX20 ++ wsX00 ++ wsX30)
def wsX4_level_r1 : List Cond := [Cond.fieldLink RX4 10 "SiltedFloats" "now" "LSiltedFloats$State;", Cond.fieldLink RX4 66 "SiltedFloats$State" "gauges" "[LSiltedFloats$Gauge;", Cond.fieldLink RX4 34 "SiltedFloats$State" "hour" "I", Cond.fieldLink RX4 105 "SiltedFloats$Gauge" "sunk" "I", Cond.methodLink RX4 62 yX4_isStation, Cond.static yX4_isStation, Cond.initialized RX4, Cond.code yX4_isStation cX4_isStation 1 (some .boolean), Cond.methodLink RX4 98 yX0_isNotedAt, Cond.instanceMethod yX0_isNotedAt, Cond.selects RX0 yX0_isNotedAt yX0_isNotedAt, Cond.initialized RX0, Cond.code yX0_isNotedAt cX0_isNotedAt 2 (some .boolean), Cond.fieldLink RX0 66 "SiltedFloats$Gauge" "lastNoteHour" "I", Cond.methodLink RX4 47 yX4_remember, Cond.instanceMethod yX4_remember, Cond.selects RX4 yX4_remember yX4_remember, Cond.code yX4_remember cX4_remember 1 none, Cond.fieldLink RX4 162 "SiltedFloats" "pastCount" "I", Cond.fieldLink RX4 19 "SiltedFloats" "past" "[LSiltedFloats$State;", Cond.methodLink RX4 227 yX4_dropOldest, Cond.instanceMethod yX4_dropOldest, Cond.selects RX4 yX4_dropOldest yX4_dropOldest, Cond.code yX4_dropOldest cX4_dropOldest 3 none]
def wsX4_level_r2 : List Cond := [Cond.methodLink RX4 165 yX2_copyFrom, Cond.instanceMethod yX2_copyFrom, Cond.selects RX2 yX2_copyFrom yX2_copyFrom, Cond.initialized RX2, Cond.code yX2_copyFrom cX2_copyFrom 3 none, Cond.fieldLink RX2 33 "SiltedFloats$State" "hour" "I", Cond.fieldLink RX2 11 "SiltedFloats$State" "waves" "[LSiltedFloats$Wave;", Cond.fieldLink RX2 37 "SiltedFloats$Wave" "amplitude" "I", Cond.fieldLink RX2 40 "SiltedFloats$Wave" "period" "I", Cond.fieldLink RX2 43 "SiltedFloats$Wave" "phase" "I", Cond.fieldLink RX2 22 "SiltedFloats$State" "gauges" "[LSiltedFloats$Gauge;", Cond.methodLink RX2 46 yX3_become, Cond.instanceMethod yX3_become, Cond.selects RX3 yX3_become yX3_become, Cond.initialized RX3, Cond.code yX3_become cX3_become 4 none, Cond.fieldLink RX3 13 "SiltedFloats$Wave" "amplitude" "I", Cond.fieldLink RX3 17 "SiltedFloats$Wave" "period" "I", Cond.fieldLink RX3 20 "SiltedFloats$Wave" "phase" "I", Cond.methodLink RX2 49 yX0_copyFrom, Cond.instanceMethod yX0_copyFrom, Cond.selects RX0 yX0_copyFrom yX0_copyFrom, Cond.code yX0_copyFrom cX0_copyFrom 2 none, Cond.fieldLink RX0 39 "SiltedFloats$Gauge" "delay" "I"]
def wsX4_level_r3 : List Cond := [Cond.fieldLink RX0 42 "SiltedFloats$Gauge" "scale" "I", Cond.fieldLink RX0 45 "SiltedFloats$Gauge" "offset" "I", Cond.fieldLink RX0 48 "SiltedFloats$Gauge" "floatLevel" "I", Cond.fieldLink RX0 51 "SiltedFloats$Gauge" "silt" "I", Cond.fieldLink RX0 54 "SiltedFloats$Gauge" "silting" "I", Cond.fieldLink RX0 57 "SiltedFloats$Gauge" "sinking" "I", Cond.fieldLink RX0 60 "SiltedFloats$Gauge" "sunk" "I", Cond.fieldLink RX0 15 "SiltedFloats$Gauge" "on" "Z", Cond.fieldLink RX0 19 "SiltedFloats$Gauge" "notes" "I", Cond.fieldLink RX0 63 "SiltedFloats$Gauge" "lastNote" "I", Cond.fieldLink RX0 23 "SiltedFloats$Gauge" "kinds" "[I", Cond.methodLink RX0 69 arraycopyName, Cond.native arraycopyName, Cond.static arraycopyName, Cond.initialized "java/lang/System", Cond.fieldLink RX0 33 "SiltedFloats$Gauge" "values" "[I", Cond.fieldLink RX0 36 "SiltedFloats$Gauge" "corrections" "[I", Cond.methodLink RX0 9 yX0_become, Cond.instanceMethod yX0_become, Cond.selects RX0 yX0_become yX0_become, Cond.code yX0_become cX0_become 4 none, Cond.methodLink RX4 101 yX0_noteAt, Cond.instanceMethod yX0_noteAt, Cond.selects RX0 yX0_noteAt yX0_noteAt]
def wsX4_level_r4 : List Cond := [Cond.code yX0_noteAt cX0_noteAt 3 none, Cond.methodLink RX0 89 Lib.Math.max.name, Cond.static Lib.Math.max.name, Cond.initialized "java/lang/Math", Cond.code Lib.Math.max.name Lib.Math.max.code 2 (some .int), Cond.methodLink RX0 85 yX0_isNotedAt, Cond.static yX4_shareOf, Cond.code yX4_shareOf cX4_shareOf 3 (some .int), Cond.methodLink RX4 230 yJ9_floorDiv_7cf53, Cond.static yJ9_floorDiv_7cf53, Cond.initialized RJ9, Cond.code yJ9_floorDiv_7cf53 cJ9_floorDiv_7cf53 3 (some .int)]
def wsX4_level : List Cond := .code yX4_level cX4_level 3 (some .int) :: ((wsX4_level_r1 ++ (wsX4_level_r2 ++ (wsX4_level_r3 ++ wsX4_level_r4))) ++ wsX40 ++ wsX20 ++ wsX00 ++ wsX30)
def wsX4_pass_r1 : List Cond := [Cond.fieldLink RX4 10 "SiltedFloats" "now" "LSiltedFloats$State;", Cond.fieldLink RX4 34 "SiltedFloats$State" "hour" "I", Cond.methodLink RX4 30 yX4_isWithin, Cond.static yX4_isWithin, Cond.initialized RX4, Cond.code yX4_isWithin cX4_isWithin 3 (some .boolean), Cond.methodLink RX4 47 yX4_remember, Cond.instanceMethod yX4_remember, Cond.selects RX4 yX4_remember yX4_remember, Cond.code yX4_remember cX4_remember 1 none, Cond.fieldLink RX4 162 "SiltedFloats" "pastCount" "I", Cond.fieldLink RX4 19 "SiltedFloats" "past" "[LSiltedFloats$State;", Cond.methodLink RX4 227 yX4_dropOldest, Cond.instanceMethod yX4_dropOldest, Cond.selects RX4 yX4_dropOldest yX4_dropOldest, Cond.code yX4_dropOldest cX4_dropOldest 3 none, Cond.methodLink RX4 165 yX2_copyFrom, Cond.instanceMethod yX2_copyFrom, Cond.selects RX2 yX2_copyFrom yX2_copyFrom, Cond.initialized RX2, Cond.code yX2_copyFrom cX2_copyFrom 3 none, Cond.fieldLink RX2 33 "SiltedFloats$State" "hour" "I", Cond.fieldLink RX2 11 "SiltedFloats$State" "waves" "[LSiltedFloats$Wave;", Cond.fieldLink RX2 37 "SiltedFloats$Wave" "amplitude" "I"]
def wsX4_pass_r2 : List Cond := [Cond.fieldLink RX2 40 "SiltedFloats$Wave" "period" "I", Cond.fieldLink RX2 43 "SiltedFloats$Wave" "phase" "I", Cond.fieldLink RX2 22 "SiltedFloats$State" "gauges" "[LSiltedFloats$Gauge;", Cond.methodLink RX2 46 yX3_become, Cond.instanceMethod yX3_become, Cond.selects RX3 yX3_become yX3_become, Cond.initialized RX3, Cond.code yX3_become cX3_become 4 none, Cond.fieldLink RX3 13 "SiltedFloats$Wave" "amplitude" "I", Cond.fieldLink RX3 17 "SiltedFloats$Wave" "period" "I", Cond.fieldLink RX3 20 "SiltedFloats$Wave" "phase" "I", Cond.methodLink RX2 49 yX0_copyFrom, Cond.instanceMethod yX0_copyFrom, Cond.selects RX0 yX0_copyFrom yX0_copyFrom, Cond.initialized RX0, Cond.code yX0_copyFrom cX0_copyFrom 2 none, Cond.fieldLink RX0 39 "SiltedFloats$Gauge" "delay" "I", Cond.fieldLink RX0 42 "SiltedFloats$Gauge" "scale" "I", Cond.fieldLink RX0 45 "SiltedFloats$Gauge" "offset" "I", Cond.fieldLink RX0 48 "SiltedFloats$Gauge" "floatLevel" "I", Cond.fieldLink RX0 51 "SiltedFloats$Gauge" "silt" "I", Cond.fieldLink RX0 54 "SiltedFloats$Gauge" "silting" "I", Cond.fieldLink RX0 57 "SiltedFloats$Gauge" "sinking" "I", Cond.fieldLink RX0 60 "SiltedFloats$Gauge" "sunk" "I"]
def wsX4_pass_r3 : List Cond := [Cond.fieldLink RX0 15 "SiltedFloats$Gauge" "on" "Z", Cond.fieldLink RX0 19 "SiltedFloats$Gauge" "notes" "I", Cond.fieldLink RX0 63 "SiltedFloats$Gauge" "lastNote" "I", Cond.fieldLink RX0 66 "SiltedFloats$Gauge" "lastNoteHour" "I", Cond.fieldLink RX0 23 "SiltedFloats$Gauge" "kinds" "[I", Cond.methodLink RX0 69 arraycopyName, Cond.native arraycopyName, Cond.static arraycopyName, Cond.initialized "java/lang/System", Cond.fieldLink RX0 33 "SiltedFloats$Gauge" "values" "[I", Cond.fieldLink RX0 36 "SiltedFloats$Gauge" "corrections" "[I", Cond.methodLink RX0 9 yX0_become, Cond.instanceMethod yX0_become, Cond.selects RX0 yX0_become yX0_become, Cond.code yX0_become cX0_become 4 none, Cond.methodLink RX4 108 yX2_passHours, Cond.instanceMethod yX2_passHours, Cond.selects RX2 yX2_passHours yX2_passHours, Cond.code yX2_passHours cX2_passHours 4 none, Cond.methodLink RX2 74 yX2_waterAt, Cond.instanceMethod yX2_waterAt, Cond.selects RX2 yX2_waterAt yX2_waterAt, Cond.code yX2_waterAt cX2_waterAt 3 (some .int), Cond.fieldLink RX2 56 "SiltedFloats$Gauge" "scale" "I"]
def wsX4_pass_r4 : List Cond := [Cond.fieldLink RX2 59 "SiltedFloats$Gauge" "delay" "I", Cond.fieldLink RX2 71 "SiltedFloats$Gauge" "offset" "I", Cond.methodLink RX2 62 yX2_seaAt, Cond.instanceMethod yX2_seaAt, Cond.selects RX2 yX2_seaAt yX2_seaAt, Cond.code yX2_seaAt cX2_seaAt 4 (some .int), Cond.methodLink RX2 52 yX3_heightAt, Cond.instanceMethod yX3_heightAt, Cond.selects RX3 yX3_heightAt yX3_heightAt, Cond.code yX3_heightAt cX3_heightAt 4 (some .int), Cond.methodLink RX3 23 yJ9_floorMod_7cf53, Cond.static yJ9_floorMod_7cf53, Cond.initialized RJ9, Cond.code yJ9_floorMod_7cf53 cJ9_floorMod_7cf53 3 (some .int), Cond.methodLink RX3 29 yJ9_floorDiv_7cf53, Cond.static yJ9_floorDiv_7cf53, Cond.code yJ9_floorDiv_7cf53 cJ9_floorDiv_7cf53 3 (some .int), Cond.methodLink RX2 65 yJ9_floorDiv_7cf53, Cond.methodLink RX2 81 yX0_passHour, Cond.instanceMethod yX0_passHour, Cond.selects RX0 yX0_passHour yX0_passHour, Cond.code yX0_passHour cX0_passHour 3 none, Cond.methodLink RX0 75 yJ9_floorDiv_7cf53, Cond.methodLink RX0 81 yX0_isDue]
def wsX4_pass_r5 : List Cond := [Cond.static yX0_isDue, Cond.code yX0_isDue cX0_isDue 2 (some .boolean)]
def wsX4_pass : List Cond := .code yX4_pass cX4_pass 2 (some .int) :: ((wsX4_pass_r1 ++ (wsX4_pass_r2 ++ (wsX4_pass_r3 ++ (wsX4_pass_r4 ++ wsX4_pass_r5)))) ++ wsX40 ++ wsX20 ++ wsX30 ++ wsX00)
def wsX4_follow_r1 : List Cond := [Cond.fieldLink RX4 26 "SiltedFloats" "text" "LSiltedFloats$OrderText;", Cond.fieldLink RX4 10 "SiltedFloats" "now" "LSiltedFloats$State;", Cond.fieldLink RX4 34 "SiltedFloats$State" "hour" "I", Cond.fieldLink RX4 117 "SiltedFloats$OrderText" "length" "I", Cond.methodLink RX4 111 yX1_faultAt, Cond.instanceMethod yX1_faultAt, Cond.selects RX1 yX1_faultAt yX1_faultAt, Cond.initialized RX1, Cond.code yX1_faultAt cX1_faultAt 3 (some .int), Cond.fieldLink RX1 15 "SiltedFloats$OrderText" "length" "I", Cond.methodLink RX1 19 yX1_characterAt, Cond.instanceMethod yX1_characterAt, Cond.selects RX1 yX1_characterAt yX1_characterAt, Cond.code yX1_characterAt cX1_characterAt 2 (some .char), Cond.fieldLink RX1 9 "SiltedFloats$OrderText" "characters" "[C", Cond.methodLink RX1 23 yX1_dueBehind, Cond.static yX1_dueBehind, Cond.code yX1_dueBehind cX1_dueBehind 2 (some .int), Cond.methodLink RX1 27 yX1_dueBehindLetter, Cond.static yX1_dueBehindLetter, Cond.code yX1_dueBehindLetter cX1_dueBehindLetter 1 (some .int), Cond.methodLink RX1 42 yX1_isStationLetter, Cond.static yX1_isStationLetter, Cond.code yX1_isStationLetter cX1_isStationLetter 1 (some .boolean)]
def wsX4_follow_r2 : List Cond := [Cond.static yX4_isWithin, Cond.initialized RX4, Cond.code yX4_isWithin cX4_isWithin 3 (some .boolean), Cond.methodLink RX1 35 yX1_isDigit, Cond.static yX1_isDigit, Cond.code yX1_isDigit cX1_isDigit 1 (some .boolean), Cond.methodLink RX1 39 yX1_dueBehindOrder, Cond.static yX1_dueBehindOrder, Cond.code yX1_dueBehindOrder cX1_dueBehindOrder 1 (some .int), Cond.methodLink RX4 114 yX1_hoursInAll, Cond.instanceMethod yX1_hoursInAll, Cond.selects RX1 yX1_hoursInAll yX1_hoursInAll, Cond.code yX1_hoursInAll cX1_hoursInAll 3 (some .int), Cond.methodLink RX1 45 yX1_numberFrom, Cond.instanceMethod yX1_numberFrom, Cond.selects RX1 yX1_numberFrom yX1_numberFrom, Cond.code yX1_numberFrom cX1_numberFrom 4 (some .int), Cond.methodLink RX4 47 yX4_remember, Cond.instanceMethod yX4_remember, Cond.selects RX4 yX4_remember yX4_remember, Cond.code yX4_remember cX4_remember 1 none, Cond.fieldLink RX4 162 "SiltedFloats" "pastCount" "I", Cond.fieldLink RX4 19 "SiltedFloats" "past" "[LSiltedFloats$State;", Cond.methodLink RX4 227 yX4_dropOldest]
def wsX4_follow_r3 : List Cond := [Cond.instanceMethod yX4_dropOldest, Cond.selects RX4 yX4_dropOldest yX4_dropOldest, Cond.code yX4_dropOldest cX4_dropOldest 3 none, Cond.methodLink RX4 165 yX2_copyFrom, Cond.instanceMethod yX2_copyFrom, Cond.selects RX2 yX2_copyFrom yX2_copyFrom, Cond.initialized RX2, Cond.code yX2_copyFrom cX2_copyFrom 3 none, Cond.fieldLink RX2 33 "SiltedFloats$State" "hour" "I", Cond.fieldLink RX2 11 "SiltedFloats$State" "waves" "[LSiltedFloats$Wave;", Cond.fieldLink RX2 37 "SiltedFloats$Wave" "amplitude" "I", Cond.fieldLink RX2 40 "SiltedFloats$Wave" "period" "I", Cond.fieldLink RX2 43 "SiltedFloats$Wave" "phase" "I", Cond.fieldLink RX2 22 "SiltedFloats$State" "gauges" "[LSiltedFloats$Gauge;", Cond.methodLink RX2 46 yX3_become, Cond.instanceMethod yX3_become, Cond.selects RX3 yX3_become yX3_become, Cond.initialized RX3, Cond.code yX3_become cX3_become 4 none, Cond.fieldLink RX3 13 "SiltedFloats$Wave" "amplitude" "I", Cond.fieldLink RX3 17 "SiltedFloats$Wave" "period" "I", Cond.fieldLink RX3 20 "SiltedFloats$Wave" "phase" "I", Cond.methodLink RX2 49 yX0_copyFrom, Cond.instanceMethod yX0_copyFrom]
def wsX4_follow_r4 : List Cond := [Cond.selects RX0 yX0_copyFrom yX0_copyFrom, Cond.initialized RX0, Cond.code yX0_copyFrom cX0_copyFrom 2 none, Cond.fieldLink RX0 39 "SiltedFloats$Gauge" "delay" "I", Cond.fieldLink RX0 42 "SiltedFloats$Gauge" "scale" "I", Cond.fieldLink RX0 45 "SiltedFloats$Gauge" "offset" "I", Cond.fieldLink RX0 48 "SiltedFloats$Gauge" "floatLevel" "I", Cond.fieldLink RX0 51 "SiltedFloats$Gauge" "silt" "I", Cond.fieldLink RX0 54 "SiltedFloats$Gauge" "silting" "I", Cond.fieldLink RX0 57 "SiltedFloats$Gauge" "sinking" "I", Cond.fieldLink RX0 60 "SiltedFloats$Gauge" "sunk" "I", Cond.fieldLink RX0 15 "SiltedFloats$Gauge" "on" "Z", Cond.fieldLink RX0 19 "SiltedFloats$Gauge" "notes" "I", Cond.fieldLink RX0 63 "SiltedFloats$Gauge" "lastNote" "I", Cond.fieldLink RX0 66 "SiltedFloats$Gauge" "lastNoteHour" "I", Cond.fieldLink RX0 23 "SiltedFloats$Gauge" "kinds" "[I", Cond.methodLink RX0 69 arraycopyName, Cond.native arraycopyName, Cond.static arraycopyName, Cond.initialized "java/lang/System", Cond.fieldLink RX0 33 "SiltedFloats$Gauge" "values" "[I", Cond.fieldLink RX0 36 "SiltedFloats$Gauge" "corrections" "[I", Cond.methodLink RX0 9 yX0_become, Cond.instanceMethod yX0_become]
def wsX4_follow_r5 : List Cond := [Cond.selects RX0 yX0_become yX0_become, Cond.code yX0_become cX0_become 4 none, Cond.methodLink RX4 120 yX1_startsOrder, Cond.instanceMethod yX1_startsOrder, Cond.selects RX1 yX1_startsOrder yX1_startsOrder, Cond.code yX1_startsOrder cX1_startsOrder 3 (some .boolean), Cond.methodLink RX4 123 yX1_characterAt, Cond.methodLink RX4 127 yX1_numberFrom, Cond.methodLink RX4 130 yX2_obey, Cond.instanceMethod yX2_obey, Cond.selects RX2 yX2_obey yX2_obey, Cond.code yX2_obey cX2_obey 3 none, Cond.methodLink RX2 85 yX2_passHours, Cond.instanceMethod yX2_passHours, Cond.selects RX2 yX2_passHours yX2_passHours, Cond.code yX2_passHours cX2_passHours 4 none, Cond.methodLink RX2 74 yX2_waterAt, Cond.instanceMethod yX2_waterAt, Cond.selects RX2 yX2_waterAt yX2_waterAt, Cond.code yX2_waterAt cX2_waterAt 3 (some .int), Cond.fieldLink RX2 56 "SiltedFloats$Gauge" "scale" "I", Cond.fieldLink RX2 59 "SiltedFloats$Gauge" "delay" "I", Cond.fieldLink RX2 71 "SiltedFloats$Gauge" "offset" "I", Cond.methodLink RX2 62 yX2_seaAt]
def wsX4_follow_r6 : List Cond := [Cond.instanceMethod yX2_seaAt, Cond.selects RX2 yX2_seaAt yX2_seaAt, Cond.code yX2_seaAt cX2_seaAt 4 (some .int), Cond.methodLink RX2 52 yX3_heightAt, Cond.instanceMethod yX3_heightAt, Cond.selects RX3 yX3_heightAt yX3_heightAt, Cond.code yX3_heightAt cX3_heightAt 4 (some .int), Cond.methodLink RX3 23 yJ9_floorMod_7cf53, Cond.static yJ9_floorMod_7cf53, Cond.initialized RJ9, Cond.code yJ9_floorMod_7cf53 cJ9_floorMod_7cf53 3 (some .int), Cond.methodLink RX3 29 yJ9_floorDiv_7cf53, Cond.static yJ9_floorDiv_7cf53, Cond.code yJ9_floorDiv_7cf53 cJ9_floorDiv_7cf53 3 (some .int), Cond.methodLink RX2 65 yJ9_floorDiv_7cf53, Cond.methodLink RX2 81 yX0_passHour, Cond.instanceMethod yX0_passHour, Cond.selects RX0 yX0_passHour yX0_passHour, Cond.code yX0_passHour cX0_passHour 3 none, Cond.methodLink RX0 75 yJ9_floorDiv_7cf53, Cond.methodLink RX0 81 yX0_isDue, Cond.static yX0_isDue, Cond.code yX0_isDue cX0_isDue 2 (some .boolean), Cond.static yX4_isStation]
def wsX4_follow_r7 : List Cond := [Cond.code yX4_isStation cX4_isStation 1 (some .boolean), Cond.methodLink RX2 92 yX2_obeyAt, Cond.instanceMethod yX2_obeyAt, Cond.selects RX2 yX2_obeyAt yX2_obeyAt, Cond.code yX2_obeyAt cX2_obeyAt 3 none, Cond.fieldLink RX2 96 "SiltedFloats$Gauge" "on" "Z", Cond.fieldLink RX2 100 "SiltedFloats$Gauge" "silt" "I", Cond.methodLink RX2 103 yX0_noteAt, Cond.instanceMethod yX0_noteAt, Cond.selects RX0 yX0_noteAt yX0_noteAt, Cond.code yX0_noteAt cX0_noteAt 3 none, Cond.methodLink RX0 89 Lib.Math.max.name, Cond.static Lib.Math.max.name, Cond.initialized "java/lang/Math", Cond.code Lib.Math.max.name Lib.Math.max.code 2 (some .int), Cond.methodLink RX0 85 yX0_isNotedAt, Cond.instanceMethod yX0_isNotedAt, Cond.selects RX0 yX0_isNotedAt yX0_isNotedAt, Cond.code yX0_isNotedAt cX0_isNotedAt 2 (some .boolean), Cond.static yX4_shareOf, Cond.code yX4_shareOf cX4_shareOf 3 (some .int), Cond.methodLink RX4 230 yJ9_floorDiv_7cf53]
def wsX4_follow : List Cond := .code yX4_follow cX4_follow 4 (some .int) :: ((wsX4_follow_r1 ++ (wsX4_follow_r2 ++ (wsX4_follow_r3 ++ (wsX4_follow_r4 ++ (wsX4_follow_r5 ++ (wsX4_follow_r6 ++ wsX4_follow_r7)))))) ++ wsX40 ++ wsX20 ++ wsX10 ++ wsX30 ++ wsX00)
def wsX4_checkMending_r1 : List Cond := [Cond.fieldLink RX4 10 "SiltedFloats" "now" "LSiltedFloats$State;", Cond.fieldLink RX4 66 "SiltedFloats$State" "gauges" "[LSiltedFloats$Gauge;", Cond.methodLink RX4 62 yX4_isStation, Cond.static yX4_isStation, Cond.initialized RX4, Cond.code yX4_isStation cX4_isStation 1 (some .boolean), Cond.methodLink RX4 206 yX0_hasGap, Cond.instanceMethod yX0_hasGap, Cond.selects RX0 yX0_hasGap yX0_hasGap, Cond.initialized RX0, Cond.code yX0_hasGap cX0_hasGap 2 (some .boolean), Cond.methodLink RX0 124 yX0_firstHourOfGap, Cond.instanceMethod yX0_firstHourOfGap, Cond.selects RX0 yX0_firstHourOfGap yX0_firstHourOfGap, Cond.code yX0_firstHourOfGap cX0_firstHourOfGap 4 (some .int), Cond.methodLink RX0 121 yX0_startsGap, Cond.instanceMethod yX0_startsGap, Cond.selects RX0 yX0_startsGap yX0_startsGap, Cond.code yX0_startsGap cX0_startsGap 2 (some .boolean), Cond.methodLink RX0 118 yX0_isInGap, Cond.instanceMethod yX0_isInGap, Cond.selects RX0 yX0_isInGap yX0_isInGap, Cond.code yX0_isInGap cX0_isInGap 3 (some .boolean), Cond.methodLink RX0 103 yX0_kindAt]
def wsX4_checkMending_r2 : List Cond := [Cond.instanceMethod yX0_kindAt, Cond.selects RX0 yX0_kindAt yX0_kindAt, Cond.code yX0_kindAt cX0_kindAt 2 (some .int), Cond.fieldLink RX0 23 "SiltedFloats$Gauge" "kinds" "[I", Cond.methodLink RX4 30 yX4_isWithin, Cond.static yX4_isWithin, Cond.code yX4_isWithin cX4_isWithin 3 (some .boolean), Cond.methodLink RX4 209 yX0_isInner, Cond.instanceMethod yX0_isInner, Cond.selects RX0 yX0_isInner yX0_isInner, Cond.code yX0_isInner cX0_isInner 3 (some .boolean), Cond.methodLink RX0 109 yX0_hasReading, Cond.instanceMethod yX0_hasReading, Cond.selects RX0 yX0_hasReading yX0_hasReading, Cond.code yX0_hasReading cX0_hasReading 2 (some .boolean), Cond.methodLink RX0 127 yX0_hourBehindGapFrom, Cond.instanceMethod yX0_hourBehindGapFrom, Cond.selects RX0 yX0_hourBehindGapFrom yX0_hourBehindGapFrom, Cond.code yX0_hourBehindGapFrom cX0_hourBehindGapFrom 3 (some .int)]
def wsX4_checkMending : List Cond := .code yX4_checkMending cX4_checkMending 5 (some .int) :: ((wsX4_checkMending_r1 ++ wsX4_checkMending_r2) ++ wsX40 ++ wsX20 ++ wsX00)
def wsX4_mend_r1 : List Cond := [Cond.fieldLink RX4 10 "SiltedFloats" "now" "LSiltedFloats$State;", Cond.fieldLink RX4 66 "SiltedFloats$State" "gauges" "[LSiltedFloats$Gauge;", Cond.methodLink RX4 134 yX4_checkMending, Cond.instanceMethod yX4_checkMending, Cond.selects RX4 yX4_checkMending yX4_checkMending, Cond.initialized RX4, Cond.code yX4_checkMending cX4_checkMending 5 (some .int), Cond.methodLink RX4 62 yX4_isStation, Cond.static yX4_isStation, Cond.code yX4_isStation cX4_isStation 1 (some .boolean), Cond.methodLink RX4 206 yX0_hasGap, Cond.instanceMethod yX0_hasGap, Cond.selects RX0 yX0_hasGap yX0_hasGap, Cond.initialized RX0, Cond.code yX0_hasGap cX0_hasGap 2 (some .boolean), Cond.methodLink RX0 124 yX0_firstHourOfGap, Cond.instanceMethod yX0_firstHourOfGap, Cond.selects RX0 yX0_firstHourOfGap yX0_firstHourOfGap, Cond.code yX0_firstHourOfGap cX0_firstHourOfGap 4 (some .int), Cond.methodLink RX0 121 yX0_startsGap, Cond.instanceMethod yX0_startsGap, Cond.selects RX0 yX0_startsGap yX0_startsGap, Cond.code yX0_startsGap cX0_startsGap 2 (some .boolean), Cond.methodLink RX0 118 yX0_isInGap]
def wsX4_mend_r2 : List Cond := [Cond.instanceMethod yX0_isInGap, Cond.selects RX0 yX0_isInGap yX0_isInGap, Cond.code yX0_isInGap cX0_isInGap 3 (some .boolean), Cond.methodLink RX0 103 yX0_kindAt, Cond.instanceMethod yX0_kindAt, Cond.selects RX0 yX0_kindAt yX0_kindAt, Cond.code yX0_kindAt cX0_kindAt 2 (some .int), Cond.fieldLink RX0 23 "SiltedFloats$Gauge" "kinds" "[I", Cond.methodLink RX4 30 yX4_isWithin, Cond.static yX4_isWithin, Cond.code yX4_isWithin cX4_isWithin 3 (some .boolean), Cond.methodLink RX4 209 yX0_isInner, Cond.instanceMethod yX0_isInner, Cond.selects RX0 yX0_isInner yX0_isInner, Cond.code yX0_isInner cX0_isInner 3 (some .boolean), Cond.methodLink RX0 109 yX0_hasReading, Cond.instanceMethod yX0_hasReading, Cond.selects RX0 yX0_hasReading yX0_hasReading, Cond.code yX0_hasReading cX0_hasReading 2 (some .boolean), Cond.methodLink RX0 127 yX0_hourBehindGapFrom, Cond.instanceMethod yX0_hourBehindGapFrom, Cond.selects RX0 yX0_hourBehindGapFrom yX0_hourBehindGapFrom, Cond.code yX0_hourBehindGapFrom cX0_hourBehindGapFrom 3 (some .int), Cond.methodLink RX4 138 yX0_firstHourOfGap]
def wsX4_mend_r3 : List Cond := [Cond.methodLink RX4 141 yX0_hourBehindGapFrom, Cond.methodLink RX4 144 yX0_hasReadings, Cond.instanceMethod yX0_hasReadings, Cond.selects RX0 yX0_hasReadings yX0_hasReadings, Cond.code yX0_hasReadings cX0_hasReadings 4 (some .boolean), Cond.methodLink RX4 47 yX4_remember, Cond.instanceMethod yX4_remember, Cond.selects RX4 yX4_remember yX4_remember, Cond.code yX4_remember cX4_remember 1 none, Cond.fieldLink RX4 162 "SiltedFloats" "pastCount" "I", Cond.fieldLink RX4 19 "SiltedFloats" "past" "[LSiltedFloats$State;", Cond.methodLink RX4 227 yX4_dropOldest, Cond.instanceMethod yX4_dropOldest, Cond.selects RX4 yX4_dropOldest yX4_dropOldest, Cond.code yX4_dropOldest cX4_dropOldest 3 none, Cond.methodLink RX4 165 yX2_copyFrom, Cond.instanceMethod yX2_copyFrom, Cond.selects RX2 yX2_copyFrom yX2_copyFrom, Cond.initialized RX2, Cond.code yX2_copyFrom cX2_copyFrom 3 none, Cond.fieldLink RX2 33 "SiltedFloats$State" "hour" "I", Cond.fieldLink RX2 11 "SiltedFloats$State" "waves" "[LSiltedFloats$Wave;", Cond.fieldLink RX2 37 "SiltedFloats$Wave" "amplitude" "I", Cond.fieldLink RX2 40 "SiltedFloats$Wave" "period" "I"]
def wsX4_mend_r4 : List Cond := [Cond.fieldLink RX2 43 "SiltedFloats$Wave" "phase" "I", Cond.fieldLink RX2 22 "SiltedFloats$State" "gauges" "[LSiltedFloats$Gauge;", Cond.methodLink RX2 46 yX3_become, Cond.instanceMethod yX3_become, Cond.selects RX3 yX3_become yX3_become, Cond.initialized RX3, Cond.code yX3_become cX3_become 4 none, Cond.fieldLink RX3 13 "SiltedFloats$Wave" "amplitude" "I", Cond.fieldLink RX3 17 "SiltedFloats$Wave" "period" "I", Cond.fieldLink RX3 20 "SiltedFloats$Wave" "phase" "I", Cond.methodLink RX2 49 yX0_copyFrom, Cond.instanceMethod yX0_copyFrom, Cond.selects RX0 yX0_copyFrom yX0_copyFrom, Cond.code yX0_copyFrom cX0_copyFrom 2 none, Cond.fieldLink RX0 39 "SiltedFloats$Gauge" "delay" "I", Cond.fieldLink RX0 42 "SiltedFloats$Gauge" "scale" "I", Cond.fieldLink RX0 45 "SiltedFloats$Gauge" "offset" "I", Cond.fieldLink RX0 48 "SiltedFloats$Gauge" "floatLevel" "I", Cond.fieldLink RX0 51 "SiltedFloats$Gauge" "silt" "I", Cond.fieldLink RX0 54 "SiltedFloats$Gauge" "silting" "I", Cond.fieldLink RX0 57 "SiltedFloats$Gauge" "sinking" "I", Cond.fieldLink RX0 60 "SiltedFloats$Gauge" "sunk" "I", Cond.fieldLink RX0 15 "SiltedFloats$Gauge" "on" "Z", Cond.fieldLink RX0 19 "SiltedFloats$Gauge" "notes" "I"]
def wsX4_mend_r5 : List Cond := [Cond.fieldLink RX0 63 "SiltedFloats$Gauge" "lastNote" "I", Cond.fieldLink RX0 66 "SiltedFloats$Gauge" "lastNoteHour" "I", Cond.methodLink RX0 69 arraycopyName, Cond.native arraycopyName, Cond.static arraycopyName, Cond.initialized "java/lang/System", Cond.fieldLink RX0 33 "SiltedFloats$Gauge" "values" "[I", Cond.fieldLink RX0 36 "SiltedFloats$Gauge" "corrections" "[I", Cond.methodLink RX0 9 yX0_become, Cond.instanceMethod yX0_become, Cond.selects RX0 yX0_become yX0_become, Cond.code yX0_become cX0_become 4 none, Cond.methodLink RX4 148 yX0_mendBetween, Cond.instanceMethod yX0_mendBetween, Cond.selects RX0 yX0_mendBetween yX0_mendBetween, Cond.code yX0_mendBetween cX0_mendBetween 8 none, Cond.methodLink RX0 89 Lib.Math.max.name, Cond.static Lib.Math.max.name, Cond.initialized "java/lang/Math", Cond.code Lib.Math.max.name Lib.Math.max.code 2 (some .int), Cond.methodLink RX0 106 yX0_correctedAt, Cond.instanceMethod yX0_correctedAt, Cond.selects RX0 yX0_correctedAt yX0_correctedAt, Cond.code yX0_correctedAt cX0_correctedAt 2 (some .int)]
def wsX4_mend_r6 : List Cond := [Cond.methodLink RX0 96 yX0_readingAt, Cond.instanceMethod yX0_readingAt, Cond.selects RX0 yX0_readingAt yX0_readingAt, Cond.code yX0_readingAt cX0_readingAt 2 (some .int), Cond.methodLink RX0 100 yX0_correctionAt, Cond.instanceMethod yX0_correctionAt, Cond.selects RX0 yX0_correctionAt yX0_correctionAt, Cond.code yX0_correctionAt cX0_correctionAt 2 (some .int), Cond.static yX4_shareOf, Cond.code yX4_shareOf cX4_shareOf 3 (some .int), Cond.methodLink RX4 230 yJ9_floorDiv_7cf53, Cond.static yJ9_floorDiv_7cf53, Cond.initialized RJ9, Cond.code yJ9_floorDiv_7cf53 cJ9_floorDiv_7cf53 3 (some .int)]
def wsX4_mend : List Cond := .code yX4_mend cX4_mend 10 (some .int) :: ((wsX4_mend_r1 ++ (wsX4_mend_r2 ++ (wsX4_mend_r3 ++ (wsX4_mend_r4 ++ (wsX4_mend_r5 ++ wsX4_mend_r6))))) ++ wsX40 ++ wsX20 ++ wsX00 ++ wsX30)
def wsX4_forget_r1 : List Cond := [Cond.fieldLink RX4 10 "SiltedFloats" "now" "LSiltedFloats$State;", Cond.fieldLink RX4 66 "SiltedFloats$State" "gauges" "[LSiltedFloats$Gauge;", Cond.methodLink RX4 62 yX4_isStation, Cond.static yX4_isStation, Cond.initialized RX4, Cond.code yX4_isStation cX4_isStation 1 (some .boolean), Cond.methodLink RX4 152 yX0_hoursOfKind, Cond.instanceMethod yX0_hoursOfKind, Cond.selects RX0 yX0_hoursOfKind yX0_hoursOfKind, Cond.initialized RX0, Cond.code yX0_hoursOfKind cX0_hoursOfKind 4 (some .int), Cond.fieldLink RX0 23 "SiltedFloats$Gauge" "kinds" "[I", Cond.methodLink RX4 47 yX4_remember, Cond.instanceMethod yX4_remember, Cond.selects RX4 yX4_remember yX4_remember, Cond.code yX4_remember cX4_remember 1 none, Cond.fieldLink RX4 162 "SiltedFloats" "pastCount" "I", Cond.fieldLink RX4 19 "SiltedFloats" "past" "[LSiltedFloats$State;", Cond.methodLink RX4 227 yX4_dropOldest, Cond.instanceMethod yX4_dropOldest, Cond.selects RX4 yX4_dropOldest yX4_dropOldest, Cond.code yX4_dropOldest cX4_dropOldest 3 none, Cond.methodLink RX4 165 yX2_copyFrom, Cond.instanceMethod yX2_copyFrom]
def wsX4_forget_r2 : List Cond := [Cond.selects RX2 yX2_copyFrom yX2_copyFrom, Cond.initialized RX2, Cond.code yX2_copyFrom cX2_copyFrom 3 none, Cond.fieldLink RX2 33 "SiltedFloats$State" "hour" "I", Cond.fieldLink RX2 11 "SiltedFloats$State" "waves" "[LSiltedFloats$Wave;", Cond.fieldLink RX2 37 "SiltedFloats$Wave" "amplitude" "I", Cond.fieldLink RX2 40 "SiltedFloats$Wave" "period" "I", Cond.fieldLink RX2 43 "SiltedFloats$Wave" "phase" "I", Cond.fieldLink RX2 22 "SiltedFloats$State" "gauges" "[LSiltedFloats$Gauge;", Cond.methodLink RX2 46 yX3_become, Cond.instanceMethod yX3_become, Cond.selects RX3 yX3_become yX3_become, Cond.initialized RX3, Cond.code yX3_become cX3_become 4 none, Cond.fieldLink RX3 13 "SiltedFloats$Wave" "amplitude" "I", Cond.fieldLink RX3 17 "SiltedFloats$Wave" "period" "I", Cond.fieldLink RX3 20 "SiltedFloats$Wave" "phase" "I", Cond.methodLink RX2 49 yX0_copyFrom, Cond.instanceMethod yX0_copyFrom, Cond.selects RX0 yX0_copyFrom yX0_copyFrom, Cond.code yX0_copyFrom cX0_copyFrom 2 none, Cond.fieldLink RX0 39 "SiltedFloats$Gauge" "delay" "I", Cond.fieldLink RX0 42 "SiltedFloats$Gauge" "scale" "I", Cond.fieldLink RX0 45 "SiltedFloats$Gauge" "offset" "I"]
def wsX4_forget_r3 : List Cond := [Cond.fieldLink RX0 48 "SiltedFloats$Gauge" "floatLevel" "I", Cond.fieldLink RX0 51 "SiltedFloats$Gauge" "silt" "I", Cond.fieldLink RX0 54 "SiltedFloats$Gauge" "silting" "I", Cond.fieldLink RX0 57 "SiltedFloats$Gauge" "sinking" "I", Cond.fieldLink RX0 60 "SiltedFloats$Gauge" "sunk" "I", Cond.fieldLink RX0 15 "SiltedFloats$Gauge" "on" "Z", Cond.fieldLink RX0 19 "SiltedFloats$Gauge" "notes" "I", Cond.fieldLink RX0 63 "SiltedFloats$Gauge" "lastNote" "I", Cond.fieldLink RX0 66 "SiltedFloats$Gauge" "lastNoteHour" "I", Cond.methodLink RX0 69 arraycopyName, Cond.native arraycopyName, Cond.static arraycopyName, Cond.initialized "java/lang/System", Cond.fieldLink RX0 33 "SiltedFloats$Gauge" "values" "[I", Cond.fieldLink RX0 36 "SiltedFloats$Gauge" "corrections" "[I", Cond.methodLink RX0 9 yX0_become, Cond.instanceMethod yX0_become, Cond.selects RX0 yX0_become yX0_become, Cond.code yX0_become cX0_become 4 none, Cond.methodLink RX4 155 yX0_forgetMended, Cond.instanceMethod yX0_forgetMended, Cond.selects RX0 yX0_forgetMended yX0_forgetMended, Cond.code yX0_forgetMended cX0_forgetMended 2 none]
def wsX4_forget : List Cond := .code yX4_forget cX4_forget 4 (some .int) :: ((wsX4_forget_r1 ++ (wsX4_forget_r2 ++ wsX4_forget_r3)) ++ wsX40 ++ wsX20 ++ wsX00 ++ wsX30)
def wsX4_type : List Cond := .code yX4_type cX4_type 2 (some .int) :: ([.fieldLink RX4 26 "SiltedFloats" "text" "LSiltedFloats$OrderText;", .fieldLink RX4 117 "SiltedFloats$OrderText" "length" "I", .methodLink RX4 158 yX1_add, .instanceMethod yX1_add, .selects RX1 yX1_add yX1_add, .initialized RX1, .code yX1_add cX1_add 2 none, .fieldLink RX1 15 "SiltedFloats$OrderText" "length" "I", .fieldLink RX1 9 "SiltedFloats$OrderText" "characters" "[C"] ++ wsX40 ++ wsX10)
def wsX4_clearText : List Cond := .code yX4_clearText cX4_clearText 2 (some .int) :: ([.fieldLink RX4 26 "SiltedFloats" "text" "LSiltedFloats$OrderText;", .fieldLink RX4 117 "SiltedFloats$OrderText" "length" "I"] ++ wsX40 ++ wsX10)
def wsX4_undo_r1 : List Cond := [Cond.fieldLink RX4 162 "SiltedFloats" "pastCount" "I", Cond.fieldLink RX4 19 "SiltedFloats" "past" "[LSiltedFloats$State;", Cond.fieldLink RX4 10 "SiltedFloats" "now" "LSiltedFloats$State;", Cond.methodLink RX4 165 yX2_copyFrom, Cond.instanceMethod yX2_copyFrom, Cond.selects RX2 yX2_copyFrom yX2_copyFrom, Cond.initialized RX2, Cond.code yX2_copyFrom cX2_copyFrom 3 none, Cond.fieldLink RX2 33 "SiltedFloats$State" "hour" "I", Cond.fieldLink RX2 11 "SiltedFloats$State" "waves" "[LSiltedFloats$Wave;", Cond.fieldLink RX2 37 "SiltedFloats$Wave" "amplitude" "I", Cond.fieldLink RX2 40 "SiltedFloats$Wave" "period" "I", Cond.fieldLink RX2 43 "SiltedFloats$Wave" "phase" "I", Cond.fieldLink RX2 22 "SiltedFloats$State" "gauges" "[LSiltedFloats$Gauge;", Cond.methodLink RX2 46 yX3_become, Cond.instanceMethod yX3_become, Cond.selects RX3 yX3_become yX3_become, Cond.initialized RX3, Cond.code yX3_become cX3_become 4 none, Cond.fieldLink RX3 13 "SiltedFloats$Wave" "amplitude" "I", Cond.fieldLink RX3 17 "SiltedFloats$Wave" "period" "I", Cond.fieldLink RX3 20 "SiltedFloats$Wave" "phase" "I", Cond.methodLink RX2 49 yX0_copyFrom, Cond.instanceMethod yX0_copyFrom]
def wsX4_undo_r2 : List Cond := [Cond.selects RX0 yX0_copyFrom yX0_copyFrom, Cond.initialized RX0, Cond.code yX0_copyFrom cX0_copyFrom 2 none, Cond.fieldLink RX0 39 "SiltedFloats$Gauge" "delay" "I", Cond.fieldLink RX0 42 "SiltedFloats$Gauge" "scale" "I", Cond.fieldLink RX0 45 "SiltedFloats$Gauge" "offset" "I", Cond.fieldLink RX0 48 "SiltedFloats$Gauge" "floatLevel" "I", Cond.fieldLink RX0 51 "SiltedFloats$Gauge" "silt" "I", Cond.fieldLink RX0 54 "SiltedFloats$Gauge" "silting" "I", Cond.fieldLink RX0 57 "SiltedFloats$Gauge" "sinking" "I", Cond.fieldLink RX0 60 "SiltedFloats$Gauge" "sunk" "I", Cond.fieldLink RX0 15 "SiltedFloats$Gauge" "on" "Z", Cond.fieldLink RX0 19 "SiltedFloats$Gauge" "notes" "I", Cond.fieldLink RX0 63 "SiltedFloats$Gauge" "lastNote" "I", Cond.fieldLink RX0 66 "SiltedFloats$Gauge" "lastNoteHour" "I", Cond.fieldLink RX0 23 "SiltedFloats$Gauge" "kinds" "[I", Cond.methodLink RX0 69 arraycopyName, Cond.native arraycopyName, Cond.static arraycopyName, Cond.initialized "java/lang/System", Cond.fieldLink RX0 33 "SiltedFloats$Gauge" "values" "[I", Cond.fieldLink RX0 36 "SiltedFloats$Gauge" "corrections" "[I", Cond.methodLink RX0 9 yX0_become, Cond.instanceMethod yX0_become]
def wsX4_undo_r3 : List Cond := [Cond.selects RX0 yX0_become yX0_become, Cond.code yX0_become cX0_become 4 none]
def wsX4_undo : List Cond := .code yX4_undo cX4_undo 1 (some .int) :: ((wsX4_undo_r1 ++ (wsX4_undo_r2 ++ wsX4_undo_r3)) ++ wsX40 ++ wsX20 ++ wsX30 ++ wsX00)
def wsX4_keep_r1 : List Cond := [Cond.fieldLink RX4 16 "SiltedFloats" "kept" "LSiltedFloats$State;", Cond.fieldLink RX4 10 "SiltedFloats" "now" "LSiltedFloats$State;", Cond.fieldLink RX4 169 "SiltedFloats" "isKept" "Z", Cond.fieldLink RX4 34 "SiltedFloats$State" "hour" "I", Cond.methodLink RX4 165 yX2_copyFrom, Cond.instanceMethod yX2_copyFrom, Cond.selects RX2 yX2_copyFrom yX2_copyFrom, Cond.initialized RX2, Cond.code yX2_copyFrom cX2_copyFrom 3 none, Cond.fieldLink RX2 33 "SiltedFloats$State" "hour" "I", Cond.fieldLink RX2 11 "SiltedFloats$State" "waves" "[LSiltedFloats$Wave;", Cond.fieldLink RX2 37 "SiltedFloats$Wave" "amplitude" "I", Cond.fieldLink RX2 40 "SiltedFloats$Wave" "period" "I", Cond.fieldLink RX2 43 "SiltedFloats$Wave" "phase" "I", Cond.fieldLink RX2 22 "SiltedFloats$State" "gauges" "[LSiltedFloats$Gauge;", Cond.methodLink RX2 46 yX3_become, Cond.instanceMethod yX3_become, Cond.selects RX3 yX3_become yX3_become, Cond.initialized RX3, Cond.code yX3_become cX3_become 4 none, Cond.fieldLink RX3 13 "SiltedFloats$Wave" "amplitude" "I", Cond.fieldLink RX3 17 "SiltedFloats$Wave" "period" "I", Cond.fieldLink RX3 20 "SiltedFloats$Wave" "phase" "I", Cond.methodLink RX2 49 yX0_copyFrom]
def wsX4_keep_r2 : List Cond := [Cond.instanceMethod yX0_copyFrom, Cond.selects RX0 yX0_copyFrom yX0_copyFrom, Cond.initialized RX0, Cond.code yX0_copyFrom cX0_copyFrom 2 none, Cond.fieldLink RX0 39 "SiltedFloats$Gauge" "delay" "I", Cond.fieldLink RX0 42 "SiltedFloats$Gauge" "scale" "I", Cond.fieldLink RX0 45 "SiltedFloats$Gauge" "offset" "I", Cond.fieldLink RX0 48 "SiltedFloats$Gauge" "floatLevel" "I", Cond.fieldLink RX0 51 "SiltedFloats$Gauge" "silt" "I", Cond.fieldLink RX0 54 "SiltedFloats$Gauge" "silting" "I", Cond.fieldLink RX0 57 "SiltedFloats$Gauge" "sinking" "I", Cond.fieldLink RX0 60 "SiltedFloats$Gauge" "sunk" "I", Cond.fieldLink RX0 15 "SiltedFloats$Gauge" "on" "Z", Cond.fieldLink RX0 19 "SiltedFloats$Gauge" "notes" "I", Cond.fieldLink RX0 63 "SiltedFloats$Gauge" "lastNote" "I", Cond.fieldLink RX0 66 "SiltedFloats$Gauge" "lastNoteHour" "I", Cond.fieldLink RX0 23 "SiltedFloats$Gauge" "kinds" "[I", Cond.methodLink RX0 69 arraycopyName, Cond.native arraycopyName, Cond.static arraycopyName, Cond.initialized "java/lang/System", Cond.fieldLink RX0 33 "SiltedFloats$Gauge" "values" "[I", Cond.fieldLink RX0 36 "SiltedFloats$Gauge" "corrections" "[I", Cond.methodLink RX0 9 yX0_become]
def wsX4_keep_r3 : List Cond := [Cond.instanceMethod yX0_become, Cond.selects RX0 yX0_become yX0_become, Cond.code yX0_become cX0_become 4 none]
def wsX4_keep : List Cond := .code yX4_keep cX4_keep 1 (some .int) :: ((wsX4_keep_r1 ++ (wsX4_keep_r2 ++ wsX4_keep_r3)) ++ wsX40 ++ wsX20 ++ wsX30 ++ wsX00)
def wsX4_restore_r1 : List Cond := [Cond.fieldLink RX4 169 "SiltedFloats" "isKept" "Z", Cond.fieldLink RX4 10 "SiltedFloats" "now" "LSiltedFloats$State;", Cond.fieldLink RX4 16 "SiltedFloats" "kept" "LSiltedFloats$State;", Cond.fieldLink RX4 34 "SiltedFloats$State" "hour" "I", Cond.methodLink RX4 47 yX4_remember, Cond.instanceMethod yX4_remember, Cond.selects RX4 yX4_remember yX4_remember, Cond.initialized RX4, Cond.code yX4_remember cX4_remember 1 none, Cond.fieldLink RX4 162 "SiltedFloats" "pastCount" "I", Cond.fieldLink RX4 19 "SiltedFloats" "past" "[LSiltedFloats$State;", Cond.methodLink RX4 227 yX4_dropOldest, Cond.instanceMethod yX4_dropOldest, Cond.selects RX4 yX4_dropOldest yX4_dropOldest, Cond.code yX4_dropOldest cX4_dropOldest 3 none, Cond.methodLink RX4 165 yX2_copyFrom, Cond.instanceMethod yX2_copyFrom, Cond.selects RX2 yX2_copyFrom yX2_copyFrom, Cond.initialized RX2, Cond.code yX2_copyFrom cX2_copyFrom 3 none, Cond.fieldLink RX2 33 "SiltedFloats$State" "hour" "I", Cond.fieldLink RX2 11 "SiltedFloats$State" "waves" "[LSiltedFloats$Wave;", Cond.fieldLink RX2 37 "SiltedFloats$Wave" "amplitude" "I", Cond.fieldLink RX2 40 "SiltedFloats$Wave" "period" "I"]
def wsX4_restore_r2 : List Cond := [Cond.fieldLink RX2 43 "SiltedFloats$Wave" "phase" "I", Cond.fieldLink RX2 22 "SiltedFloats$State" "gauges" "[LSiltedFloats$Gauge;", Cond.methodLink RX2 46 yX3_become, Cond.instanceMethod yX3_become, Cond.selects RX3 yX3_become yX3_become, Cond.initialized RX3, Cond.code yX3_become cX3_become 4 none, Cond.fieldLink RX3 13 "SiltedFloats$Wave" "amplitude" "I", Cond.fieldLink RX3 17 "SiltedFloats$Wave" "period" "I", Cond.fieldLink RX3 20 "SiltedFloats$Wave" "phase" "I", Cond.methodLink RX2 49 yX0_copyFrom, Cond.instanceMethod yX0_copyFrom, Cond.selects RX0 yX0_copyFrom yX0_copyFrom, Cond.initialized RX0, Cond.code yX0_copyFrom cX0_copyFrom 2 none, Cond.fieldLink RX0 39 "SiltedFloats$Gauge" "delay" "I", Cond.fieldLink RX0 42 "SiltedFloats$Gauge" "scale" "I", Cond.fieldLink RX0 45 "SiltedFloats$Gauge" "offset" "I", Cond.fieldLink RX0 48 "SiltedFloats$Gauge" "floatLevel" "I", Cond.fieldLink RX0 51 "SiltedFloats$Gauge" "silt" "I", Cond.fieldLink RX0 54 "SiltedFloats$Gauge" "silting" "I", Cond.fieldLink RX0 57 "SiltedFloats$Gauge" "sinking" "I", Cond.fieldLink RX0 60 "SiltedFloats$Gauge" "sunk" "I", Cond.fieldLink RX0 15 "SiltedFloats$Gauge" "on" "Z"]
def wsX4_restore_r3 : List Cond := [Cond.fieldLink RX0 19 "SiltedFloats$Gauge" "notes" "I", Cond.fieldLink RX0 63 "SiltedFloats$Gauge" "lastNote" "I", Cond.fieldLink RX0 66 "SiltedFloats$Gauge" "lastNoteHour" "I", Cond.fieldLink RX0 23 "SiltedFloats$Gauge" "kinds" "[I", Cond.methodLink RX0 69 arraycopyName, Cond.native arraycopyName, Cond.static arraycopyName, Cond.initialized "java/lang/System", Cond.fieldLink RX0 33 "SiltedFloats$Gauge" "values" "[I", Cond.fieldLink RX0 36 "SiltedFloats$Gauge" "corrections" "[I", Cond.methodLink RX0 9 yX0_become, Cond.instanceMethod yX0_become, Cond.selects RX0 yX0_become yX0_become, Cond.code yX0_become cX0_become 4 none]
def wsX4_restore : List Cond := .code yX4_restore cX4_restore 1 (some .int) :: ((wsX4_restore_r1 ++ (wsX4_restore_r2 ++ wsX4_restore_r3)) ++ wsX40 ++ wsX20 ++ wsX30 ++ wsX00)
def wsX4_sea_r1 : List Cond := [Cond.fieldLink RX4 10 "SiltedFloats" "now" "LSiltedFloats$State;", Cond.constant RX4 61 (100000), Cond.methodLink RX4 30 yX4_isWithin, Cond.static yX4_isWithin, Cond.initialized RX4, Cond.code yX4_isWithin cX4_isWithin 3 (some .boolean), Cond.methodLink RX4 57 yX2_seaAt, Cond.instanceMethod yX2_seaAt, Cond.selects RX2 yX2_seaAt yX2_seaAt, Cond.initialized RX2, Cond.code yX2_seaAt cX2_seaAt 4 (some .int), Cond.fieldLink RX2 11 "SiltedFloats$State" "waves" "[LSiltedFloats$Wave;", Cond.methodLink RX2 52 yX3_heightAt, Cond.instanceMethod yX3_heightAt, Cond.selects RX3 yX3_heightAt yX3_heightAt, Cond.initialized RX3, Cond.code yX3_heightAt cX3_heightAt 4 (some .int), Cond.fieldLink RX3 17 "SiltedFloats$Wave" "period" "I", Cond.fieldLink RX3 20 "SiltedFloats$Wave" "phase" "I", Cond.fieldLink RX3 13 "SiltedFloats$Wave" "amplitude" "I", Cond.methodLink RX3 23 yJ9_floorMod_7cf53, Cond.static yJ9_floorMod_7cf53, Cond.initialized RJ9, Cond.code yJ9_floorMod_7cf53 cJ9_floorMod_7cf53 3 (some .int)]
def wsX4_sea_r2 : List Cond := [Cond.methodLink RX3 29 yJ9_floorDiv_7cf53, Cond.static yJ9_floorDiv_7cf53, Cond.code yJ9_floorDiv_7cf53 cJ9_floorDiv_7cf53 3 (some .int)]
def wsX4_sea : List Cond := .code yX4_sea cX4_sea 2 (some .int) :: ((wsX4_sea_r1 ++ wsX4_sea_r2) ++ wsX40 ++ wsX20 ++ wsX30)
def wsX4_outside_r1 : List Cond := [Cond.fieldLink RX4 10 "SiltedFloats" "now" "LSiltedFloats$State;", Cond.fieldLink RX4 66 "SiltedFloats$State" "gauges" "[LSiltedFloats$Gauge;", Cond.constant RX4 61 (100000), Cond.methodLink RX4 62 yX4_isStation, Cond.static yX4_isStation, Cond.initialized RX4, Cond.code yX4_isStation cX4_isStation 1 (some .boolean), Cond.methodLink RX4 30 yX4_isWithin, Cond.static yX4_isWithin, Cond.code yX4_isWithin cX4_isWithin 3 (some .boolean), Cond.methodLink RX4 172 yX2_waterAt, Cond.instanceMethod yX2_waterAt, Cond.selects RX2 yX2_waterAt yX2_waterAt, Cond.initialized RX2, Cond.code yX2_waterAt cX2_waterAt 3 (some .int), Cond.fieldLink RX2 56 "SiltedFloats$Gauge" "scale" "I", Cond.fieldLink RX2 59 "SiltedFloats$Gauge" "delay" "I", Cond.fieldLink RX2 71 "SiltedFloats$Gauge" "offset" "I", Cond.methodLink RX2 62 yX2_seaAt, Cond.instanceMethod yX2_seaAt, Cond.selects RX2 yX2_seaAt yX2_seaAt, Cond.code yX2_seaAt cX2_seaAt 4 (some .int), Cond.fieldLink RX2 11 "SiltedFloats$State" "waves" "[LSiltedFloats$Wave;", Cond.methodLink RX2 52 yX3_heightAt]
def wsX4_outside_r2 : List Cond := [Cond.instanceMethod yX3_heightAt, Cond.selects RX3 yX3_heightAt yX3_heightAt, Cond.initialized RX3, Cond.code yX3_heightAt cX3_heightAt 4 (some .int), Cond.fieldLink RX3 17 "SiltedFloats$Wave" "period" "I", Cond.fieldLink RX3 20 "SiltedFloats$Wave" "phase" "I", Cond.fieldLink RX3 13 "SiltedFloats$Wave" "amplitude" "I", Cond.methodLink RX3 23 yJ9_floorMod_7cf53, Cond.static yJ9_floorMod_7cf53, Cond.initialized RJ9, Cond.code yJ9_floorMod_7cf53 cJ9_floorMod_7cf53 3 (some .int), Cond.methodLink RX3 29 yJ9_floorDiv_7cf53, Cond.static yJ9_floorDiv_7cf53, Cond.code yJ9_floorDiv_7cf53 cJ9_floorDiv_7cf53 3 (some .int), Cond.methodLink RX2 65 yJ9_floorDiv_7cf53]
def wsX4_outside : List Cond := .code yX4_outside cX4_outside 3 (some .int) :: ((wsX4_outside_r1 ++ wsX4_outside_r2) ++ wsX40 ++ wsX20 ++ wsX00 ++ wsX30)
def wsX4_station_r1 : List Cond := [Cond.fieldLink RX4 10 "SiltedFloats" "now" "LSiltedFloats$State;", Cond.fieldLink RX4 66 "SiltedFloats$State" "gauges" "[LSiltedFloats$Gauge;", Cond.fieldLink RX4 176 "SiltedFloats$Gauge" "delay" "I", Cond.fieldLink RX4 179 "SiltedFloats$Gauge" "scale" "I", Cond.fieldLink RX4 182 "SiltedFloats$Gauge" "offset" "I", Cond.constant RX4 61 (100000), Cond.fieldLink RX4 78 "SiltedFloats$Gauge" "floatLevel" "I", Cond.fieldLink RX4 95 "SiltedFloats$Gauge" "silt" "I", Cond.fieldLink RX4 84 "SiltedFloats$Gauge" "silting" "I", Cond.fieldLink RX4 81 "SiltedFloats$Gauge" "sinking" "I", Cond.fieldLink RX4 105 "SiltedFloats$Gauge" "sunk" "I", Cond.fieldLink RX4 87 "SiltedFloats$Gauge" "on" "Z", Cond.fieldLink RX4 188 "SiltedFloats$Gauge" "notes" "I", Cond.methodLink RX4 62 yX4_isStation, Cond.static yX4_isStation, Cond.initialized RX4, Cond.code yX4_isStation cX4_isStation 1 (some .boolean), Cond.methodLink RX4 152 yX0_hoursOfKind, Cond.instanceMethod yX0_hoursOfKind, Cond.selects RX0 yX0_hoursOfKind yX0_hoursOfKind, Cond.initialized RX0, Cond.code yX0_hoursOfKind cX0_hoursOfKind 4 (some .int), Cond.fieldLink RX0 23 "SiltedFloats$Gauge" "kinds" "[I", Cond.methodLink RX4 185 yX0_gaps]
def wsX4_station_r2 : List Cond := [Cond.instanceMethod yX0_gaps, Cond.selects RX0 yX0_gaps yX0_gaps, Cond.code yX0_gaps cX0_gaps 3 (some .int), Cond.methodLink RX0 121 yX0_startsGap, Cond.instanceMethod yX0_startsGap, Cond.selects RX0 yX0_startsGap yX0_startsGap, Cond.code yX0_startsGap cX0_startsGap 2 (some .boolean), Cond.methodLink RX0 118 yX0_isInGap, Cond.instanceMethod yX0_isInGap, Cond.selects RX0 yX0_isInGap yX0_isInGap, Cond.code yX0_isInGap cX0_isInGap 3 (some .boolean), Cond.methodLink RX0 103 yX0_kindAt, Cond.instanceMethod yX0_kindAt, Cond.selects RX0 yX0_kindAt yX0_kindAt, Cond.code yX0_kindAt cX0_kindAt 2 (some .int)]
def wsX4_station : List Cond := .code yX4_station cX4_station 4 (some .int) :: ((wsX4_station_r1 ++ wsX4_station_r2) ++ wsX40 ++ wsX20 ++ wsX00)
def wsX4_hour_r1 : List Cond := [Cond.fieldLink RX4 10 "SiltedFloats" "now" "LSiltedFloats$State;", Cond.fieldLink RX4 34 "SiltedFloats$State" "hour" "I", Cond.fieldLink RX4 66 "SiltedFloats$State" "gauges" "[LSiltedFloats$Gauge;", Cond.constant RX4 61 (100000), Cond.methodLink RX4 62 yX4_isStation, Cond.static yX4_isStation, Cond.initialized RX4, Cond.code yX4_isStation cX4_isStation 1 (some .boolean), Cond.methodLink RX4 30 yX4_isWithin, Cond.static yX4_isWithin, Cond.code yX4_isWithin cX4_isWithin 3 (some .boolean), Cond.methodLink RX4 191 yX0_kindAt, Cond.instanceMethod yX0_kindAt, Cond.selects RX0 yX0_kindAt yX0_kindAt, Cond.initialized RX0, Cond.code yX0_kindAt cX0_kindAt 2 (some .int), Cond.fieldLink RX0 23 "SiltedFloats$Gauge" "kinds" "[I", Cond.methodLink RX4 194 yX0_readingAt, Cond.instanceMethod yX0_readingAt, Cond.selects RX0 yX0_readingAt yX0_readingAt, Cond.code yX0_readingAt cX0_readingAt 2 (some .int), Cond.fieldLink RX0 33 "SiltedFloats$Gauge" "values" "[I", Cond.methodLink RX4 197 yX0_correctedAt, Cond.instanceMethod yX0_correctedAt]
def wsX4_hour_r2 : List Cond := [Cond.selects RX0 yX0_correctedAt yX0_correctedAt, Cond.code yX0_correctedAt cX0_correctedAt 2 (some .int), Cond.methodLink RX0 96 yX0_readingAt, Cond.methodLink RX0 100 yX0_correctionAt, Cond.instanceMethod yX0_correctionAt, Cond.selects RX0 yX0_correctionAt yX0_correctionAt, Cond.code yX0_correctionAt cX0_correctionAt 2 (some .int), Cond.fieldLink RX0 36 "SiltedFloats$Gauge" "corrections" "[I", Cond.methodLink RX4 200 yX0_valueAt, Cond.instanceMethod yX0_valueAt, Cond.selects RX0 yX0_valueAt yX0_valueAt, Cond.code yX0_valueAt cX0_valueAt 2 (some .int), Cond.methodLink RX0 103 yX0_kindAt, Cond.methodLink RX0 106 yX0_correctedAt, Cond.methodLink RX4 203 yX0_correctionAt]
def wsX4_hour : List Cond := .code yX4_hour cX4_hour 6 (some .int) :: ((wsX4_hour_r1 ++ wsX4_hour_r2) ++ wsX40 ++ wsX20 ++ wsX00)
def wsX4_gap_r1 : List Cond := [Cond.fieldLink RX4 10 "SiltedFloats" "now" "LSiltedFloats$State;", Cond.fieldLink RX4 66 "SiltedFloats$State" "gauges" "[LSiltedFloats$Gauge;", Cond.methodLink RX4 62 yX4_isStation, Cond.static yX4_isStation, Cond.initialized RX4, Cond.code yX4_isStation cX4_isStation 1 (some .boolean), Cond.methodLink RX4 206 yX0_hasGap, Cond.instanceMethod yX0_hasGap, Cond.selects RX0 yX0_hasGap yX0_hasGap, Cond.initialized RX0, Cond.code yX0_hasGap cX0_hasGap 2 (some .boolean), Cond.methodLink RX0 124 yX0_firstHourOfGap, Cond.instanceMethod yX0_firstHourOfGap, Cond.selects RX0 yX0_firstHourOfGap yX0_firstHourOfGap, Cond.code yX0_firstHourOfGap cX0_firstHourOfGap 4 (some .int), Cond.methodLink RX0 121 yX0_startsGap, Cond.instanceMethod yX0_startsGap, Cond.selects RX0 yX0_startsGap yX0_startsGap, Cond.code yX0_startsGap cX0_startsGap 2 (some .boolean), Cond.methodLink RX0 118 yX0_isInGap, Cond.instanceMethod yX0_isInGap, Cond.selects RX0 yX0_isInGap yX0_isInGap, Cond.code yX0_isInGap cX0_isInGap 3 (some .boolean), Cond.methodLink RX0 103 yX0_kindAt]
def wsX4_gap_r2 : List Cond := [Cond.instanceMethod yX0_kindAt, Cond.selects RX0 yX0_kindAt yX0_kindAt, Cond.code yX0_kindAt cX0_kindAt 2 (some .int), Cond.fieldLink RX0 23 "SiltedFloats$Gauge" "kinds" "[I", Cond.methodLink RX4 138 yX0_firstHourOfGap, Cond.methodLink RX4 141 yX0_hourBehindGapFrom, Cond.instanceMethod yX0_hourBehindGapFrom, Cond.selects RX0 yX0_hourBehindGapFrom yX0_hourBehindGapFrom, Cond.code yX0_hourBehindGapFrom cX0_hourBehindGapFrom 3 (some .int), Cond.methodLink RX4 209 yX0_isInner, Cond.instanceMethod yX0_isInner, Cond.selects RX0 yX0_isInner yX0_isInner, Cond.code yX0_isInner cX0_isInner 3 (some .boolean), Cond.methodLink RX0 109 yX0_hasReading, Cond.instanceMethod yX0_hasReading, Cond.selects RX0 yX0_hasReading yX0_hasReading, Cond.code yX0_hasReading cX0_hasReading 2 (some .boolean), Cond.methodLink RX0 127 yX0_hourBehindGapFrom, Cond.methodLink RX4 212 yX0_mendedWithin, Cond.instanceMethod yX0_mendedWithin, Cond.selects RX0 yX0_mendedWithin yX0_mendedWithin, Cond.code yX0_mendedWithin cX0_mendedWithin 5 (some .int)]
def wsX4_gap : List Cond := .code yX4_gap cX4_gap 7 (some .int) :: ((wsX4_gap_r1 ++ wsX4_gap_r2) ++ wsX40 ++ wsX20 ++ wsX00)
def wsX4_misfit_r1 : List Cond := [Cond.fieldLink RX4 10 "SiltedFloats" "now" "LSiltedFloats$State;", Cond.fieldLink RX4 66 "SiltedFloats$State" "gauges" "[LSiltedFloats$Gauge;", Cond.methodLink RX4 134 yX4_checkMending, Cond.instanceMethod yX4_checkMending, Cond.selects RX4 yX4_checkMending yX4_checkMending, Cond.initialized RX4, Cond.code yX4_checkMending cX4_checkMending 5 (some .int), Cond.methodLink RX4 62 yX4_isStation, Cond.static yX4_isStation, Cond.code yX4_isStation cX4_isStation 1 (some .boolean), Cond.methodLink RX4 206 yX0_hasGap, Cond.instanceMethod yX0_hasGap, Cond.selects RX0 yX0_hasGap yX0_hasGap, Cond.initialized RX0, Cond.code yX0_hasGap cX0_hasGap 2 (some .boolean), Cond.methodLink RX0 124 yX0_firstHourOfGap, Cond.instanceMethod yX0_firstHourOfGap, Cond.selects RX0 yX0_firstHourOfGap yX0_firstHourOfGap, Cond.code yX0_firstHourOfGap cX0_firstHourOfGap 4 (some .int), Cond.methodLink RX0 121 yX0_startsGap, Cond.instanceMethod yX0_startsGap, Cond.selects RX0 yX0_startsGap yX0_startsGap, Cond.code yX0_startsGap cX0_startsGap 2 (some .boolean), Cond.methodLink RX0 118 yX0_isInGap]
def wsX4_misfit_r2 : List Cond := [Cond.instanceMethod yX0_isInGap, Cond.selects RX0 yX0_isInGap yX0_isInGap, Cond.code yX0_isInGap cX0_isInGap 3 (some .boolean), Cond.methodLink RX0 103 yX0_kindAt, Cond.instanceMethod yX0_kindAt, Cond.selects RX0 yX0_kindAt yX0_kindAt, Cond.code yX0_kindAt cX0_kindAt 2 (some .int), Cond.fieldLink RX0 23 "SiltedFloats$Gauge" "kinds" "[I", Cond.methodLink RX4 30 yX4_isWithin, Cond.static yX4_isWithin, Cond.code yX4_isWithin cX4_isWithin 3 (some .boolean), Cond.methodLink RX4 209 yX0_isInner, Cond.instanceMethod yX0_isInner, Cond.selects RX0 yX0_isInner yX0_isInner, Cond.code yX0_isInner cX0_isInner 3 (some .boolean), Cond.methodLink RX0 109 yX0_hasReading, Cond.instanceMethod yX0_hasReading, Cond.selects RX0 yX0_hasReading yX0_hasReading, Cond.code yX0_hasReading cX0_hasReading 2 (some .boolean), Cond.methodLink RX0 127 yX0_hourBehindGapFrom, Cond.instanceMethod yX0_hourBehindGapFrom, Cond.selects RX0 yX0_hourBehindGapFrom yX0_hourBehindGapFrom, Cond.code yX0_hourBehindGapFrom cX0_hourBehindGapFrom 3 (some .int), Cond.methodLink RX4 138 yX0_firstHourOfGap]
def wsX4_misfit_r3 : List Cond := [Cond.methodLink RX4 141 yX0_hourBehindGapFrom, Cond.methodLink RX4 144 yX0_hasReadings, Cond.instanceMethod yX0_hasReadings, Cond.selects RX0 yX0_hasReadings yX0_hasReadings, Cond.code yX0_hasReadings cX0_hasReadings 4 (some .boolean), Cond.methodLink RX4 216 yX0_misfitAround, Cond.instanceMethod yX0_misfitAround, Cond.selects RX0 yX0_misfitAround yX0_misfitAround, Cond.code yX0_misfitAround cX0_misfitAround 5 (some .int), Cond.methodLink RX0 130 yX0_misfitWithin, Cond.instanceMethod yX0_misfitWithin, Cond.selects RX0 yX0_misfitWithin yX0_misfitWithin, Cond.code yX0_misfitWithin cX0_misfitWithin 7 (some .int), Cond.methodLink RX0 140 Lib.Math.abs.name, Cond.static Lib.Math.abs.name, Cond.initialized "java/lang/Math", Cond.code Lib.Math.abs.name Lib.Math.abs.code 1 (some .int), Cond.methodLink RX0 134 yX0_hasReadings, Cond.methodLink RX0 137 yX0_riseAt, Cond.instanceMethod yX0_riseAt, Cond.selects RX0 yX0_riseAt yX0_riseAt, Cond.code yX0_riseAt cX0_riseAt 2 (some .int), Cond.methodLink RX0 106 yX0_correctedAt, Cond.instanceMethod yX0_correctedAt]
def wsX4_misfit_r4 : List Cond := [Cond.selects RX0 yX0_correctedAt yX0_correctedAt, Cond.code yX0_correctedAt cX0_correctedAt 2 (some .int), Cond.methodLink RX0 96 yX0_readingAt, Cond.instanceMethod yX0_readingAt, Cond.selects RX0 yX0_readingAt yX0_readingAt, Cond.code yX0_readingAt cX0_readingAt 2 (some .int), Cond.fieldLink RX0 33 "SiltedFloats$Gauge" "values" "[I", Cond.methodLink RX0 100 yX0_correctionAt, Cond.instanceMethod yX0_correctionAt, Cond.selects RX0 yX0_correctionAt yX0_correctionAt, Cond.code yX0_correctionAt cX0_correctionAt 2 (some .int), Cond.fieldLink RX0 36 "SiltedFloats$Gauge" "corrections" "[I"]
def wsX4_misfit : List Cond := .code yX4_misfit cX4_misfit 10 (some .int) :: ((wsX4_misfit_r1 ++ (wsX4_misfit_r2 ++ (wsX4_misfit_r3 ++ wsX4_misfit_r4))) ++ wsX40 ++ wsX20 ++ wsX00)
def wsX4_phaseOfStep : List Cond := .code yX4_phaseOfStep cX4_phaseOfStep 1 (some .int) :: ([])
def wsX4_bestPhase_r1 : List Cond := [Cond.fieldLink RX4 10 "SiltedFloats" "now" "LSiltedFloats$State;", Cond.fieldLink RX4 66 "SiltedFloats$State" "gauges" "[LSiltedFloats$Gauge;", Cond.methodLink RX4 134 yX4_checkMending, Cond.instanceMethod yX4_checkMending, Cond.selects RX4 yX4_checkMending yX4_checkMending, Cond.initialized RX4, Cond.code yX4_checkMending cX4_checkMending 5 (some .int), Cond.methodLink RX4 62 yX4_isStation, Cond.static yX4_isStation, Cond.code yX4_isStation cX4_isStation 1 (some .boolean), Cond.methodLink RX4 206 yX0_hasGap, Cond.instanceMethod yX0_hasGap, Cond.selects RX0 yX0_hasGap yX0_hasGap, Cond.initialized RX0, Cond.code yX0_hasGap cX0_hasGap 2 (some .boolean), Cond.methodLink RX0 124 yX0_firstHourOfGap, Cond.instanceMethod yX0_firstHourOfGap, Cond.selects RX0 yX0_firstHourOfGap yX0_firstHourOfGap, Cond.code yX0_firstHourOfGap cX0_firstHourOfGap 4 (some .int), Cond.methodLink RX0 121 yX0_startsGap, Cond.instanceMethod yX0_startsGap, Cond.selects RX0 yX0_startsGap yX0_startsGap, Cond.code yX0_startsGap cX0_startsGap 2 (some .boolean), Cond.methodLink RX0 118 yX0_isInGap]
def wsX4_bestPhase_r2 : List Cond := [Cond.instanceMethod yX0_isInGap, Cond.selects RX0 yX0_isInGap yX0_isInGap, Cond.code yX0_isInGap cX0_isInGap 3 (some .boolean), Cond.methodLink RX0 103 yX0_kindAt, Cond.instanceMethod yX0_kindAt, Cond.selects RX0 yX0_kindAt yX0_kindAt, Cond.code yX0_kindAt cX0_kindAt 2 (some .int), Cond.fieldLink RX0 23 "SiltedFloats$Gauge" "kinds" "[I", Cond.methodLink RX4 30 yX4_isWithin, Cond.static yX4_isWithin, Cond.code yX4_isWithin cX4_isWithin 3 (some .boolean), Cond.methodLink RX4 209 yX0_isInner, Cond.instanceMethod yX0_isInner, Cond.selects RX0 yX0_isInner yX0_isInner, Cond.code yX0_isInner cX0_isInner 3 (some .boolean), Cond.methodLink RX0 109 yX0_hasReading, Cond.instanceMethod yX0_hasReading, Cond.selects RX0 yX0_hasReading yX0_hasReading, Cond.code yX0_hasReading cX0_hasReading 2 (some .boolean), Cond.methodLink RX0 127 yX0_hourBehindGapFrom, Cond.instanceMethod yX0_hourBehindGapFrom, Cond.selects RX0 yX0_hourBehindGapFrom yX0_hourBehindGapFrom, Cond.code yX0_hourBehindGapFrom cX0_hourBehindGapFrom 3 (some .int), Cond.methodLink RX4 138 yX0_firstHourOfGap]
def wsX4_bestPhase_r3 : List Cond := [Cond.methodLink RX4 141 yX0_hourBehindGapFrom, Cond.methodLink RX4 220 yX4_phaseOfStep, Cond.static yX4_phaseOfStep, Cond.code yX4_phaseOfStep cX4_phaseOfStep 1 (some .int), Cond.methodLink RX4 144 yX0_hasReadings, Cond.instanceMethod yX0_hasReadings, Cond.selects RX0 yX0_hasReadings yX0_hasReadings, Cond.code yX0_hasReadings cX0_hasReadings 4 (some .boolean), Cond.methodLink RX4 216 yX0_misfitAround, Cond.instanceMethod yX0_misfitAround, Cond.selects RX0 yX0_misfitAround yX0_misfitAround, Cond.code yX0_misfitAround cX0_misfitAround 5 (some .int), Cond.methodLink RX0 130 yX0_misfitWithin, Cond.instanceMethod yX0_misfitWithin, Cond.selects RX0 yX0_misfitWithin yX0_misfitWithin, Cond.code yX0_misfitWithin cX0_misfitWithin 7 (some .int), Cond.methodLink RX0 140 Lib.Math.abs.name, Cond.static Lib.Math.abs.name, Cond.initialized "java/lang/Math", Cond.code Lib.Math.abs.name Lib.Math.abs.code 1 (some .int), Cond.methodLink RX0 134 yX0_hasReadings, Cond.methodLink RX0 137 yX0_riseAt, Cond.instanceMethod yX0_riseAt, Cond.selects RX0 yX0_riseAt yX0_riseAt]
def wsX4_bestPhase_r4 : List Cond := [Cond.code yX0_riseAt cX0_riseAt 2 (some .int), Cond.methodLink RX0 106 yX0_correctedAt, Cond.instanceMethod yX0_correctedAt, Cond.selects RX0 yX0_correctedAt yX0_correctedAt, Cond.code yX0_correctedAt cX0_correctedAt 2 (some .int), Cond.methodLink RX0 96 yX0_readingAt, Cond.instanceMethod yX0_readingAt, Cond.selects RX0 yX0_readingAt yX0_readingAt, Cond.code yX0_readingAt cX0_readingAt 2 (some .int), Cond.fieldLink RX0 33 "SiltedFloats$Gauge" "values" "[I", Cond.methodLink RX0 100 yX0_correctionAt, Cond.instanceMethod yX0_correctionAt, Cond.selects RX0 yX0_correctionAt yX0_correctionAt, Cond.code yX0_correctionAt cX0_correctionAt 2 (some .int), Cond.fieldLink RX0 36 "SiltedFloats$Gauge" "corrections" "[I"]
def wsX4_bestPhase : List Cond := .code yX4_bestPhase cX4_bestPhase 14 (some .int) :: ((wsX4_bestPhase_r1 ++ (wsX4_bestPhase_r2 ++ (wsX4_bestPhase_r3 ++ wsX4_bestPhase_r4))) ++ wsX40 ++ wsX20 ++ wsX00)
def wsX4_high_r1 : List Cond := [Cond.fieldLink RX4 10 "SiltedFloats" "now" "LSiltedFloats$State;", Cond.fieldLink RX4 66 "SiltedFloats$State" "gauges" "[LSiltedFloats$Gauge;", Cond.methodLink RX4 62 yX4_isStation, Cond.static yX4_isStation, Cond.initialized RX4, Cond.code yX4_isStation cX4_isStation 1 (some .boolean), Cond.methodLink RX4 223 yX0_isHighAt, Cond.instanceMethod yX0_isHighAt, Cond.selects RX0 yX0_isHighAt yX0_isHighAt, Cond.initialized RX0, Cond.code yX0_isHighAt cX0_isHighAt 2 (some .boolean), Cond.methodLink RX0 112 yX0_hasValue, Cond.instanceMethod yX0_hasValue, Cond.selects RX0 yX0_hasValue yX0_hasValue, Cond.code yX0_hasValue cX0_hasValue 3 (some .boolean), Cond.methodLink RX0 103 yX0_kindAt, Cond.instanceMethod yX0_kindAt, Cond.selects RX0 yX0_kindAt yX0_kindAt, Cond.code yX0_kindAt cX0_kindAt 2 (some .int), Cond.fieldLink RX0 23 "SiltedFloats$Gauge" "kinds" "[I", Cond.methodLink RX0 115 yX0_valueAt, Cond.instanceMethod yX0_valueAt, Cond.selects RX0 yX0_valueAt yX0_valueAt, Cond.code yX0_valueAt cX0_valueAt 2 (some .int)]
def wsX4_high_r2 : List Cond := [Cond.methodLink RX0 96 yX0_readingAt, Cond.instanceMethod yX0_readingAt, Cond.selects RX0 yX0_readingAt yX0_readingAt, Cond.code yX0_readingAt cX0_readingAt 2 (some .int), Cond.fieldLink RX0 33 "SiltedFloats$Gauge" "values" "[I", Cond.methodLink RX0 106 yX0_correctedAt, Cond.instanceMethod yX0_correctedAt, Cond.selects RX0 yX0_correctedAt yX0_correctedAt, Cond.code yX0_correctedAt cX0_correctedAt 2 (some .int), Cond.methodLink RX0 100 yX0_correctionAt, Cond.instanceMethod yX0_correctionAt, Cond.selects RX0 yX0_correctionAt yX0_correctionAt, Cond.code yX0_correctionAt cX0_correctionAt 2 (some .int), Cond.fieldLink RX0 36 "SiltedFloats$Gauge" "corrections" "[I"]
def wsX4_high : List Cond := .code yX4_high cX4_high 6 (some .int) :: ((wsX4_high_r1 ++ wsX4_high_r2) ++ wsX40 ++ wsX20 ++ wsX00)
def wsX4_count : List Cond := .code yX4_count cX4_count 2 (some .int) :: ([.fieldLink RX4 10 "SiltedFloats" "now" "LSiltedFloats$State;", .fieldLink RX4 34 "SiltedFloats$State" "hour" "I", .fieldLink RX4 162 "SiltedFloats" "pastCount" "I", .fieldLink RX4 26 "SiltedFloats" "text" "LSiltedFloats$OrderText;", .fieldLink RX4 117 "SiltedFloats$OrderText" "length" "I", .methodLink RX4 91 yX2_stationsOn, .instanceMethod yX2_stationsOn, .selects RX2 yX2_stationsOn yX2_stationsOn, .initialized RX2, .code yX2_stationsOn cX2_stationsOn 3 (some .int), .fieldLink RX2 22 "SiltedFloats$State" "gauges" "[LSiltedFloats$Gauge;", .fieldLink RX2 96 "SiltedFloats$Gauge" "on" "Z", .methodLink RX4 226 yX2_hoursOfKind, .instanceMethod yX2_hoursOfKind, .selects RX2 yX2_hoursOfKind yX2_hoursOfKind, .code yX2_hoursOfKind cX2_hoursOfKind 4 (some .int), .methodLink RX2 106 yX0_hoursOfKind, .instanceMethod yX0_hoursOfKind, .selects RX0 yX0_hoursOfKind yX0_hoursOfKind, .initialized RX0, .code yX0_hoursOfKind cX0_hoursOfKind 4 (some .int), .fieldLink RX0 23 "SiltedFloats$Gauge" "kinds" "[I"] ++ wsX40 ++ wsX20 ++ wsX10 ++ wsX00)
def wsX5_of : List Cond := .code yX5_of cX5_of 2 (some .int) :: ([])
def wsX5_waveAt : List Cond := .code yX5_waveAt cX5_waveAt 7 (some .int) :: ([.fieldLink RX5 7 "SiltedFloatsModel" "s" "[I"] ++ wsX50)
def wsX5_seaAt : List Cond := .code yX5_seaAt cX5_seaAt 2 (some .int) :: ([.methodLink RX5 37 yX5_waveAt, .instanceMethod yX5_waveAt, .selects RX5 yX5_waveAt yX5_waveAt, .initialized RX5, .code yX5_waveAt cX5_waveAt 7 (some .int), .fieldLink RX5 7 "SiltedFloatsModel" "s" "[I"] ++ wsX50)
def wsX5_divide : List Cond := .code yX5_divide cX5_divide 2 (some .int) :: ([])
def wsX5_outsideAt : List Cond := .code yX5_outsideAt cX5_outsideAt 3 (some .int) :: ([.fieldLink RX5 7 "SiltedFloatsModel" "s" "[I", .methodLink RX5 22 yX5_of, .static yX5_of, .initialized RX5, .code yX5_of cX5_of 2 (some .int), .methodLink RX5 40 yX5_seaAt, .instanceMethod yX5_seaAt, .selects RX5 yX5_seaAt yX5_seaAt, .code yX5_seaAt cX5_seaAt 2 (some .int), .methodLink RX5 37 yX5_waveAt, .instanceMethod yX5_waveAt, .selects RX5 yX5_waveAt yX5_waveAt, .code yX5_waveAt cX5_waveAt 7 (some .int), .methodLink RX5 44 yX5_divide, .static yX5_divide, .code yX5_divide cX5_divide 2 (some .int)] ++ wsX50)
def wsX5_letFloat : List Cond := .code yX5_letFloat cX5_letFloat 2 none :: ([.fieldLink RX5 7 "SiltedFloatsModel" "s" "[I", .methodLink RX5 22 yX5_of, .static yX5_of, .initialized RX5, .code yX5_of cX5_of 2 (some .int), .methodLink RX5 47 yX5_outsideAt, .instanceMethod yX5_outsideAt, .selects RX5 yX5_outsideAt yX5_outsideAt, .code yX5_outsideAt cX5_outsideAt 3 (some .int), .methodLink RX5 40 yX5_seaAt, .instanceMethod yX5_seaAt, .selects RX5 yX5_seaAt yX5_seaAt, .code yX5_seaAt cX5_seaAt 2 (some .int), .methodLink RX5 37 yX5_waveAt, .instanceMethod yX5_waveAt, .selects RX5 yX5_waveAt yX5_waveAt, .code yX5_waveAt cX5_waveAt 7 (some .int), .methodLink RX5 44 yX5_divide, .static yX5_divide, .code yX5_divide cX5_divide 2 (some .int)] ++ wsX50)
def wsX5_init_r1 : List Cond := [Cond.methodLink RX5 1 objectInit, Cond.instanceMethod objectInit, Cond.code objectInit ⟨#[0xb1]⟩ 1 none, Cond.arrayClass .int, Cond.fieldLink RX5 7 "SiltedFloatsModel" "s" "[I", Cond.fieldLink RX5 13 "SiltedFloatsModel" "before" "[I", Cond.fieldLink RX5 16 "SiltedFloatsModel" "kept" "[I", Cond.fieldLink RX5 19 "SiltedFloatsModel" "text" "[I", Cond.methodLink RX5 22 yX5_of, Cond.static yX5_of, Cond.initialized RX5, Cond.code yX5_of cX5_of 2 (some .int), Cond.methodLink RX5 26 yX5_letFloat, Cond.instanceMethod yX5_letFloat, Cond.selects RX5 yX5_letFloat yX5_letFloat, Cond.code yX5_letFloat cX5_letFloat 2 none, Cond.methodLink RX5 47 yX5_outsideAt, Cond.instanceMethod yX5_outsideAt, Cond.selects RX5 yX5_outsideAt yX5_outsideAt, Cond.code yX5_outsideAt cX5_outsideAt 3 (some .int), Cond.methodLink RX5 40 yX5_seaAt, Cond.instanceMethod yX5_seaAt, Cond.selects RX5 yX5_seaAt yX5_seaAt, Cond.code yX5_seaAt cX5_seaAt 2 (some .int)]
def wsX5_init_r2 : List Cond := [Cond.methodLink RX5 37 yX5_waveAt, Cond.instanceMethod yX5_waveAt, Cond.selects RX5 yX5_waveAt yX5_waveAt, Cond.code yX5_waveAt cX5_waveAt 7 (some .int), Cond.methodLink RX5 44 yX5_divide, Cond.static yX5_divide, Cond.code yX5_divide cX5_divide 2 (some .int)]
def wsX5_init : List Cond := .code yX5_init cX5_init 2 none :: ((wsX5_init_r1 ++ wsX5_init_r2) ++ wsX50)
def wsX5_in : List Cond := .code yX5_in cX5_in 3 (some .boolean) :: ([])
def wsX5_isStation : List Cond := .code yX5_isStation cX5_isStation 1 (some .boolean) :: ([.methodLink RX5 29 yX5_in, .static yX5_in, .initialized RX5, .code yX5_in cX5_in 3 (some .boolean)])
def wsX5_size : List Cond := .code yX5_size cX5_size 1 (some .int) :: ([])
def wsX5_know : List Cond := .code yX5_know cX5_know 2 none :: ([.fieldLink RX5 33 "SiltedFloatsModel" "known" "I", .fieldLink RX5 13 "SiltedFloatsModel" "before" "[I", .fieldLink RX5 7 "SiltedFloatsModel" "s" "[I"] ++ wsX50)
def wsX5_setWave_r1 : List Cond := [Cond.fieldLink RX5 7 "SiltedFloatsModel" "s" "[I", Cond.constant RX5 53 (100000), Cond.methodLink RX5 29 yX5_in, Cond.static yX5_in, Cond.initialized RX5, Cond.code yX5_in cX5_in 3 (some .boolean), Cond.methodLink RX5 50 yX5_know, Cond.instanceMethod yX5_know, Cond.selects RX5 yX5_know yX5_know, Cond.code yX5_know cX5_know 2 none, Cond.fieldLink RX5 33 "SiltedFloatsModel" "known" "I", Cond.fieldLink RX5 13 "SiltedFloatsModel" "before" "[I", Cond.methodLink RX5 26 yX5_letFloat, Cond.instanceMethod yX5_letFloat, Cond.selects RX5 yX5_letFloat yX5_letFloat, Cond.code yX5_letFloat cX5_letFloat 2 none, Cond.methodLink RX5 22 yX5_of, Cond.static yX5_of, Cond.code yX5_of cX5_of 2 (some .int), Cond.methodLink RX5 47 yX5_outsideAt, Cond.instanceMethod yX5_outsideAt, Cond.selects RX5 yX5_outsideAt yX5_outsideAt, Cond.code yX5_outsideAt cX5_outsideAt 3 (some .int), Cond.methodLink RX5 40 yX5_seaAt]
def wsX5_setWave_r2 : List Cond := [Cond.instanceMethod yX5_seaAt, Cond.selects RX5 yX5_seaAt yX5_seaAt, Cond.code yX5_seaAt cX5_seaAt 2 (some .int), Cond.methodLink RX5 37 yX5_waveAt, Cond.instanceMethod yX5_waveAt, Cond.selects RX5 yX5_waveAt yX5_waveAt, Cond.code yX5_waveAt cX5_waveAt 7 (some .int), Cond.methodLink RX5 44 yX5_divide, Cond.static yX5_divide, Cond.code yX5_divide cX5_divide 2 (some .int)]
def wsX5_setWave : List Cond := .code yX5_setWave cX5_setWave 6 (some .int) :: ((wsX5_setWave_r1 ++ wsX5_setWave_r2) ++ wsX50)
def wsX5_setStation_r1 : List Cond := [Cond.fieldLink RX5 7 "SiltedFloatsModel" "s" "[I", Cond.constant RX5 53 (100000), Cond.methodLink RX5 54 yX5_isStation, Cond.static yX5_isStation, Cond.initialized RX5, Cond.code yX5_isStation cX5_isStation 1 (some .boolean), Cond.methodLink RX5 29 yX5_in, Cond.static yX5_in, Cond.code yX5_in cX5_in 3 (some .boolean), Cond.methodLink RX5 22 yX5_of, Cond.static yX5_of, Cond.code yX5_of cX5_of 2 (some .int), Cond.methodLink RX5 50 yX5_know, Cond.instanceMethod yX5_know, Cond.selects RX5 yX5_know yX5_know, Cond.code yX5_know cX5_know 2 none, Cond.fieldLink RX5 33 "SiltedFloatsModel" "known" "I", Cond.fieldLink RX5 13 "SiltedFloatsModel" "before" "[I", Cond.methodLink RX5 47 yX5_outsideAt, Cond.instanceMethod yX5_outsideAt, Cond.selects RX5 yX5_outsideAt yX5_outsideAt, Cond.code yX5_outsideAt cX5_outsideAt 3 (some .int), Cond.methodLink RX5 40 yX5_seaAt, Cond.instanceMethod yX5_seaAt]
def wsX5_setStation_r2 : List Cond := [Cond.selects RX5 yX5_seaAt yX5_seaAt, Cond.code yX5_seaAt cX5_seaAt 2 (some .int), Cond.methodLink RX5 37 yX5_waveAt, Cond.instanceMethod yX5_waveAt, Cond.selects RX5 yX5_waveAt yX5_waveAt, Cond.code yX5_waveAt cX5_waveAt 7 (some .int), Cond.methodLink RX5 44 yX5_divide, Cond.static yX5_divide, Cond.code yX5_divide cX5_divide 2 (some .int)]
def wsX5_setStation : List Cond := .code yX5_setStation cX5_setStation 5 (some .int) :: ((wsX5_setStation_r1 ++ wsX5_setStation_r2) ++ wsX50)
def wsX5_setRate : List Cond := .code yX5_setRate cX5_setRate 6 (some .int) :: ([.fieldLink RX5 7 "SiltedFloatsModel" "s" "[I", .methodLink RX5 54 yX5_isStation, .static yX5_isStation, .initialized RX5, .code yX5_isStation cX5_isStation 1 (some .boolean), .methodLink RX5 29 yX5_in, .static yX5_in, .code yX5_in cX5_in 3 (some .boolean), .methodLink RX5 22 yX5_of, .static yX5_of, .code yX5_of cX5_of 2 (some .int), .methodLink RX5 50 yX5_know, .instanceMethod yX5_know, .selects RX5 yX5_know yX5_know, .code yX5_know cX5_know 2 none, .fieldLink RX5 33 "SiltedFloatsModel" "known" "I", .fieldLink RX5 13 "SiltedFloatsModel" "before" "[I"] ++ wsX50)
def wsX5_manyOn : List Cond := .code yX5_manyOn cX5_manyOn 1 (some .int) :: ([.fieldLink RX5 7 "SiltedFloatsModel" "s" "[I", .methodLink RX5 22 yX5_of, .static yX5_of, .initialized RX5, .code yX5_of cX5_of 2 (some .int)] ++ wsX50)
def wsX5_turn : List Cond := .code yX5_turn cX5_turn 3 (some .int) :: ([.fieldLink RX5 7 "SiltedFloatsModel" "s" "[I", .methodLink RX5 54 yX5_isStation, .static yX5_isStation, .initialized RX5, .code yX5_isStation cX5_isStation 1 (some .boolean), .methodLink RX5 29 yX5_in, .static yX5_in, .code yX5_in cX5_in 3 (some .boolean), .methodLink RX5 22 yX5_of, .static yX5_of, .code yX5_of cX5_of 2 (some .int), .methodLink RX5 50 yX5_know, .instanceMethod yX5_know, .selects RX5 yX5_know yX5_know, .code yX5_know cX5_know 2 none, .fieldLink RX5 33 "SiltedFloatsModel" "known" "I", .fieldLink RX5 13 "SiltedFloatsModel" "before" "[I", .methodLink RX5 58 yX5_manyOn, .instanceMethod yX5_manyOn, .selects RX5 yX5_manyOn yX5_manyOn, .code yX5_manyOn cX5_manyOn 1 (some .int)] ++ wsX50)
def wsX5_clean : List Cond := .code yX5_clean cX5_clean 3 (some .int) :: ([.fieldLink RX5 7 "SiltedFloatsModel" "s" "[I", .methodLink RX5 54 yX5_isStation, .static yX5_isStation, .initialized RX5, .code yX5_isStation cX5_isStation 1 (some .boolean), .methodLink RX5 29 yX5_in, .static yX5_in, .code yX5_in cX5_in 3 (some .boolean), .methodLink RX5 22 yX5_of, .static yX5_of, .code yX5_of cX5_of 2 (some .int), .methodLink RX5 50 yX5_know, .instanceMethod yX5_know, .selects RX5 yX5_know yX5_know, .code yX5_know cX5_know 2 none, .fieldLink RX5 33 "SiltedFloatsModel" "known" "I", .fieldLink RX5 13 "SiltedFloatsModel" "before" "[I"] ++ wsX50)
def wsX5_note : List Cond := .code yX5_note cX5_note 2 none :: ([.fieldLink RX5 7 "SiltedFloatsModel" "s" "[I", .methodLink RX5 22 yX5_of, .static yX5_of, .initialized RX5, .code yX5_of cX5_of 2 (some .int)] ++ wsX50)
def wsX5_level : List Cond := .code yX5_level cX5_level 2 (some .int) :: ([.fieldLink RX5 7 "SiltedFloatsModel" "s" "[I", .methodLink RX5 54 yX5_isStation, .static yX5_isStation, .initialized RX5, .code yX5_isStation cX5_isStation 1 (some .boolean), .methodLink RX5 29 yX5_in, .static yX5_in, .code yX5_in cX5_in 3 (some .boolean), .methodLink RX5 22 yX5_of, .static yX5_of, .code yX5_of cX5_of 2 (some .int), .methodLink RX5 50 yX5_know, .instanceMethod yX5_know, .selects RX5 yX5_know yX5_know, .code yX5_know cX5_know 2 none, .fieldLink RX5 33 "SiltedFloatsModel" "known" "I", .fieldLink RX5 13 "SiltedFloatsModel" "before" "[I", .methodLink RX5 62 yX5_note, .instanceMethod yX5_note, .selects RX5 yX5_note yX5_note, .code yX5_note cX5_note 2 none] ++ wsX50)
def wsX5_goBy : List Cond := .code yX5_goBy cX5_goBy 5 none :: ([.fieldLink RX5 7 "SiltedFloatsModel" "s" "[I", .methodLink RX5 22 yX5_of, .static yX5_of, .initialized RX5, .code yX5_of cX5_of 2 (some .int), .methodLink RX5 47 yX5_outsideAt, .instanceMethod yX5_outsideAt, .selects RX5 yX5_outsideAt yX5_outsideAt, .code yX5_outsideAt cX5_outsideAt 3 (some .int), .methodLink RX5 40 yX5_seaAt, .instanceMethod yX5_seaAt, .selects RX5 yX5_seaAt yX5_seaAt, .code yX5_seaAt cX5_seaAt 2 (some .int), .methodLink RX5 37 yX5_waveAt, .instanceMethod yX5_waveAt, .selects RX5 yX5_waveAt yX5_waveAt, .code yX5_waveAt cX5_waveAt 7 (some .int), .methodLink RX5 44 yX5_divide, .static yX5_divide, .code yX5_divide cX5_divide 2 (some .int)] ++ wsX50)
def wsX5_pass_r1 : List Cond := [Cond.fieldLink RX5 7 "SiltedFloatsModel" "s" "[I", Cond.methodLink RX5 29 yX5_in, Cond.static yX5_in, Cond.initialized RX5, Cond.code yX5_in cX5_in 3 (some .boolean), Cond.methodLink RX5 50 yX5_know, Cond.instanceMethod yX5_know, Cond.selects RX5 yX5_know yX5_know, Cond.code yX5_know cX5_know 2 none, Cond.fieldLink RX5 33 "SiltedFloatsModel" "known" "I", Cond.fieldLink RX5 13 "SiltedFloatsModel" "before" "[I", Cond.methodLink RX5 66 yX5_goBy, Cond.instanceMethod yX5_goBy, Cond.selects RX5 yX5_goBy yX5_goBy, Cond.code yX5_goBy cX5_goBy 5 none, Cond.methodLink RX5 22 yX5_of, Cond.static yX5_of, Cond.code yX5_of cX5_of 2 (some .int), Cond.methodLink RX5 47 yX5_outsideAt, Cond.instanceMethod yX5_outsideAt, Cond.selects RX5 yX5_outsideAt yX5_outsideAt, Cond.code yX5_outsideAt cX5_outsideAt 3 (some .int), Cond.methodLink RX5 40 yX5_seaAt, Cond.instanceMethod yX5_seaAt]
def wsX5_pass_r2 : List Cond := [Cond.selects RX5 yX5_seaAt yX5_seaAt, Cond.code yX5_seaAt cX5_seaAt 2 (some .int), Cond.methodLink RX5 37 yX5_waveAt, Cond.instanceMethod yX5_waveAt, Cond.selects RX5 yX5_waveAt yX5_waveAt, Cond.code yX5_waveAt cX5_waveAt 7 (some .int), Cond.methodLink RX5 44 yX5_divide, Cond.static yX5_divide, Cond.code yX5_divide cX5_divide 2 (some .int)]
def wsX5_pass : List Cond := .code yX5_pass cX5_pass 3 (some .int) :: ((wsX5_pass_r1 ++ wsX5_pass_r2) ++ wsX50)
def wsX5_sign : List Cond := .code yX5_sign cX5_sign 4 (some .int) :: ([.fieldLink RX5 69 "SiltedFloatsModel" "at" "I", .fieldLink RX5 72 "SiltedFloatsModel" "typed" "I", .fieldLink RX5 19 "SiltedFloatsModel" "text" "[I", .fieldLink RX5 75 "SiltedFloatsModel" "isWrong" "Z", .methodLink RX5 29 yX5_in, .static yX5_in, .initialized RX5, .code yX5_in cX5_in 3 (some .boolean)] ++ wsX50)
def wsX5_does_r1 : List Cond := [Cond.fieldLink RX5 7 "SiltedFloatsModel" "s" "[I", Cond.methodLink RX5 66 yX5_goBy, Cond.instanceMethod yX5_goBy, Cond.selects RX5 yX5_goBy yX5_goBy, Cond.initialized RX5, Cond.code yX5_goBy cX5_goBy 5 none, Cond.methodLink RX5 22 yX5_of, Cond.static yX5_of, Cond.code yX5_of cX5_of 2 (some .int), Cond.methodLink RX5 47 yX5_outsideAt, Cond.instanceMethod yX5_outsideAt, Cond.selects RX5 yX5_outsideAt yX5_outsideAt, Cond.code yX5_outsideAt cX5_outsideAt 3 (some .int), Cond.methodLink RX5 40 yX5_seaAt, Cond.instanceMethod yX5_seaAt, Cond.selects RX5 yX5_seaAt yX5_seaAt, Cond.code yX5_seaAt cX5_seaAt 2 (some .int), Cond.methodLink RX5 37 yX5_waveAt, Cond.instanceMethod yX5_waveAt, Cond.selects RX5 yX5_waveAt yX5_waveAt, Cond.code yX5_waveAt cX5_waveAt 7 (some .int), Cond.methodLink RX5 44 yX5_divide, Cond.static yX5_divide, Cond.code yX5_divide cX5_divide 2 (some .int)]
def wsX5_does_r2 : List Cond := [Cond.methodLink RX5 62 yX5_note, Cond.instanceMethod yX5_note, Cond.selects RX5 yX5_note yX5_note, Cond.code yX5_note cX5_note 2 none]
def wsX5_does : List Cond := .code yX5_does cX5_does 4 none :: ((wsX5_does_r1 ++ wsX5_does_r2) ++ wsX50)
def wsX5_order_r1 : List Cond := [Cond.fieldLink RX5 69 "SiltedFloatsModel" "at" "I", Cond.fieldLink RX5 72 "SiltedFloatsModel" "typed" "I", Cond.fieldLink RX5 19 "SiltedFloatsModel" "text" "[I", Cond.fieldLink RX5 75 "SiltedFloatsModel" "isWrong" "Z", Cond.methodLink RX5 79 yX5_sign, Cond.instanceMethod yX5_sign, Cond.selects RX5 yX5_sign yX5_sign, Cond.initialized RX5, Cond.code yX5_sign cX5_sign 4 (some .int), Cond.methodLink RX5 29 yX5_in, Cond.static yX5_in, Cond.code yX5_in cX5_in 3 (some .boolean), Cond.methodLink RX5 82 yX5_does, Cond.instanceMethod yX5_does, Cond.selects RX5 yX5_does yX5_does, Cond.code yX5_does cX5_does 4 none, Cond.fieldLink RX5 7 "SiltedFloatsModel" "s" "[I", Cond.methodLink RX5 66 yX5_goBy, Cond.instanceMethod yX5_goBy, Cond.selects RX5 yX5_goBy yX5_goBy, Cond.code yX5_goBy cX5_goBy 5 none, Cond.methodLink RX5 22 yX5_of, Cond.static yX5_of, Cond.code yX5_of cX5_of 2 (some .int)]
def wsX5_order_r2 : List Cond := [Cond.methodLink RX5 47 yX5_outsideAt, Cond.instanceMethod yX5_outsideAt, Cond.selects RX5 yX5_outsideAt yX5_outsideAt, Cond.code yX5_outsideAt cX5_outsideAt 3 (some .int), Cond.methodLink RX5 40 yX5_seaAt, Cond.instanceMethod yX5_seaAt, Cond.selects RX5 yX5_seaAt yX5_seaAt, Cond.code yX5_seaAt cX5_seaAt 2 (some .int), Cond.methodLink RX5 37 yX5_waveAt, Cond.instanceMethod yX5_waveAt, Cond.selects RX5 yX5_waveAt yX5_waveAt, Cond.code yX5_waveAt cX5_waveAt 7 (some .int), Cond.methodLink RX5 44 yX5_divide, Cond.static yX5_divide, Cond.code yX5_divide cX5_divide 2 (some .int), Cond.methodLink RX5 62 yX5_note, Cond.instanceMethod yX5_note, Cond.selects RX5 yX5_note yX5_note, Cond.code yX5_note cX5_note 2 none]
def wsX5_order : List Cond := .code yX5_order cX5_order 4 (some .int) :: ((wsX5_order_r1 ++ wsX5_order_r2) ++ wsX50)
def wsX5_go_r1 : List Cond := [Cond.fieldLink RX5 69 "SiltedFloatsModel" "at" "I", Cond.fieldLink RX5 75 "SiltedFloatsModel" "isWrong" "Z", Cond.fieldLink RX5 86 "SiltedFloatsModel" "hoursOfAll" "I", Cond.fieldLink RX5 72 "SiltedFloatsModel" "typed" "I", Cond.methodLink RX5 89 yX5_order, Cond.instanceMethod yX5_order, Cond.selects RX5 yX5_order yX5_order, Cond.initialized RX5, Cond.code yX5_order cX5_order 4 (some .int), Cond.fieldLink RX5 19 "SiltedFloatsModel" "text" "[I", Cond.methodLink RX5 79 yX5_sign, Cond.instanceMethod yX5_sign, Cond.selects RX5 yX5_sign yX5_sign, Cond.code yX5_sign cX5_sign 4 (some .int), Cond.methodLink RX5 29 yX5_in, Cond.static yX5_in, Cond.code yX5_in cX5_in 3 (some .boolean), Cond.methodLink RX5 82 yX5_does, Cond.instanceMethod yX5_does, Cond.selects RX5 yX5_does yX5_does, Cond.code yX5_does cX5_does 4 none, Cond.fieldLink RX5 7 "SiltedFloatsModel" "s" "[I", Cond.methodLink RX5 66 yX5_goBy, Cond.instanceMethod yX5_goBy]
def wsX5_go_r2 : List Cond := [Cond.selects RX5 yX5_goBy yX5_goBy, Cond.code yX5_goBy cX5_goBy 5 none, Cond.methodLink RX5 22 yX5_of, Cond.static yX5_of, Cond.code yX5_of cX5_of 2 (some .int), Cond.methodLink RX5 47 yX5_outsideAt, Cond.instanceMethod yX5_outsideAt, Cond.selects RX5 yX5_outsideAt yX5_outsideAt, Cond.code yX5_outsideAt cX5_outsideAt 3 (some .int), Cond.methodLink RX5 40 yX5_seaAt, Cond.instanceMethod yX5_seaAt, Cond.selects RX5 yX5_seaAt yX5_seaAt, Cond.code yX5_seaAt cX5_seaAt 2 (some .int), Cond.methodLink RX5 37 yX5_waveAt, Cond.instanceMethod yX5_waveAt, Cond.selects RX5 yX5_waveAt yX5_waveAt, Cond.code yX5_waveAt cX5_waveAt 7 (some .int), Cond.methodLink RX5 44 yX5_divide, Cond.static yX5_divide, Cond.code yX5_divide cX5_divide 2 (some .int), Cond.methodLink RX5 62 yX5_note, Cond.instanceMethod yX5_note, Cond.selects RX5 yX5_note yX5_note, Cond.code yX5_note cX5_note 2 none]
def wsX5_go : List Cond := .code yX5_go cX5_go 5 (some .int) :: ((wsX5_go_r1 ++ wsX5_go_r2) ++ wsX50)
def wsX5_follow_r1 : List Cond := [Cond.fieldLink RX5 75 "SiltedFloatsModel" "isWrong" "Z", Cond.fieldLink RX5 69 "SiltedFloatsModel" "at" "I", Cond.fieldLink RX5 7 "SiltedFloatsModel" "s" "[I", Cond.fieldLink RX5 86 "SiltedFloatsModel" "hoursOfAll" "I", Cond.methodLink RX5 93 yX5_go, Cond.instanceMethod yX5_go, Cond.selects RX5 yX5_go yX5_go, Cond.initialized RX5, Cond.code yX5_go cX5_go 5 (some .int), Cond.fieldLink RX5 72 "SiltedFloatsModel" "typed" "I", Cond.methodLink RX5 89 yX5_order, Cond.instanceMethod yX5_order, Cond.selects RX5 yX5_order yX5_order, Cond.code yX5_order cX5_order 4 (some .int), Cond.fieldLink RX5 19 "SiltedFloatsModel" "text" "[I", Cond.methodLink RX5 79 yX5_sign, Cond.instanceMethod yX5_sign, Cond.selects RX5 yX5_sign yX5_sign, Cond.code yX5_sign cX5_sign 4 (some .int), Cond.methodLink RX5 29 yX5_in, Cond.static yX5_in, Cond.code yX5_in cX5_in 3 (some .boolean), Cond.methodLink RX5 82 yX5_does, Cond.instanceMethod yX5_does]
def wsX5_follow_r2 : List Cond := [Cond.selects RX5 yX5_does yX5_does, Cond.code yX5_does cX5_does 4 none, Cond.methodLink RX5 66 yX5_goBy, Cond.instanceMethod yX5_goBy, Cond.selects RX5 yX5_goBy yX5_goBy, Cond.code yX5_goBy cX5_goBy 5 none, Cond.methodLink RX5 22 yX5_of, Cond.static yX5_of, Cond.code yX5_of cX5_of 2 (some .int), Cond.methodLink RX5 47 yX5_outsideAt, Cond.instanceMethod yX5_outsideAt, Cond.selects RX5 yX5_outsideAt yX5_outsideAt, Cond.code yX5_outsideAt cX5_outsideAt 3 (some .int), Cond.methodLink RX5 40 yX5_seaAt, Cond.instanceMethod yX5_seaAt, Cond.selects RX5 yX5_seaAt yX5_seaAt, Cond.code yX5_seaAt cX5_seaAt 2 (some .int), Cond.methodLink RX5 37 yX5_waveAt, Cond.instanceMethod yX5_waveAt, Cond.selects RX5 yX5_waveAt yX5_waveAt, Cond.code yX5_waveAt cX5_waveAt 7 (some .int), Cond.methodLink RX5 44 yX5_divide, Cond.static yX5_divide, Cond.code yX5_divide cX5_divide 2 (some .int)]
def wsX5_follow_r3 : List Cond := [Cond.methodLink RX5 62 yX5_note, Cond.instanceMethod yX5_note, Cond.selects RX5 yX5_note yX5_note, Cond.code yX5_note cX5_note 2 none, Cond.methodLink RX5 50 yX5_know, Cond.instanceMethod yX5_know, Cond.selects RX5 yX5_know yX5_know, Cond.code yX5_know cX5_know 2 none, Cond.fieldLink RX5 33 "SiltedFloatsModel" "known" "I", Cond.fieldLink RX5 13 "SiltedFloatsModel" "before" "[I"]
def wsX5_follow : List Cond := .code yX5_follow cX5_follow 2 (some .int) :: ((wsX5_follow_r1 ++ (wsX5_follow_r2 ++ wsX5_follow_r3)) ++ wsX50)
def wsX5_type : List Cond := .code yX5_type cX5_type 2 (some .int) :: ([.fieldLink RX5 72 "SiltedFloatsModel" "typed" "I", .fieldLink RX5 19 "SiltedFloatsModel" "text" "[I"] ++ wsX50)
def wsX5_clearText : List Cond := .code yX5_clearText cX5_clearText 2 (some .int) :: ([.fieldLink RX5 72 "SiltedFloatsModel" "typed" "I"] ++ wsX50)
def wsX5_isRead : List Cond := .code yX5_isRead cX5_isRead 3 (some .boolean) :: ([.fieldLink RX5 7 "SiltedFloatsModel" "s" "[I", .methodLink RX5 29 yX5_in, .static yX5_in, .initialized RX5, .code yX5_in cX5_in 3 (some .boolean), .methodLink RX5 22 yX5_of, .static yX5_of, .code yX5_of cX5_of 2 (some .int)] ++ wsX50)
def wsX5_correction : List Cond := .code yX5_correction cX5_correction 6 (some .int) :: ([.fieldLink RX5 7 "SiltedFloatsModel" "s" "[I", .methodLink RX5 22 yX5_of, .static yX5_of, .initialized RX5, .code yX5_of cX5_of 2 (some .int), .methodLink RX5 44 yX5_divide, .static yX5_divide, .code yX5_divide cX5_divide 2 (some .int)] ++ wsX50)
def wsX5_corrected : List Cond := .code yX5_corrected cX5_corrected 3 (some .int) :: ([.fieldLink RX5 7 "SiltedFloatsModel" "s" "[I", .methodLink RX5 22 yX5_of, .static yX5_of, .initialized RX5, .code yX5_of cX5_of 2 (some .int), .methodLink RX5 96 yX5_correction, .instanceMethod yX5_correction, .selects RX5 yX5_correction yX5_correction, .code yX5_correction cX5_correction 6 (some .int), .methodLink RX5 44 yX5_divide, .static yX5_divide, .code yX5_divide cX5_divide 2 (some .int)] ++ wsX50)
def wsX5_isBegin : List Cond := .code yX5_isBegin cX5_isBegin 3 (some .boolean) :: ([.fieldLink RX5 7 "SiltedFloatsModel" "s" "[I", .methodLink RX5 29 yX5_in, .static yX5_in, .initialized RX5, .code yX5_in cX5_in 3 (some .boolean), .methodLink RX5 99 yX5_isRead, .instanceMethod yX5_isRead, .selects RX5 yX5_isRead yX5_isRead, .code yX5_isRead cX5_isRead 3 (some .boolean), .methodLink RX5 22 yX5_of, .static yX5_of, .code yX5_of cX5_of 2 (some .int)] ++ wsX50)
def wsX5_gapsOf : List Cond := .code yX5_gapsOf cX5_gapsOf 4 (some .int) :: ([.fieldLink RX5 7 "SiltedFloatsModel" "s" "[I", .methodLink RX5 103 yX5_isBegin, .instanceMethod yX5_isBegin, .selects RX5 yX5_isBegin yX5_isBegin, .initialized RX5, .code yX5_isBegin cX5_isBegin 3 (some .boolean), .methodLink RX5 29 yX5_in, .static yX5_in, .code yX5_in cX5_in 3 (some .boolean), .methodLink RX5 99 yX5_isRead, .instanceMethod yX5_isRead, .selects RX5 yX5_isRead yX5_isRead, .code yX5_isRead cX5_isRead 3 (some .boolean), .methodLink RX5 22 yX5_of, .static yX5_of, .code yX5_of cX5_of 2 (some .int)] ++ wsX50)
def wsX5_beginOf : List Cond := .code yX5_beginOf cX5_beginOf 5 (some .int) :: ([.methodLink RX5 103 yX5_isBegin, .instanceMethod yX5_isBegin, .selects RX5 yX5_isBegin yX5_isBegin, .initialized RX5, .code yX5_isBegin cX5_isBegin 3 (some .boolean), .fieldLink RX5 7 "SiltedFloatsModel" "s" "[I", .methodLink RX5 29 yX5_in, .static yX5_in, .code yX5_in cX5_in 3 (some .boolean), .methodLink RX5 99 yX5_isRead, .instanceMethod yX5_isRead, .selects RX5 yX5_isRead yX5_isRead, .code yX5_isRead cX5_isRead 3 (some .boolean), .methodLink RX5 22 yX5_of, .static yX5_of, .code yX5_of cX5_of 2 (some .int)] ++ wsX50)
def wsX5_endOf : List Cond := .code yX5_endOf cX5_endOf 4 (some .int) :: ([.fieldLink RX5 7 "SiltedFloatsModel" "s" "[I", .methodLink RX5 99 yX5_isRead, .instanceMethod yX5_isRead, .selects RX5 yX5_isRead yX5_isRead, .initialized RX5, .code yX5_isRead cX5_isRead 3 (some .boolean), .methodLink RX5 29 yX5_in, .static yX5_in, .code yX5_in cX5_in 3 (some .boolean), .methodLink RX5 22 yX5_of, .static yX5_of, .code yX5_of cX5_of 2 (some .int)] ++ wsX50)
def wsX5_isGap : List Cond := .code yX5_isGap cX5_isGap 3 (some .boolean) :: ([.methodLink RX5 106 yX5_gapsOf, .instanceMethod yX5_gapsOf, .selects RX5 yX5_gapsOf yX5_gapsOf, .initialized RX5, .code yX5_gapsOf cX5_gapsOf 4 (some .int), .fieldLink RX5 7 "SiltedFloatsModel" "s" "[I", .methodLink RX5 103 yX5_isBegin, .instanceMethod yX5_isBegin, .selects RX5 yX5_isBegin yX5_isBegin, .code yX5_isBegin cX5_isBegin 3 (some .boolean), .methodLink RX5 29 yX5_in, .static yX5_in, .code yX5_in cX5_in 3 (some .boolean), .methodLink RX5 99 yX5_isRead, .instanceMethod yX5_isRead, .selects RX5 yX5_isRead yX5_isRead, .code yX5_isRead cX5_isRead 3 (some .boolean), .methodLink RX5 22 yX5_of, .static yX5_of, .code yX5_of cX5_of 2 (some .int)] ++ wsX50)
def wsX5_isInner : List Cond := .code yX5_isInner cX5_isInner 3 (some .boolean) :: ([.fieldLink RX5 7 "SiltedFloatsModel" "s" "[I", .methodLink RX5 109 yX5_beginOf, .instanceMethod yX5_beginOf, .selects RX5 yX5_beginOf yX5_beginOf, .initialized RX5, .code yX5_beginOf cX5_beginOf 5 (some .int), .methodLink RX5 103 yX5_isBegin, .instanceMethod yX5_isBegin, .selects RX5 yX5_isBegin yX5_isBegin, .code yX5_isBegin cX5_isBegin 3 (some .boolean), .methodLink RX5 29 yX5_in, .static yX5_in, .code yX5_in cX5_in 3 (some .boolean), .methodLink RX5 99 yX5_isRead, .instanceMethod yX5_isRead, .selects RX5 yX5_isRead yX5_isRead, .code yX5_isRead cX5_isRead 3 (some .boolean), .methodLink RX5 22 yX5_of, .static yX5_of, .code yX5_of cX5_of 2 (some .int), .methodLink RX5 112 yX5_endOf, .instanceMethod yX5_endOf, .selects RX5 yX5_endOf yX5_endOf, .code yX5_endOf cX5_endOf 4 (some .int)] ++ wsX50)
def wsX5_canMend : List Cond := .code yX5_canMend cX5_canMend 9 (some .boolean) :: ([.methodLink RX5 109 yX5_beginOf, .instanceMethod yX5_beginOf, .selects RX5 yX5_beginOf yX5_beginOf, .initialized RX5, .code yX5_beginOf cX5_beginOf 5 (some .int), .methodLink RX5 103 yX5_isBegin, .instanceMethod yX5_isBegin, .selects RX5 yX5_isBegin yX5_isBegin, .code yX5_isBegin cX5_isBegin 3 (some .boolean), .fieldLink RX5 7 "SiltedFloatsModel" "s" "[I", .methodLink RX5 29 yX5_in, .static yX5_in, .code yX5_in cX5_in 3 (some .boolean), .methodLink RX5 99 yX5_isRead, .instanceMethod yX5_isRead, .selects RX5 yX5_isRead yX5_isRead, .code yX5_isRead cX5_isRead 3 (some .boolean), .methodLink RX5 22 yX5_of, .static yX5_of, .code yX5_of cX5_of 2 (some .int), .methodLink RX5 112 yX5_endOf, .instanceMethod yX5_endOf, .selects RX5 yX5_endOf yX5_endOf, .code yX5_endOf cX5_endOf 4 (some .int)] ++ wsX50)
def wsX5_mend_r1 : List Cond := [Cond.fieldLink RX5 7 "SiltedFloatsModel" "s" "[I", Cond.methodLink RX5 54 yX5_isStation, Cond.static yX5_isStation, Cond.initialized RX5, Cond.code yX5_isStation cX5_isStation 1 (some .boolean), Cond.methodLink RX5 29 yX5_in, Cond.static yX5_in, Cond.code yX5_in cX5_in 3 (some .boolean), Cond.methodLink RX5 115 yX5_isGap, Cond.instanceMethod yX5_isGap, Cond.selects RX5 yX5_isGap yX5_isGap, Cond.code yX5_isGap cX5_isGap 3 (some .boolean), Cond.methodLink RX5 106 yX5_gapsOf, Cond.instanceMethod yX5_gapsOf, Cond.selects RX5 yX5_gapsOf yX5_gapsOf, Cond.code yX5_gapsOf cX5_gapsOf 4 (some .int), Cond.methodLink RX5 103 yX5_isBegin, Cond.instanceMethod yX5_isBegin, Cond.selects RX5 yX5_isBegin yX5_isBegin, Cond.code yX5_isBegin cX5_isBegin 3 (some .boolean), Cond.methodLink RX5 99 yX5_isRead, Cond.instanceMethod yX5_isRead, Cond.selects RX5 yX5_isRead yX5_isRead, Cond.code yX5_isRead cX5_isRead 3 (some .boolean)]
def wsX5_mend_r2 : List Cond := [Cond.methodLink RX5 22 yX5_of, Cond.static yX5_of, Cond.code yX5_of cX5_of 2 (some .int), Cond.methodLink RX5 118 yX5_isInner, Cond.instanceMethod yX5_isInner, Cond.selects RX5 yX5_isInner yX5_isInner, Cond.code yX5_isInner cX5_isInner 3 (some .boolean), Cond.methodLink RX5 109 yX5_beginOf, Cond.instanceMethod yX5_beginOf, Cond.selects RX5 yX5_beginOf yX5_beginOf, Cond.code yX5_beginOf cX5_beginOf 5 (some .int), Cond.methodLink RX5 112 yX5_endOf, Cond.instanceMethod yX5_endOf, Cond.selects RX5 yX5_endOf yX5_endOf, Cond.code yX5_endOf cX5_endOf 4 (some .int), Cond.methodLink RX5 121 yX5_canMend, Cond.instanceMethod yX5_canMend, Cond.selects RX5 yX5_canMend yX5_canMend, Cond.code yX5_canMend cX5_canMend 9 (some .boolean), Cond.methodLink RX5 50 yX5_know, Cond.instanceMethod yX5_know, Cond.selects RX5 yX5_know yX5_know, Cond.code yX5_know cX5_know 2 none, Cond.fieldLink RX5 33 "SiltedFloatsModel" "known" "I"]
def wsX5_mend_r3 : List Cond := [Cond.fieldLink RX5 13 "SiltedFloatsModel" "before" "[I", Cond.methodLink RX5 125 yX5_corrected, Cond.instanceMethod yX5_corrected, Cond.selects RX5 yX5_corrected yX5_corrected, Cond.code yX5_corrected cX5_corrected 3 (some .int), Cond.methodLink RX5 96 yX5_correction, Cond.instanceMethod yX5_correction, Cond.selects RX5 yX5_correction yX5_correction, Cond.code yX5_correction cX5_correction 6 (some .int), Cond.methodLink RX5 44 yX5_divide, Cond.static yX5_divide, Cond.code yX5_divide cX5_divide 2 (some .int)]
def wsX5_mend : List Cond := .code yX5_mend cX5_mend 10 (some .int) :: ((wsX5_mend_r1 ++ (wsX5_mend_r2 ++ wsX5_mend_r3)) ++ wsX50)
def wsX5_sum : List Cond := .code yX5_sum cX5_sum 5 (some .int) :: ([.fieldLink RX5 7 "SiltedFloatsModel" "s" "[I", .methodLink RX5 22 yX5_of, .static yX5_of, .initialized RX5, .code yX5_of cX5_of 2 (some .int)] ++ wsX50)
def wsX5_forget : List Cond := .code yX5_forget cX5_forget 4 (some .int) :: ([.fieldLink RX5 7 "SiltedFloatsModel" "s" "[I", .methodLink RX5 54 yX5_isStation, .static yX5_isStation, .initialized RX5, .code yX5_isStation cX5_isStation 1 (some .boolean), .methodLink RX5 29 yX5_in, .static yX5_in, .code yX5_in cX5_in 3 (some .boolean), .methodLink RX5 128 yX5_sum, .instanceMethod yX5_sum, .selects RX5 yX5_sum yX5_sum, .code yX5_sum cX5_sum 5 (some .int), .methodLink RX5 22 yX5_of, .static yX5_of, .code yX5_of cX5_of 2 (some .int), .methodLink RX5 50 yX5_know, .instanceMethod yX5_know, .selects RX5 yX5_know yX5_know, .code yX5_know cX5_know 2 none, .fieldLink RX5 33 "SiltedFloatsModel" "known" "I", .fieldLink RX5 13 "SiltedFloatsModel" "before" "[I"] ++ wsX50)
def wsX5_undo : List Cond := .code yX5_undo cX5_undo 2 (some .int) :: ([.fieldLink RX5 33 "SiltedFloatsModel" "known" "I", .fieldLink RX5 7 "SiltedFloatsModel" "s" "[I", .fieldLink RX5 13 "SiltedFloatsModel" "before" "[I"] ++ wsX50)
def wsX5_keep : List Cond := .code yX5_keep cX5_keep 2 (some .int) :: ([.fieldLink RX5 16 "SiltedFloatsModel" "kept" "[I", .fieldLink RX5 7 "SiltedFloatsModel" "s" "[I", .fieldLink RX5 131 "SiltedFloatsModel" "isKept" "Z"] ++ wsX50)
def wsX5_restore : List Cond := .code yX5_restore cX5_restore 2 (some .int) :: ([.fieldLink RX5 131 "SiltedFloatsModel" "isKept" "Z", .fieldLink RX5 7 "SiltedFloatsModel" "s" "[I", .fieldLink RX5 16 "SiltedFloatsModel" "kept" "[I", .methodLink RX5 50 yX5_know, .instanceMethod yX5_know, .selects RX5 yX5_know yX5_know, .initialized RX5, .code yX5_know cX5_know 2 none, .fieldLink RX5 33 "SiltedFloatsModel" "known" "I", .fieldLink RX5 13 "SiltedFloatsModel" "before" "[I"] ++ wsX50)
def wsX5_sea : List Cond := .code yX5_sea cX5_sea 2 (some .int) :: ([.constant RX5 53 (100000), .methodLink RX5 29 yX5_in, .static yX5_in, .initialized RX5, .code yX5_in cX5_in 3 (some .boolean), .methodLink RX5 40 yX5_seaAt, .instanceMethod yX5_seaAt, .selects RX5 yX5_seaAt yX5_seaAt, .code yX5_seaAt cX5_seaAt 2 (some .int), .methodLink RX5 37 yX5_waveAt, .instanceMethod yX5_waveAt, .selects RX5 yX5_waveAt yX5_waveAt, .code yX5_waveAt cX5_waveAt 7 (some .int), .fieldLink RX5 7 "SiltedFloatsModel" "s" "[I"] ++ wsX50)
def wsX5_outside_r1 : List Cond := [Cond.constant RX5 53 (100000), Cond.methodLink RX5 54 yX5_isStation, Cond.static yX5_isStation, Cond.initialized RX5, Cond.code yX5_isStation cX5_isStation 1 (some .boolean), Cond.methodLink RX5 29 yX5_in, Cond.static yX5_in, Cond.code yX5_in cX5_in 3 (some .boolean), Cond.methodLink RX5 47 yX5_outsideAt, Cond.instanceMethod yX5_outsideAt, Cond.selects RX5 yX5_outsideAt yX5_outsideAt, Cond.code yX5_outsideAt cX5_outsideAt 3 (some .int), Cond.fieldLink RX5 7 "SiltedFloatsModel" "s" "[I", Cond.methodLink RX5 22 yX5_of, Cond.static yX5_of, Cond.code yX5_of cX5_of 2 (some .int), Cond.methodLink RX5 40 yX5_seaAt, Cond.instanceMethod yX5_seaAt, Cond.selects RX5 yX5_seaAt yX5_seaAt, Cond.code yX5_seaAt cX5_seaAt 2 (some .int), Cond.methodLink RX5 37 yX5_waveAt, Cond.instanceMethod yX5_waveAt, Cond.selects RX5 yX5_waveAt yX5_waveAt, Cond.code yX5_waveAt cX5_waveAt 7 (some .int)]
def wsX5_outside_r2 : List Cond := [Cond.methodLink RX5 44 yX5_divide, Cond.static yX5_divide, Cond.code yX5_divide cX5_divide 2 (some .int)]
def wsX5_outside : List Cond := .code yX5_outside cX5_outside 3 (some .int) :: ((wsX5_outside_r1 ++ wsX5_outside_r2) ++ wsX50)
def wsX5_station_r1 : List Cond := [Cond.fieldLink RX5 7 "SiltedFloatsModel" "s" "[I", Cond.constant RX5 53 (100000), Cond.methodLink RX5 54 yX5_isStation, Cond.static yX5_isStation, Cond.initialized RX5, Cond.code yX5_isStation cX5_isStation 1 (some .boolean), Cond.methodLink RX5 29 yX5_in, Cond.static yX5_in, Cond.code yX5_in cX5_in 3 (some .boolean), Cond.methodLink RX5 22 yX5_of, Cond.static yX5_of, Cond.code yX5_of cX5_of 2 (some .int), Cond.methodLink RX5 128 yX5_sum, Cond.instanceMethod yX5_sum, Cond.selects RX5 yX5_sum yX5_sum, Cond.code yX5_sum cX5_sum 5 (some .int), Cond.methodLink RX5 106 yX5_gapsOf, Cond.instanceMethod yX5_gapsOf, Cond.selects RX5 yX5_gapsOf yX5_gapsOf, Cond.code yX5_gapsOf cX5_gapsOf 4 (some .int), Cond.methodLink RX5 103 yX5_isBegin, Cond.instanceMethod yX5_isBegin, Cond.selects RX5 yX5_isBegin yX5_isBegin, Cond.code yX5_isBegin cX5_isBegin 3 (some .boolean)]
def wsX5_station_r2 : List Cond := [Cond.methodLink RX5 99 yX5_isRead, Cond.instanceMethod yX5_isRead, Cond.selects RX5 yX5_isRead yX5_isRead, Cond.code yX5_isRead cX5_isRead 3 (some .boolean)]
def wsX5_station : List Cond := .code yX5_station cX5_station 3 (some .int) :: ((wsX5_station_r1 ++ wsX5_station_r2) ++ wsX50)
def wsX5_hour_r1 : List Cond := [Cond.fieldLink RX5 7 "SiltedFloatsModel" "s" "[I", Cond.constant RX5 53 (100000), Cond.methodLink RX5 54 yX5_isStation, Cond.static yX5_isStation, Cond.initialized RX5, Cond.code yX5_isStation cX5_isStation 1 (some .boolean), Cond.methodLink RX5 29 yX5_in, Cond.static yX5_in, Cond.code yX5_in cX5_in 3 (some .boolean), Cond.methodLink RX5 99 yX5_isRead, Cond.instanceMethod yX5_isRead, Cond.selects RX5 yX5_isRead yX5_isRead, Cond.code yX5_isRead cX5_isRead 3 (some .boolean), Cond.methodLink RX5 22 yX5_of, Cond.static yX5_of, Cond.code yX5_of cX5_of 2 (some .int), Cond.methodLink RX5 125 yX5_corrected, Cond.instanceMethod yX5_corrected, Cond.selects RX5 yX5_corrected yX5_corrected, Cond.code yX5_corrected cX5_corrected 3 (some .int), Cond.methodLink RX5 96 yX5_correction, Cond.instanceMethod yX5_correction, Cond.selects RX5 yX5_correction yX5_correction, Cond.code yX5_correction cX5_correction 6 (some .int)]
def wsX5_hour_r2 : List Cond := [Cond.methodLink RX5 44 yX5_divide, Cond.static yX5_divide, Cond.code yX5_divide cX5_divide 2 (some .int)]
def wsX5_hour : List Cond := .code yX5_hour cX5_hour 6 (some .int) :: ((wsX5_hour_r1 ++ wsX5_hour_r2) ++ wsX50)
def wsX5_gap_r1 : List Cond := [Cond.fieldLink RX5 7 "SiltedFloatsModel" "s" "[I", Cond.methodLink RX5 54 yX5_isStation, Cond.static yX5_isStation, Cond.initialized RX5, Cond.code yX5_isStation cX5_isStation 1 (some .boolean), Cond.methodLink RX5 29 yX5_in, Cond.static yX5_in, Cond.code yX5_in cX5_in 3 (some .boolean), Cond.methodLink RX5 115 yX5_isGap, Cond.instanceMethod yX5_isGap, Cond.selects RX5 yX5_isGap yX5_isGap, Cond.code yX5_isGap cX5_isGap 3 (some .boolean), Cond.methodLink RX5 106 yX5_gapsOf, Cond.instanceMethod yX5_gapsOf, Cond.selects RX5 yX5_gapsOf yX5_gapsOf, Cond.code yX5_gapsOf cX5_gapsOf 4 (some .int), Cond.methodLink RX5 103 yX5_isBegin, Cond.instanceMethod yX5_isBegin, Cond.selects RX5 yX5_isBegin yX5_isBegin, Cond.code yX5_isBegin cX5_isBegin 3 (some .boolean), Cond.methodLink RX5 99 yX5_isRead, Cond.instanceMethod yX5_isRead, Cond.selects RX5 yX5_isRead yX5_isRead, Cond.code yX5_isRead cX5_isRead 3 (some .boolean)]
def wsX5_gap_r2 : List Cond := [Cond.methodLink RX5 22 yX5_of, Cond.static yX5_of, Cond.code yX5_of cX5_of 2 (some .int), Cond.methodLink RX5 109 yX5_beginOf, Cond.instanceMethod yX5_beginOf, Cond.selects RX5 yX5_beginOf yX5_beginOf, Cond.code yX5_beginOf cX5_beginOf 5 (some .int), Cond.methodLink RX5 112 yX5_endOf, Cond.instanceMethod yX5_endOf, Cond.selects RX5 yX5_endOf yX5_endOf, Cond.code yX5_endOf cX5_endOf 4 (some .int), Cond.methodLink RX5 118 yX5_isInner, Cond.instanceMethod yX5_isInner, Cond.selects RX5 yX5_isInner yX5_isInner, Cond.code yX5_isInner cX5_isInner 3 (some .boolean)]
def wsX5_gap : List Cond := .code yX5_gap cX5_gap 8 (some .int) :: ((wsX5_gap_r1 ++ wsX5_gap_r2) ++ wsX50)
def wsX5_areRead : List Cond := .code yX5_areRead cX5_areRead 3 (some .boolean) :: ([.methodLink RX5 99 yX5_isRead, .instanceMethod yX5_isRead, .selects RX5 yX5_isRead yX5_isRead, .initialized RX5, .code yX5_isRead cX5_isRead 3 (some .boolean), .fieldLink RX5 7 "SiltedFloatsModel" "s" "[I", .methodLink RX5 29 yX5_in, .static yX5_in, .code yX5_in cX5_in 3 (some .boolean), .methodLink RX5 22 yX5_of, .static yX5_of, .code yX5_of cX5_of 2 (some .int)] ++ wsX50)
def wsX5_misfitOf_r1 : List Cond := [Cond.methodLink RX5 109 yX5_beginOf, Cond.instanceMethod yX5_beginOf, Cond.selects RX5 yX5_beginOf yX5_beginOf, Cond.initialized RX5, Cond.code yX5_beginOf cX5_beginOf 5 (some .int), Cond.methodLink RX5 103 yX5_isBegin, Cond.instanceMethod yX5_isBegin, Cond.selects RX5 yX5_isBegin yX5_isBegin, Cond.code yX5_isBegin cX5_isBegin 3 (some .boolean), Cond.fieldLink RX5 7 "SiltedFloatsModel" "s" "[I", Cond.methodLink RX5 29 yX5_in, Cond.static yX5_in, Cond.code yX5_in cX5_in 3 (some .boolean), Cond.methodLink RX5 99 yX5_isRead, Cond.instanceMethod yX5_isRead, Cond.selects RX5 yX5_isRead yX5_isRead, Cond.code yX5_isRead cX5_isRead 3 (some .boolean), Cond.methodLink RX5 22 yX5_of, Cond.static yX5_of, Cond.code yX5_of cX5_of 2 (some .int), Cond.methodLink RX5 112 yX5_endOf, Cond.instanceMethod yX5_endOf, Cond.selects RX5 yX5_endOf yX5_endOf, Cond.code yX5_endOf cX5_endOf 4 (some .int)]
def wsX5_misfitOf_r2 : List Cond := [Cond.methodLink RX5 134 yX5_areRead, Cond.instanceMethod yX5_areRead, Cond.selects RX5 yX5_areRead yX5_areRead, Cond.code yX5_areRead cX5_areRead 3 (some .boolean), Cond.methodLink RX5 125 yX5_corrected, Cond.instanceMethod yX5_corrected, Cond.selects RX5 yX5_corrected yX5_corrected, Cond.code yX5_corrected cX5_corrected 3 (some .int), Cond.methodLink RX5 96 yX5_correction, Cond.instanceMethod yX5_correction, Cond.selects RX5 yX5_correction yX5_correction, Cond.code yX5_correction cX5_correction 6 (some .int), Cond.methodLink RX5 44 yX5_divide, Cond.static yX5_divide, Cond.code yX5_divide cX5_divide 2 (some .int), Cond.methodLink RX5 137 yX5_size, Cond.static yX5_size, Cond.code yX5_size cX5_size 1 (some .int)]
def wsX5_misfitOf : List Cond := .code yX5_misfitOf cX5_misfitOf 10 (some .int) :: ((wsX5_misfitOf_r1 ++ wsX5_misfitOf_r2) ++ wsX50)
def wsX5_misfit_r1 : List Cond := [Cond.methodLink RX5 54 yX5_isStation, Cond.static yX5_isStation, Cond.initialized RX5, Cond.code yX5_isStation cX5_isStation 1 (some .boolean), Cond.methodLink RX5 29 yX5_in, Cond.static yX5_in, Cond.code yX5_in cX5_in 3 (some .boolean), Cond.methodLink RX5 115 yX5_isGap, Cond.instanceMethod yX5_isGap, Cond.selects RX5 yX5_isGap yX5_isGap, Cond.code yX5_isGap cX5_isGap 3 (some .boolean), Cond.methodLink RX5 106 yX5_gapsOf, Cond.instanceMethod yX5_gapsOf, Cond.selects RX5 yX5_gapsOf yX5_gapsOf, Cond.code yX5_gapsOf cX5_gapsOf 4 (some .int), Cond.fieldLink RX5 7 "SiltedFloatsModel" "s" "[I", Cond.methodLink RX5 103 yX5_isBegin, Cond.instanceMethod yX5_isBegin, Cond.selects RX5 yX5_isBegin yX5_isBegin, Cond.code yX5_isBegin cX5_isBegin 3 (some .boolean), Cond.methodLink RX5 99 yX5_isRead, Cond.instanceMethod yX5_isRead, Cond.selects RX5 yX5_isRead yX5_isRead, Cond.code yX5_isRead cX5_isRead 3 (some .boolean)]
def wsX5_misfit_r2 : List Cond := [Cond.methodLink RX5 22 yX5_of, Cond.static yX5_of, Cond.code yX5_of cX5_of 2 (some .int), Cond.methodLink RX5 118 yX5_isInner, Cond.instanceMethod yX5_isInner, Cond.selects RX5 yX5_isInner yX5_isInner, Cond.code yX5_isInner cX5_isInner 3 (some .boolean), Cond.methodLink RX5 109 yX5_beginOf, Cond.instanceMethod yX5_beginOf, Cond.selects RX5 yX5_beginOf yX5_beginOf, Cond.code yX5_beginOf cX5_beginOf 5 (some .int), Cond.methodLink RX5 112 yX5_endOf, Cond.instanceMethod yX5_endOf, Cond.selects RX5 yX5_endOf yX5_endOf, Cond.code yX5_endOf cX5_endOf 4 (some .int), Cond.methodLink RX5 121 yX5_canMend, Cond.instanceMethod yX5_canMend, Cond.selects RX5 yX5_canMend yX5_canMend, Cond.code yX5_canMend cX5_canMend 9 (some .boolean), Cond.methodLink RX5 140 yX5_misfitOf, Cond.instanceMethod yX5_misfitOf, Cond.selects RX5 yX5_misfitOf yX5_misfitOf, Cond.code yX5_misfitOf cX5_misfitOf 10 (some .int), Cond.methodLink RX5 134 yX5_areRead]
def wsX5_misfit_r3 : List Cond := [Cond.instanceMethod yX5_areRead, Cond.selects RX5 yX5_areRead yX5_areRead, Cond.code yX5_areRead cX5_areRead 3 (some .boolean), Cond.methodLink RX5 125 yX5_corrected, Cond.instanceMethod yX5_corrected, Cond.selects RX5 yX5_corrected yX5_corrected, Cond.code yX5_corrected cX5_corrected 3 (some .int), Cond.methodLink RX5 96 yX5_correction, Cond.instanceMethod yX5_correction, Cond.selects RX5 yX5_correction yX5_correction, Cond.code yX5_correction cX5_correction 6 (some .int), Cond.methodLink RX5 44 yX5_divide, Cond.static yX5_divide, Cond.code yX5_divide cX5_divide 2 (some .int), Cond.methodLink RX5 137 yX5_size, Cond.static yX5_size, Cond.code yX5_size cX5_size 1 (some .int)]
def wsX5_misfit : List Cond := .code yX5_misfit cX5_misfit 5 (some .int) :: ((wsX5_misfit_r1 ++ (wsX5_misfit_r2 ++ wsX5_misfit_r3)) ++ wsX50)
def wsX5_bestPhase_r1 : List Cond := [Cond.methodLink RX5 54 yX5_isStation, Cond.static yX5_isStation, Cond.initialized RX5, Cond.code yX5_isStation cX5_isStation 1 (some .boolean), Cond.methodLink RX5 29 yX5_in, Cond.static yX5_in, Cond.code yX5_in cX5_in 3 (some .boolean), Cond.methodLink RX5 115 yX5_isGap, Cond.instanceMethod yX5_isGap, Cond.selects RX5 yX5_isGap yX5_isGap, Cond.code yX5_isGap cX5_isGap 3 (some .boolean), Cond.methodLink RX5 106 yX5_gapsOf, Cond.instanceMethod yX5_gapsOf, Cond.selects RX5 yX5_gapsOf yX5_gapsOf, Cond.code yX5_gapsOf cX5_gapsOf 4 (some .int), Cond.fieldLink RX5 7 "SiltedFloatsModel" "s" "[I", Cond.methodLink RX5 103 yX5_isBegin, Cond.instanceMethod yX5_isBegin, Cond.selects RX5 yX5_isBegin yX5_isBegin, Cond.code yX5_isBegin cX5_isBegin 3 (some .boolean), Cond.methodLink RX5 99 yX5_isRead, Cond.instanceMethod yX5_isRead, Cond.selects RX5 yX5_isRead yX5_isRead, Cond.code yX5_isRead cX5_isRead 3 (some .boolean)]
def wsX5_bestPhase_r2 : List Cond := [Cond.methodLink RX5 22 yX5_of, Cond.static yX5_of, Cond.code yX5_of cX5_of 2 (some .int), Cond.methodLink RX5 118 yX5_isInner, Cond.instanceMethod yX5_isInner, Cond.selects RX5 yX5_isInner yX5_isInner, Cond.code yX5_isInner cX5_isInner 3 (some .boolean), Cond.methodLink RX5 109 yX5_beginOf, Cond.instanceMethod yX5_beginOf, Cond.selects RX5 yX5_beginOf yX5_beginOf, Cond.code yX5_beginOf cX5_beginOf 5 (some .int), Cond.methodLink RX5 112 yX5_endOf, Cond.instanceMethod yX5_endOf, Cond.selects RX5 yX5_endOf yX5_endOf, Cond.code yX5_endOf cX5_endOf 4 (some .int), Cond.methodLink RX5 121 yX5_canMend, Cond.instanceMethod yX5_canMend, Cond.selects RX5 yX5_canMend yX5_canMend, Cond.code yX5_canMend cX5_canMend 9 (some .boolean), Cond.methodLink RX5 140 yX5_misfitOf, Cond.instanceMethod yX5_misfitOf, Cond.selects RX5 yX5_misfitOf yX5_misfitOf, Cond.code yX5_misfitOf cX5_misfitOf 10 (some .int), Cond.methodLink RX5 134 yX5_areRead]
def wsX5_bestPhase_r3 : List Cond := [Cond.instanceMethod yX5_areRead, Cond.selects RX5 yX5_areRead yX5_areRead, Cond.code yX5_areRead cX5_areRead 3 (some .boolean), Cond.methodLink RX5 125 yX5_corrected, Cond.instanceMethod yX5_corrected, Cond.selects RX5 yX5_corrected yX5_corrected, Cond.code yX5_corrected cX5_corrected 3 (some .int), Cond.methodLink RX5 96 yX5_correction, Cond.instanceMethod yX5_correction, Cond.selects RX5 yX5_correction yX5_correction, Cond.code yX5_correction cX5_correction 6 (some .int), Cond.methodLink RX5 44 yX5_divide, Cond.static yX5_divide, Cond.code yX5_divide cX5_divide 2 (some .int), Cond.methodLink RX5 137 yX5_size, Cond.static yX5_size, Cond.code yX5_size cX5_size 1 (some .int)]
def wsX5_bestPhase : List Cond := .code yX5_bestPhase cX5_bestPhase 10 (some .int) :: ((wsX5_bestPhase_r1 ++ (wsX5_bestPhase_r2 ++ wsX5_bestPhase_r3)) ++ wsX50)
def wsX5_isThere : List Cond := .code yX5_isThere cX5_isThere 3 (some .boolean) :: ([.fieldLink RX5 7 "SiltedFloatsModel" "s" "[I", .methodLink RX5 29 yX5_in, .static yX5_in, .initialized RX5, .code yX5_in cX5_in 3 (some .boolean), .methodLink RX5 99 yX5_isRead, .instanceMethod yX5_isRead, .selects RX5 yX5_isRead yX5_isRead, .code yX5_isRead cX5_isRead 3 (some .boolean), .methodLink RX5 22 yX5_of, .static yX5_of, .code yX5_of cX5_of 2 (some .int)] ++ wsX50)
def wsX5_valueOf : List Cond := .code yX5_valueOf cX5_valueOf 3 (some .int) :: ([.fieldLink RX5 7 "SiltedFloatsModel" "s" "[I", .methodLink RX5 99 yX5_isRead, .instanceMethod yX5_isRead, .selects RX5 yX5_isRead yX5_isRead, .initialized RX5, .code yX5_isRead cX5_isRead 3 (some .boolean), .methodLink RX5 29 yX5_in, .static yX5_in, .code yX5_in cX5_in 3 (some .boolean), .methodLink RX5 22 yX5_of, .static yX5_of, .code yX5_of cX5_of 2 (some .int), .methodLink RX5 125 yX5_corrected, .instanceMethod yX5_corrected, .selects RX5 yX5_corrected yX5_corrected, .code yX5_corrected cX5_corrected 3 (some .int), .methodLink RX5 96 yX5_correction, .instanceMethod yX5_correction, .selects RX5 yX5_correction yX5_correction, .code yX5_correction cX5_correction 6 (some .int), .methodLink RX5 44 yX5_divide, .static yX5_divide, .code yX5_divide cX5_divide 2 (some .int)] ++ wsX50)
def wsX5_high_r1 : List Cond := [Cond.fieldLink RX5 7 "SiltedFloatsModel" "s" "[I", Cond.methodLink RX5 54 yX5_isStation, Cond.static yX5_isStation, Cond.initialized RX5, Cond.code yX5_isStation cX5_isStation 1 (some .boolean), Cond.methodLink RX5 29 yX5_in, Cond.static yX5_in, Cond.code yX5_in cX5_in 3 (some .boolean), Cond.methodLink RX5 144 yX5_isThere, Cond.instanceMethod yX5_isThere, Cond.selects RX5 yX5_isThere yX5_isThere, Cond.code yX5_isThere cX5_isThere 3 (some .boolean), Cond.methodLink RX5 99 yX5_isRead, Cond.instanceMethod yX5_isRead, Cond.selects RX5 yX5_isRead yX5_isRead, Cond.code yX5_isRead cX5_isRead 3 (some .boolean), Cond.methodLink RX5 22 yX5_of, Cond.static yX5_of, Cond.code yX5_of cX5_of 2 (some .int), Cond.methodLink RX5 147 yX5_valueOf, Cond.instanceMethod yX5_valueOf, Cond.selects RX5 yX5_valueOf yX5_valueOf, Cond.code yX5_valueOf cX5_valueOf 3 (some .int), Cond.methodLink RX5 125 yX5_corrected]
def wsX5_high_r2 : List Cond := [Cond.instanceMethod yX5_corrected, Cond.selects RX5 yX5_corrected yX5_corrected, Cond.code yX5_corrected cX5_corrected 3 (some .int), Cond.methodLink RX5 96 yX5_correction, Cond.instanceMethod yX5_correction, Cond.selects RX5 yX5_correction yX5_correction, Cond.code yX5_correction cX5_correction 6 (some .int), Cond.methodLink RX5 44 yX5_divide, Cond.static yX5_divide, Cond.code yX5_divide cX5_divide 2 (some .int)]
def wsX5_high : List Cond := .code yX5_high cX5_high 6 (some .int) :: ((wsX5_high_r1 ++ wsX5_high_r2) ++ wsX50)
def wsX5_sumOfAll : List Cond := .code yX5_sumOfAll cX5_sumOfAll 2 (some .int) :: ([.methodLink RX5 128 yX5_sum, .instanceMethod yX5_sum, .selects RX5 yX5_sum yX5_sum, .initialized RX5, .code yX5_sum cX5_sum 5 (some .int), .fieldLink RX5 7 "SiltedFloatsModel" "s" "[I", .methodLink RX5 22 yX5_of, .static yX5_of, .code yX5_of cX5_of 2 (some .int)] ++ wsX50)
def wsX5_count : List Cond := .code yX5_count cX5_count 2 (some .int) :: ([.fieldLink RX5 7 "SiltedFloatsModel" "s" "[I", .fieldLink RX5 33 "SiltedFloatsModel" "known" "I", .fieldLink RX5 72 "SiltedFloatsModel" "typed" "I", .methodLink RX5 58 yX5_manyOn, .instanceMethod yX5_manyOn, .selects RX5 yX5_manyOn yX5_manyOn, .initialized RX5, .code yX5_manyOn cX5_manyOn 1 (some .int), .methodLink RX5 22 yX5_of, .static yX5_of, .code yX5_of cX5_of 2 (some .int), .methodLink RX5 150 yX5_sumOfAll, .instanceMethod yX5_sumOfAll, .selects RX5 yX5_sumOfAll yX5_sumOfAll, .code yX5_sumOfAll cX5_sumOfAll 2 (some .int), .methodLink RX5 128 yX5_sum, .instanceMethod yX5_sum, .selects RX5 yX5_sum yX5_sum, .code yX5_sum cX5_sum 5 (some .int)] ++ wsX50)
def wsJ9_abs_0f7a4 : List Cond := .code yJ9_abs_0f7a4 cJ9_abs_0f7a4 1 (some .int) :: ([])
def wsJ9_max_7cf53 : List Cond := .code yJ9_max_7cf53 cJ9_max_7cf53 2 (some .int) :: ([])
def wsL_law_r1 : List Cond := [Cond.classLink RL 7 RX4, Cond.instantiable RX4 6, Cond.initialized RX4, Cond.classLink RL 10 RX5, Cond.instantiable RX5 10, Cond.initialized RX5, Cond.methodLink RL 9 yX4_init, Cond.instanceMethod yX4_init, Cond.code yX4_init cX4_init 2 none, Cond.methodLink RX4 1 objectInit, Cond.instanceMethod objectInit, Cond.code objectInit ⟨#[0xb1]⟩ 1 none, Cond.classLink RX4 7 RX2, Cond.instantiable RX2 3, Cond.initialized RX2, Cond.fieldLink RX4 10 "SiltedFloats" "now" "LSiltedFloats$State;", Cond.fieldLink RX4 16 "SiltedFloats" "kept" "LSiltedFloats$State;", Cond.fieldLink RX4 19 "SiltedFloats" "past" "[LSiltedFloats$State;", Cond.classLink RX4 23 RX1, Cond.instantiable RX1 2, Cond.initialized RX1, Cond.fieldLink RX4 26 "SiltedFloats" "text" "LSiltedFloats$OrderText;", Cond.methodLink RX4 9 yX2_init, Cond.instanceMethod yX2_init]
def wsL_law_r2 : List Cond := [Cond.code yX2_init cX2_init 2 none, Cond.methodLink RX2 3 objectInit, Cond.classLink RX2 9 RX3, Cond.fieldLink RX2 11 "SiltedFloats$State" "waves" "[LSiltedFloats$Wave;", Cond.instantiable RX3 3, Cond.initialized RX3, Cond.classLink RX2 20 RX0, Cond.fieldLink RX2 22 "SiltedFloats$State" "gauges" "[LSiltedFloats$Gauge;", Cond.instantiable RX0 15, Cond.initialized RX0, Cond.methodLink RX2 17 yX3_init, Cond.instanceMethod yX3_init, Cond.code yX3_init cX3_init 4 none, Cond.methodLink RX3 1 objectInit, Cond.methodLink RX3 7 yX3_become, Cond.instanceMethod yX3_become, Cond.selects RX3 yX3_become yX3_become, Cond.code yX3_become cX3_become 4 none, Cond.fieldLink RX3 13 "SiltedFloats$Wave" "amplitude" "I", Cond.fieldLink RX3 17 "SiltedFloats$Wave" "period" "I", Cond.fieldLink RX3 20 "SiltedFloats$Wave" "phase" "I", Cond.methodLink RX2 26 yX0_init, Cond.instanceMethod yX0_init, Cond.code yX0_init cX0_init 2 none]
def wsL_law_r3 : List Cond := [Cond.methodLink RX0 3 objectInit, Cond.fieldLink RX0 15 "SiltedFloats$Gauge" "on" "Z", Cond.fieldLink RX0 19 "SiltedFloats$Gauge" "notes" "I", Cond.arrayClass .int, Cond.fieldLink RX0 23 "SiltedFloats$Gauge" "kinds" "[I", Cond.fieldLink RX0 33 "SiltedFloats$Gauge" "values" "[I", Cond.fieldLink RX0 36 "SiltedFloats$Gauge" "corrections" "[I", Cond.methodLink RX0 9 yX0_become, Cond.instanceMethod yX0_become, Cond.selects RX0 yX0_become yX0_become, Cond.code yX0_become cX0_become 4 none, Cond.fieldLink RX0 39 "SiltedFloats$Gauge" "delay" "I", Cond.fieldLink RX0 42 "SiltedFloats$Gauge" "scale" "I", Cond.fieldLink RX0 45 "SiltedFloats$Gauge" "offset" "I", Cond.methodLink RX0 27 yJ7_fill_53178, Cond.static yJ7_fill_53178, Cond.initialized RJ7, Cond.code yJ7_fill_53178 cJ7_fill_53178 4 none, Cond.methodLink RX2 29 yX2_settleFloat, Cond.instanceMethod yX2_settleFloat, Cond.selects RX2 yX2_settleFloat yX2_settleFloat, Cond.code yX2_settleFloat cX2_settleFloat 2 none, Cond.fieldLink RX2 78 "SiltedFloats$Gauge" "floatLevel" "I", Cond.methodLink RX2 74 yX2_waterAt]
def wsL_law_r4 : List Cond := [Cond.instanceMethod yX2_waterAt, Cond.selects RX2 yX2_waterAt yX2_waterAt, Cond.code yX2_waterAt cX2_waterAt 3 (some .int), Cond.fieldLink RX2 56 "SiltedFloats$Gauge" "scale" "I", Cond.fieldLink RX2 59 "SiltedFloats$Gauge" "delay" "I", Cond.fieldLink RX2 71 "SiltedFloats$Gauge" "offset" "I", Cond.methodLink RX2 62 yX2_seaAt, Cond.instanceMethod yX2_seaAt, Cond.selects RX2 yX2_seaAt yX2_seaAt, Cond.code yX2_seaAt cX2_seaAt 4 (some .int), Cond.methodLink RX2 52 yX3_heightAt, Cond.instanceMethod yX3_heightAt, Cond.selects RX3 yX3_heightAt yX3_heightAt, Cond.code yX3_heightAt cX3_heightAt 4 (some .int), Cond.methodLink RX3 23 yJ9_floorMod_7cf53, Cond.static yJ9_floorMod_7cf53, Cond.initialized RJ9, Cond.code yJ9_floorMod_7cf53 cJ9_floorMod_7cf53 3 (some .int), Cond.methodLink RX3 29 yJ9_floorDiv_7cf53, Cond.static yJ9_floorDiv_7cf53, Cond.code yJ9_floorDiv_7cf53 cJ9_floorDiv_7cf53 3 (some .int), Cond.methodLink RX2 65 yJ9_floorDiv_7cf53, Cond.methodLink RX4 25 yX1_init, Cond.instanceMethod yX1_init]
def wsL_law_r5 : List Cond := [Cond.code yX1_init cX1_init 1 none, Cond.methodLink RX1 3 objectInit, Cond.arrayClass .char, Cond.fieldLink RX1 9 "SiltedFloats$OrderText" "characters" "[C", Cond.methodLink RL 12 yX5_init, Cond.instanceMethod yX5_init, Cond.code yX5_init cX5_init 2 none, Cond.methodLink RX5 1 objectInit, Cond.fieldLink RX5 7 "SiltedFloatsModel" "s" "[I", Cond.fieldLink RX5 13 "SiltedFloatsModel" "before" "[I", Cond.fieldLink RX5 16 "SiltedFloatsModel" "kept" "[I", Cond.fieldLink RX5 19 "SiltedFloatsModel" "text" "[I", Cond.methodLink RX5 22 yX5_of, Cond.static yX5_of, Cond.code yX5_of cX5_of 2 (some .int), Cond.methodLink RX5 26 yX5_letFloat, Cond.instanceMethod yX5_letFloat, Cond.selects RX5 yX5_letFloat yX5_letFloat, Cond.code yX5_letFloat cX5_letFloat 2 none, Cond.methodLink RX5 47 yX5_outsideAt, Cond.instanceMethod yX5_outsideAt, Cond.selects RX5 yX5_outsideAt yX5_outsideAt, Cond.code yX5_outsideAt cX5_outsideAt 3 (some .int), Cond.methodLink RX5 40 yX5_seaAt]
def wsL_law_r6 : List Cond := [Cond.instanceMethod yX5_seaAt, Cond.selects RX5 yX5_seaAt yX5_seaAt, Cond.code yX5_seaAt cX5_seaAt 2 (some .int), Cond.methodLink RX5 37 yX5_waveAt, Cond.instanceMethod yX5_waveAt, Cond.selects RX5 yX5_waveAt yX5_waveAt, Cond.code yX5_waveAt cX5_waveAt 7 (some .int), Cond.methodLink RX5 44 yX5_divide, Cond.static yX5_divide, Cond.code yX5_divide cX5_divide 2 (some .int), Cond.methodLink RL 13 yX4_setWave, Cond.instanceMethod yX4_setWave, Cond.selects RX4 yX4_setWave yX4_setWave, Cond.code yX4_setWave cX4_setWave 5 (some .int), Cond.fieldLink RX4 34 "SiltedFloats$State" "hour" "I", Cond.fieldLink RX4 38 "SiltedFloats$State" "waves" "[LSiltedFloats$Wave;", Cond.constant RX4 61 (100000), Cond.methodLink RX4 30 yX4_isWithin, Cond.static yX4_isWithin, Cond.code yX4_isWithin cX4_isWithin 3 (some .boolean), Cond.methodLink RX4 42 yX3_isSo, Cond.instanceMethod yX3_isSo, Cond.selects RX3 yX3_isSo yX3_isSo, Cond.code yX3_isSo cX3_isSo 4 (some .boolean)]
def wsL_law_r7 : List Cond := [Cond.methodLink RX4 47 yX4_remember, Cond.instanceMethod yX4_remember, Cond.selects RX4 yX4_remember yX4_remember, Cond.code yX4_remember cX4_remember 1 none, Cond.fieldLink RX4 162 "SiltedFloats" "pastCount" "I", Cond.methodLink RX4 227 yX4_dropOldest, Cond.instanceMethod yX4_dropOldest, Cond.selects RX4 yX4_dropOldest yX4_dropOldest, Cond.code yX4_dropOldest cX4_dropOldest 3 none, Cond.methodLink RX4 165 yX2_copyFrom, Cond.instanceMethod yX2_copyFrom, Cond.selects RX2 yX2_copyFrom yX2_copyFrom, Cond.code yX2_copyFrom cX2_copyFrom 3 none, Cond.fieldLink RX2 33 "SiltedFloats$State" "hour" "I", Cond.fieldLink RX2 37 "SiltedFloats$Wave" "amplitude" "I", Cond.fieldLink RX2 40 "SiltedFloats$Wave" "period" "I", Cond.fieldLink RX2 43 "SiltedFloats$Wave" "phase" "I", Cond.methodLink RX2 46 yX3_become, Cond.methodLink RX2 49 yX0_copyFrom, Cond.instanceMethod yX0_copyFrom, Cond.selects RX0 yX0_copyFrom yX0_copyFrom, Cond.code yX0_copyFrom cX0_copyFrom 2 none, Cond.fieldLink RX0 48 "SiltedFloats$Gauge" "floatLevel" "I", Cond.fieldLink RX0 51 "SiltedFloats$Gauge" "silt" "I"]
def wsL_law_r8 : List Cond := [Cond.fieldLink RX0 54 "SiltedFloats$Gauge" "silting" "I", Cond.fieldLink RX0 57 "SiltedFloats$Gauge" "sinking" "I", Cond.fieldLink RX0 60 "SiltedFloats$Gauge" "sunk" "I", Cond.fieldLink RX0 63 "SiltedFloats$Gauge" "lastNote" "I", Cond.fieldLink RX0 66 "SiltedFloats$Gauge" "lastNoteHour" "I", Cond.methodLink RX0 69 arraycopyName, Cond.native arraycopyName, Cond.static arraycopyName, Cond.initialized "java/lang/System", Cond.methodLink RX4 50 yX3_become, Cond.methodLink RX4 54 yX2_settleFloats, Cond.instanceMethod yX2_settleFloats, Cond.selects RX2 yX2_settleFloats yX2_settleFloats, Cond.code yX2_settleFloats cX2_settleFloats 2 none, Cond.methodLink RX4 57 yX2_seaAt, Cond.methodLink RL 17 yX5_setWave, Cond.instanceMethod yX5_setWave, Cond.selects RX5 yX5_setWave yX5_setWave, Cond.code yX5_setWave cX5_setWave 6 (some .int), Cond.constant RX5 53 (100000), Cond.methodLink RX5 29 yX5_in, Cond.static yX5_in, Cond.code yX5_in cX5_in 3 (some .boolean), Cond.methodLink RX5 50 yX5_know]
def wsL_law_r9 : List Cond := [Cond.instanceMethod yX5_know, Cond.selects RX5 yX5_know yX5_know, Cond.code yX5_know cX5_know 2 none, Cond.fieldLink RX5 33 "SiltedFloatsModel" "known" "I", Cond.methodLink RL 18 yX4_setStation, Cond.instanceMethod yX4_setStation, Cond.selects RX4 yX4_setStation yX4_setStation, Cond.code yX4_setStation cX4_setStation 6 (some .int), Cond.fieldLink RX4 66 "SiltedFloats$State" "gauges" "[LSiltedFloats$Gauge;", Cond.fieldLink RX4 78 "SiltedFloats$Gauge" "floatLevel" "I", Cond.methodLink RX4 62 yX4_isStation, Cond.static yX4_isStation, Cond.code yX4_isStation cX4_isStation 1 (some .boolean), Cond.methodLink RX4 70 yX0_isSo, Cond.instanceMethod yX0_isSo, Cond.selects RX0 yX0_isSo yX0_isSo, Cond.code yX0_isSo cX0_isSo 4 (some .boolean), Cond.methodLink RX4 73 yX0_become, Cond.methodLink RX4 74 yX2_settleFloat, Cond.methodLink RL 21 yX5_setStation, Cond.instanceMethod yX5_setStation, Cond.selects RX5 yX5_setStation yX5_setStation, Cond.code yX5_setStation cX5_setStation 5 (some .int), Cond.methodLink RX5 54 yX5_isStation]
def wsL_law_r10 : List Cond := [Cond.static yX5_isStation, Cond.code yX5_isStation cX5_isStation 1 (some .boolean), Cond.methodLink RL 22 yX4_setRate, Cond.instanceMethod yX4_setRate, Cond.selects RX4 yX4_setRate yX4_setRate, Cond.code yX4_setRate cX4_setRate 6 (some .int), Cond.fieldLink RX4 81 "SiltedFloats$Gauge" "sinking" "I", Cond.fieldLink RX4 84 "SiltedFloats$Gauge" "silting" "I", Cond.methodLink RL 26 yX5_setRate, Cond.instanceMethod yX5_setRate, Cond.selects RX5 yX5_setRate yX5_setRate, Cond.code yX5_setRate cX5_setRate 6 (some .int), Cond.methodLink RL 27 yX4_turn, Cond.instanceMethod yX4_turn, Cond.selects RX4 yX4_turn yX4_turn, Cond.code yX4_turn cX4_turn 4 (some .int), Cond.fieldLink RX4 87 "SiltedFloats$Gauge" "on" "Z", Cond.methodLink RX4 91 yX2_stationsOn, Cond.instanceMethod yX2_stationsOn, Cond.selects RX2 yX2_stationsOn yX2_stationsOn, Cond.code yX2_stationsOn cX2_stationsOn 3 (some .int), Cond.fieldLink RX2 96 "SiltedFloats$Gauge" "on" "Z", Cond.methodLink RL 31 yX5_turn, Cond.instanceMethod yX5_turn]
def wsL_law_r11 : List Cond := [Cond.selects RX5 yX5_turn yX5_turn, Cond.code yX5_turn cX5_turn 3 (some .int), Cond.methodLink RX5 58 yX5_manyOn, Cond.instanceMethod yX5_manyOn, Cond.selects RX5 yX5_manyOn yX5_manyOn, Cond.code yX5_manyOn cX5_manyOn 1 (some .int), Cond.methodLink RL 32 yX4_clean, Cond.instanceMethod yX4_clean, Cond.selects RX4 yX4_clean yX4_clean, Cond.code yX4_clean cX4_clean 4 (some .int), Cond.fieldLink RX4 95 "SiltedFloats$Gauge" "silt" "I", Cond.methodLink RL 36 yX5_clean, Cond.instanceMethod yX5_clean, Cond.selects RX5 yX5_clean yX5_clean, Cond.code yX5_clean cX5_clean 3 (some .int), Cond.methodLink RL 37 yX4_level, Cond.instanceMethod yX4_level, Cond.selects RX4 yX4_level yX4_level, Cond.code yX4_level cX4_level 3 (some .int), Cond.fieldLink RX4 105 "SiltedFloats$Gauge" "sunk" "I", Cond.methodLink RX4 98 yX0_isNotedAt, Cond.instanceMethod yX0_isNotedAt, Cond.selects RX0 yX0_isNotedAt yX0_isNotedAt, Cond.code yX0_isNotedAt cX0_isNotedAt 2 (some .boolean)]
def wsL_law_r12 : List Cond := [Cond.methodLink RX4 101 yX0_noteAt, Cond.instanceMethod yX0_noteAt, Cond.selects RX0 yX0_noteAt yX0_noteAt, Cond.code yX0_noteAt cX0_noteAt 3 none, Cond.methodLink RX0 89 Lib.Math.max.name, Cond.static Lib.Math.max.name, Cond.initialized "java/lang/Math", Cond.code Lib.Math.max.name Lib.Math.max.code 2 (some .int), Cond.methodLink RX0 85 yX0_isNotedAt, Cond.static yX4_shareOf, Cond.code yX4_shareOf cX4_shareOf 3 (some .int), Cond.methodLink RX4 230 yJ9_floorDiv_7cf53, Cond.methodLink RL 40 yX5_level, Cond.instanceMethod yX5_level, Cond.selects RX5 yX5_level yX5_level, Cond.code yX5_level cX5_level 2 (some .int), Cond.methodLink RX5 62 yX5_note, Cond.instanceMethod yX5_note, Cond.selects RX5 yX5_note yX5_note, Cond.code yX5_note cX5_note 2 none, Cond.methodLink RL 41 yX4_pass, Cond.instanceMethod yX4_pass, Cond.selects RX4 yX4_pass yX4_pass, Cond.code yX4_pass cX4_pass 2 (some .int)]
def wsL_law_r13 : List Cond := [Cond.methodLink RX4 108 yX2_passHours, Cond.instanceMethod yX2_passHours, Cond.selects RX2 yX2_passHours yX2_passHours, Cond.code yX2_passHours cX2_passHours 4 none, Cond.methodLink RX2 81 yX0_passHour, Cond.instanceMethod yX0_passHour, Cond.selects RX0 yX0_passHour yX0_passHour, Cond.code yX0_passHour cX0_passHour 3 none, Cond.methodLink RX0 75 yJ9_floorDiv_7cf53, Cond.methodLink RX0 81 yX0_isDue, Cond.static yX0_isDue, Cond.code yX0_isDue cX0_isDue 2 (some .boolean), Cond.methodLink RL 44 yX5_pass, Cond.instanceMethod yX5_pass, Cond.selects RX5 yX5_pass yX5_pass, Cond.code yX5_pass cX5_pass 3 (some .int), Cond.methodLink RX5 66 yX5_goBy, Cond.instanceMethod yX5_goBy, Cond.selects RX5 yX5_goBy yX5_goBy, Cond.code yX5_goBy cX5_goBy 5 none, Cond.methodLink RL 45 yX4_follow, Cond.instanceMethod yX4_follow, Cond.selects RX4 yX4_follow yX4_follow, Cond.code yX4_follow cX4_follow 4 (some .int)]
def wsL_law_r14 : List Cond := [Cond.fieldLink RX4 117 "SiltedFloats$OrderText" "length" "I", Cond.methodLink RX4 111 yX1_faultAt, Cond.instanceMethod yX1_faultAt, Cond.selects RX1 yX1_faultAt yX1_faultAt, Cond.code yX1_faultAt cX1_faultAt 3 (some .int), Cond.fieldLink RX1 15 "SiltedFloats$OrderText" "length" "I", Cond.methodLink RX1 19 yX1_characterAt, Cond.instanceMethod yX1_characterAt, Cond.selects RX1 yX1_characterAt yX1_characterAt, Cond.code yX1_characterAt cX1_characterAt 2 (some .char), Cond.methodLink RX1 23 yX1_dueBehind, Cond.static yX1_dueBehind, Cond.code yX1_dueBehind cX1_dueBehind 2 (some .int), Cond.methodLink RX1 27 yX1_dueBehindLetter, Cond.static yX1_dueBehindLetter, Cond.code yX1_dueBehindLetter cX1_dueBehindLetter 1 (some .int), Cond.methodLink RX1 42 yX1_isStationLetter, Cond.static yX1_isStationLetter, Cond.code yX1_isStationLetter cX1_isStationLetter 1 (some .boolean), Cond.methodLink RX1 35 yX1_isDigit, Cond.static yX1_isDigit, Cond.code yX1_isDigit cX1_isDigit 1 (some .boolean), Cond.methodLink RX1 39 yX1_dueBehindOrder, Cond.static yX1_dueBehindOrder]
def wsL_law_r15 : List Cond := [Cond.code yX1_dueBehindOrder cX1_dueBehindOrder 1 (some .int), Cond.methodLink RX4 114 yX1_hoursInAll, Cond.instanceMethod yX1_hoursInAll, Cond.selects RX1 yX1_hoursInAll yX1_hoursInAll, Cond.code yX1_hoursInAll cX1_hoursInAll 3 (some .int), Cond.methodLink RX1 45 yX1_numberFrom, Cond.instanceMethod yX1_numberFrom, Cond.selects RX1 yX1_numberFrom yX1_numberFrom, Cond.code yX1_numberFrom cX1_numberFrom 4 (some .int), Cond.methodLink RX4 120 yX1_startsOrder, Cond.instanceMethod yX1_startsOrder, Cond.selects RX1 yX1_startsOrder yX1_startsOrder, Cond.code yX1_startsOrder cX1_startsOrder 3 (some .boolean), Cond.methodLink RX4 123 yX1_characterAt, Cond.methodLink RX4 127 yX1_numberFrom, Cond.methodLink RX4 130 yX2_obey, Cond.instanceMethod yX2_obey, Cond.selects RX2 yX2_obey yX2_obey, Cond.code yX2_obey cX2_obey 3 none, Cond.methodLink RX2 85 yX2_passHours, Cond.methodLink RX2 92 yX2_obeyAt, Cond.instanceMethod yX2_obeyAt, Cond.selects RX2 yX2_obeyAt yX2_obeyAt, Cond.code yX2_obeyAt cX2_obeyAt 3 none]
def wsL_law_r16 : List Cond := [Cond.fieldLink RX2 100 "SiltedFloats$Gauge" "silt" "I", Cond.methodLink RX2 103 yX0_noteAt, Cond.methodLink RL 49 yX5_follow, Cond.instanceMethod yX5_follow, Cond.selects RX5 yX5_follow yX5_follow, Cond.code yX5_follow cX5_follow 2 (some .int), Cond.fieldLink RX5 75 "SiltedFloatsModel" "isWrong" "Z", Cond.fieldLink RX5 69 "SiltedFloatsModel" "at" "I", Cond.fieldLink RX5 86 "SiltedFloatsModel" "hoursOfAll" "I", Cond.methodLink RX5 93 yX5_go, Cond.instanceMethod yX5_go, Cond.selects RX5 yX5_go yX5_go, Cond.code yX5_go cX5_go 5 (some .int), Cond.fieldLink RX5 72 "SiltedFloatsModel" "typed" "I", Cond.methodLink RX5 89 yX5_order, Cond.instanceMethod yX5_order, Cond.selects RX5 yX5_order yX5_order, Cond.code yX5_order cX5_order 4 (some .int), Cond.methodLink RX5 79 yX5_sign, Cond.instanceMethod yX5_sign, Cond.selects RX5 yX5_sign yX5_sign, Cond.code yX5_sign cX5_sign 4 (some .int), Cond.methodLink RX5 82 yX5_does, Cond.instanceMethod yX5_does]
def wsL_law_r17 : List Cond := [Cond.selects RX5 yX5_does yX5_does, Cond.code yX5_does cX5_does 4 none, Cond.methodLink RL 50 yX4_mend, Cond.instanceMethod yX4_mend, Cond.selects RX4 yX4_mend yX4_mend, Cond.code yX4_mend cX4_mend 10 (some .int), Cond.methodLink RX4 134 yX4_checkMending, Cond.instanceMethod yX4_checkMending, Cond.selects RX4 yX4_checkMending yX4_checkMending, Cond.code yX4_checkMending cX4_checkMending 5 (some .int), Cond.methodLink RX4 206 yX0_hasGap, Cond.instanceMethod yX0_hasGap, Cond.selects RX0 yX0_hasGap yX0_hasGap, Cond.code yX0_hasGap cX0_hasGap 2 (some .boolean), Cond.methodLink RX0 124 yX0_firstHourOfGap, Cond.instanceMethod yX0_firstHourOfGap, Cond.selects RX0 yX0_firstHourOfGap yX0_firstHourOfGap, Cond.code yX0_firstHourOfGap cX0_firstHourOfGap 4 (some .int), Cond.methodLink RX0 121 yX0_startsGap, Cond.instanceMethod yX0_startsGap, Cond.selects RX0 yX0_startsGap yX0_startsGap, Cond.code yX0_startsGap cX0_startsGap 2 (some .boolean), Cond.methodLink RX0 118 yX0_isInGap, Cond.instanceMethod yX0_isInGap]
def wsL_law_r18 : List Cond := [Cond.selects RX0 yX0_isInGap yX0_isInGap, Cond.code yX0_isInGap cX0_isInGap 3 (some .boolean), Cond.methodLink RX0 103 yX0_kindAt, Cond.instanceMethod yX0_kindAt, Cond.selects RX0 yX0_kindAt yX0_kindAt, Cond.code yX0_kindAt cX0_kindAt 2 (some .int), Cond.methodLink RX4 209 yX0_isInner, Cond.instanceMethod yX0_isInner, Cond.selects RX0 yX0_isInner yX0_isInner, Cond.code yX0_isInner cX0_isInner 3 (some .boolean), Cond.methodLink RX0 109 yX0_hasReading, Cond.instanceMethod yX0_hasReading, Cond.selects RX0 yX0_hasReading yX0_hasReading, Cond.code yX0_hasReading cX0_hasReading 2 (some .boolean), Cond.methodLink RX0 127 yX0_hourBehindGapFrom, Cond.instanceMethod yX0_hourBehindGapFrom, Cond.selects RX0 yX0_hourBehindGapFrom yX0_hourBehindGapFrom, Cond.code yX0_hourBehindGapFrom cX0_hourBehindGapFrom 3 (some .int), Cond.methodLink RX4 138 yX0_firstHourOfGap, Cond.methodLink RX4 141 yX0_hourBehindGapFrom, Cond.methodLink RX4 144 yX0_hasReadings, Cond.instanceMethod yX0_hasReadings, Cond.selects RX0 yX0_hasReadings yX0_hasReadings, Cond.code yX0_hasReadings cX0_hasReadings 4 (some .boolean)]
def wsL_law_r19 : List Cond := [Cond.methodLink RX4 148 yX0_mendBetween, Cond.instanceMethod yX0_mendBetween, Cond.selects RX0 yX0_mendBetween yX0_mendBetween, Cond.code yX0_mendBetween cX0_mendBetween 8 none, Cond.methodLink RX0 106 yX0_correctedAt, Cond.instanceMethod yX0_correctedAt, Cond.selects RX0 yX0_correctedAt yX0_correctedAt, Cond.code yX0_correctedAt cX0_correctedAt 2 (some .int), Cond.methodLink RX0 96 yX0_readingAt, Cond.instanceMethod yX0_readingAt, Cond.selects RX0 yX0_readingAt yX0_readingAt, Cond.code yX0_readingAt cX0_readingAt 2 (some .int), Cond.methodLink RX0 100 yX0_correctionAt, Cond.instanceMethod yX0_correctionAt, Cond.selects RX0 yX0_correctionAt yX0_correctionAt, Cond.code yX0_correctionAt cX0_correctionAt 2 (some .int), Cond.methodLink RL 53 yX5_mend, Cond.instanceMethod yX5_mend, Cond.selects RX5 yX5_mend yX5_mend, Cond.code yX5_mend cX5_mend 10 (some .int), Cond.methodLink RX5 115 yX5_isGap, Cond.instanceMethod yX5_isGap, Cond.selects RX5 yX5_isGap yX5_isGap, Cond.code yX5_isGap cX5_isGap 3 (some .boolean)]
def wsL_law_r20 : List Cond := [Cond.methodLink RX5 106 yX5_gapsOf, Cond.instanceMethod yX5_gapsOf, Cond.selects RX5 yX5_gapsOf yX5_gapsOf, Cond.code yX5_gapsOf cX5_gapsOf 4 (some .int), Cond.methodLink RX5 103 yX5_isBegin, Cond.instanceMethod yX5_isBegin, Cond.selects RX5 yX5_isBegin yX5_isBegin, Cond.code yX5_isBegin cX5_isBegin 3 (some .boolean), Cond.methodLink RX5 99 yX5_isRead, Cond.instanceMethod yX5_isRead, Cond.selects RX5 yX5_isRead yX5_isRead, Cond.code yX5_isRead cX5_isRead 3 (some .boolean), Cond.methodLink RX5 118 yX5_isInner, Cond.instanceMethod yX5_isInner, Cond.selects RX5 yX5_isInner yX5_isInner, Cond.code yX5_isInner cX5_isInner 3 (some .boolean), Cond.methodLink RX5 109 yX5_beginOf, Cond.instanceMethod yX5_beginOf, Cond.selects RX5 yX5_beginOf yX5_beginOf, Cond.code yX5_beginOf cX5_beginOf 5 (some .int), Cond.methodLink RX5 112 yX5_endOf, Cond.instanceMethod yX5_endOf, Cond.selects RX5 yX5_endOf yX5_endOf, Cond.code yX5_endOf cX5_endOf 4 (some .int)]
def wsL_law_r21 : List Cond := [Cond.methodLink RX5 121 yX5_canMend, Cond.instanceMethod yX5_canMend, Cond.selects RX5 yX5_canMend yX5_canMend, Cond.code yX5_canMend cX5_canMend 9 (some .boolean), Cond.methodLink RX5 125 yX5_corrected, Cond.instanceMethod yX5_corrected, Cond.selects RX5 yX5_corrected yX5_corrected, Cond.code yX5_corrected cX5_corrected 3 (some .int), Cond.methodLink RX5 96 yX5_correction, Cond.instanceMethod yX5_correction, Cond.selects RX5 yX5_correction yX5_correction, Cond.code yX5_correction cX5_correction 6 (some .int), Cond.methodLink RL 54 yX4_forget, Cond.instanceMethod yX4_forget, Cond.selects RX4 yX4_forget yX4_forget, Cond.code yX4_forget cX4_forget 4 (some .int), Cond.methodLink RX4 152 yX0_hoursOfKind, Cond.instanceMethod yX0_hoursOfKind, Cond.selects RX0 yX0_hoursOfKind yX0_hoursOfKind, Cond.code yX0_hoursOfKind cX0_hoursOfKind 4 (some .int), Cond.methodLink RX4 155 yX0_forgetMended, Cond.instanceMethod yX0_forgetMended, Cond.selects RX0 yX0_forgetMended yX0_forgetMended, Cond.code yX0_forgetMended cX0_forgetMended 2 none]
def wsL_law_r22 : List Cond := [Cond.methodLink RL 57 yX5_forget, Cond.instanceMethod yX5_forget, Cond.selects RX5 yX5_forget yX5_forget, Cond.code yX5_forget cX5_forget 4 (some .int), Cond.methodLink RX5 128 yX5_sum, Cond.instanceMethod yX5_sum, Cond.selects RX5 yX5_sum yX5_sum, Cond.code yX5_sum cX5_sum 5 (some .int), Cond.methodLink RL 58 yX4_type, Cond.instanceMethod yX4_type, Cond.selects RX4 yX4_type yX4_type, Cond.code yX4_type cX4_type 2 (some .int), Cond.methodLink RX4 158 yX1_add, Cond.instanceMethod yX1_add, Cond.selects RX1 yX1_add yX1_add, Cond.code yX1_add cX1_add 2 none, Cond.methodLink RL 62 yX5_type, Cond.instanceMethod yX5_type, Cond.selects RX5 yX5_type yX5_type, Cond.code yX5_type cX5_type 2 (some .int), Cond.methodLink RL 63 yX4_clearText, Cond.instanceMethod yX4_clearText, Cond.selects RX4 yX4_clearText yX4_clearText, Cond.code yX4_clearText cX4_clearText 2 (some .int)]
def wsL_law_r23 : List Cond := [Cond.methodLink RL 66 yX5_clearText, Cond.instanceMethod yX5_clearText, Cond.selects RX5 yX5_clearText yX5_clearText, Cond.code yX5_clearText cX5_clearText 2 (some .int), Cond.methodLink RL 67 yX4_undo, Cond.instanceMethod yX4_undo, Cond.selects RX4 yX4_undo yX4_undo, Cond.code yX4_undo cX4_undo 1 (some .int), Cond.methodLink RL 70 yX5_undo, Cond.instanceMethod yX5_undo, Cond.selects RX5 yX5_undo yX5_undo, Cond.code yX5_undo cX5_undo 2 (some .int), Cond.methodLink RL 71 yX4_keep, Cond.instanceMethod yX4_keep, Cond.selects RX4 yX4_keep yX4_keep, Cond.code yX4_keep cX4_keep 1 (some .int), Cond.fieldLink RX4 169 "SiltedFloats" "isKept" "Z", Cond.methodLink RL 74 yX5_keep, Cond.instanceMethod yX5_keep, Cond.selects RX5 yX5_keep yX5_keep, Cond.code yX5_keep cX5_keep 2 (some .int), Cond.fieldLink RX5 131 "SiltedFloatsModel" "isKept" "Z", Cond.methodLink RL 75 yX4_restore, Cond.instanceMethod yX4_restore]
def wsL_law_r24 : List Cond := [Cond.selects RX4 yX4_restore yX4_restore, Cond.code yX4_restore cX4_restore 1 (some .int), Cond.methodLink RL 78 yX5_restore, Cond.instanceMethod yX5_restore, Cond.selects RX5 yX5_restore yX5_restore, Cond.code yX5_restore cX5_restore 2 (some .int), Cond.methodLink RL 79 yX4_sea, Cond.instanceMethod yX4_sea, Cond.selects RX4 yX4_sea yX4_sea, Cond.code yX4_sea cX4_sea 2 (some .int), Cond.methodLink RL 82 yX5_sea, Cond.instanceMethod yX5_sea, Cond.selects RX5 yX5_sea yX5_sea, Cond.code yX5_sea cX5_sea 2 (some .int), Cond.methodLink RL 83 yX4_outside, Cond.instanceMethod yX4_outside, Cond.selects RX4 yX4_outside yX4_outside, Cond.code yX4_outside cX4_outside 3 (some .int), Cond.methodLink RX4 172 yX2_waterAt, Cond.methodLink RL 87 yX5_outside, Cond.instanceMethod yX5_outside, Cond.selects RX5 yX5_outside yX5_outside, Cond.code yX5_outside cX5_outside 3 (some .int), Cond.methodLink RL 88 yX4_station]
def wsL_law_r25 : List Cond := [Cond.instanceMethod yX4_station, Cond.selects RX4 yX4_station yX4_station, Cond.code yX4_station cX4_station 4 (some .int), Cond.fieldLink RX4 176 "SiltedFloats$Gauge" "delay" "I", Cond.fieldLink RX4 179 "SiltedFloats$Gauge" "scale" "I", Cond.fieldLink RX4 182 "SiltedFloats$Gauge" "offset" "I", Cond.fieldLink RX4 188 "SiltedFloats$Gauge" "notes" "I", Cond.methodLink RX4 185 yX0_gaps, Cond.instanceMethod yX0_gaps, Cond.selects RX0 yX0_gaps yX0_gaps, Cond.code yX0_gaps cX0_gaps 3 (some .int), Cond.methodLink RL 91 yX5_station, Cond.instanceMethod yX5_station, Cond.selects RX5 yX5_station yX5_station, Cond.code yX5_station cX5_station 3 (some .int), Cond.methodLink RL 92 yX4_hour, Cond.instanceMethod yX4_hour, Cond.selects RX4 yX4_hour yX4_hour, Cond.code yX4_hour cX4_hour 6 (some .int), Cond.methodLink RX4 191 yX0_kindAt, Cond.methodLink RX4 194 yX0_readingAt, Cond.methodLink RX4 197 yX0_correctedAt, Cond.methodLink RX4 200 yX0_valueAt, Cond.instanceMethod yX0_valueAt]
def wsL_law_r26 : List Cond := [Cond.selects RX0 yX0_valueAt yX0_valueAt, Cond.code yX0_valueAt cX0_valueAt 2 (some .int), Cond.methodLink RX4 203 yX0_correctionAt, Cond.methodLink RL 96 yX5_hour, Cond.instanceMethod yX5_hour, Cond.selects RX5 yX5_hour yX5_hour, Cond.code yX5_hour cX5_hour 6 (some .int), Cond.methodLink RL 97 yX4_gap, Cond.instanceMethod yX4_gap, Cond.selects RX4 yX4_gap yX4_gap, Cond.code yX4_gap cX4_gap 7 (some .int), Cond.methodLink RX4 212 yX0_mendedWithin, Cond.instanceMethod yX0_mendedWithin, Cond.selects RX0 yX0_mendedWithin yX0_mendedWithin, Cond.code yX0_mendedWithin cX0_mendedWithin 5 (some .int), Cond.methodLink RL 100 yX5_gap, Cond.instanceMethod yX5_gap, Cond.selects RX5 yX5_gap yX5_gap, Cond.code yX5_gap cX5_gap 8 (some .int), Cond.methodLink RL 101 yX4_misfit, Cond.instanceMethod yX4_misfit, Cond.selects RX4 yX4_misfit yX4_misfit, Cond.code yX4_misfit cX4_misfit 10 (some .int), Cond.methodLink RX4 216 yX0_misfitAround]
def wsL_law_r27 : List Cond := [Cond.instanceMethod yX0_misfitAround, Cond.selects RX0 yX0_misfitAround yX0_misfitAround, Cond.code yX0_misfitAround cX0_misfitAround 5 (some .int), Cond.methodLink RX0 130 yX0_misfitWithin, Cond.instanceMethod yX0_misfitWithin, Cond.selects RX0 yX0_misfitWithin yX0_misfitWithin, Cond.code yX0_misfitWithin cX0_misfitWithin 7 (some .int), Cond.methodLink RX0 140 Lib.Math.abs.name, Cond.static Lib.Math.abs.name, Cond.code Lib.Math.abs.name Lib.Math.abs.code 1 (some .int), Cond.methodLink RX0 134 yX0_hasReadings, Cond.methodLink RX0 137 yX0_riseAt, Cond.instanceMethod yX0_riseAt, Cond.selects RX0 yX0_riseAt yX0_riseAt, Cond.code yX0_riseAt cX0_riseAt 2 (some .int), Cond.methodLink RL 104 yX5_misfit, Cond.instanceMethod yX5_misfit, Cond.selects RX5 yX5_misfit yX5_misfit, Cond.code yX5_misfit cX5_misfit 5 (some .int), Cond.methodLink RX5 140 yX5_misfitOf, Cond.instanceMethod yX5_misfitOf, Cond.selects RX5 yX5_misfitOf yX5_misfitOf, Cond.code yX5_misfitOf cX5_misfitOf 10 (some .int), Cond.methodLink RX5 134 yX5_areRead]
def wsL_law_r28 : List Cond := [Cond.instanceMethod yX5_areRead, Cond.selects RX5 yX5_areRead yX5_areRead, Cond.code yX5_areRead cX5_areRead 3 (some .boolean), Cond.methodLink RX5 137 yX5_size, Cond.static yX5_size, Cond.code yX5_size cX5_size 1 (some .int), Cond.methodLink RL 105 yX4_bestPhase, Cond.instanceMethod yX4_bestPhase, Cond.selects RX4 yX4_bestPhase yX4_bestPhase, Cond.code yX4_bestPhase cX4_bestPhase 14 (some .int), Cond.methodLink RX4 220 yX4_phaseOfStep, Cond.static yX4_phaseOfStep, Cond.code yX4_phaseOfStep cX4_phaseOfStep 1 (some .int), Cond.methodLink RL 108 yX5_bestPhase, Cond.instanceMethod yX5_bestPhase, Cond.selects RX5 yX5_bestPhase yX5_bestPhase, Cond.code yX5_bestPhase cX5_bestPhase 10 (some .int), Cond.methodLink RL 109 yX4_high, Cond.instanceMethod yX4_high, Cond.selects RX4 yX4_high yX4_high, Cond.code yX4_high cX4_high 6 (some .int), Cond.methodLink RX4 223 yX0_isHighAt, Cond.instanceMethod yX0_isHighAt, Cond.selects RX0 yX0_isHighAt yX0_isHighAt]
def wsL_law_r29 : List Cond := [Cond.code yX0_isHighAt cX0_isHighAt 2 (some .boolean), Cond.methodLink RX0 112 yX0_hasValue, Cond.instanceMethod yX0_hasValue, Cond.selects RX0 yX0_hasValue yX0_hasValue, Cond.code yX0_hasValue cX0_hasValue 3 (some .boolean), Cond.methodLink RX0 115 yX0_valueAt, Cond.methodLink RL 112 yX5_high, Cond.instanceMethod yX5_high, Cond.selects RX5 yX5_high yX5_high, Cond.code yX5_high cX5_high 6 (some .int), Cond.methodLink RX5 144 yX5_isThere, Cond.instanceMethod yX5_isThere, Cond.selects RX5 yX5_isThere yX5_isThere, Cond.code yX5_isThere cX5_isThere 3 (some .boolean), Cond.methodLink RX5 147 yX5_valueOf, Cond.instanceMethod yX5_valueOf, Cond.selects RX5 yX5_valueOf yX5_valueOf, Cond.code yX5_valueOf cX5_valueOf 3 (some .int), Cond.methodLink RL 113 yX4_count, Cond.instanceMethod yX4_count, Cond.selects RX4 yX4_count yX4_count, Cond.code yX4_count cX4_count 2 (some .int), Cond.methodLink RX4 226 yX2_hoursOfKind, Cond.instanceMethod yX2_hoursOfKind]
def wsL_law_r30 : List Cond := [Cond.selects RX2 yX2_hoursOfKind yX2_hoursOfKind, Cond.code yX2_hoursOfKind cX2_hoursOfKind 4 (some .int), Cond.methodLink RX2 106 yX0_hoursOfKind, Cond.methodLink RL 116 yX5_count, Cond.instanceMethod yX5_count, Cond.selects RX5 yX5_count yX5_count, Cond.code yX5_count cX5_count 2 (some .int), Cond.methodLink RX5 150 yX5_sumOfAll, Cond.instanceMethod yX5_sumOfAll, Cond.selects RX5 yX5_sumOfAll yX5_sumOfAll, Cond.code yX5_sumOfAll cX5_sumOfAll 2 (some .int)]
def wsL_law : List Cond := (wsL_law_r1 ++ (wsL_law_r2 ++ (wsL_law_r3 ++ (wsL_law_r4 ++ (wsL_law_r5 ++ (wsL_law_r6 ++ (wsL_law_r7 ++ (wsL_law_r8 ++ (wsL_law_r9 ++ (wsL_law_r10 ++ (wsL_law_r11 ++ (wsL_law_r12 ++ (wsL_law_r13 ++ (wsL_law_r14 ++ (wsL_law_r15 ++ (wsL_law_r16 ++ (wsL_law_r17 ++ (wsL_law_r18 ++ (wsL_law_r19 ++ (wsL_law_r20 ++ (wsL_law_r21 ++ (wsL_law_r22 ++ (wsL_law_r23 ++ (wsL_law_r24 ++ (wsL_law_r25 ++ (wsL_law_r26 ++ (wsL_law_r27 ++ (wsL_law_r28 ++ (wsL_law_r29 ++ wsL_law_r30))))))))))))))))))))))))))))) ++ wsX40 ++ wsX50 ++ wsX20 ++ wsX10 ++ wsX30 ++ wsX00 ++ ([] : List Cond)
end
section
set_option maxRecDepth 20000 in
theorem in_wsL_law_r1 : ∀ w ∈ wsL_law_r1, w ∈ lw_tbl := fun w h => (goodIn_p wsL_law_r1 [48, 51] (by decide +kernel) (by decide +kernel) w h).1
set_option maxRecDepth 20000 in
theorem in_wsL_law_r2 : ∀ w ∈ wsL_law_r2, w ∈ lw_tbl := fun w h => (goodIn_p wsL_law_r2 [56, 63, 68, 87] (by decide +kernel) (by decide +kernel) w h).1
set_option maxRecDepth 20000 in
theorem in_wsL_law_r3 : ∀ w ∈ wsL_law_r3, w ∈ lw_tbl := fun w h => (goodIn_p wsL_law_r3 [92, 95, 162] (by decide +kernel) (by decide +kernel) w h).1
set_option maxRecDepth 20000 in
theorem in_wsL_law_r4 : ∀ w ∈ wsL_law_r4, w ∈ lw_tbl := fun w h => (goodIn_p wsL_law_r4 [166, 170, 174, 177, 180] (by decide +kernel) (by decide +kernel) w h).1
set_option maxRecDepth 20000 in
theorem in_wsL_law_r5 : ∀ w ∈ wsL_law_r5, w ∈ lw_tbl := fun w h => (goodIn_p wsL_law_r5 [200, 574, 578, 582, 586] (by decide +kernel) (by decide +kernel) w h).1
set_option maxRecDepth 20000 in
theorem in_wsL_law_r6 : ∀ w ∈ wsL_law_r6, w ∈ lw_tbl := fun w h => (goodIn_p wsL_law_r6 [590, 594, 597, 233, 236, 240] (by decide +kernel) (by decide +kernel) w h).1
set_option maxRecDepth 20000 in
theorem in_wsL_law_r7 : ∀ w ∈ wsL_law_r7, w ∈ lw_tbl := fun w h => (goodIn_p wsL_law_r7 [244, 248, 252, 257] (by decide +kernel) (by decide +kernel) w h).1
set_option maxRecDepth 20000 in
theorem in_wsL_law_r8 : ∀ w ∈ wsL_law_r8, w ∈ lw_tbl := fun w h => (goodIn_p wsL_law_r8 [265, 632, 635] (by decide +kernel) (by decide +kernel) w h).1
set_option maxRecDepth 20000 in
theorem in_wsL_law_r9 : ∀ w ∈ wsL_law_r9, w ∈ lw_tbl := fun w h => (goodIn_p wsL_law_r9 [639, 271, 274, 278, 644] (by decide +kernel) (by decide +kernel) w h).1
set_option maxRecDepth 20000 in
theorem in_wsL_law_r10 : ∀ w ∈ wsL_law_r10, w ∈ lw_tbl := fun w h => (goodIn_p wsL_law_r10 [647, 284, 651, 288, 292] (by decide +kernel) (by decide +kernel) w h).1
end
section
set_option maxRecDepth 20000 in
theorem in_wsL_law_r11 : ∀ w ∈ wsL_law_r11, w ∈ lw_tbl := fun w h => (goodIn_p wsL_law_r11 [655, 659, 296, 663, 300, 304] (by decide +kernel) (by decide +kernel) w h).1
set_option maxRecDepth 20000 in
theorem in_wsL_law_r12 : ∀ w ∈ wsL_law_r12, w ∈ lw_tbl := fun w h => (goodIn_p wsL_law_r12 [308, 312, 315, 667, 671, 320] (by decide +kernel) (by decide +kernel) w h).1
set_option maxRecDepth 20000 in
theorem in_wsL_law_r13 : ∀ w ∈ wsL_law_r13, w ∈ lw_tbl := fun w h => (goodIn_p wsL_law_r13 [324, 328, 332, 675, 679, 336] (by decide +kernel) (by decide +kernel) w h).1
set_option maxRecDepth 20000 in
theorem in_wsL_law_r14 : ∀ w ∈ wsL_law_r14, w ∈ lw_tbl := fun w h => (goodIn_p wsL_law_r14 [340, 344, 347, 350, 353, 357] (by decide +kernel) (by decide +kernel) w h).1
set_option maxRecDepth 20000 in
theorem in_wsL_law_r15 : ∀ w ∈ wsL_law_r15, w ∈ lw_tbl := fun w h => (goodIn_p wsL_law_r15 [360, 364, 368, 372, 378, 384] (by decide +kernel) (by decide +kernel) w h).1
set_option maxRecDepth 20000 in
theorem in_wsL_law_r16 : ∀ w ∈ wsL_law_r16, w ∈ lw_tbl := fun w h => (goodIn_p wsL_law_r16 [683, 687, 691, 695] (by decide +kernel) (by decide +kernel) w h).1
set_option maxRecDepth 20000 in
theorem in_wsL_law_r17 : ∀ w ∈ wsL_law_r17, w ∈ lw_tbl := fun w h => (goodIn_p wsL_law_r17 [699, 389, 393, 397, 401, 405] (by decide +kernel) (by decide +kernel) w h).1
set_option maxRecDepth 20000 in
theorem in_wsL_law_r18 : ∀ w ∈ wsL_law_r18, w ∈ lw_tbl := fun w h => (goodIn_p wsL_law_r18 [409, 413, 417, 421, 425, 431] (by decide +kernel) (by decide +kernel) w h).1
set_option maxRecDepth 20000 in
theorem in_wsL_law_r19 : ∀ w ∈ wsL_law_r19, w ∈ lw_tbl := fun w h => (goodIn_p wsL_law_r19 [435, 439, 443, 447, 711, 715] (by decide +kernel) (by decide +kernel) w h).1
set_option maxRecDepth 20000 in
theorem in_wsL_law_r20 : ∀ w ∈ wsL_law_r20, w ∈ lw_tbl := fun w h => (goodIn_p wsL_law_r20 [719, 723, 727, 731, 735, 739] (by decide +kernel) (by decide +kernel) w h).1
end
section
set_option maxRecDepth 20000 in
theorem in_wsL_law_r21 : ∀ w ∈ wsL_law_r21, w ∈ lw_tbl := fun w h => (goodIn_p wsL_law_r21 [743, 747, 751, 451, 455, 459] (by decide +kernel) (by decide +kernel) w h).1
set_option maxRecDepth 20000 in
theorem in_wsL_law_r22 : ∀ w ∈ wsL_law_r22, w ∈ lw_tbl := fun w h => (goodIn_p wsL_law_r22 [755, 759, 463, 467, 703, 471] (by decide +kernel) (by decide +kernel) w h).1
set_option maxRecDepth 20000 in
theorem in_wsL_law_r23 : ∀ w ∈ wsL_law_r23, w ∈ lw_tbl := fun w h => (goodIn_p wsL_law_r23 [707, 475, 763, 479, 767] (by decide +kernel) (by decide +kernel) w h).1
set_option maxRecDepth 20000 in
theorem in_wsL_law_r24 : ∀ w ∈ wsL_law_r24, w ∈ lw_tbl := fun w h => (goodIn_p wsL_law_r24 [483, 771, 487, 775, 491, 779] (by decide +kernel) (by decide +kernel) w h).1
set_option maxRecDepth 20000 in
theorem in_wsL_law_r25 : ∀ w ∈ wsL_law_r25, w ∈ lw_tbl := fun w h => (goodIn_p wsL_law_r25 [496, 500, 783, 504] (by decide +kernel) (by decide +kernel) w h).1
set_option maxRecDepth 20000 in
theorem in_wsL_law_r26 : ∀ w ∈ wsL_law_r26, w ∈ lw_tbl := fun w h => (goodIn_p wsL_law_r26 [511, 787, 516, 520, 791, 524] (by decide +kernel) (by decide +kernel) w h).1
set_option maxRecDepth 20000 in
theorem in_wsL_law_r27 : ∀ w ∈ wsL_law_r27, w ∈ lw_tbl := fun w h => (goodIn_p wsL_law_r27 [528, 532, 540, 537, 795, 799] (by decide +kernel) (by decide +kernel) w h).1
set_option maxRecDepth 20000 in
theorem in_wsL_law_r28 : ∀ w ∈ wsL_law_r28, w ∈ lw_tbl := fun w h => (goodIn_p wsL_law_r28 [803, 806, 544, 547, 810, 551] (by decide +kernel) (by decide +kernel) w h).1
set_option maxRecDepth 20000 in
theorem in_wsL_law_r29 : ∀ w ∈ wsL_law_r29, w ∈ lw_tbl := fun w h => (goodIn_p wsL_law_r29 [555, 559, 814, 818, 822, 564] (by decide +kernel) (by decide +kernel) w h).1
set_option maxRecDepth 20000 in
theorem in_wsL_law_r30 : ∀ w ∈ wsL_law_r30, w ∈ lw_tbl := fun w h => (goodIn_p wsL_law_r30 [568, 826, 830] (by decide +kernel) (by decide +kernel) w h).1
end
section
set_option maxRecDepth 20000 in
theorem in_wsX40 : ∀ w ∈ wsX40, w ∈ lw_tbl := fun w h => (goodIn_p wsX40 [] (by decide +kernel) (by decide +kernel) w h).1
set_option maxRecDepth 20000 in
theorem in_wsX50 : ∀ w ∈ wsX50, w ∈ lw_tbl := fun w h => (goodIn_p wsX50 [] (by decide +kernel) (by decide +kernel) w h).1
set_option maxRecDepth 20000 in
theorem in_wsX20 : ∀ w ∈ wsX20, w ∈ lw_tbl := fun w h => (goodIn_p wsX20 [] (by decide +kernel) (by decide +kernel) w h).1
set_option maxRecDepth 20000 in
theorem in_wsX10 : ∀ w ∈ wsX10, w ∈ lw_tbl := fun w h => (goodIn_p wsX10 [] (by decide +kernel) (by decide +kernel) w h).1
set_option maxRecDepth 20000 in
theorem in_wsX30 : ∀ w ∈ wsX30, w ∈ lw_tbl := fun w h => (goodIn_p wsX30 [] (by decide +kernel) (by decide +kernel) w h).1
set_option maxRecDepth 20000 in
theorem in_wsX00 : ∀ w ∈ wsX00, w ∈ lw_tbl := fun w h => (goodIn_p wsX00 [] (by decide +kernel) (by decide +kernel) w h).1
theorem wsL_law_in : ∀ w ∈ wsL_law, w ∈ lw_tbl := by
  unfold wsL_law
  exact List.forall_mem_append.mpr ⟨List.forall_mem_append.mpr ⟨List.forall_mem_append.mpr ⟨List.forall_mem_append.mpr ⟨List.forall_mem_append.mpr ⟨List.forall_mem_append.mpr ⟨List.forall_mem_append.mpr ⟨List.forall_mem_append.mpr ⟨in_wsL_law_r1, List.forall_mem_append.mpr ⟨in_wsL_law_r2, List.forall_mem_append.mpr ⟨in_wsL_law_r3, List.forall_mem_append.mpr ⟨in_wsL_law_r4, List.forall_mem_append.mpr ⟨in_wsL_law_r5, List.forall_mem_append.mpr ⟨in_wsL_law_r6, List.forall_mem_append.mpr ⟨in_wsL_law_r7, List.forall_mem_append.mpr ⟨in_wsL_law_r8, List.forall_mem_append.mpr ⟨in_wsL_law_r9, List.forall_mem_append.mpr ⟨in_wsL_law_r10, List.forall_mem_append.mpr ⟨in_wsL_law_r11, List.forall_mem_append.mpr ⟨in_wsL_law_r12, List.forall_mem_append.mpr ⟨in_wsL_law_r13, List.forall_mem_append.mpr ⟨in_wsL_law_r14, List.forall_mem_append.mpr ⟨in_wsL_law_r15, List.forall_mem_append.mpr ⟨in_wsL_law_r16, List.forall_mem_append.mpr ⟨in_wsL_law_r17, List.forall_mem_append.mpr ⟨in_wsL_law_r18, List.forall_mem_append.mpr ⟨in_wsL_law_r19, List.forall_mem_append.mpr ⟨in_wsL_law_r20, List.forall_mem_append.mpr ⟨in_wsL_law_r21, List.forall_mem_append.mpr ⟨in_wsL_law_r22, List.forall_mem_append.mpr ⟨in_wsL_law_r23, List.forall_mem_append.mpr ⟨in_wsL_law_r24, List.forall_mem_append.mpr ⟨in_wsL_law_r25, List.forall_mem_append.mpr ⟨in_wsL_law_r26, List.forall_mem_append.mpr ⟨in_wsL_law_r27, List.forall_mem_append.mpr ⟨in_wsL_law_r28, List.forall_mem_append.mpr ⟨in_wsL_law_r29, in_wsL_law_r30⟩⟩⟩⟩⟩⟩⟩⟩⟩⟩⟩⟩⟩⟩⟩⟩⟩⟩⟩⟩⟩⟩⟩⟩⟩⟩⟩⟩⟩, in_wsX40⟩, in_wsX50⟩, in_wsX20⟩, in_wsX10⟩, in_wsX30⟩, in_wsX00⟩, (fun _ h => absurd h List.not_mem_nil)⟩
theorem inlX0 : ∀ w ∈ wsX00, w ∈ wsL_law := fun _ h => List.mem_append_left _ (List.mem_append_right _ h)
theorem inX0 : ∀ w ∈ wsX00, w ∈ lw_tbl := fun w h => wsL_law_in w (inlX0 w h)
theorem inlX1 : ∀ w ∈ wsX10, w ∈ wsL_law := fun _ h => List.mem_append_left _ (List.mem_append_left _ (List.mem_append_left _ (List.mem_append_right _ h)))
theorem inX1 : ∀ w ∈ wsX10, w ∈ lw_tbl := fun w h => wsL_law_in w (inlX1 w h)
theorem inlX2 : ∀ w ∈ wsX20, w ∈ wsL_law := fun _ h => List.mem_append_left _ (List.mem_append_left _ (List.mem_append_left _ (List.mem_append_left _ (List.mem_append_right _ h))))
theorem inX2 : ∀ w ∈ wsX20, w ∈ lw_tbl := fun w h => wsL_law_in w (inlX2 w h)
theorem inlX3 : ∀ w ∈ wsX30, w ∈ wsL_law := fun _ h => List.mem_append_left _ (List.mem_append_left _ (List.mem_append_right _ h))
theorem inX3 : ∀ w ∈ wsX30, w ∈ lw_tbl := fun w h => wsL_law_in w (inlX3 w h)
theorem inlX4 : ∀ w ∈ wsX40, w ∈ wsL_law := fun _ h => List.mem_append_left _ (List.mem_append_left _ (List.mem_append_left _ (List.mem_append_left _ (List.mem_append_left _ (List.mem_append_left _ (List.mem_append_right _ h))))))
theorem inX4 : ∀ w ∈ wsX40, w ∈ lw_tbl := fun w h => wsL_law_in w (inlX4 w h)
theorem inlX5 : ∀ w ∈ wsX50, w ∈ wsL_law := fun _ h => List.mem_append_left _ (List.mem_append_left _ (List.mem_append_left _ (List.mem_append_left _ (List.mem_append_left _ (List.mem_append_right _ h)))))
theorem inX5 : ∀ w ∈ wsX50, w ∈ lw_tbl := fun w h => wsL_law_in w (inlX5 w h)
theorem inJ9 : ∀ w ∈ wsJ90, w ∈ lw_tbl := by decide +kernel
theorem inJ10 : ∀ w ∈ wsJ100, w ∈ lw_tbl := by decide +kernel
theorem inJ7 : ∀ w ∈ wsJ70, w ∈ lw_tbl := by decide +kernel
end
section
set_option maxRecDepth 20000 in
theorem ggX0_init_X0_become : GoodIn wsX0_init wsX0_become := goodIn_r _ [14, 15, 16, 17, 22, 23, 24, 25, 26, 27, 28, 29, 30, 31, 32, 33, 34, 35, 36] (by decide +kernel) (by decide +kernel)
set_option maxRecDepth 20000 in
theorem gX0_init_X0_become : GoodIn wsX0_init (wsV RX0 9 RX0 yX0_become wsX0_become) := goodIn_app (goodIn_of _ (by decide +kernel)) ggX0_init_X0_become
set_option maxRecDepth 20000 in
theorem ggX0_init_J7_fill_53178 : GoodIn wsX0_init wsJ7_fill_53178 := goodIn_r _ [21] (by decide +kernel) (by decide +kernel)
set_option maxRecDepth 20000 in
theorem gX0_init_J7_fill_53178 : GoodIn wsX0_init (va_wsS RX0 27 yJ7_fill_53178 wsJ7_fill_53178) := goodIn_app (goodIn_of _ (by decide +kernel)) ggX0_init_J7_fill_53178
theorem dX0_init_0 : decode cX0_init 0 = .ok (.aload_n 0, 1) := by decide +kernel
theorem dX0_init_1 : decode cX0_init 1 = .ok (.invokespecial 3, 3) := by decide +kernel
theorem dX0_init_4 : decode cX0_init 4 = .ok (.aload_n 0, 1) := by decide +kernel
theorem dX0_init_5 : decode cX0_init 5 = .ok (.iload_n 1, 1) := by decide +kernel
theorem dX0_init_6 : decode cX0_init 6 = .ok (.bipush 100, 2) := by decide +kernel
theorem dX0_init_8 : decode cX0_init 8 = .ok (.iconst 0, 1) := by decide +kernel
theorem dX0_init_9 : decode cX0_init 9 = .ok (.invokevirtual 9, 3) := by decide +kernel
theorem dX0_init_12 : decode cX0_init 12 = .ok (.aload_n 0, 1) := by decide +kernel
theorem dX0_init_13 : decode cX0_init 13 = .ok (.iconst 1, 1) := by decide +kernel
theorem dX0_init_14 : decode cX0_init 14 = .ok (.putfield 15, 3) := by decide +kernel
theorem dX0_init_17 : decode cX0_init 17 = .ok (.aload_n 0, 1) := by decide +kernel
theorem dX0_init_18 : decode cX0_init 18 = .ok (.iconst 1, 1) := by decide +kernel
theorem dX0_init_19 : decode cX0_init 19 = .ok (.putfield 19, 3) := by decide +kernel
theorem dX0_init_22 : decode cX0_init 22 = .ok (.aload_n 0, 1) := by decide +kernel
theorem dX0_init_23 : decode cX0_init 23 = .ok (.bipush 120, 2) := by decide +kernel
theorem dX0_init_25 : decode cX0_init 25 = .ok (.newarray .int, 2) := by decide +kernel
theorem dX0_init_27 : decode cX0_init 27 = .ok (.putfield 23, 3) := by decide +kernel
theorem dX0_init_30 : decode cX0_init 30 = .ok (.aload_n 0, 1) := by decide +kernel
theorem dX0_init_31 : decode cX0_init 31 = .ok (.getfield 23, 3) := by decide +kernel
theorem dX0_init_34 : decode cX0_init 34 = .ok (.iconst 3, 1) := by decide +kernel
theorem dX0_init_35 : decode cX0_init 35 = .ok (.invokestatic 27, 3) := by decide +kernel
theorem dX0_init_38 : decode cX0_init 38 = .ok (.aload_n 0, 1) := by decide +kernel
theorem dX0_init_39 : decode cX0_init 39 = .ok (.bipush 120, 2) := by decide +kernel
theorem dX0_init_41 : decode cX0_init 41 = .ok (.newarray .int, 2) := by decide +kernel
theorem dX0_init_43 : decode cX0_init 43 = .ok (.putfield 33, 3) := by decide +kernel
theorem dX0_init_46 : decode cX0_init 46 = .ok (.aload_n 0, 1) := by decide +kernel
theorem dX0_init_47 : decode cX0_init 47 = .ok (.bipush 120, 2) := by decide +kernel
theorem dX0_init_49 : decode cX0_init 49 = .ok (.newarray .int, 2) := by decide +kernel
theorem dX0_init_51 : decode cX0_init 51 = .ok (.putfield 36, 3) := by decide +kernel
theorem dX0_init_54 : decode cX0_init 54 = .ok (.return_, 1) := by decide +kernel
theorem dX0_become_0 : decode cX0_become 0 = .ok (.aload_n 0, 1) := by decide +kernel
theorem dX0_become_1 : decode cX0_become 1 = .ok (.iload_n 1, 1) := by decide +kernel
theorem dX0_become_2 : decode cX0_become 2 = .ok (.putfield 39, 3) := by decide +kernel
theorem dX0_become_5 : decode cX0_become 5 = .ok (.aload_n 0, 1) := by decide +kernel
theorem dX0_become_6 : decode cX0_become 6 = .ok (.iload_n 2, 1) := by decide +kernel
theorem dX0_become_7 : decode cX0_become 7 = .ok (.putfield 42, 3) := by decide +kernel
theorem dX0_become_10 : decode cX0_become 10 = .ok (.aload_n 0, 1) := by decide +kernel
theorem dX0_become_11 : decode cX0_become 11 = .ok (.iload_n 3, 1) := by decide +kernel
theorem dX0_become_12 : decode cX0_become 12 = .ok (.putfield 45, 3) := by decide +kernel
theorem dX0_become_15 : decode cX0_become 15 = .ok (.return_, 1) := by decide +kernel
theorem dX0_isSo_0 : decode cX0_isSo 0 = .ok (.aload_n 0, 1) := by decide +kernel
theorem dX0_isSo_1 : decode cX0_isSo 1 = .ok (.getfield 39, 3) := by decide +kernel
theorem dX0_isSo_4 : decode cX0_isSo 4 = .ok (.iload_n 1, 1) := by decide +kernel
theorem dX0_isSo_5 : decode cX0_isSo 5 = .ok (.if_icmp .ne 23, 3) := by decide +kernel
theorem dX0_isSo_8 : decode cX0_isSo 8 = .ok (.aload_n 0, 1) := by decide +kernel
theorem dX0_isSo_9 : decode cX0_isSo 9 = .ok (.getfield 42, 3) := by decide +kernel
theorem dX0_isSo_12 : decode cX0_isSo 12 = .ok (.iload_n 2, 1) := by decide +kernel
theorem dX0_isSo_13 : decode cX0_isSo 13 = .ok (.if_icmp .ne 15, 3) := by decide +kernel
theorem dX0_isSo_16 : decode cX0_isSo 16 = .ok (.aload_n 0, 1) := by decide +kernel
theorem dX0_isSo_17 : decode cX0_isSo 17 = .ok (.getfield 45, 3) := by decide +kernel
theorem dX0_isSo_20 : decode cX0_isSo 20 = .ok (.iload_n 3, 1) := by decide +kernel
theorem dX0_isSo_21 : decode cX0_isSo 21 = .ok (.if_icmp .ne 7, 3) := by decide +kernel
theorem dX0_isSo_24 : decode cX0_isSo 24 = .ok (.iconst 1, 1) := by decide +kernel
theorem dX0_isSo_25 : decode cX0_isSo 25 = .ok (.goto 4, 3) := by decide +kernel
theorem dX0_isSo_28 : decode cX0_isSo 28 = .ok (.iconst 0, 1) := by decide +kernel
theorem dX0_isSo_29 : decode cX0_isSo 29 = .ok (.ireturn, 1) := by decide +kernel
set_option maxRecDepth 20000 in
theorem ggX0_copyFrom_X0_become : GoodIn wsX0_copyFrom wsX0_become := goodIn_r _ [24, 1, 2, 3, 25, 26, 27, 28, 29, 30, 31, 32, 33, 34, 35, 36, 37, 38, 39] (by decide +kernel) (by decide +kernel)
set_option maxRecDepth 20000 in
theorem gX0_copyFrom_X0_become : GoodIn wsX0_copyFrom (wsV RX0 9 RX0 yX0_become wsX0_become) := goodIn_app (goodIn_of _ (by decide +kernel)) ggX0_copyFrom_X0_become
theorem dX0_copyFrom_0 : decode cX0_copyFrom 0 = .ok (.aload_n 0, 1) := by decide +kernel
theorem dX0_copyFrom_1 : decode cX0_copyFrom 1 = .ok (.aload_n 1, 1) := by decide +kernel
theorem dX0_copyFrom_2 : decode cX0_copyFrom 2 = .ok (.getfield 39, 3) := by decide +kernel
theorem dX0_copyFrom_5 : decode cX0_copyFrom 5 = .ok (.aload_n 1, 1) := by decide +kernel
theorem dX0_copyFrom_6 : decode cX0_copyFrom 6 = .ok (.getfield 42, 3) := by decide +kernel
theorem dX0_copyFrom_9 : decode cX0_copyFrom 9 = .ok (.aload_n 1, 1) := by decide +kernel
theorem dX0_copyFrom_10 : decode cX0_copyFrom 10 = .ok (.getfield 45, 3) := by decide +kernel
theorem dX0_copyFrom_13 : decode cX0_copyFrom 13 = .ok (.invokevirtual 9, 3) := by decide +kernel
theorem dX0_copyFrom_16 : decode cX0_copyFrom 16 = .ok (.aload_n 0, 1) := by decide +kernel
theorem dX0_copyFrom_17 : decode cX0_copyFrom 17 = .ok (.aload_n 1, 1) := by decide +kernel
theorem dX0_copyFrom_18 : decode cX0_copyFrom 18 = .ok (.getfield 48, 3) := by decide +kernel
theorem dX0_copyFrom_21 : decode cX0_copyFrom 21 = .ok (.putfield 48, 3) := by decide +kernel
theorem dX0_copyFrom_24 : decode cX0_copyFrom 24 = .ok (.aload_n 0, 1) := by decide +kernel
theorem dX0_copyFrom_25 : decode cX0_copyFrom 25 = .ok (.aload_n 1, 1) := by decide +kernel
theorem dX0_copyFrom_26 : decode cX0_copyFrom 26 = .ok (.getfield 51, 3) := by decide +kernel
theorem dX0_copyFrom_29 : decode cX0_copyFrom 29 = .ok (.putfield 51, 3) := by decide +kernel
theorem dX0_copyFrom_32 : decode cX0_copyFrom 32 = .ok (.aload_n 0, 1) := by decide +kernel
theorem dX0_copyFrom_33 : decode cX0_copyFrom 33 = .ok (.aload_n 1, 1) := by decide +kernel
theorem dX0_copyFrom_34 : decode cX0_copyFrom 34 = .ok (.getfield 54, 3) := by decide +kernel
theorem dX0_copyFrom_37 : decode cX0_copyFrom 37 = .ok (.putfield 54, 3) := by decide +kernel
theorem dX0_copyFrom_40 : decode cX0_copyFrom 40 = .ok (.aload_n 0, 1) := by decide +kernel
theorem dX0_copyFrom_41 : decode cX0_copyFrom 41 = .ok (.aload_n 1, 1) := by decide +kernel
theorem dX0_copyFrom_42 : decode cX0_copyFrom 42 = .ok (.getfield 57, 3) := by decide +kernel
theorem dX0_copyFrom_45 : decode cX0_copyFrom 45 = .ok (.putfield 57, 3) := by decide +kernel
theorem dX0_copyFrom_48 : decode cX0_copyFrom 48 = .ok (.aload_n 0, 1) := by decide +kernel
theorem dX0_copyFrom_49 : decode cX0_copyFrom 49 = .ok (.aload_n 1, 1) := by decide +kernel
theorem dX0_copyFrom_50 : decode cX0_copyFrom 50 = .ok (.getfield 60, 3) := by decide +kernel
theorem dX0_copyFrom_53 : decode cX0_copyFrom 53 = .ok (.putfield 60, 3) := by decide +kernel
theorem dX0_copyFrom_56 : decode cX0_copyFrom 56 = .ok (.aload_n 0, 1) := by decide +kernel
theorem dX0_copyFrom_57 : decode cX0_copyFrom 57 = .ok (.aload_n 1, 1) := by decide +kernel
theorem dX0_copyFrom_58 : decode cX0_copyFrom 58 = .ok (.getfield 15, 3) := by decide +kernel
theorem dX0_copyFrom_61 : decode cX0_copyFrom 61 = .ok (.putfield 15, 3) := by decide +kernel
theorem dX0_copyFrom_64 : decode cX0_copyFrom 64 = .ok (.aload_n 0, 1) := by decide +kernel
theorem dX0_copyFrom_65 : decode cX0_copyFrom 65 = .ok (.aload_n 1, 1) := by decide +kernel
theorem dX0_copyFrom_66 : decode cX0_copyFrom 66 = .ok (.getfield 19, 3) := by decide +kernel
theorem dX0_copyFrom_69 : decode cX0_copyFrom 69 = .ok (.putfield 19, 3) := by decide +kernel
theorem dX0_copyFrom_72 : decode cX0_copyFrom 72 = .ok (.aload_n 0, 1) := by decide +kernel
theorem dX0_copyFrom_73 : decode cX0_copyFrom 73 = .ok (.aload_n 1, 1) := by decide +kernel
theorem dX0_copyFrom_74 : decode cX0_copyFrom 74 = .ok (.getfield 63, 3) := by decide +kernel
theorem dX0_copyFrom_77 : decode cX0_copyFrom 77 = .ok (.putfield 63, 3) := by decide +kernel
theorem dX0_copyFrom_80 : decode cX0_copyFrom 80 = .ok (.aload_n 0, 1) := by decide +kernel
theorem dX0_copyFrom_81 : decode cX0_copyFrom 81 = .ok (.aload_n 1, 1) := by decide +kernel
theorem dX0_copyFrom_82 : decode cX0_copyFrom 82 = .ok (.getfield 66, 3) := by decide +kernel
theorem dX0_copyFrom_85 : decode cX0_copyFrom 85 = .ok (.putfield 66, 3) := by decide +kernel
theorem dX0_copyFrom_88 : decode cX0_copyFrom 88 = .ok (.aload_n 1, 1) := by decide +kernel
theorem dX0_copyFrom_89 : decode cX0_copyFrom 89 = .ok (.getfield 23, 3) := by decide +kernel
theorem dX0_copyFrom_92 : decode cX0_copyFrom 92 = .ok (.iconst 0, 1) := by decide +kernel
theorem dX0_copyFrom_93 : decode cX0_copyFrom 93 = .ok (.aload_n 0, 1) := by decide +kernel
theorem dX0_copyFrom_94 : decode cX0_copyFrom 94 = .ok (.getfield 23, 3) := by decide +kernel
theorem dX0_copyFrom_97 : decode cX0_copyFrom 97 = .ok (.iconst 0, 1) := by decide +kernel
theorem dX0_copyFrom_98 : decode cX0_copyFrom 98 = .ok (.bipush 120, 2) := by decide +kernel
theorem dX0_copyFrom_100 : decode cX0_copyFrom 100 = .ok (.invokestatic 69, 3) := by decide +kernel
theorem dX0_copyFrom_103 : decode cX0_copyFrom 103 = .ok (.aload_n 1, 1) := by decide +kernel
theorem dX0_copyFrom_104 : decode cX0_copyFrom 104 = .ok (.getfield 33, 3) := by decide +kernel
theorem dX0_copyFrom_107 : decode cX0_copyFrom 107 = .ok (.iconst 0, 1) := by decide +kernel
theorem dX0_copyFrom_108 : decode cX0_copyFrom 108 = .ok (.aload_n 0, 1) := by decide +kernel
theorem dX0_copyFrom_109 : decode cX0_copyFrom 109 = .ok (.getfield 33, 3) := by decide +kernel
theorem dX0_copyFrom_112 : decode cX0_copyFrom 112 = .ok (.iconst 0, 1) := by decide +kernel
theorem dX0_copyFrom_113 : decode cX0_copyFrom 113 = .ok (.bipush 120, 2) := by decide +kernel
theorem dX0_copyFrom_115 : decode cX0_copyFrom 115 = .ok (.invokestatic 69, 3) := by decide +kernel
theorem dX0_copyFrom_118 : decode cX0_copyFrom 118 = .ok (.aload_n 1, 1) := by decide +kernel
theorem dX0_copyFrom_119 : decode cX0_copyFrom 119 = .ok (.getfield 36, 3) := by decide +kernel
theorem dX0_copyFrom_122 : decode cX0_copyFrom 122 = .ok (.iconst 0, 1) := by decide +kernel
theorem dX0_copyFrom_123 : decode cX0_copyFrom 123 = .ok (.aload_n 0, 1) := by decide +kernel
theorem dX0_copyFrom_124 : decode cX0_copyFrom 124 = .ok (.getfield 36, 3) := by decide +kernel
theorem dX0_copyFrom_127 : decode cX0_copyFrom 127 = .ok (.iconst 0, 1) := by decide +kernel
theorem dX0_copyFrom_128 : decode cX0_copyFrom 128 = .ok (.bipush 120, 2) := by decide +kernel
theorem dX0_copyFrom_130 : decode cX0_copyFrom 130 = .ok (.invokestatic 69, 3) := by decide +kernel
theorem dX0_copyFrom_133 : decode cX0_copyFrom 133 = .ok (.return_, 1) := by decide +kernel
set_option maxRecDepth 20000 in
theorem ggX0_passHour_J9_floorDiv_7cf53 : GoodIn wsX0_passHour wsJ9_floorDiv_7cf53 := goodIn_r _ [14] (by decide +kernel) (by decide +kernel)
set_option maxRecDepth 20000 in
theorem gX0_passHour_J9_floorDiv_7cf53 : GoodIn wsX0_passHour (va_wsS RX0 75 yJ9_floorDiv_7cf53 wsJ9_floorDiv_7cf53) := goodIn_app (goodIn_of _ (by decide +kernel)) ggX0_passHour_J9_floorDiv_7cf53
set_option maxRecDepth 20000 in
theorem ggX0_passHour_X0_isDue : GoodIn wsX0_passHour wsX0_isDue := goodIn_r _ [18] (by decide +kernel) (by decide +kernel)
set_option maxRecDepth 20000 in
theorem gX0_passHour_X0_isDue : GoodIn wsX0_passHour (va_wsS RX0 81 yX0_isDue wsX0_isDue) := goodIn_app (goodIn_of _ (by decide +kernel)) ggX0_passHour_X0_isDue
theorem dX0_passHour_0 : decode cX0_passHour 0 = .ok (.aload_n 0, 1) := by decide +kernel
theorem dX0_passHour_1 : decode cX0_passHour 1 = .ok (.dup, 1) := by decide +kernel
theorem dX0_passHour_2 : decode cX0_passHour 2 = .ok (.getfield 48, 3) := by decide +kernel
theorem dX0_passHour_5 : decode cX0_passHour 5 = .ok (.iload_n 2, 1) := by decide +kernel
theorem dX0_passHour_6 : decode cX0_passHour 6 = .ok (.aload_n 0, 1) := by decide +kernel
theorem dX0_passHour_7 : decode cX0_passHour 7 = .ok (.getfield 48, 3) := by decide +kernel
theorem dX0_passHour_10 : decode cX0_passHour 10 = .ok (.isub, 1) := by decide +kernel
theorem dX0_passHour_11 : decode cX0_passHour 11 = .ok (.bipush 100, 2) := by decide +kernel
theorem dX0_passHour_13 : decode cX0_passHour 13 = .ok (.aload_n 0, 1) := by decide +kernel
theorem dX0_passHour_14 : decode cX0_passHour 14 = .ok (.getfield 51, 3) := by decide +kernel
theorem dX0_passHour_17 : decode cX0_passHour 17 = .ok (.isub, 1) := by decide +kernel
theorem dX0_passHour_18 : decode cX0_passHour 18 = .ok (.imul, 1) := by decide +kernel
theorem dX0_passHour_19 : decode cX0_passHour 19 = .ok (.bipush 100, 2) := by decide +kernel
theorem dX0_passHour_21 : decode cX0_passHour 21 = .ok (.invokestatic 75, 3) := by decide +kernel
theorem dX0_passHour_24 : decode cX0_passHour 24 = .ok (.iadd, 1) := by decide +kernel
theorem dX0_passHour_25 : decode cX0_passHour 25 = .ok (.putfield 48, 3) := by decide +kernel
theorem dX0_passHour_28 : decode cX0_passHour 28 = .ok (.iload_n 1, 1) := by decide +kernel
theorem dX0_passHour_29 : decode cX0_passHour 29 = .ok (.ifCond .lt 63, 3) := by decide +kernel
theorem dX0_passHour_32 : decode cX0_passHour 32 = .ok (.iload_n 1, 1) := by decide +kernel
theorem dX0_passHour_33 : decode cX0_passHour 33 = .ok (.bipush 120, 2) := by decide +kernel
theorem dX0_passHour_35 : decode cX0_passHour 35 = .ok (.if_icmp .ge 57, 3) := by decide +kernel
theorem dX0_passHour_38 : decode cX0_passHour 38 = .ok (.aload_n 0, 1) := by decide +kernel
theorem dX0_passHour_39 : decode cX0_passHour 39 = .ok (.getfield 23, 3) := by decide +kernel
theorem dX0_passHour_42 : decode cX0_passHour 42 = .ok (.iload_n 1, 1) := by decide +kernel
theorem dX0_passHour_43 : decode cX0_passHour 43 = .ok (.aload_n 0, 1) := by decide +kernel
theorem dX0_passHour_44 : decode cX0_passHour 44 = .ok (.getfield 15, 3) := by decide +kernel
theorem dX0_passHour_47 : decode cX0_passHour 47 = .ok (.ifCond .eq 7, 3) := by decide +kernel
theorem dX0_passHour_50 : decode cX0_passHour 50 = .ok (.iconst 0, 1) := by decide +kernel
theorem dX0_passHour_51 : decode cX0_passHour 51 = .ok (.goto 4, 3) := by decide +kernel
theorem dX0_passHour_54 : decode cX0_passHour 54 = .ok (.iconst 1, 1) := by decide +kernel
theorem dX0_passHour_55 : decode cX0_passHour 55 = .ok (.iastore, 1) := by decide +kernel
theorem dX0_passHour_56 : decode cX0_passHour 56 = .ok (.aload_n 0, 1) := by decide +kernel
theorem dX0_passHour_57 : decode cX0_passHour 57 = .ok (.getfield 33, 3) := by decide +kernel
theorem dX0_passHour_60 : decode cX0_passHour 60 = .ok (.iload_n 1, 1) := by decide +kernel
theorem dX0_passHour_61 : decode cX0_passHour 61 = .ok (.aload_n 0, 1) := by decide +kernel
theorem dX0_passHour_62 : decode cX0_passHour 62 = .ok (.getfield 15, 3) := by decide +kernel
theorem dX0_passHour_65 : decode cX0_passHour 65 = .ok (.ifCond .eq 15, 3) := by decide +kernel
theorem dX0_passHour_68 : decode cX0_passHour 68 = .ok (.aload_n 0, 1) := by decide +kernel
theorem dX0_passHour_69 : decode cX0_passHour 69 = .ok (.getfield 48, 3) := by decide +kernel
theorem dX0_passHour_72 : decode cX0_passHour 72 = .ok (.aload_n 0, 1) := by decide +kernel
theorem dX0_passHour_73 : decode cX0_passHour 73 = .ok (.getfield 60, 3) := by decide +kernel
theorem dX0_passHour_76 : decode cX0_passHour 76 = .ok (.iadd, 1) := by decide +kernel
theorem dX0_passHour_77 : decode cX0_passHour 77 = .ok (.goto 4, 3) := by decide +kernel
theorem dX0_passHour_80 : decode cX0_passHour 80 = .ok (.iconst 0, 1) := by decide +kernel
theorem dX0_passHour_81 : decode cX0_passHour 81 = .ok (.iastore, 1) := by decide +kernel
theorem dX0_passHour_82 : decode cX0_passHour 82 = .ok (.aload_n 0, 1) := by decide +kernel
theorem dX0_passHour_83 : decode cX0_passHour 83 = .ok (.getfield 36, 3) := by decide +kernel
theorem dX0_passHour_86 : decode cX0_passHour 86 = .ok (.iload_n 1, 1) := by decide +kernel
theorem dX0_passHour_87 : decode cX0_passHour 87 = .ok (.aload_n 0, 1) := by decide +kernel
theorem dX0_passHour_88 : decode cX0_passHour 88 = .ok (.getfield 63, 3) := by decide +kernel
theorem dX0_passHour_91 : decode cX0_passHour 91 = .ok (.iastore, 1) := by decide +kernel
theorem dX0_passHour_92 : decode cX0_passHour 92 = .ok (.aload_n 0, 1) := by decide +kernel
theorem dX0_passHour_93 : decode cX0_passHour 93 = .ok (.getfield 54, 3) := by decide +kernel
theorem dX0_passHour_96 : decode cX0_passHour 96 = .ok (.iload_n 1, 1) := by decide +kernel
theorem dX0_passHour_97 : decode cX0_passHour 97 = .ok (.invokestatic 81, 3) := by decide +kernel
theorem dX0_passHour_100 : decode cX0_passHour 100 = .ok (.ifCond .eq 22, 3) := by decide +kernel
theorem dX0_passHour_103 : decode cX0_passHour 103 = .ok (.aload_n 0, 1) := by decide +kernel
theorem dX0_passHour_104 : decode cX0_passHour 104 = .ok (.getfield 51, 3) := by decide +kernel
theorem dX0_passHour_107 : decode cX0_passHour 107 = .ok (.bipush 90, 2) := by decide +kernel
theorem dX0_passHour_109 : decode cX0_passHour 109 = .ok (.if_icmp .ge 13, 3) := by decide +kernel
theorem dX0_passHour_112 : decode cX0_passHour 112 = .ok (.aload_n 0, 1) := by decide +kernel
theorem dX0_passHour_113 : decode cX0_passHour 113 = .ok (.dup, 1) := by decide +kernel
theorem dX0_passHour_114 : decode cX0_passHour 114 = .ok (.getfield 51, 3) := by decide +kernel
theorem dX0_passHour_117 : decode cX0_passHour 117 = .ok (.iconst 1, 1) := by decide +kernel
theorem dX0_passHour_118 : decode cX0_passHour 118 = .ok (.iadd, 1) := by decide +kernel
theorem dX0_passHour_119 : decode cX0_passHour 119 = .ok (.putfield 51, 3) := by decide +kernel
theorem dX0_passHour_122 : decode cX0_passHour 122 = .ok (.aload_n 0, 1) := by decide +kernel
theorem dX0_passHour_123 : decode cX0_passHour 123 = .ok (.getfield 57, 3) := by decide +kernel
theorem dX0_passHour_126 : decode cX0_passHour 126 = .ok (.iload_n 1, 1) := by decide +kernel
theorem dX0_passHour_127 : decode cX0_passHour 127 = .ok (.invokestatic 81, 3) := by decide +kernel
theorem dX0_passHour_130 : decode cX0_passHour 130 = .ok (.ifCond .eq 13, 3) := by decide +kernel
theorem dX0_passHour_133 : decode cX0_passHour 133 = .ok (.aload_n 0, 1) := by decide +kernel
theorem dX0_passHour_134 : decode cX0_passHour 134 = .ok (.dup, 1) := by decide +kernel
theorem dX0_passHour_135 : decode cX0_passHour 135 = .ok (.getfield 60, 3) := by decide +kernel
theorem dX0_passHour_138 : decode cX0_passHour 138 = .ok (.iconst 1, 1) := by decide +kernel
theorem dX0_passHour_139 : decode cX0_passHour 139 = .ok (.iadd, 1) := by decide +kernel
theorem dX0_passHour_140 : decode cX0_passHour 140 = .ok (.putfield 60, 3) := by decide +kernel
theorem dX0_passHour_143 : decode cX0_passHour 143 = .ok (.return_, 1) := by decide +kernel
theorem dX0_isDue_0 : decode cX0_isDue 0 = .ok (.iload_n 0, 1) := by decide +kernel
theorem dX0_isDue_1 : decode cX0_isDue 1 = .ok (.ifCond .le 15, 3) := by decide +kernel
theorem dX0_isDue_4 : decode cX0_isDue 4 = .ok (.iload_n 1, 1) := by decide +kernel
theorem dX0_isDue_5 : decode cX0_isDue 5 = .ok (.iconst 1, 1) := by decide +kernel
theorem dX0_isDue_6 : decode cX0_isDue 6 = .ok (.iadd, 1) := by decide +kernel
theorem dX0_isDue_7 : decode cX0_isDue 7 = .ok (.iload_n 0, 1) := by decide +kernel
theorem dX0_isDue_8 : decode cX0_isDue 8 = .ok (.irem, 1) := by decide +kernel
theorem dX0_isDue_9 : decode cX0_isDue 9 = .ok (.ifCond .ne 7, 3) := by decide +kernel
theorem dX0_isDue_12 : decode cX0_isDue 12 = .ok (.iconst 1, 1) := by decide +kernel
theorem dX0_isDue_13 : decode cX0_isDue 13 = .ok (.goto 4, 3) := by decide +kernel
theorem dX0_isDue_16 : decode cX0_isDue 16 = .ok (.iconst 0, 1) := by decide +kernel
theorem dX0_isDue_17 : decode cX0_isDue 17 = .ok (.ireturn, 1) := by decide +kernel
theorem dX0_isNotedAt_0 : decode cX0_isNotedAt 0 = .ok (.aload_n 0, 1) := by decide +kernel
theorem dX0_isNotedAt_1 : decode cX0_isNotedAt 1 = .ok (.getfield 66, 3) := by decide +kernel
theorem dX0_isNotedAt_4 : decode cX0_isNotedAt 4 = .ok (.iload_n 1, 1) := by decide +kernel
theorem dX0_isNotedAt_5 : decode cX0_isNotedAt 5 = .ok (.if_icmp .ne 7, 3) := by decide +kernel
theorem dX0_isNotedAt_8 : decode cX0_isNotedAt 8 = .ok (.iconst 1, 1) := by decide +kernel
theorem dX0_isNotedAt_9 : decode cX0_isNotedAt 9 = .ok (.goto 4, 3) := by decide +kernel
theorem dX0_isNotedAt_12 : decode cX0_isNotedAt 12 = .ok (.iconst 0, 1) := by decide +kernel
theorem dX0_isNotedAt_13 : decode cX0_isNotedAt 13 = .ok (.ireturn, 1) := by decide +kernel
set_option maxRecDepth 20000 in
theorem ggX0_noteAt_X0_isNotedAt : GoodIn wsX0_noteAt wsX0_isNotedAt := goodIn_r _ [14, 1, 22, 23, 24, 25, 26, 27, 28, 29, 30, 31, 32, 33, 34, 35, 36] (by decide +kernel) (by decide +kernel)
set_option maxRecDepth 20000 in
theorem gX0_noteAt_X0_isNotedAt : GoodIn wsX0_noteAt (wsV RX0 85 RX0 yX0_isNotedAt wsX0_isNotedAt) := goodIn_app (goodIn_of _ (by decide +kernel)) ggX0_noteAt_X0_isNotedAt
set_option maxRecDepth 20000 in
theorem ggX0_noteAt_X4_shareOf : GoodIn wsX0_noteAt wsX4_shareOf := goodIn_r _ [17, 18, 19, 20, 21] (by decide +kernel) (by decide +kernel)
set_option maxRecDepth 20000 in
theorem gX0_noteAt_X4_shareOf_n92 : GoodIn wsX0_noteAt (wsX4_shareOf) := ggX0_noteAt_X4_shareOf
theorem dX0_noteAt_0 : decode cX0_noteAt 0 = .ok (.aload_n 0, 1) := by decide +kernel
theorem dX0_noteAt_1 : decode cX0_noteAt 1 = .ok (.iload_n 1, 1) := by decide +kernel
theorem dX0_noteAt_2 : decode cX0_noteAt 2 = .ok (.invokevirtual 85, 3) := by decide +kernel
theorem dX0_noteAt_5 : decode cX0_noteAt 5 = .ok (.ifCond .eq 4, 3) := by decide +kernel
theorem dX0_noteAt_8 : decode cX0_noteAt 8 = .ok (.return_, 1) := by decide +kernel
theorem dX0_noteAt_9 : decode cX0_noteAt 9 = .ok (.aload_n 0, 1) := by decide +kernel
theorem dX0_noteAt_10 : decode cX0_noteAt 10 = .ok (.getfield 66, 3) := by decide +kernel
theorem dX0_noteAt_13 : decode cX0_noteAt 13 = .ok (.iconst 0, 1) := by decide +kernel
theorem dX0_noteAt_14 : decode cX0_noteAt 14 = .ok (.invokestatic 89, 3) := by decide +kernel
theorem dX0_noteAt_17 : decode cX0_noteAt 17 = .ok (.istore_n 2, 1) := by decide +kernel
theorem dX0_noteAt_18 : decode cX0_noteAt 18 = .ok (.iload_n 2, 1) := by decide +kernel
theorem dX0_noteAt_19 : decode cX0_noteAt 19 = .ok (.iload_n 1, 1) := by decide +kernel
theorem dX0_noteAt_20 : decode cX0_noteAt 20 = .ok (.if_icmp .ge 50, 3) := by decide +kernel
theorem dX0_noteAt_23 : decode cX0_noteAt 23 = .ok (.iload_n 2, 1) := by decide +kernel
theorem dX0_noteAt_24 : decode cX0_noteAt 24 = .ok (.bipush 120, 2) := by decide +kernel
theorem dX0_noteAt_26 : decode cX0_noteAt 26 = .ok (.if_icmp .ge 44, 3) := by decide +kernel
theorem dX0_noteAt_29 : decode cX0_noteAt 29 = .ok (.aload_n 0, 1) := by decide +kernel
theorem dX0_noteAt_30 : decode cX0_noteAt 30 = .ok (.getfield 36, 3) := by decide +kernel
theorem dX0_noteAt_33 : decode cX0_noteAt 33 = .ok (.iload_n 2, 1) := by decide +kernel
theorem dX0_noteAt_34 : decode cX0_noteAt 34 = .ok (.aload_n 0, 1) := by decide +kernel
theorem dX0_noteAt_35 : decode cX0_noteAt 35 = .ok (.getfield 63, 3) := by decide +kernel
theorem dX0_noteAt_38 : decode cX0_noteAt 38 = .ok (.aload_n 0, 1) := by decide +kernel
theorem dX0_noteAt_39 : decode cX0_noteAt 39 = .ok (.getfield 60, 3) := by decide +kernel
theorem dX0_noteAt_42 : decode cX0_noteAt 42 = .ok (.aload_n 0, 1) := by decide +kernel
theorem dX0_noteAt_43 : decode cX0_noteAt 43 = .ok (.getfield 63, 3) := by decide +kernel
theorem dX0_noteAt_46 : decode cX0_noteAt 46 = .ok (.isub, 1) := by decide +kernel
theorem dX0_noteAt_47 : decode cX0_noteAt 47 = .ok (.iload_n 2, 1) := by decide +kernel
theorem dX0_noteAt_48 : decode cX0_noteAt 48 = .ok (.aload_n 0, 1) := by decide +kernel
theorem dX0_noteAt_49 : decode cX0_noteAt 49 = .ok (.getfield 66, 3) := by decide +kernel
theorem dX0_noteAt_52 : decode cX0_noteAt 52 = .ok (.isub, 1) := by decide +kernel
theorem dX0_noteAt_53 : decode cX0_noteAt 53 = .ok (.iload_n 1, 1) := by decide +kernel
theorem dX0_noteAt_54 : decode cX0_noteAt 54 = .ok (.aload_n 0, 1) := by decide +kernel
theorem dX0_noteAt_55 : decode cX0_noteAt 55 = .ok (.getfield 66, 3) := by decide +kernel
theorem dX0_noteAt_58 : decode cX0_noteAt 58 = .ok (.isub, 1) := by decide +kernel
theorem dX0_noteAt_59 : decode cX0_noteAt 59 = .ok (.invokestatic 92, 3) := by decide +kernel
theorem dX0_noteAt_62 : decode cX0_noteAt 62 = .ok (.iadd, 1) := by decide +kernel
theorem dX0_noteAt_63 : decode cX0_noteAt 63 = .ok (.iastore, 1) := by decide +kernel
theorem dX0_noteAt_64 : decode cX0_noteAt 64 = .ok (.iinc 2 1, 3) := by decide +kernel
theorem dX0_noteAt_67 : decode cX0_noteAt 67 = .ok (.goto (-49), 3) := by decide +kernel
theorem dX0_noteAt_70 : decode cX0_noteAt 70 = .ok (.aload_n 0, 1) := by decide +kernel
theorem dX0_noteAt_71 : decode cX0_noteAt 71 = .ok (.aload_n 0, 1) := by decide +kernel
theorem dX0_noteAt_72 : decode cX0_noteAt 72 = .ok (.getfield 60, 3) := by decide +kernel
theorem dX0_noteAt_75 : decode cX0_noteAt 75 = .ok (.putfield 63, 3) := by decide +kernel
theorem dX0_noteAt_78 : decode cX0_noteAt 78 = .ok (.aload_n 0, 1) := by decide +kernel
theorem dX0_noteAt_79 : decode cX0_noteAt 79 = .ok (.iload_n 1, 1) := by decide +kernel
theorem dX0_noteAt_80 : decode cX0_noteAt 80 = .ok (.putfield 66, 3) := by decide +kernel
theorem dX0_noteAt_83 : decode cX0_noteAt 83 = .ok (.aload_n 0, 1) := by decide +kernel
theorem dX0_noteAt_84 : decode cX0_noteAt 84 = .ok (.dup, 1) := by decide +kernel
theorem dX0_noteAt_85 : decode cX0_noteAt 85 = .ok (.getfield 19, 3) := by decide +kernel
theorem dX0_noteAt_88 : decode cX0_noteAt 88 = .ok (.iconst 1, 1) := by decide +kernel
theorem dX0_noteAt_89 : decode cX0_noteAt 89 = .ok (.iadd, 1) := by decide +kernel
theorem dX0_noteAt_90 : decode cX0_noteAt 90 = .ok (.putfield 19, 3) := by decide +kernel
theorem dX0_noteAt_93 : decode cX0_noteAt 93 = .ok (.return_, 1) := by decide +kernel
theorem dX0_kindAt_0 : decode cX0_kindAt 0 = .ok (.iload_n 1, 1) := by decide +kernel
theorem dX0_kindAt_1 : decode cX0_kindAt 1 = .ok (.ifCond .lt 21, 3) := by decide +kernel
theorem dX0_kindAt_4 : decode cX0_kindAt 4 = .ok (.iload_n 1, 1) := by decide +kernel
theorem dX0_kindAt_5 : decode cX0_kindAt 5 = .ok (.aload_n 0, 1) := by decide +kernel
theorem dX0_kindAt_6 : decode cX0_kindAt 6 = .ok (.getfield 23, 3) := by decide +kernel
theorem dX0_kindAt_9 : decode cX0_kindAt 9 = .ok (.arraylength, 1) := by decide +kernel
theorem dX0_kindAt_10 : decode cX0_kindAt 10 = .ok (.if_icmp .ge 12, 3) := by decide +kernel
theorem dX0_kindAt_13 : decode cX0_kindAt 13 = .ok (.aload_n 0, 1) := by decide +kernel
theorem dX0_kindAt_14 : decode cX0_kindAt 14 = .ok (.getfield 23, 3) := by decide +kernel
theorem dX0_kindAt_17 : decode cX0_kindAt 17 = .ok (.iload_n 1, 1) := by decide +kernel
theorem dX0_kindAt_18 : decode cX0_kindAt 18 = .ok (.iaload, 1) := by decide +kernel
theorem dX0_kindAt_19 : decode cX0_kindAt 19 = .ok (.goto 4, 3) := by decide +kernel
theorem dX0_kindAt_22 : decode cX0_kindAt 22 = .ok (.iconst 3, 1) := by decide +kernel
theorem dX0_kindAt_23 : decode cX0_kindAt 23 = .ok (.ireturn, 1) := by decide +kernel
theorem dX0_correctionAt_0 : decode cX0_correctionAt 0 = .ok (.iload_n 1, 1) := by decide +kernel
theorem dX0_correctionAt_1 : decode cX0_correctionAt 1 = .ok (.ifCond .lt 21, 3) := by decide +kernel
theorem dX0_correctionAt_4 : decode cX0_correctionAt 4 = .ok (.iload_n 1, 1) := by decide +kernel
theorem dX0_correctionAt_5 : decode cX0_correctionAt 5 = .ok (.aload_n 0, 1) := by decide +kernel
theorem dX0_correctionAt_6 : decode cX0_correctionAt 6 = .ok (.getfield 36, 3) := by decide +kernel
theorem dX0_correctionAt_9 : decode cX0_correctionAt 9 = .ok (.arraylength, 1) := by decide +kernel
theorem dX0_correctionAt_10 : decode cX0_correctionAt 10 = .ok (.if_icmp .ge 12, 3) := by decide +kernel
theorem dX0_correctionAt_13 : decode cX0_correctionAt 13 = .ok (.aload_n 0, 1) := by decide +kernel
theorem dX0_correctionAt_14 : decode cX0_correctionAt 14 = .ok (.getfield 36, 3) := by decide +kernel
theorem dX0_correctionAt_17 : decode cX0_correctionAt 17 = .ok (.iload_n 1, 1) := by decide +kernel
theorem dX0_correctionAt_18 : decode cX0_correctionAt 18 = .ok (.iaload, 1) := by decide +kernel
theorem dX0_correctionAt_19 : decode cX0_correctionAt 19 = .ok (.goto 4, 3) := by decide +kernel
theorem dX0_correctionAt_22 : decode cX0_correctionAt 22 = .ok (.iconst 0, 1) := by decide +kernel
theorem dX0_correctionAt_23 : decode cX0_correctionAt 23 = .ok (.ireturn, 1) := by decide +kernel
theorem dX0_readingAt_0 : decode cX0_readingAt 0 = .ok (.iload_n 1, 1) := by decide +kernel
theorem dX0_readingAt_1 : decode cX0_readingAt 1 = .ok (.ifCond .lt 21, 3) := by decide +kernel
theorem dX0_readingAt_4 : decode cX0_readingAt 4 = .ok (.iload_n 1, 1) := by decide +kernel
theorem dX0_readingAt_5 : decode cX0_readingAt 5 = .ok (.aload_n 0, 1) := by decide +kernel
theorem dX0_readingAt_6 : decode cX0_readingAt 6 = .ok (.getfield 33, 3) := by decide +kernel
theorem dX0_readingAt_9 : decode cX0_readingAt 9 = .ok (.arraylength, 1) := by decide +kernel
theorem dX0_readingAt_10 : decode cX0_readingAt 10 = .ok (.if_icmp .ge 12, 3) := by decide +kernel
theorem dX0_readingAt_13 : decode cX0_readingAt 13 = .ok (.aload_n 0, 1) := by decide +kernel
theorem dX0_readingAt_14 : decode cX0_readingAt 14 = .ok (.getfield 33, 3) := by decide +kernel
theorem dX0_readingAt_17 : decode cX0_readingAt 17 = .ok (.iload_n 1, 1) := by decide +kernel
theorem dX0_readingAt_18 : decode cX0_readingAt 18 = .ok (.iaload, 1) := by decide +kernel
theorem dX0_readingAt_19 : decode cX0_readingAt 19 = .ok (.goto 4, 3) := by decide +kernel
theorem dX0_readingAt_22 : decode cX0_readingAt 22 = .ok (.iconst 0, 1) := by decide +kernel
theorem dX0_readingAt_23 : decode cX0_readingAt 23 = .ok (.ireturn, 1) := by decide +kernel
set_option maxRecDepth 20000 in
theorem ggX0_correctedAt_X0_readingAt : GoodIn wsX0_correctedAt wsX0_readingAt := goodIn_r _ [5, 6, 12, 13, 14, 15, 16, 17, 18, 19, 20, 21, 22, 23, 24, 25, 26] (by decide +kernel) (by decide +kernel)
set_option maxRecDepth 20000 in
theorem gX0_correctedAt_X0_readingAt : GoodIn wsX0_correctedAt (wsV RX0 96 RX0 yX0_readingAt wsX0_readingAt) := goodIn_app (goodIn_of _ (by decide +kernel)) ggX0_correctedAt_X0_readingAt
set_option maxRecDepth 20000 in
theorem ggX0_correctedAt_X0_correctionAt : GoodIn wsX0_correctedAt wsX0_correctionAt := goodIn_r _ [10, 11, 12, 13, 14, 15, 16, 17, 18, 19, 20, 21, 22, 23, 24, 25, 26] (by decide +kernel) (by decide +kernel)
set_option maxRecDepth 20000 in
theorem gX0_correctedAt_X0_correctionAt : GoodIn wsX0_correctedAt (wsV RX0 100 RX0 yX0_correctionAt wsX0_correctionAt) := goodIn_app (goodIn_of _ (by decide +kernel)) ggX0_correctedAt_X0_correctionAt
theorem dX0_correctedAt_0 : decode cX0_correctedAt 0 = .ok (.aload_n 0, 1) := by decide +kernel
theorem dX0_correctedAt_1 : decode cX0_correctedAt 1 = .ok (.iload_n 1, 1) := by decide +kernel
theorem dX0_correctedAt_2 : decode cX0_correctedAt 2 = .ok (.invokevirtual 96, 3) := by decide +kernel
theorem dX0_correctedAt_5 : decode cX0_correctedAt 5 = .ok (.aload_n 0, 1) := by decide +kernel
theorem dX0_correctedAt_6 : decode cX0_correctedAt 6 = .ok (.iload_n 1, 1) := by decide +kernel
theorem dX0_correctedAt_7 : decode cX0_correctedAt 7 = .ok (.invokevirtual 100, 3) := by decide +kernel
theorem dX0_correctedAt_10 : decode cX0_correctedAt 10 = .ok (.isub, 1) := by decide +kernel
theorem dX0_correctedAt_11 : decode cX0_correctedAt 11 = .ok (.ireturn, 1) := by decide +kernel
set_option maxRecDepth 20000 in
theorem ggX0_valueAt_X0_kindAt : GoodIn wsX0_valueAt wsX0_kindAt := goodIn_r _ [5, 6, 21, 22, 23, 24, 25, 26, 27, 28, 29, 30, 31, 32, 33, 34, 35] (by decide +kernel) (by decide +kernel)
set_option maxRecDepth 20000 in
theorem gX0_valueAt_X0_kindAt : GoodIn wsX0_valueAt (wsV RX0 103 RX0 yX0_kindAt wsX0_kindAt) := goodIn_app (goodIn_of _ (by decide +kernel)) ggX0_valueAt_X0_kindAt
set_option maxRecDepth 20000 in
theorem ggX0_valueAt_X0_readingAt : GoodIn wsX0_valueAt wsX0_readingAt := goodIn_r _ [10, 11, 21, 22, 23, 24, 25, 26, 27, 28, 29, 30, 31, 32, 33, 34, 35] (by decide +kernel) (by decide +kernel)
set_option maxRecDepth 20000 in
theorem gX0_valueAt_X0_readingAt : GoodIn wsX0_valueAt (wsV RX0 96 RX0 yX0_readingAt wsX0_readingAt) := goodIn_app (goodIn_of _ (by decide +kernel)) ggX0_valueAt_X0_readingAt
set_option maxRecDepth 20000 in
theorem ggX0_valueAt_X0_correctedAt : GoodIn wsX0_valueAt wsX0_correctedAt := goodIn_r _ [15, 7, 8, 9, 4, 10, 11, 16, 17, 18, 19, 20, 21, 22, 23, 24, 25, 26, 27, 28, 29, 30, 31, 32, 33, 34, 35] (by decide +kernel) (by decide +kernel)
set_option maxRecDepth 20000 in
theorem gX0_valueAt_X0_correctedAt : GoodIn wsX0_valueAt (wsV RX0 106 RX0 yX0_correctedAt wsX0_correctedAt) := goodIn_app (goodIn_of _ (by decide +kernel)) ggX0_valueAt_X0_correctedAt
theorem dX0_valueAt_0 : decode cX0_valueAt 0 = .ok (.aload_n 0, 1) := by decide +kernel
theorem dX0_valueAt_1 : decode cX0_valueAt 1 = .ok (.iload_n 1, 1) := by decide +kernel
theorem dX0_valueAt_2 : decode cX0_valueAt 2 = .ok (.invokevirtual 103, 3) := by decide +kernel
theorem dX0_valueAt_5 : decode cX0_valueAt 5 = .ok (.iconst 2, 1) := by decide +kernel
theorem dX0_valueAt_6 : decode cX0_valueAt 6 = .ok (.if_icmp .ne 11, 3) := by decide +kernel
theorem dX0_valueAt_9 : decode cX0_valueAt 9 = .ok (.aload_n 0, 1) := by decide +kernel
theorem dX0_valueAt_10 : decode cX0_valueAt 10 = .ok (.iload_n 1, 1) := by decide +kernel
theorem dX0_valueAt_11 : decode cX0_valueAt 11 = .ok (.invokevirtual 96, 3) := by decide +kernel
theorem dX0_valueAt_14 : decode cX0_valueAt 14 = .ok (.goto 8, 3) := by decide +kernel
theorem dX0_valueAt_17 : decode cX0_valueAt 17 = .ok (.aload_n 0, 1) := by decide +kernel
theorem dX0_valueAt_18 : decode cX0_valueAt 18 = .ok (.iload_n 1, 1) := by decide +kernel
theorem dX0_valueAt_19 : decode cX0_valueAt 19 = .ok (.invokevirtual 106, 3) := by decide +kernel
theorem dX0_valueAt_22 : decode cX0_valueAt 22 = .ok (.ireturn, 1) := by decide +kernel
set_option maxRecDepth 20000 in
theorem ggX0_hasValue_X0_kindAt : GoodIn wsX0_hasValue wsX0_kindAt := goodIn_r _ [5, 6, 7, 8, 9, 10, 11, 12, 13, 14, 15, 16, 17, 18, 19, 20, 21] (by decide +kernel) (by decide +kernel)
set_option maxRecDepth 20000 in
theorem gX0_hasValue_X0_kindAt : GoodIn wsX0_hasValue (wsV RX0 103 RX0 yX0_kindAt wsX0_kindAt) := goodIn_app (goodIn_of _ (by decide +kernel)) ggX0_hasValue_X0_kindAt
theorem dX0_hasValue_0 : decode cX0_hasValue 0 = .ok (.aload_n 0, 1) := by decide +kernel
theorem dX0_hasValue_1 : decode cX0_hasValue 1 = .ok (.iload_n 1, 1) := by decide +kernel
theorem dX0_hasValue_2 : decode cX0_hasValue 2 = .ok (.invokevirtual 103, 3) := by decide +kernel
theorem dX0_hasValue_5 : decode cX0_hasValue 5 = .ok (.istore_n 2, 1) := by decide +kernel
theorem dX0_hasValue_6 : decode cX0_hasValue 6 = .ok (.iload_n 2, 1) := by decide +kernel
theorem dX0_hasValue_7 : decode cX0_hasValue 7 = .ok (.ifCond .eq 8, 3) := by decide +kernel
theorem dX0_hasValue_10 : decode cX0_hasValue 10 = .ok (.iload_n 2, 1) := by decide +kernel
theorem dX0_hasValue_11 : decode cX0_hasValue 11 = .ok (.iconst 2, 1) := by decide +kernel
theorem dX0_hasValue_12 : decode cX0_hasValue 12 = .ok (.if_icmp .ne 7, 3) := by decide +kernel
theorem dX0_hasValue_15 : decode cX0_hasValue 15 = .ok (.iconst 1, 1) := by decide +kernel
theorem dX0_hasValue_16 : decode cX0_hasValue 16 = .ok (.goto 4, 3) := by decide +kernel
theorem dX0_hasValue_19 : decode cX0_hasValue 19 = .ok (.iconst 0, 1) := by decide +kernel
theorem dX0_hasValue_20 : decode cX0_hasValue 20 = .ok (.ireturn, 1) := by decide +kernel
set_option maxRecDepth 20000 in
theorem ggX0_hasReading_X0_kindAt : GoodIn wsX0_hasReading wsX0_kindAt := goodIn_r _ [5, 6, 7, 8, 9, 10, 11, 12, 13, 14, 15, 16, 17, 18, 19, 20, 21] (by decide +kernel) (by decide +kernel)
set_option maxRecDepth 20000 in
theorem gX0_hasReading_X0_kindAt : GoodIn wsX0_hasReading (wsV RX0 103 RX0 yX0_kindAt wsX0_kindAt) := goodIn_app (goodIn_of _ (by decide +kernel)) ggX0_hasReading_X0_kindAt
theorem dX0_hasReading_0 : decode cX0_hasReading 0 = .ok (.aload_n 0, 1) := by decide +kernel
theorem dX0_hasReading_1 : decode cX0_hasReading 1 = .ok (.iload_n 1, 1) := by decide +kernel
theorem dX0_hasReading_2 : decode cX0_hasReading 2 = .ok (.invokevirtual 103, 3) := by decide +kernel
theorem dX0_hasReading_5 : decode cX0_hasReading 5 = .ok (.ifCond .ne 7, 3) := by decide +kernel
theorem dX0_hasReading_8 : decode cX0_hasReading 8 = .ok (.iconst 1, 1) := by decide +kernel
theorem dX0_hasReading_9 : decode cX0_hasReading 9 = .ok (.goto 4, 3) := by decide +kernel
theorem dX0_hasReading_12 : decode cX0_hasReading 12 = .ok (.iconst 0, 1) := by decide +kernel
theorem dX0_hasReading_13 : decode cX0_hasReading 13 = .ok (.ireturn, 1) := by decide +kernel
set_option maxRecDepth 20000 in
theorem ggX0_hasReadings_X0_hasReading : GoodIn wsX0_hasReadings wsX0_hasReading := goodIn_r _ [5, 6, 7, 8, 4, 9, 10, 11, 12, 13, 14, 15, 16, 17, 18, 19, 20, 21, 22, 23, 24, 25] (by decide +kernel) (by decide +kernel)
set_option maxRecDepth 20000 in
theorem gX0_hasReadings_X0_hasReading : GoodIn wsX0_hasReadings (wsV RX0 109 RX0 yX0_hasReading wsX0_hasReading) := goodIn_app (goodIn_of _ (by decide +kernel)) ggX0_hasReadings_X0_hasReading
theorem dX0_hasReadings_0 : decode cX0_hasReadings 0 = .ok (.iload_n 1, 1) := by decide +kernel
theorem dX0_hasReadings_1 : decode cX0_hasReadings 1 = .ok (.istore_n 3, 1) := by decide +kernel
theorem dX0_hasReadings_2 : decode cX0_hasReadings 2 = .ok (.iload_n 3, 1) := by decide +kernel
theorem dX0_hasReadings_3 : decode cX0_hasReadings 3 = .ok (.iload_n 2, 1) := by decide +kernel
theorem dX0_hasReadings_4 : decode cX0_hasReadings 4 = .ok (.if_icmp .gt 19, 3) := by decide +kernel
theorem dX0_hasReadings_7 : decode cX0_hasReadings 7 = .ok (.aload_n 0, 1) := by decide +kernel
theorem dX0_hasReadings_8 : decode cX0_hasReadings 8 = .ok (.iload_n 3, 1) := by decide +kernel
theorem dX0_hasReadings_9 : decode cX0_hasReadings 9 = .ok (.invokevirtual 109, 3) := by decide +kernel
theorem dX0_hasReadings_12 : decode cX0_hasReadings 12 = .ok (.ifCond .ne 5, 3) := by decide +kernel
theorem dX0_hasReadings_15 : decode cX0_hasReadings 15 = .ok (.iconst 0, 1) := by decide +kernel
theorem dX0_hasReadings_16 : decode cX0_hasReadings 16 = .ok (.ireturn, 1) := by decide +kernel
theorem dX0_hasReadings_17 : decode cX0_hasReadings 17 = .ok (.iinc 3 1, 3) := by decide +kernel
theorem dX0_hasReadings_20 : decode cX0_hasReadings 20 = .ok (.goto (-18), 3) := by decide +kernel
theorem dX0_hasReadings_23 : decode cX0_hasReadings 23 = .ok (.iconst 1, 1) := by decide +kernel
theorem dX0_hasReadings_24 : decode cX0_hasReadings 24 = .ok (.ireturn, 1) := by decide +kernel
set_option maxRecDepth 20000 in
theorem ggX0_isHighAt_X0_hasValue : GoodIn wsX0_isHighAt wsX0_hasValue := goodIn_r _ [5, 6, 7, 8, 4, 9, 10, 29, 30, 31, 32, 33, 34, 35, 36, 37, 38, 39, 40, 41, 42, 43] (by decide +kernel) (by decide +kernel)
set_option maxRecDepth 20000 in
theorem gX0_isHighAt_X0_hasValue : GoodIn wsX0_isHighAt (wsV RX0 112 RX0 yX0_hasValue wsX0_hasValue) := goodIn_app (goodIn_of _ (by decide +kernel)) ggX0_isHighAt_X0_hasValue
set_option maxRecDepth 20000 in
theorem ggX0_isHighAt_X0_valueAt : GoodIn wsX0_isHighAt wsX0_valueAt := goodIn_r _ [14, 6, 7, 8, 4, 9, 10, 15, 16, 17, 18, 19, 20, 21, 22, 23, 24, 25, 26, 27, 28, 29, 30, 31, 32, 33, 34, 35, 36, 37, 38, 39, 40, 41, 42, 43] (by decide +kernel) (by decide +kernel)
set_option maxRecDepth 20000 in
theorem gX0_isHighAt_X0_valueAt : GoodIn wsX0_isHighAt (wsV RX0 115 RX0 yX0_valueAt wsX0_valueAt) := goodIn_app (goodIn_of _ (by decide +kernel)) ggX0_isHighAt_X0_valueAt
theorem dX0_isHighAt_0 : decode cX0_isHighAt 0 = .ok (.aload_n 0, 1) := by decide +kernel
theorem dX0_isHighAt_1 : decode cX0_isHighAt 1 = .ok (.iload_n 1, 1) := by decide +kernel
theorem dX0_isHighAt_2 : decode cX0_isHighAt 2 = .ok (.iconst 1, 1) := by decide +kernel
theorem dX0_isHighAt_3 : decode cX0_isHighAt 3 = .ok (.isub, 1) := by decide +kernel
theorem dX0_isHighAt_4 : decode cX0_isHighAt 4 = .ok (.invokevirtual 112, 3) := by decide +kernel
theorem dX0_isHighAt_7 : decode cX0_isHighAt 7 = .ok (.ifCond .eq 55, 3) := by decide +kernel
theorem dX0_isHighAt_10 : decode cX0_isHighAt 10 = .ok (.aload_n 0, 1) := by decide +kernel
theorem dX0_isHighAt_11 : decode cX0_isHighAt 11 = .ok (.iload_n 1, 1) := by decide +kernel
theorem dX0_isHighAt_12 : decode cX0_isHighAt 12 = .ok (.invokevirtual 112, 3) := by decide +kernel
theorem dX0_isHighAt_15 : decode cX0_isHighAt 15 = .ok (.ifCond .eq 47, 3) := by decide +kernel
theorem dX0_isHighAt_18 : decode cX0_isHighAt 18 = .ok (.aload_n 0, 1) := by decide +kernel
theorem dX0_isHighAt_19 : decode cX0_isHighAt 19 = .ok (.iload_n 1, 1) := by decide +kernel
theorem dX0_isHighAt_20 : decode cX0_isHighAt 20 = .ok (.iconst 1, 1) := by decide +kernel
theorem dX0_isHighAt_21 : decode cX0_isHighAt 21 = .ok (.iadd, 1) := by decide +kernel
theorem dX0_isHighAt_22 : decode cX0_isHighAt 22 = .ok (.invokevirtual 112, 3) := by decide +kernel
theorem dX0_isHighAt_25 : decode cX0_isHighAt 25 = .ok (.ifCond .eq 37, 3) := by decide +kernel
theorem dX0_isHighAt_28 : decode cX0_isHighAt 28 = .ok (.aload_n 0, 1) := by decide +kernel
theorem dX0_isHighAt_29 : decode cX0_isHighAt 29 = .ok (.iload_n 1, 1) := by decide +kernel
theorem dX0_isHighAt_30 : decode cX0_isHighAt 30 = .ok (.invokevirtual 115, 3) := by decide +kernel
theorem dX0_isHighAt_33 : decode cX0_isHighAt 33 = .ok (.aload_n 0, 1) := by decide +kernel
theorem dX0_isHighAt_34 : decode cX0_isHighAt 34 = .ok (.iload_n 1, 1) := by decide +kernel
theorem dX0_isHighAt_35 : decode cX0_isHighAt 35 = .ok (.iconst 1, 1) := by decide +kernel
theorem dX0_isHighAt_36 : decode cX0_isHighAt 36 = .ok (.isub, 1) := by decide +kernel
theorem dX0_isHighAt_37 : decode cX0_isHighAt 37 = .ok (.invokevirtual 115, 3) := by decide +kernel
theorem dX0_isHighAt_40 : decode cX0_isHighAt 40 = .ok (.if_icmp .le 22, 3) := by decide +kernel
theorem dX0_isHighAt_43 : decode cX0_isHighAt 43 = .ok (.aload_n 0, 1) := by decide +kernel
theorem dX0_isHighAt_44 : decode cX0_isHighAt 44 = .ok (.iload_n 1, 1) := by decide +kernel
theorem dX0_isHighAt_45 : decode cX0_isHighAt 45 = .ok (.invokevirtual 115, 3) := by decide +kernel
theorem dX0_isHighAt_48 : decode cX0_isHighAt 48 = .ok (.aload_n 0, 1) := by decide +kernel
theorem dX0_isHighAt_49 : decode cX0_isHighAt 49 = .ok (.iload_n 1, 1) := by decide +kernel
theorem dX0_isHighAt_50 : decode cX0_isHighAt 50 = .ok (.iconst 1, 1) := by decide +kernel
theorem dX0_isHighAt_51 : decode cX0_isHighAt 51 = .ok (.iadd, 1) := by decide +kernel
theorem dX0_isHighAt_52 : decode cX0_isHighAt 52 = .ok (.invokevirtual 115, 3) := by decide +kernel
theorem dX0_isHighAt_55 : decode cX0_isHighAt 55 = .ok (.if_icmp .le 7, 3) := by decide +kernel
theorem dX0_isHighAt_58 : decode cX0_isHighAt 58 = .ok (.iconst 1, 1) := by decide +kernel
theorem dX0_isHighAt_59 : decode cX0_isHighAt 59 = .ok (.goto 4, 3) := by decide +kernel
theorem dX0_isHighAt_62 : decode cX0_isHighAt 62 = .ok (.iconst 0, 1) := by decide +kernel
theorem dX0_isHighAt_63 : decode cX0_isHighAt 63 = .ok (.ireturn, 1) := by decide +kernel
theorem dX0_hoursOfKind_0 : decode cX0_hoursOfKind 0 = .ok (.iconst 0, 1) := by decide +kernel
theorem dX0_hoursOfKind_1 : decode cX0_hoursOfKind 1 = .ok (.istore_n 2, 1) := by decide +kernel
theorem dX0_hoursOfKind_2 : decode cX0_hoursOfKind 2 = .ok (.iconst 0, 1) := by decide +kernel
theorem dX0_hoursOfKind_3 : decode cX0_hoursOfKind 3 = .ok (.istore_n 3, 1) := by decide +kernel
theorem dX0_hoursOfKind_4 : decode cX0_hoursOfKind 4 = .ok (.iload_n 3, 1) := by decide +kernel
theorem dX0_hoursOfKind_5 : decode cX0_hoursOfKind 5 = .ok (.bipush 120, 2) := by decide +kernel
theorem dX0_hoursOfKind_7 : decode cX0_hoursOfKind 7 = .ok (.if_icmp .ge 22, 3) := by decide +kernel
theorem dX0_hoursOfKind_10 : decode cX0_hoursOfKind 10 = .ok (.aload_n 0, 1) := by decide +kernel
theorem dX0_hoursOfKind_11 : decode cX0_hoursOfKind 11 = .ok (.getfield 23, 3) := by decide +kernel
theorem dX0_hoursOfKind_14 : decode cX0_hoursOfKind 14 = .ok (.iload_n 3, 1) := by decide +kernel
theorem dX0_hoursOfKind_15 : decode cX0_hoursOfKind 15 = .ok (.iaload, 1) := by decide +kernel
theorem dX0_hoursOfKind_16 : decode cX0_hoursOfKind 16 = .ok (.iload_n 1, 1) := by decide +kernel
theorem dX0_hoursOfKind_17 : decode cX0_hoursOfKind 17 = .ok (.if_icmp .ne 6, 3) := by decide +kernel
theorem dX0_hoursOfKind_20 : decode cX0_hoursOfKind 20 = .ok (.iinc 2 1, 3) := by decide +kernel
theorem dX0_hoursOfKind_23 : decode cX0_hoursOfKind 23 = .ok (.iinc 3 1, 3) := by decide +kernel
theorem dX0_hoursOfKind_26 : decode cX0_hoursOfKind 26 = .ok (.goto (-22), 3) := by decide +kernel
theorem dX0_hoursOfKind_29 : decode cX0_hoursOfKind 29 = .ok (.iload_n 2, 1) := by decide +kernel
theorem dX0_hoursOfKind_30 : decode cX0_hoursOfKind 30 = .ok (.ireturn, 1) := by decide +kernel
set_option maxRecDepth 20000 in
theorem ggX0_isInGap_X0_kindAt : GoodIn wsX0_isInGap wsX0_kindAt := goodIn_r _ [5, 6, 7, 8, 9, 10, 11, 12, 13, 14, 15, 16, 17, 18, 19, 20, 21] (by decide +kernel) (by decide +kernel)
set_option maxRecDepth 20000 in
theorem gX0_isInGap_X0_kindAt : GoodIn wsX0_isInGap (wsV RX0 103 RX0 yX0_kindAt wsX0_kindAt) := goodIn_app (goodIn_of _ (by decide +kernel)) ggX0_isInGap_X0_kindAt
theorem dX0_isInGap_0 : decode cX0_isInGap 0 = .ok (.aload_n 0, 1) := by decide +kernel
theorem dX0_isInGap_1 : decode cX0_isInGap 1 = .ok (.iload_n 1, 1) := by decide +kernel
theorem dX0_isInGap_2 : decode cX0_isInGap 2 = .ok (.invokevirtual 103, 3) := by decide +kernel
theorem dX0_isInGap_5 : decode cX0_isInGap 5 = .ok (.istore_n 2, 1) := by decide +kernel
theorem dX0_isInGap_6 : decode cX0_isInGap 6 = .ok (.iload_n 2, 1) := by decide +kernel
theorem dX0_isInGap_7 : decode cX0_isInGap 7 = .ok (.iconst 1, 1) := by decide +kernel
theorem dX0_isInGap_8 : decode cX0_isInGap 8 = .ok (.if_icmp .eq 8, 3) := by decide +kernel
theorem dX0_isInGap_11 : decode cX0_isInGap 11 = .ok (.iload_n 2, 1) := by decide +kernel
theorem dX0_isInGap_12 : decode cX0_isInGap 12 = .ok (.iconst 2, 1) := by decide +kernel
theorem dX0_isInGap_13 : decode cX0_isInGap 13 = .ok (.if_icmp .ne 7, 3) := by decide +kernel
theorem dX0_isInGap_16 : decode cX0_isInGap 16 = .ok (.iconst 1, 1) := by decide +kernel
theorem dX0_isInGap_17 : decode cX0_isInGap 17 = .ok (.goto 4, 3) := by decide +kernel
theorem dX0_isInGap_20 : decode cX0_isInGap 20 = .ok (.iconst 0, 1) := by decide +kernel
theorem dX0_isInGap_21 : decode cX0_isInGap 21 = .ok (.ireturn, 1) := by decide +kernel
set_option maxRecDepth 20000 in
theorem ggX0_startsGap_X0_isInGap : GoodIn wsX0_startsGap wsX0_isInGap := goodIn_r _ [5, 6, 7, 8, 4, 9, 10, 11, 12, 13, 14, 15, 16, 17, 18, 19, 20, 21, 22, 23, 24, 25] (by decide +kernel) (by decide +kernel)
set_option maxRecDepth 20000 in
theorem gX0_startsGap_X0_isInGap : GoodIn wsX0_startsGap (wsV RX0 118 RX0 yX0_isInGap wsX0_isInGap) := goodIn_app (goodIn_of _ (by decide +kernel)) ggX0_startsGap_X0_isInGap
theorem dX0_startsGap_0 : decode cX0_startsGap 0 = .ok (.aload_n 0, 1) := by decide +kernel
theorem dX0_startsGap_1 : decode cX0_startsGap 1 = .ok (.iload_n 1, 1) := by decide +kernel
theorem dX0_startsGap_2 : decode cX0_startsGap 2 = .ok (.invokevirtual 118, 3) := by decide +kernel
theorem dX0_startsGap_5 : decode cX0_startsGap 5 = .ok (.ifCond .eq 17, 3) := by decide +kernel
theorem dX0_startsGap_8 : decode cX0_startsGap 8 = .ok (.aload_n 0, 1) := by decide +kernel
theorem dX0_startsGap_9 : decode cX0_startsGap 9 = .ok (.iload_n 1, 1) := by decide +kernel
theorem dX0_startsGap_10 : decode cX0_startsGap 10 = .ok (.iconst 1, 1) := by decide +kernel
theorem dX0_startsGap_11 : decode cX0_startsGap 11 = .ok (.isub, 1) := by decide +kernel
theorem dX0_startsGap_12 : decode cX0_startsGap 12 = .ok (.invokevirtual 118, 3) := by decide +kernel
theorem dX0_startsGap_15 : decode cX0_startsGap 15 = .ok (.ifCond .ne 7, 3) := by decide +kernel
theorem dX0_startsGap_18 : decode cX0_startsGap 18 = .ok (.iconst 1, 1) := by decide +kernel
theorem dX0_startsGap_19 : decode cX0_startsGap 19 = .ok (.goto 4, 3) := by decide +kernel
theorem dX0_startsGap_22 : decode cX0_startsGap 22 = .ok (.iconst 0, 1) := by decide +kernel
theorem dX0_startsGap_23 : decode cX0_startsGap 23 = .ok (.ireturn, 1) := by decide +kernel
set_option maxRecDepth 20000 in
theorem ggX0_gaps_X0_startsGap : GoodIn wsX0_gaps wsX0_startsGap := goodIn_r _ [5, 6, 7, 8, 4, 9, 10, 11, 12, 13, 14, 15, 16, 17, 18, 19, 20, 21, 22, 23, 24, 25, 26, 27, 28, 29] (by decide +kernel) (by decide +kernel)
set_option maxRecDepth 20000 in
theorem gX0_gaps_X0_startsGap : GoodIn wsX0_gaps (wsV RX0 121 RX0 yX0_startsGap wsX0_startsGap) := goodIn_app (goodIn_of _ (by decide +kernel)) ggX0_gaps_X0_startsGap
theorem dX0_gaps_0 : decode cX0_gaps 0 = .ok (.iconst 0, 1) := by decide +kernel
theorem dX0_gaps_1 : decode cX0_gaps 1 = .ok (.istore_n 1, 1) := by decide +kernel
theorem dX0_gaps_2 : decode cX0_gaps 2 = .ok (.iconst 0, 1) := by decide +kernel
theorem dX0_gaps_3 : decode cX0_gaps 3 = .ok (.istore_n 2, 1) := by decide +kernel
theorem dX0_gaps_4 : decode cX0_gaps 4 = .ok (.iload_n 2, 1) := by decide +kernel
theorem dX0_gaps_5 : decode cX0_gaps 5 = .ok (.bipush 120, 2) := by decide +kernel
theorem dX0_gaps_7 : decode cX0_gaps 7 = .ok (.if_icmp .ge 20, 3) := by decide +kernel
theorem dX0_gaps_10 : decode cX0_gaps 10 = .ok (.aload_n 0, 1) := by decide +kernel
theorem dX0_gaps_11 : decode cX0_gaps 11 = .ok (.iload_n 2, 1) := by decide +kernel
theorem dX0_gaps_12 : decode cX0_gaps 12 = .ok (.invokevirtual 121, 3) := by decide +kernel
theorem dX0_gaps_15 : decode cX0_gaps 15 = .ok (.ifCond .eq 6, 3) := by decide +kernel
theorem dX0_gaps_18 : decode cX0_gaps 18 = .ok (.iinc 1 1, 3) := by decide +kernel
theorem dX0_gaps_21 : decode cX0_gaps 21 = .ok (.iinc 2 1, 3) := by decide +kernel
theorem dX0_gaps_24 : decode cX0_gaps 24 = .ok (.goto (-20), 3) := by decide +kernel
theorem dX0_gaps_27 : decode cX0_gaps 27 = .ok (.iload_n 1, 1) := by decide +kernel
theorem dX0_gaps_28 : decode cX0_gaps 28 = .ok (.ireturn, 1) := by decide +kernel
set_option maxRecDepth 20000 in
theorem ggX0_firstHourOfGap_X0_startsGap : GoodIn wsX0_firstHourOfGap wsX0_startsGap := goodIn_r _ [5, 6, 7, 8, 4, 9, 10, 11, 12, 13, 14, 15, 16, 17, 18, 19, 20, 21, 22, 23, 24, 25, 26, 27, 28, 29] (by decide +kernel) (by decide +kernel)
set_option maxRecDepth 20000 in
theorem gX0_firstHourOfGap_X0_startsGap : GoodIn wsX0_firstHourOfGap (wsV RX0 121 RX0 yX0_startsGap wsX0_startsGap) := goodIn_app (goodIn_of _ (by decide +kernel)) ggX0_firstHourOfGap_X0_startsGap
theorem dX0_firstHourOfGap_0 : decode cX0_firstHourOfGap 0 = .ok (.iconst 0, 1) := by decide +kernel
theorem dX0_firstHourOfGap_1 : decode cX0_firstHourOfGap 1 = .ok (.istore_n 2, 1) := by decide +kernel
theorem dX0_firstHourOfGap_2 : decode cX0_firstHourOfGap 2 = .ok (.iconst 0, 1) := by decide +kernel
theorem dX0_firstHourOfGap_3 : decode cX0_firstHourOfGap 3 = .ok (.istore_n 3, 1) := by decide +kernel
theorem dX0_firstHourOfGap_4 : decode cX0_firstHourOfGap 4 = .ok (.iload_n 3, 1) := by decide +kernel
theorem dX0_firstHourOfGap_5 : decode cX0_firstHourOfGap 5 = .ok (.bipush 120, 2) := by decide +kernel
theorem dX0_firstHourOfGap_7 : decode cX0_firstHourOfGap 7 = .ok (.if_icmp .ge 27, 3) := by decide +kernel
theorem dX0_firstHourOfGap_10 : decode cX0_firstHourOfGap 10 = .ok (.aload_n 0, 1) := by decide +kernel
theorem dX0_firstHourOfGap_11 : decode cX0_firstHourOfGap 11 = .ok (.iload_n 3, 1) := by decide +kernel
theorem dX0_firstHourOfGap_12 : decode cX0_firstHourOfGap 12 = .ok (.invokevirtual 121, 3) := by decide +kernel
theorem dX0_firstHourOfGap_15 : decode cX0_firstHourOfGap 15 = .ok (.ifCond .eq 13, 3) := by decide +kernel
theorem dX0_firstHourOfGap_18 : decode cX0_firstHourOfGap 18 = .ok (.iload_n 2, 1) := by decide +kernel
theorem dX0_firstHourOfGap_19 : decode cX0_firstHourOfGap 19 = .ok (.iload_n 1, 1) := by decide +kernel
theorem dX0_firstHourOfGap_20 : decode cX0_firstHourOfGap 20 = .ok (.if_icmp .ne 5, 3) := by decide +kernel
theorem dX0_firstHourOfGap_23 : decode cX0_firstHourOfGap 23 = .ok (.iload_n 3, 1) := by decide +kernel
theorem dX0_firstHourOfGap_24 : decode cX0_firstHourOfGap 24 = .ok (.ireturn, 1) := by decide +kernel
theorem dX0_firstHourOfGap_25 : decode cX0_firstHourOfGap 25 = .ok (.iinc 2 1, 3) := by decide +kernel
theorem dX0_firstHourOfGap_28 : decode cX0_firstHourOfGap 28 = .ok (.iinc 3 1, 3) := by decide +kernel
theorem dX0_firstHourOfGap_31 : decode cX0_firstHourOfGap 31 = .ok (.goto (-27), 3) := by decide +kernel
theorem dX0_firstHourOfGap_34 : decode cX0_firstHourOfGap 34 = .ok (.iconst (-1), 1) := by decide +kernel
theorem dX0_firstHourOfGap_35 : decode cX0_firstHourOfGap 35 = .ok (.ireturn, 1) := by decide +kernel
set_option maxRecDepth 20000 in
theorem ggX0_hasGap_X0_firstHourOfGap : GoodIn wsX0_hasGap wsX0_firstHourOfGap := goodIn_r _ [5, 6, 7, 8, 4, 9, 10, 11, 12, 13, 14, 15, 16, 17, 18, 19, 20, 21, 22, 23, 24, 25, 26, 27, 28, 29, 30, 31, 32, 33] (by decide +kernel) (by decide +kernel)
set_option maxRecDepth 20000 in
theorem gX0_hasGap_X0_firstHourOfGap : GoodIn wsX0_hasGap (wsV RX0 124 RX0 yX0_firstHourOfGap wsX0_firstHourOfGap) := goodIn_app (goodIn_of _ (by decide +kernel)) ggX0_hasGap_X0_firstHourOfGap
theorem dX0_hasGap_0 : decode cX0_hasGap 0 = .ok (.aload_n 0, 1) := by decide +kernel
theorem dX0_hasGap_1 : decode cX0_hasGap 1 = .ok (.iload_n 1, 1) := by decide +kernel
theorem dX0_hasGap_2 : decode cX0_hasGap 2 = .ok (.invokevirtual 124, 3) := by decide +kernel
theorem dX0_hasGap_5 : decode cX0_hasGap 5 = .ok (.iconst (-1), 1) := by decide +kernel
theorem dX0_hasGap_6 : decode cX0_hasGap 6 = .ok (.if_icmp .eq 7, 3) := by decide +kernel
theorem dX0_hasGap_9 : decode cX0_hasGap 9 = .ok (.iconst 1, 1) := by decide +kernel
theorem dX0_hasGap_10 : decode cX0_hasGap 10 = .ok (.goto 4, 3) := by decide +kernel
theorem dX0_hasGap_13 : decode cX0_hasGap 13 = .ok (.iconst 0, 1) := by decide +kernel
theorem dX0_hasGap_14 : decode cX0_hasGap 14 = .ok (.ireturn, 1) := by decide +kernel
set_option maxRecDepth 20000 in
theorem ggX0_hourBehindGapFrom_X0_isInGap : GoodIn wsX0_hourBehindGapFrom wsX0_isInGap := goodIn_r _ [5, 6, 7, 8, 4, 9, 10, 11, 12, 13, 14, 15, 16, 17, 18, 19, 20, 21, 22, 23, 24, 25] (by decide +kernel) (by decide +kernel)
set_option maxRecDepth 20000 in
theorem gX0_hourBehindGapFrom_X0_isInGap : GoodIn wsX0_hourBehindGapFrom (wsV RX0 118 RX0 yX0_isInGap wsX0_isInGap) := goodIn_app (goodIn_of _ (by decide +kernel)) ggX0_hourBehindGapFrom_X0_isInGap
theorem dX0_hourBehindGapFrom_0 : decode cX0_hourBehindGapFrom 0 = .ok (.iload_n 1, 1) := by decide +kernel
theorem dX0_hourBehindGapFrom_1 : decode cX0_hourBehindGapFrom 1 = .ok (.istore_n 2, 1) := by decide +kernel
theorem dX0_hourBehindGapFrom_2 : decode cX0_hourBehindGapFrom 2 = .ok (.iload_n 2, 1) := by decide +kernel
theorem dX0_hourBehindGapFrom_3 : decode cX0_hourBehindGapFrom 3 = .ok (.bipush 120, 2) := by decide +kernel
theorem dX0_hourBehindGapFrom_5 : decode cX0_hourBehindGapFrom 5 = .ok (.if_icmp .ge 17, 3) := by decide +kernel
theorem dX0_hourBehindGapFrom_8 : decode cX0_hourBehindGapFrom 8 = .ok (.aload_n 0, 1) := by decide +kernel
theorem dX0_hourBehindGapFrom_9 : decode cX0_hourBehindGapFrom 9 = .ok (.iload_n 2, 1) := by decide +kernel
theorem dX0_hourBehindGapFrom_10 : decode cX0_hourBehindGapFrom 10 = .ok (.invokevirtual 118, 3) := by decide +kernel
theorem dX0_hourBehindGapFrom_13 : decode cX0_hourBehindGapFrom 13 = .ok (.ifCond .eq 9, 3) := by decide +kernel
theorem dX0_hourBehindGapFrom_16 : decode cX0_hourBehindGapFrom 16 = .ok (.iinc 2 1, 3) := by decide +kernel
theorem dX0_hourBehindGapFrom_19 : decode cX0_hourBehindGapFrom 19 = .ok (.goto (-17), 3) := by decide +kernel
theorem dX0_hourBehindGapFrom_22 : decode cX0_hourBehindGapFrom 22 = .ok (.iload_n 2, 1) := by decide +kernel
theorem dX0_hourBehindGapFrom_23 : decode cX0_hourBehindGapFrom 23 = .ok (.ireturn, 1) := by decide +kernel
set_option maxRecDepth 20000 in
theorem ggX0_isInner_X0_firstHourOfGap : GoodIn wsX0_isInner wsX0_firstHourOfGap := goodIn_r _ [5, 6, 7, 8, 4, 9, 10, 11, 12, 13, 14, 15, 16, 17, 18, 27, 28, 29, 30, 31, 32, 33, 34, 35, 36, 37, 38, 39, 40, 41] (by decide +kernel) (by decide +kernel)
set_option maxRecDepth 20000 in
theorem gX0_isInner_X0_firstHourOfGap : GoodIn wsX0_isInner (wsV RX0 124 RX0 yX0_firstHourOfGap wsX0_firstHourOfGap) := goodIn_app (goodIn_of _ (by decide +kernel)) ggX0_isInner_X0_firstHourOfGap
set_option maxRecDepth 20000 in
theorem ggX0_isInner_X0_hasReading : GoodIn wsX0_isInner wsX0_hasReading := goodIn_r _ [22, 14, 15, 16, 4, 17, 18, 27, 28, 29, 30, 31, 32, 33, 34, 35, 36, 37, 38, 39, 40, 41] (by decide +kernel) (by decide +kernel)
set_option maxRecDepth 20000 in
theorem gX0_isInner_X0_hasReading : GoodIn wsX0_isInner (wsV RX0 109 RX0 yX0_hasReading wsX0_hasReading) := goodIn_app (goodIn_of _ (by decide +kernel)) ggX0_isInner_X0_hasReading
set_option maxRecDepth 20000 in
theorem ggX0_isInner_X0_hourBehindGapFrom : GoodIn wsX0_isInner wsX0_hourBehindGapFrom := goodIn_r _ [26, 10, 11, 12, 4, 13, 14, 15, 16, 17, 18, 27, 28, 29, 30, 31, 32, 33, 34, 35, 36, 37, 38, 39, 40, 41] (by decide +kernel) (by decide +kernel)
set_option maxRecDepth 20000 in
theorem gX0_isInner_X0_hourBehindGapFrom : GoodIn wsX0_isInner (wsV RX0 127 RX0 yX0_hourBehindGapFrom wsX0_hourBehindGapFrom) := goodIn_app (goodIn_of _ (by decide +kernel)) ggX0_isInner_X0_hourBehindGapFrom
theorem dX0_isInner_0 : decode cX0_isInner 0 = .ok (.aload_n 0, 1) := by decide +kernel
theorem dX0_isInner_1 : decode cX0_isInner 1 = .ok (.iload_n 1, 1) := by decide +kernel
theorem dX0_isInner_2 : decode cX0_isInner 2 = .ok (.invokevirtual 124, 3) := by decide +kernel
theorem dX0_isInner_5 : decode cX0_isInner 5 = .ok (.istore_n 2, 1) := by decide +kernel
theorem dX0_isInner_6 : decode cX0_isInner 6 = .ok (.aload_n 0, 1) := by decide +kernel
theorem dX0_isInner_7 : decode cX0_isInner 7 = .ok (.iload_n 2, 1) := by decide +kernel
theorem dX0_isInner_8 : decode cX0_isInner 8 = .ok (.iconst 1, 1) := by decide +kernel
theorem dX0_isInner_9 : decode cX0_isInner 9 = .ok (.isub, 1) := by decide +kernel
theorem dX0_isInner_10 : decode cX0_isInner 10 = .ok (.invokevirtual 109, 3) := by decide +kernel
theorem dX0_isInner_13 : decode cX0_isInner 13 = .ok (.ifCond .eq 19, 3) := by decide +kernel
theorem dX0_isInner_16 : decode cX0_isInner 16 = .ok (.aload_n 0, 1) := by decide +kernel
theorem dX0_isInner_17 : decode cX0_isInner 17 = .ok (.aload_n 0, 1) := by decide +kernel
theorem dX0_isInner_18 : decode cX0_isInner 18 = .ok (.iload_n 2, 1) := by decide +kernel
theorem dX0_isInner_19 : decode cX0_isInner 19 = .ok (.invokevirtual 127, 3) := by decide +kernel
theorem dX0_isInner_22 : decode cX0_isInner 22 = .ok (.invokevirtual 109, 3) := by decide +kernel
theorem dX0_isInner_25 : decode cX0_isInner 25 = .ok (.ifCond .eq 7, 3) := by decide +kernel
theorem dX0_isInner_28 : decode cX0_isInner 28 = .ok (.iconst 1, 1) := by decide +kernel
theorem dX0_isInner_29 : decode cX0_isInner 29 = .ok (.goto 4, 3) := by decide +kernel
theorem dX0_isInner_32 : decode cX0_isInner 32 = .ok (.iconst 0, 1) := by decide +kernel
theorem dX0_isInner_33 : decode cX0_isInner 33 = .ok (.ireturn, 1) := by decide +kernel
set_option maxRecDepth 20000 in
theorem ggX0_mendedWithin_X0_kindAt : GoodIn wsX0_mendedWithin wsX0_kindAt := goodIn_r _ [5, 6, 7, 8, 9, 10, 11, 12, 13, 14, 15, 16, 17, 18, 19, 20, 21] (by decide +kernel) (by decide +kernel)
set_option maxRecDepth 20000 in
theorem gX0_mendedWithin_X0_kindAt : GoodIn wsX0_mendedWithin (wsV RX0 103 RX0 yX0_kindAt wsX0_kindAt) := goodIn_app (goodIn_of _ (by decide +kernel)) ggX0_mendedWithin_X0_kindAt
theorem dX0_mendedWithin_0 : decode cX0_mendedWithin 0 = .ok (.iconst 0, 1) := by decide +kernel
theorem dX0_mendedWithin_1 : decode cX0_mendedWithin 1 = .ok (.istore_n 3, 1) := by decide +kernel
theorem dX0_mendedWithin_2 : decode cX0_mendedWithin 2 = .ok (.iload_n 1, 1) := by decide +kernel
theorem dX0_mendedWithin_3 : decode cX0_mendedWithin 3 = .ok (.istore 4, 2) := by decide +kernel
theorem dX0_mendedWithin_5 : decode cX0_mendedWithin 5 = .ok (.iload 4, 2) := by decide +kernel
theorem dX0_mendedWithin_7 : decode cX0_mendedWithin 7 = .ok (.iload_n 2, 1) := by decide +kernel
theorem dX0_mendedWithin_8 : decode cX0_mendedWithin 8 = .ok (.if_icmp .gt 22, 3) := by decide +kernel
theorem dX0_mendedWithin_11 : decode cX0_mendedWithin 11 = .ok (.aload_n 0, 1) := by decide +kernel
theorem dX0_mendedWithin_12 : decode cX0_mendedWithin 12 = .ok (.iload 4, 2) := by decide +kernel
theorem dX0_mendedWithin_14 : decode cX0_mendedWithin 14 = .ok (.invokevirtual 103, 3) := by decide +kernel
theorem dX0_mendedWithin_17 : decode cX0_mendedWithin 17 = .ok (.iconst 2, 1) := by decide +kernel
theorem dX0_mendedWithin_18 : decode cX0_mendedWithin 18 = .ok (.if_icmp .ne 6, 3) := by decide +kernel
theorem dX0_mendedWithin_21 : decode cX0_mendedWithin 21 = .ok (.iinc 3 1, 3) := by decide +kernel
theorem dX0_mendedWithin_24 : decode cX0_mendedWithin 24 = .ok (.iinc 4 1, 3) := by decide +kernel
theorem dX0_mendedWithin_27 : decode cX0_mendedWithin 27 = .ok (.goto (-22), 3) := by decide +kernel
theorem dX0_mendedWithin_30 : decode cX0_mendedWithin 30 = .ok (.iload_n 3, 1) := by decide +kernel
theorem dX0_mendedWithin_31 : decode cX0_mendedWithin 31 = .ok (.ireturn, 1) := by decide +kernel
set_option maxRecDepth 20000 in
theorem ggX0_mendBetween_X0_correctedAt : GoodIn wsX0_mendBetween wsX0_correctedAt := goodIn_r _ [11, 12, 13, 14, 10, 15, 6, 16, 17, 18, 19, 20, 28, 29, 30, 31, 32, 33, 34, 35, 36, 37, 38, 39, 40, 41, 42] (by decide +kernel) (by decide +kernel)
set_option maxRecDepth 20000 in
theorem gX0_mendBetween_X0_correctedAt : GoodIn wsX0_mendBetween (wsV RX0 106 RX0 yX0_correctedAt wsX0_correctedAt) := goodIn_app (goodIn_of _ (by decide +kernel)) ggX0_mendBetween_X0_correctedAt
set_option maxRecDepth 20000 in
theorem ggX0_mendBetween_X4_shareOf : GoodIn wsX0_mendBetween wsX4_shareOf := goodIn_r _ [23, 24, 25, 26, 27] (by decide +kernel) (by decide +kernel)
set_option maxRecDepth 20000 in
theorem gX0_mendBetween_X4_shareOf_n92 : GoodIn wsX0_mendBetween (wsX4_shareOf) := ggX0_mendBetween_X4_shareOf
theorem dX0_mendBetween_0 : decode cX0_mendBetween 0 = .ok (.aload_n 0, 1) := by decide +kernel
theorem dX0_mendBetween_1 : decode cX0_mendBetween 1 = .ok (.iload_n 1, 1) := by decide +kernel
theorem dX0_mendBetween_2 : decode cX0_mendBetween 2 = .ok (.invokevirtual 106, 3) := by decide +kernel
theorem dX0_mendBetween_5 : decode cX0_mendBetween 5 = .ok (.aload_n 3, 1) := by decide +kernel
theorem dX0_mendBetween_6 : decode cX0_mendBetween 6 = .ok (.iload_n 1, 1) := by decide +kernel
theorem dX0_mendBetween_7 : decode cX0_mendBetween 7 = .ok (.iload 4, 2) := by decide +kernel
theorem dX0_mendBetween_9 : decode cX0_mendBetween 9 = .ok (.iadd, 1) := by decide +kernel
theorem dX0_mendBetween_10 : decode cX0_mendBetween 10 = .ok (.invokevirtual 106, 3) := by decide +kernel
theorem dX0_mendBetween_13 : decode cX0_mendBetween 13 = .ok (.isub, 1) := by decide +kernel
theorem dX0_mendBetween_14 : decode cX0_mendBetween 14 = .ok (.istore 5, 2) := by decide +kernel
theorem dX0_mendBetween_16 : decode cX0_mendBetween 16 = .ok (.aload_n 0, 1) := by decide +kernel
theorem dX0_mendBetween_17 : decode cX0_mendBetween 17 = .ok (.iload_n 2, 1) := by decide +kernel
theorem dX0_mendBetween_18 : decode cX0_mendBetween 18 = .ok (.invokevirtual 106, 3) := by decide +kernel
theorem dX0_mendBetween_21 : decode cX0_mendBetween 21 = .ok (.aload_n 3, 1) := by decide +kernel
theorem dX0_mendBetween_22 : decode cX0_mendBetween 22 = .ok (.iload_n 2, 1) := by decide +kernel
theorem dX0_mendBetween_23 : decode cX0_mendBetween 23 = .ok (.iload 4, 2) := by decide +kernel
theorem dX0_mendBetween_25 : decode cX0_mendBetween 25 = .ok (.iadd, 1) := by decide +kernel
theorem dX0_mendBetween_26 : decode cX0_mendBetween 26 = .ok (.invokevirtual 106, 3) := by decide +kernel
theorem dX0_mendBetween_29 : decode cX0_mendBetween 29 = .ok (.isub, 1) := by decide +kernel
theorem dX0_mendBetween_30 : decode cX0_mendBetween 30 = .ok (.istore 6, 2) := by decide +kernel
theorem dX0_mendBetween_32 : decode cX0_mendBetween 32 = .ok (.iload_n 1, 1) := by decide +kernel
theorem dX0_mendBetween_33 : decode cX0_mendBetween 33 = .ok (.iconst 1, 1) := by decide +kernel
theorem dX0_mendBetween_34 : decode cX0_mendBetween 34 = .ok (.iadd, 1) := by decide +kernel
theorem dX0_mendBetween_35 : decode cX0_mendBetween 35 = .ok (.iconst 0, 1) := by decide +kernel
theorem dX0_mendBetween_36 : decode cX0_mendBetween 36 = .ok (.invokestatic 89, 3) := by decide +kernel
theorem dX0_mendBetween_39 : decode cX0_mendBetween 39 = .ok (.istore 7, 2) := by decide +kernel
theorem dX0_mendBetween_41 : decode cX0_mendBetween 41 = .ok (.iload 7, 2) := by decide +kernel
theorem dX0_mendBetween_43 : decode cX0_mendBetween 43 = .ok (.iload_n 2, 1) := by decide +kernel
theorem dX0_mendBetween_44 : decode cX0_mendBetween 44 = .ok (.if_icmp .ge 59, 3) := by decide +kernel
theorem dX0_mendBetween_47 : decode cX0_mendBetween 47 = .ok (.iload 7, 2) := by decide +kernel
theorem dX0_mendBetween_49 : decode cX0_mendBetween 49 = .ok (.bipush 120, 2) := by decide +kernel
theorem dX0_mendBetween_51 : decode cX0_mendBetween 51 = .ok (.if_icmp .ge 52, 3) := by decide +kernel
theorem dX0_mendBetween_54 : decode cX0_mendBetween 54 = .ok (.aload_n 0, 1) := by decide +kernel
theorem dX0_mendBetween_55 : decode cX0_mendBetween 55 = .ok (.getfield 23, 3) := by decide +kernel
theorem dX0_mendBetween_58 : decode cX0_mendBetween 58 = .ok (.iload 7, 2) := by decide +kernel
theorem dX0_mendBetween_60 : decode cX0_mendBetween 60 = .ok (.iconst 2, 1) := by decide +kernel
theorem dX0_mendBetween_61 : decode cX0_mendBetween 61 = .ok (.iastore, 1) := by decide +kernel
theorem dX0_mendBetween_62 : decode cX0_mendBetween 62 = .ok (.aload_n 0, 1) := by decide +kernel
theorem dX0_mendBetween_63 : decode cX0_mendBetween 63 = .ok (.getfield 33, 3) := by decide +kernel
theorem dX0_mendBetween_66 : decode cX0_mendBetween 66 = .ok (.iload 7, 2) := by decide +kernel
theorem dX0_mendBetween_68 : decode cX0_mendBetween 68 = .ok (.aload_n 3, 1) := by decide +kernel
theorem dX0_mendBetween_69 : decode cX0_mendBetween 69 = .ok (.iload 7, 2) := by decide +kernel
theorem dX0_mendBetween_71 : decode cX0_mendBetween 71 = .ok (.iload 4, 2) := by decide +kernel
theorem dX0_mendBetween_73 : decode cX0_mendBetween 73 = .ok (.iadd, 1) := by decide +kernel
theorem dX0_mendBetween_74 : decode cX0_mendBetween 74 = .ok (.invokevirtual 106, 3) := by decide +kernel
theorem dX0_mendBetween_77 : decode cX0_mendBetween 77 = .ok (.iload 5, 2) := by decide +kernel
theorem dX0_mendBetween_79 : decode cX0_mendBetween 79 = .ok (.iadd, 1) := by decide +kernel
theorem dX0_mendBetween_80 : decode cX0_mendBetween 80 = .ok (.iload 6, 2) := by decide +kernel
theorem dX0_mendBetween_82 : decode cX0_mendBetween 82 = .ok (.iload 5, 2) := by decide +kernel
theorem dX0_mendBetween_84 : decode cX0_mendBetween 84 = .ok (.isub, 1) := by decide +kernel
theorem dX0_mendBetween_85 : decode cX0_mendBetween 85 = .ok (.iload 7, 2) := by decide +kernel
theorem dX0_mendBetween_87 : decode cX0_mendBetween 87 = .ok (.iload_n 1, 1) := by decide +kernel
theorem dX0_mendBetween_88 : decode cX0_mendBetween 88 = .ok (.isub, 1) := by decide +kernel
theorem dX0_mendBetween_89 : decode cX0_mendBetween 89 = .ok (.iload_n 2, 1) := by decide +kernel
theorem dX0_mendBetween_90 : decode cX0_mendBetween 90 = .ok (.iload_n 1, 1) := by decide +kernel
theorem dX0_mendBetween_91 : decode cX0_mendBetween 91 = .ok (.isub, 1) := by decide +kernel
theorem dX0_mendBetween_92 : decode cX0_mendBetween 92 = .ok (.invokestatic 92, 3) := by decide +kernel
theorem dX0_mendBetween_95 : decode cX0_mendBetween 95 = .ok (.iadd, 1) := by decide +kernel
theorem dX0_mendBetween_96 : decode cX0_mendBetween 96 = .ok (.iastore, 1) := by decide +kernel
theorem dX0_mendBetween_97 : decode cX0_mendBetween 97 = .ok (.iinc 7 1, 3) := by decide +kernel
theorem dX0_mendBetween_100 : decode cX0_mendBetween 100 = .ok (.goto (-59), 3) := by decide +kernel
theorem dX0_mendBetween_103 : decode cX0_mendBetween 103 = .ok (.return_, 1) := by decide +kernel
theorem dX0_forgetMended_0 : decode cX0_forgetMended 0 = .ok (.iconst 0, 1) := by decide +kernel
theorem dX0_forgetMended_1 : decode cX0_forgetMended 1 = .ok (.istore_n 1, 1) := by decide +kernel
theorem dX0_forgetMended_2 : decode cX0_forgetMended 2 = .ok (.iload_n 1, 1) := by decide +kernel
theorem dX0_forgetMended_3 : decode cX0_forgetMended 3 = .ok (.bipush 120, 2) := by decide +kernel
theorem dX0_forgetMended_5 : decode cX0_forgetMended 5 = .ok (.if_icmp .ge 26, 3) := by decide +kernel
theorem dX0_forgetMended_8 : decode cX0_forgetMended 8 = .ok (.aload_n 0, 1) := by decide +kernel
theorem dX0_forgetMended_9 : decode cX0_forgetMended 9 = .ok (.getfield 23, 3) := by decide +kernel
theorem dX0_forgetMended_12 : decode cX0_forgetMended 12 = .ok (.iload_n 1, 1) := by decide +kernel
theorem dX0_forgetMended_13 : decode cX0_forgetMended 13 = .ok (.iaload, 1) := by decide +kernel
theorem dX0_forgetMended_14 : decode cX0_forgetMended 14 = .ok (.iconst 2, 1) := by decide +kernel
theorem dX0_forgetMended_15 : decode cX0_forgetMended 15 = .ok (.if_icmp .ne 10, 3) := by decide +kernel
theorem dX0_forgetMended_18 : decode cX0_forgetMended 18 = .ok (.aload_n 0, 1) := by decide +kernel
theorem dX0_forgetMended_19 : decode cX0_forgetMended 19 = .ok (.getfield 23, 3) := by decide +kernel
theorem dX0_forgetMended_22 : decode cX0_forgetMended 22 = .ok (.iload_n 1, 1) := by decide +kernel
theorem dX0_forgetMended_23 : decode cX0_forgetMended 23 = .ok (.iconst 1, 1) := by decide +kernel
theorem dX0_forgetMended_24 : decode cX0_forgetMended 24 = .ok (.iastore, 1) := by decide +kernel
theorem dX0_forgetMended_25 : decode cX0_forgetMended 25 = .ok (.iinc 1 1, 3) := by decide +kernel
theorem dX0_forgetMended_28 : decode cX0_forgetMended 28 = .ok (.goto (-26), 3) := by decide +kernel
theorem dX0_forgetMended_31 : decode cX0_forgetMended 31 = .ok (.return_, 1) := by decide +kernel
set_option maxRecDepth 20000 in
theorem ggX0_misfitAround_X0_misfitWithin : GoodIn wsX0_misfitAround wsX0_misfitWithin := goodIn_r _ [5, 6, 7, 8, 9, 10, 11, 12, 4, 13, 14, 15, 16, 17, 18, 19, 20, 21, 22, 23, 24, 25, 26, 27, 28, 29, 30, 31, 32, 33, 34, 35, 36, 37, 38, 39, 40, 41, 42, 43, 44, 45, 46, 47, 48, 49, 50, 51, 52, 53, 54, 55] (by decide +kernel) (by decide +kernel)
set_option maxRecDepth 20000 in
theorem gX0_misfitAround_X0_misfitWithin : GoodIn wsX0_misfitAround (wsV RX0 130 RX0 yX0_misfitWithin wsX0_misfitWithin) := goodIn_app (goodIn_of _ (by decide +kernel)) ggX0_misfitAround_X0_misfitWithin
theorem dX0_misfitAround_0 : decode cX0_misfitAround 0 = .ok (.aload_n 0, 1) := by decide +kernel
theorem dX0_misfitAround_1 : decode cX0_misfitAround 1 = .ok (.iload_n 1, 1) := by decide +kernel
theorem dX0_misfitAround_2 : decode cX0_misfitAround 2 = .ok (.bipush 12, 2) := by decide +kernel
theorem dX0_misfitAround_4 : decode cX0_misfitAround 4 = .ok (.isub, 1) := by decide +kernel
theorem dX0_misfitAround_5 : decode cX0_misfitAround 5 = .ok (.iconst 1, 1) := by decide +kernel
theorem dX0_misfitAround_6 : decode cX0_misfitAround 6 = .ok (.iadd, 1) := by decide +kernel
theorem dX0_misfitAround_7 : decode cX0_misfitAround 7 = .ok (.iload_n 1, 1) := by decide +kernel
theorem dX0_misfitAround_8 : decode cX0_misfitAround 8 = .ok (.aload_n 3, 1) := by decide +kernel
theorem dX0_misfitAround_9 : decode cX0_misfitAround 9 = .ok (.iload 4, 2) := by decide +kernel
theorem dX0_misfitAround_11 : decode cX0_misfitAround 11 = .ok (.invokevirtual 130, 3) := by decide +kernel
theorem dX0_misfitAround_14 : decode cX0_misfitAround 14 = .ok (.aload_n 0, 1) := by decide +kernel
theorem dX0_misfitAround_15 : decode cX0_misfitAround 15 = .ok (.iload_n 2, 1) := by decide +kernel
theorem dX0_misfitAround_16 : decode cX0_misfitAround 16 = .ok (.iconst 1, 1) := by decide +kernel
theorem dX0_misfitAround_17 : decode cX0_misfitAround 17 = .ok (.iadd, 1) := by decide +kernel
theorem dX0_misfitAround_18 : decode cX0_misfitAround 18 = .ok (.iload_n 2, 1) := by decide +kernel
theorem dX0_misfitAround_19 : decode cX0_misfitAround 19 = .ok (.bipush 12, 2) := by decide +kernel
theorem dX0_misfitAround_21 : decode cX0_misfitAround 21 = .ok (.iadd, 1) := by decide +kernel
theorem dX0_misfitAround_22 : decode cX0_misfitAround 22 = .ok (.aload_n 3, 1) := by decide +kernel
theorem dX0_misfitAround_23 : decode cX0_misfitAround 23 = .ok (.iload 4, 2) := by decide +kernel
theorem dX0_misfitAround_25 : decode cX0_misfitAround 25 = .ok (.invokevirtual 130, 3) := by decide +kernel
theorem dX0_misfitAround_28 : decode cX0_misfitAround 28 = .ok (.iadd, 1) := by decide +kernel
theorem dX0_misfitAround_29 : decode cX0_misfitAround 29 = .ok (.ireturn, 1) := by decide +kernel
set_option maxRecDepth 20000 in
theorem ggX0_misfitWithin_X0_hasReadings : GoodIn wsX0_misfitWithin wsX0_hasReadings := goodIn_r _ [9, 10, 11, 12, 8, 13, 14, 15, 16, 17, 18, 37, 38, 39, 40, 41, 42, 43, 44, 45, 46, 47, 48, 49, 50, 51] (by decide +kernel) (by decide +kernel)
set_option maxRecDepth 20000 in
theorem gX0_misfitWithin_X0_hasReadings : GoodIn wsX0_misfitWithin (wsV RX0 134 RX0 yX0_hasReadings wsX0_hasReadings) := goodIn_app (goodIn_of _ (by decide +kernel)) ggX0_misfitWithin_X0_hasReadings
set_option maxRecDepth 20000 in
theorem ggX0_misfitWithin_X0_riseAt : GoodIn wsX0_misfitWithin wsX0_riseAt := goodIn_r _ [22, 23, 24, 25, 8, 26, 27, 28, 29, 30, 31, 32, 33, 34, 35, 36, 37, 38, 39, 40, 41, 42, 43, 44, 45, 46, 47, 48, 49, 50, 51] (by decide +kernel) (by decide +kernel)
set_option maxRecDepth 20000 in
theorem gX0_misfitWithin_X0_riseAt : GoodIn wsX0_misfitWithin (wsV RX0 137 RX0 yX0_riseAt wsX0_riseAt) := goodIn_app (goodIn_of _ (by decide +kernel)) ggX0_misfitWithin_X0_riseAt
theorem dX0_misfitWithin_0 : decode cX0_misfitWithin 0 = .ok (.iconst 0, 1) := by decide +kernel
theorem dX0_misfitWithin_1 : decode cX0_misfitWithin 1 = .ok (.istore 5, 2) := by decide +kernel
theorem dX0_misfitWithin_3 : decode cX0_misfitWithin 3 = .ok (.iload_n 1, 1) := by decide +kernel
theorem dX0_misfitWithin_4 : decode cX0_misfitWithin 4 = .ok (.istore 6, 2) := by decide +kernel
theorem dX0_misfitWithin_6 : decode cX0_misfitWithin 6 = .ok (.iload 6, 2) := by decide +kernel
theorem dX0_misfitWithin_8 : decode cX0_misfitWithin 8 = .ok (.iload_n 2, 1) := by decide +kernel
theorem dX0_misfitWithin_9 : decode cX0_misfitWithin 9 = .ok (.if_icmp .gt 65, 3) := by decide +kernel
theorem dX0_misfitWithin_12 : decode cX0_misfitWithin 12 = .ok (.aload_n 0, 1) := by decide +kernel
theorem dX0_misfitWithin_13 : decode cX0_misfitWithin 13 = .ok (.iload 6, 2) := by decide +kernel
theorem dX0_misfitWithin_15 : decode cX0_misfitWithin 15 = .ok (.iconst 1, 1) := by decide +kernel
theorem dX0_misfitWithin_16 : decode cX0_misfitWithin 16 = .ok (.isub, 1) := by decide +kernel
theorem dX0_misfitWithin_17 : decode cX0_misfitWithin 17 = .ok (.iload 6, 2) := by decide +kernel
theorem dX0_misfitWithin_19 : decode cX0_misfitWithin 19 = .ok (.invokevirtual 134, 3) := by decide +kernel
theorem dX0_misfitWithin_22 : decode cX0_misfitWithin 22 = .ok (.ifCond .eq 46, 3) := by decide +kernel
end
section
theorem dX0_misfitWithin_25 : decode cX0_misfitWithin 25 = .ok (.aload_n 3, 1) := by decide +kernel
theorem dX0_misfitWithin_26 : decode cX0_misfitWithin 26 = .ok (.iload 6, 2) := by decide +kernel
theorem dX0_misfitWithin_28 : decode cX0_misfitWithin 28 = .ok (.iload 4, 2) := by decide +kernel
theorem dX0_misfitWithin_30 : decode cX0_misfitWithin 30 = .ok (.iadd, 1) := by decide +kernel
theorem dX0_misfitWithin_31 : decode cX0_misfitWithin 31 = .ok (.iconst 1, 1) := by decide +kernel
theorem dX0_misfitWithin_32 : decode cX0_misfitWithin 32 = .ok (.isub, 1) := by decide +kernel
theorem dX0_misfitWithin_33 : decode cX0_misfitWithin 33 = .ok (.iload 6, 2) := by decide +kernel
theorem dX0_misfitWithin_35 : decode cX0_misfitWithin 35 = .ok (.iload 4, 2) := by decide +kernel
theorem dX0_misfitWithin_37 : decode cX0_misfitWithin 37 = .ok (.iadd, 1) := by decide +kernel
theorem dX0_misfitWithin_38 : decode cX0_misfitWithin 38 = .ok (.invokevirtual 134, 3) := by decide +kernel
theorem dX0_misfitWithin_41 : decode cX0_misfitWithin 41 = .ok (.ifCond .eq 27, 3) := by decide +kernel
theorem dX0_misfitWithin_44 : decode cX0_misfitWithin 44 = .ok (.iload 5, 2) := by decide +kernel
theorem dX0_misfitWithin_46 : decode cX0_misfitWithin 46 = .ok (.aload_n 0, 1) := by decide +kernel
theorem dX0_misfitWithin_47 : decode cX0_misfitWithin 47 = .ok (.iload 6, 2) := by decide +kernel
theorem dX0_misfitWithin_49 : decode cX0_misfitWithin 49 = .ok (.invokevirtual 137, 3) := by decide +kernel
theorem dX0_misfitWithin_52 : decode cX0_misfitWithin 52 = .ok (.aload_n 3, 1) := by decide +kernel
theorem dX0_misfitWithin_53 : decode cX0_misfitWithin 53 = .ok (.iload 6, 2) := by decide +kernel
theorem dX0_misfitWithin_55 : decode cX0_misfitWithin 55 = .ok (.iload 4, 2) := by decide +kernel
theorem dX0_misfitWithin_57 : decode cX0_misfitWithin 57 = .ok (.iadd, 1) := by decide +kernel
theorem dX0_misfitWithin_58 : decode cX0_misfitWithin 58 = .ok (.invokevirtual 137, 3) := by decide +kernel
theorem dX0_misfitWithin_61 : decode cX0_misfitWithin 61 = .ok (.isub, 1) := by decide +kernel
theorem dX0_misfitWithin_62 : decode cX0_misfitWithin 62 = .ok (.invokestatic 140, 3) := by decide +kernel
theorem dX0_misfitWithin_65 : decode cX0_misfitWithin 65 = .ok (.iadd, 1) := by decide +kernel
theorem dX0_misfitWithin_66 : decode cX0_misfitWithin 66 = .ok (.istore 5, 2) := by decide +kernel
theorem dX0_misfitWithin_68 : decode cX0_misfitWithin 68 = .ok (.iinc 6 1, 3) := by decide +kernel
theorem dX0_misfitWithin_71 : decode cX0_misfitWithin 71 = .ok (.goto (-65), 3) := by decide +kernel
theorem dX0_misfitWithin_74 : decode cX0_misfitWithin 74 = .ok (.iload 5, 2) := by decide +kernel
theorem dX0_misfitWithin_76 : decode cX0_misfitWithin 76 = .ok (.ireturn, 1) := by decide +kernel
set_option maxRecDepth 20000 in
theorem ggX0_riseAt_X0_correctedAt : GoodIn wsX0_riseAt wsX0_correctedAt := goodIn_r _ [5, 6, 7, 8, 4, 9, 10, 11, 12, 13, 14, 15, 16, 17, 18, 19, 20, 21, 22, 23, 24, 25, 26, 27, 28, 29, 30] (by decide +kernel) (by decide +kernel)
set_option maxRecDepth 20000 in
theorem gX0_riseAt_X0_correctedAt : GoodIn wsX0_riseAt (wsV RX0 106 RX0 yX0_correctedAt wsX0_correctedAt) := goodIn_app (goodIn_of _ (by decide +kernel)) ggX0_riseAt_X0_correctedAt
theorem dX0_riseAt_0 : decode cX0_riseAt 0 = .ok (.aload_n 0, 1) := by decide +kernel
theorem dX0_riseAt_1 : decode cX0_riseAt 1 = .ok (.iload_n 1, 1) := by decide +kernel
theorem dX0_riseAt_2 : decode cX0_riseAt 2 = .ok (.invokevirtual 106, 3) := by decide +kernel
theorem dX0_riseAt_5 : decode cX0_riseAt 5 = .ok (.aload_n 0, 1) := by decide +kernel
theorem dX0_riseAt_6 : decode cX0_riseAt 6 = .ok (.iload_n 1, 1) := by decide +kernel
theorem dX0_riseAt_7 : decode cX0_riseAt 7 = .ok (.iconst 1, 1) := by decide +kernel
theorem dX0_riseAt_8 : decode cX0_riseAt 8 = .ok (.isub, 1) := by decide +kernel
theorem dX0_riseAt_9 : decode cX0_riseAt 9 = .ok (.invokevirtual 106, 3) := by decide +kernel
theorem dX0_riseAt_12 : decode cX0_riseAt 12 = .ok (.isub, 1) := by decide +kernel
theorem dX0_riseAt_13 : decode cX0_riseAt 13 = .ok (.ireturn, 1) := by decide +kernel
theorem dX1_init_0 : decode cX1_init 0 = .ok (.aload_n 0, 1) := by decide +kernel
theorem dX1_init_1 : decode cX1_init 1 = .ok (.invokespecial 3, 3) := by decide +kernel
theorem dX1_init_4 : decode cX1_init 4 = .ok (.aload_n 0, 1) := by decide +kernel
theorem dX1_init_5 : decode cX1_init 5 = .ok (.bipush 60, 2) := by decide +kernel
theorem dX1_init_7 : decode cX1_init 7 = .ok (.newarray .char, 2) := by decide +kernel
theorem dX1_init_9 : decode cX1_init 9 = .ok (.putfield 9, 3) := by decide +kernel
theorem dX1_init_12 : decode cX1_init 12 = .ok (.return_, 1) := by decide +kernel
theorem dX1_add_0 : decode cX1_add 0 = .ok (.aload_n 0, 1) := by decide +kernel
theorem dX1_add_1 : decode cX1_add 1 = .ok (.getfield 15, 3) := by decide +kernel
theorem dX1_add_4 : decode cX1_add 4 = .ok (.ifCond .lt 35, 3) := by decide +kernel
theorem dX1_add_7 : decode cX1_add 7 = .ok (.aload_n 0, 1) := by decide +kernel
theorem dX1_add_8 : decode cX1_add 8 = .ok (.getfield 15, 3) := by decide +kernel
theorem dX1_add_11 : decode cX1_add 11 = .ok (.aload_n 0, 1) := by decide +kernel
theorem dX1_add_12 : decode cX1_add 12 = .ok (.getfield 9, 3) := by decide +kernel
theorem dX1_add_15 : decode cX1_add 15 = .ok (.arraylength, 1) := by decide +kernel
theorem dX1_add_16 : decode cX1_add 16 = .ok (.if_icmp .ge 23, 3) := by decide +kernel
theorem dX1_add_19 : decode cX1_add 19 = .ok (.aload_n 0, 1) := by decide +kernel
theorem dX1_add_20 : decode cX1_add 20 = .ok (.getfield 9, 3) := by decide +kernel
theorem dX1_add_23 : decode cX1_add 23 = .ok (.aload_n 0, 1) := by decide +kernel
theorem dX1_add_24 : decode cX1_add 24 = .ok (.getfield 15, 3) := by decide +kernel
theorem dX1_add_27 : decode cX1_add 27 = .ok (.iload_n 1, 1) := by decide +kernel
theorem dX1_add_28 : decode cX1_add 28 = .ok (.castore, 1) := by decide +kernel
theorem dX1_add_29 : decode cX1_add 29 = .ok (.aload_n 0, 1) := by decide +kernel
theorem dX1_add_30 : decode cX1_add 30 = .ok (.dup, 1) := by decide +kernel
theorem dX1_add_31 : decode cX1_add 31 = .ok (.getfield 15, 3) := by decide +kernel
theorem dX1_add_34 : decode cX1_add 34 = .ok (.iconst 1, 1) := by decide +kernel
theorem dX1_add_35 : decode cX1_add 35 = .ok (.iadd, 1) := by decide +kernel
theorem dX1_add_36 : decode cX1_add 36 = .ok (.putfield 15, 3) := by decide +kernel
theorem dX1_add_39 : decode cX1_add 39 = .ok (.return_, 1) := by decide +kernel
theorem dX1_characterAt_0 : decode cX1_characterAt 0 = .ok (.iload_n 1, 1) := by decide +kernel
theorem dX1_characterAt_1 : decode cX1_characterAt 1 = .ok (.ifCond .lt 29, 3) := by decide +kernel
theorem dX1_characterAt_4 : decode cX1_characterAt 4 = .ok (.iload_n 1, 1) := by decide +kernel
theorem dX1_characterAt_5 : decode cX1_characterAt 5 = .ok (.aload_n 0, 1) := by decide +kernel
theorem dX1_characterAt_6 : decode cX1_characterAt 6 = .ok (.getfield 15, 3) := by decide +kernel
theorem dX1_characterAt_9 : decode cX1_characterAt 9 = .ok (.if_icmp .ge 21, 3) := by decide +kernel
theorem dX1_characterAt_12 : decode cX1_characterAt 12 = .ok (.iload_n 1, 1) := by decide +kernel
theorem dX1_characterAt_13 : decode cX1_characterAt 13 = .ok (.aload_n 0, 1) := by decide +kernel
theorem dX1_characterAt_14 : decode cX1_characterAt 14 = .ok (.getfield 9, 3) := by decide +kernel
theorem dX1_characterAt_17 : decode cX1_characterAt 17 = .ok (.arraylength, 1) := by decide +kernel
theorem dX1_characterAt_18 : decode cX1_characterAt 18 = .ok (.if_icmp .ge 12, 3) := by decide +kernel
theorem dX1_characterAt_21 : decode cX1_characterAt 21 = .ok (.aload_n 0, 1) := by decide +kernel
theorem dX1_characterAt_22 : decode cX1_characterAt 22 = .ok (.getfield 9, 3) := by decide +kernel
theorem dX1_characterAt_25 : decode cX1_characterAt 25 = .ok (.iload_n 1, 1) := by decide +kernel
theorem dX1_characterAt_26 : decode cX1_characterAt 26 = .ok (.caload, 1) := by decide +kernel
theorem dX1_characterAt_27 : decode cX1_characterAt 27 = .ok (.goto 4, 3) := by decide +kernel
theorem dX1_characterAt_30 : decode cX1_characterAt 30 = .ok (.iconst 0, 1) := by decide +kernel
theorem dX1_characterAt_31 : decode cX1_characterAt 31 = .ok (.ireturn, 1) := by decide +kernel
set_option maxRecDepth 20000 in
theorem ggX1_faultAt_X1_characterAt : GoodIn wsX1_faultAt wsX1_characterAt := goodIn_r _ [6, 1, 7, 26, 27] (by decide +kernel) (by decide +kernel)
set_option maxRecDepth 20000 in
theorem gX1_faultAt_X1_characterAt : GoodIn wsX1_faultAt (wsV RX1 19 RX1 yX1_characterAt wsX1_characterAt) := goodIn_app (goodIn_of _ (by decide +kernel)) ggX1_faultAt_X1_characterAt
set_option maxRecDepth 20000 in
theorem ggX1_faultAt_X1_dueBehind : GoodIn wsX1_faultAt wsX1_dueBehind := goodIn_r _ [10, 11, 12, 5, 13, 14, 15, 16, 17, 18, 19, 20, 21, 22, 23, 24, 25] (by decide +kernel) (by decide +kernel)
set_option maxRecDepth 20000 in
theorem gX1_faultAt_X1_dueBehind : GoodIn wsX1_faultAt (va_wsS RX1 23 yX1_dueBehind wsX1_dueBehind) := goodIn_app (goodIn_of _ (by decide +kernel)) ggX1_faultAt_X1_dueBehind
theorem dX1_faultAt_0 : decode cX1_faultAt 0 = .ok (.iconst 0, 1) := by decide +kernel
theorem dX1_faultAt_1 : decode cX1_faultAt 1 = .ok (.istore_n 1, 1) := by decide +kernel
theorem dX1_faultAt_2 : decode cX1_faultAt 2 = .ok (.iconst 0, 1) := by decide +kernel
theorem dX1_faultAt_3 : decode cX1_faultAt 3 = .ok (.istore_n 2, 1) := by decide +kernel
theorem dX1_faultAt_4 : decode cX1_faultAt 4 = .ok (.iload_n 2, 1) := by decide +kernel
theorem dX1_faultAt_5 : decode cX1_faultAt 5 = .ok (.aload_n 0, 1) := by decide +kernel
theorem dX1_faultAt_6 : decode cX1_faultAt 6 = .ok (.getfield 15, 3) := by decide +kernel
theorem dX1_faultAt_9 : decode cX1_faultAt 9 = .ok (.if_icmp .ge 26, 3) := by decide +kernel
theorem dX1_faultAt_12 : decode cX1_faultAt 12 = .ok (.iload_n 1, 1) := by decide +kernel
theorem dX1_faultAt_13 : decode cX1_faultAt 13 = .ok (.aload_n 0, 1) := by decide +kernel
theorem dX1_faultAt_14 : decode cX1_faultAt 14 = .ok (.iload_n 2, 1) := by decide +kernel
theorem dX1_faultAt_15 : decode cX1_faultAt 15 = .ok (.invokevirtual 19, 3) := by decide +kernel
theorem dX1_faultAt_18 : decode cX1_faultAt 18 = .ok (.invokestatic 23, 3) := by decide +kernel
theorem dX1_faultAt_21 : decode cX1_faultAt 21 = .ok (.istore_n 1, 1) := by decide +kernel
theorem dX1_faultAt_22 : decode cX1_faultAt 22 = .ok (.iload_n 1, 1) := by decide +kernel
theorem dX1_faultAt_23 : decode cX1_faultAt 23 = .ok (.iconst 5, 1) := by decide +kernel
theorem dX1_faultAt_24 : decode cX1_faultAt 24 = .ok (.if_icmp .ne 5, 3) := by decide +kernel
theorem dX1_faultAt_27 : decode cX1_faultAt 27 = .ok (.iload_n 2, 1) := by decide +kernel
theorem dX1_faultAt_28 : decode cX1_faultAt 28 = .ok (.ireturn, 1) := by decide +kernel
theorem dX1_faultAt_29 : decode cX1_faultAt 29 = .ok (.iinc 2 1, 3) := by decide +kernel
theorem dX1_faultAt_32 : decode cX1_faultAt 32 = .ok (.goto (-28), 3) := by decide +kernel
theorem dX1_faultAt_35 : decode cX1_faultAt 35 = .ok (.iload_n 1, 1) := by decide +kernel
theorem dX1_faultAt_36 : decode cX1_faultAt 36 = .ok (.iconst 4, 1) := by decide +kernel
theorem dX1_faultAt_37 : decode cX1_faultAt 37 = .ok (.if_icmp .eq 8, 3) := by decide +kernel
theorem dX1_faultAt_40 : decode cX1_faultAt 40 = .ok (.iload_n 1, 1) := by decide +kernel
theorem dX1_faultAt_41 : decode cX1_faultAt 41 = .ok (.iconst 2, 1) := by decide +kernel
theorem dX1_faultAt_42 : decode cX1_faultAt 42 = .ok (.if_icmp .ne 7, 3) := by decide +kernel
theorem dX1_faultAt_45 : decode cX1_faultAt 45 = .ok (.iconst (-1), 1) := by decide +kernel
theorem dX1_faultAt_46 : decode cX1_faultAt 46 = .ok (.goto 7, 3) := by decide +kernel
theorem dX1_faultAt_49 : decode cX1_faultAt 49 = .ok (.aload_n 0, 1) := by decide +kernel
theorem dX1_faultAt_50 : decode cX1_faultAt 50 = .ok (.getfield 15, 3) := by decide +kernel
theorem dX1_faultAt_53 : decode cX1_faultAt 53 = .ok (.ireturn, 1) := by decide +kernel
set_option maxRecDepth 20000 in
theorem ggX1_dueBehind_X1_dueBehindLetter : GoodIn wsX1_dueBehind wsX1_dueBehindLetter := goodIn_r _ [4, 5, 6, 3, 7] (by decide +kernel) (by decide +kernel)
set_option maxRecDepth 20000 in
theorem gX1_dueBehind_X1_dueBehindLetter : GoodIn wsX1_dueBehind (va_wsS RX1 27 yX1_dueBehindLetter wsX1_dueBehindLetter) := goodIn_app (goodIn_of _ (by decide +kernel)) ggX1_dueBehind_X1_dueBehindLetter
set_option maxRecDepth 20000 in
theorem ggX1_dueBehind_X4_isWithin : GoodIn wsX1_dueBehind wsX4_isWithin := goodIn_r _ [10] (by decide +kernel) (by decide +kernel)
set_option maxRecDepth 20000 in
theorem gX1_dueBehind_X4_isWithin_n31 : GoodIn wsX1_dueBehind (wsX4_isWithin) := ggX1_dueBehind_X4_isWithin
set_option maxRecDepth 20000 in
theorem ggX1_dueBehind_X1_isDigit : GoodIn wsX1_dueBehind wsX1_isDigit := goodIn_r _ [13] (by decide +kernel) (by decide +kernel)
set_option maxRecDepth 20000 in
theorem gX1_dueBehind_X1_isDigit : GoodIn wsX1_dueBehind (va_wsS RX1 35 yX1_isDigit wsX1_isDigit) := goodIn_app (goodIn_of _ (by decide +kernel)) ggX1_dueBehind_X1_isDigit
set_option maxRecDepth 20000 in
theorem ggX1_dueBehind_X1_dueBehindOrder : GoodIn wsX1_dueBehind wsX1_dueBehindOrder := goodIn_r _ [16] (by decide +kernel) (by decide +kernel)
set_option maxRecDepth 20000 in
theorem gX1_dueBehind_X1_dueBehindOrder : GoodIn wsX1_dueBehind (va_wsS RX1 39 yX1_dueBehindOrder wsX1_dueBehindOrder) := goodIn_app (goodIn_of _ (by decide +kernel)) ggX1_dueBehind_X1_dueBehindOrder
theorem dX1_dueBehind_0 : decode cX1_dueBehind 0 = .ok (.iload_n 0, 1) := by decide +kernel
theorem dX1_dueBehind_1 : decode cX1_dueBehind 1 = .ok (.tableswitch 95 0 4 #[35, 40, 57, 73, 90], 35) := by decide +kernel
theorem dX1_dueBehind_36 : decode cX1_dueBehind 36 = .ok (.iload_n 1, 1) := by decide +kernel
theorem dX1_dueBehind_37 : decode cX1_dueBehind 37 = .ok (.invokestatic 27, 3) := by decide +kernel
theorem dX1_dueBehind_40 : decode cX1_dueBehind 40 = .ok (.ireturn, 1) := by decide +kernel
theorem dX1_dueBehind_41 : decode cX1_dueBehind 41 = .ok (.iload_n 1, 1) := by decide +kernel
theorem dX1_dueBehind_42 : decode cX1_dueBehind 42 = .ok (.bipush 49, 2) := by decide +kernel
theorem dX1_dueBehind_44 : decode cX1_dueBehind 44 = .ok (.bipush 57, 2) := by decide +kernel
theorem dX1_dueBehind_46 : decode cX1_dueBehind 46 = .ok (.invokestatic 31, 3) := by decide +kernel
theorem dX1_dueBehind_49 : decode cX1_dueBehind 49 = .ok (.ifCond .eq 7, 3) := by decide +kernel
theorem dX1_dueBehind_52 : decode cX1_dueBehind 52 = .ok (.iconst 2, 1) := by decide +kernel
theorem dX1_dueBehind_53 : decode cX1_dueBehind 53 = .ok (.goto 4, 3) := by decide +kernel
theorem dX1_dueBehind_56 : decode cX1_dueBehind 56 = .ok (.iconst 5, 1) := by decide +kernel
theorem dX1_dueBehind_57 : decode cX1_dueBehind 57 = .ok (.ireturn, 1) := by decide +kernel
theorem dX1_dueBehind_58 : decode cX1_dueBehind 58 = .ok (.iload_n 1, 1) := by decide +kernel
theorem dX1_dueBehind_59 : decode cX1_dueBehind 59 = .ok (.invokestatic 35, 3) := by decide +kernel
theorem dX1_dueBehind_62 : decode cX1_dueBehind 62 = .ok (.ifCond .eq 7, 3) := by decide +kernel
theorem dX1_dueBehind_65 : decode cX1_dueBehind 65 = .ok (.iconst 4, 1) := by decide +kernel
theorem dX1_dueBehind_66 : decode cX1_dueBehind 66 = .ok (.goto 7, 3) := by decide +kernel
theorem dX1_dueBehind_69 : decode cX1_dueBehind 69 = .ok (.iload_n 1, 1) := by decide +kernel
theorem dX1_dueBehind_70 : decode cX1_dueBehind 70 = .ok (.invokestatic 39, 3) := by decide +kernel
theorem dX1_dueBehind_73 : decode cX1_dueBehind 73 = .ok (.ireturn, 1) := by decide +kernel
theorem dX1_dueBehind_74 : decode cX1_dueBehind 74 = .ok (.iload_n 1, 1) := by decide +kernel
theorem dX1_dueBehind_75 : decode cX1_dueBehind 75 = .ok (.bipush 48, 2) := by decide +kernel
theorem dX1_dueBehind_77 : decode cX1_dueBehind 77 = .ok (.bipush 50, 2) := by decide +kernel
theorem dX1_dueBehind_79 : decode cX1_dueBehind 79 = .ok (.invokestatic 31, 3) := by decide +kernel
theorem dX1_dueBehind_82 : decode cX1_dueBehind 82 = .ok (.ifCond .eq 7, 3) := by decide +kernel
theorem dX1_dueBehind_85 : decode cX1_dueBehind 85 = .ok (.iconst 4, 1) := by decide +kernel
theorem dX1_dueBehind_86 : decode cX1_dueBehind 86 = .ok (.goto 4, 3) := by decide +kernel
theorem dX1_dueBehind_89 : decode cX1_dueBehind 89 = .ok (.iconst 5, 1) := by decide +kernel
theorem dX1_dueBehind_90 : decode cX1_dueBehind 90 = .ok (.ireturn, 1) := by decide +kernel
theorem dX1_dueBehind_91 : decode cX1_dueBehind 91 = .ok (.iload_n 1, 1) := by decide +kernel
theorem dX1_dueBehind_92 : decode cX1_dueBehind 92 = .ok (.invokestatic 39, 3) := by decide +kernel
theorem dX1_dueBehind_95 : decode cX1_dueBehind 95 = .ok (.ireturn, 1) := by decide +kernel
theorem dX1_dueBehind_96 : decode cX1_dueBehind 96 = .ok (.iconst 5, 1) := by decide +kernel
theorem dX1_dueBehind_97 : decode cX1_dueBehind 97 = .ok (.ireturn, 1) := by decide +kernel
set_option maxRecDepth 20000 in
theorem ggX1_dueBehindLetter_X1_isStationLetter : GoodIn wsX1_dueBehindLetter wsX1_isStationLetter := goodIn_r _ [4] (by decide +kernel) (by decide +kernel)
set_option maxRecDepth 20000 in
theorem gX1_dueBehindLetter_X1_isStationLetter : GoodIn wsX1_dueBehindLetter (va_wsS RX1 42 yX1_isStationLetter wsX1_isStationLetter) := goodIn_app (goodIn_of _ (by decide +kernel)) ggX1_dueBehindLetter_X1_isStationLetter
theorem dX1_dueBehindLetter_0 : decode cX1_dueBehindLetter 0 = .ok (.iload_n 0, 1) := by decide +kernel
theorem dX1_dueBehindLetter_1 : decode cX1_dueBehindLetter 1 = .ok (.bipush 112, 2) := by decide +kernel
theorem dX1_dueBehindLetter_3 : decode cX1_dueBehindLetter 3 = .ok (.if_icmp .ne 5, 3) := by decide +kernel
theorem dX1_dueBehindLetter_6 : decode cX1_dueBehindLetter 6 = .ok (.iconst 1, 1) := by decide +kernel
theorem dX1_dueBehindLetter_7 : decode cX1_dueBehindLetter 7 = .ok (.ireturn, 1) := by decide +kernel
theorem dX1_dueBehindLetter_8 : decode cX1_dueBehindLetter 8 = .ok (.iload_n 0, 1) := by decide +kernel
theorem dX1_dueBehindLetter_9 : decode cX1_dueBehindLetter 9 = .ok (.invokestatic 42, 3) := by decide +kernel
theorem dX1_dueBehindLetter_12 : decode cX1_dueBehindLetter 12 = .ok (.ifCond .eq 7, 3) := by decide +kernel
theorem dX1_dueBehindLetter_15 : decode cX1_dueBehindLetter 15 = .ok (.iconst 3, 1) := by decide +kernel
theorem dX1_dueBehindLetter_16 : decode cX1_dueBehindLetter 16 = .ok (.goto 4, 3) := by decide +kernel
theorem dX1_dueBehindLetter_19 : decode cX1_dueBehindLetter 19 = .ok (.iconst 5, 1) := by decide +kernel
theorem dX1_dueBehindLetter_20 : decode cX1_dueBehindLetter 20 = .ok (.ireturn, 1) := by decide +kernel
theorem dX1_dueBehindOrder_0 : decode cX1_dueBehindOrder 0 = .ok (.iload_n 0, 1) := by decide +kernel
theorem dX1_dueBehindOrder_1 : decode cX1_dueBehindOrder 1 = .ok (.bipush 59, 2) := by decide +kernel
theorem dX1_dueBehindOrder_3 : decode cX1_dueBehindOrder 3 = .ok (.if_icmp .ne 7, 3) := by decide +kernel
theorem dX1_dueBehindOrder_6 : decode cX1_dueBehindOrder 6 = .ok (.iconst 0, 1) := by decide +kernel
theorem dX1_dueBehindOrder_7 : decode cX1_dueBehindOrder 7 = .ok (.goto 4, 3) := by decide +kernel
theorem dX1_dueBehindOrder_10 : decode cX1_dueBehindOrder 10 = .ok (.iconst 5, 1) := by decide +kernel
theorem dX1_dueBehindOrder_11 : decode cX1_dueBehindOrder 11 = .ok (.ireturn, 1) := by decide +kernel
theorem dX1_isStationLetter_0 : decode cX1_isStationLetter 0 = .ok (.iload_n 0, 1) := by decide +kernel
theorem dX1_isStationLetter_1 : decode cX1_isStationLetter 1 = .ok (.bipush 120, 2) := by decide +kernel
theorem dX1_isStationLetter_3 : decode cX1_isStationLetter 3 = .ok (.if_icmp .eq 21, 3) := by decide +kernel
theorem dX1_isStationLetter_6 : decode cX1_isStationLetter 6 = .ok (.iload_n 0, 1) := by decide +kernel
theorem dX1_isStationLetter_7 : decode cX1_isStationLetter 7 = .ok (.bipush 111, 2) := by decide +kernel
theorem dX1_isStationLetter_9 : decode cX1_isStationLetter 9 = .ok (.if_icmp .eq 15, 3) := by decide +kernel
theorem dX1_isStationLetter_12 : decode cX1_isStationLetter 12 = .ok (.iload_n 0, 1) := by decide +kernel
theorem dX1_isStationLetter_13 : decode cX1_isStationLetter 13 = .ok (.bipush 99, 2) := by decide +kernel
theorem dX1_isStationLetter_15 : decode cX1_isStationLetter 15 = .ok (.if_icmp .eq 9, 3) := by decide +kernel
theorem dX1_isStationLetter_18 : decode cX1_isStationLetter 18 = .ok (.iload_n 0, 1) := by decide +kernel
theorem dX1_isStationLetter_19 : decode cX1_isStationLetter 19 = .ok (.bipush 108, 2) := by decide +kernel
theorem dX1_isStationLetter_21 : decode cX1_isStationLetter 21 = .ok (.if_icmp .ne 7, 3) := by decide +kernel
theorem dX1_isStationLetter_24 : decode cX1_isStationLetter 24 = .ok (.iconst 1, 1) := by decide +kernel
theorem dX1_isStationLetter_25 : decode cX1_isStationLetter 25 = .ok (.goto 4, 3) := by decide +kernel
theorem dX1_isStationLetter_28 : decode cX1_isStationLetter 28 = .ok (.iconst 0, 1) := by decide +kernel
theorem dX1_isStationLetter_29 : decode cX1_isStationLetter 29 = .ok (.ireturn, 1) := by decide +kernel
theorem dX1_isDigit_0 : decode cX1_isDigit 0 = .ok (.iload_n 0, 1) := by decide +kernel
theorem dX1_isDigit_1 : decode cX1_isDigit 1 = .ok (.bipush 48, 2) := by decide +kernel
theorem dX1_isDigit_3 : decode cX1_isDigit 3 = .ok (.if_icmp .lt 13, 3) := by decide +kernel
theorem dX1_isDigit_6 : decode cX1_isDigit 6 = .ok (.iload_n 0, 1) := by decide +kernel
theorem dX1_isDigit_7 : decode cX1_isDigit 7 = .ok (.bipush 57, 2) := by decide +kernel
theorem dX1_isDigit_9 : decode cX1_isDigit 9 = .ok (.if_icmp .gt 7, 3) := by decide +kernel
theorem dX1_isDigit_12 : decode cX1_isDigit 12 = .ok (.iconst 1, 1) := by decide +kernel
theorem dX1_isDigit_13 : decode cX1_isDigit 13 = .ok (.goto 4, 3) := by decide +kernel
theorem dX1_isDigit_16 : decode cX1_isDigit 16 = .ok (.iconst 0, 1) := by decide +kernel
theorem dX1_isDigit_17 : decode cX1_isDigit 17 = .ok (.ireturn, 1) := by decide +kernel
set_option maxRecDepth 20000 in
theorem ggX1_startsOrder_X1_characterAt : GoodIn wsX1_startsOrder wsX1_characterAt := goodIn_r _ [5, 6, 7, 11, 12] (by decide +kernel) (by decide +kernel)
set_option maxRecDepth 20000 in
theorem gX1_startsOrder_X1_characterAt : GoodIn wsX1_startsOrder (wsV RX1 19 RX1 yX1_characterAt wsX1_characterAt) := goodIn_app (goodIn_of _ (by decide +kernel)) ggX1_startsOrder_X1_characterAt
set_option maxRecDepth 20000 in
theorem ggX1_startsOrder_X1_isStationLetter : GoodIn wsX1_startsOrder wsX1_isStationLetter := goodIn_r _ [10] (by decide +kernel) (by decide +kernel)
set_option maxRecDepth 20000 in
theorem gX1_startsOrder_X1_isStationLetter : GoodIn wsX1_startsOrder (va_wsS RX1 42 yX1_isStationLetter wsX1_isStationLetter) := goodIn_app (goodIn_of _ (by decide +kernel)) ggX1_startsOrder_X1_isStationLetter
theorem dX1_startsOrder_0 : decode cX1_startsOrder 0 = .ok (.aload_n 0, 1) := by decide +kernel
theorem dX1_startsOrder_1 : decode cX1_startsOrder 1 = .ok (.iload_n 1, 1) := by decide +kernel
theorem dX1_startsOrder_2 : decode cX1_startsOrder 2 = .ok (.invokevirtual 19, 3) := by decide +kernel
theorem dX1_startsOrder_5 : decode cX1_startsOrder 5 = .ok (.istore_n 2, 1) := by decide +kernel
theorem dX1_startsOrder_6 : decode cX1_startsOrder 6 = .ok (.iload_n 2, 1) := by decide +kernel
theorem dX1_startsOrder_7 : decode cX1_startsOrder 7 = .ok (.bipush 112, 2) := by decide +kernel
theorem dX1_startsOrder_9 : decode cX1_startsOrder 9 = .ok (.if_icmp .eq 10, 3) := by decide +kernel
theorem dX1_startsOrder_12 : decode cX1_startsOrder 12 = .ok (.iload_n 2, 1) := by decide +kernel
theorem dX1_startsOrder_13 : decode cX1_startsOrder 13 = .ok (.invokestatic 42, 3) := by decide +kernel
theorem dX1_startsOrder_16 : decode cX1_startsOrder 16 = .ok (.ifCond .eq 7, 3) := by decide +kernel
theorem dX1_startsOrder_19 : decode cX1_startsOrder 19 = .ok (.iconst 1, 1) := by decide +kernel
theorem dX1_startsOrder_20 : decode cX1_startsOrder 20 = .ok (.goto 4, 3) := by decide +kernel
theorem dX1_startsOrder_23 : decode cX1_startsOrder 23 = .ok (.iconst 0, 1) := by decide +kernel
theorem dX1_startsOrder_24 : decode cX1_startsOrder 24 = .ok (.ireturn, 1) := by decide +kernel
set_option maxRecDepth 20000 in
theorem ggX1_numberFrom_X1_characterAt : GoodIn wsX1_numberFrom wsX1_characterAt := goodIn_r _ [6, 1, 7, 11, 12] (by decide +kernel) (by decide +kernel)
set_option maxRecDepth 20000 in
theorem gX1_numberFrom_X1_characterAt : GoodIn wsX1_numberFrom (wsV RX1 19 RX1 yX1_characterAt wsX1_characterAt) := goodIn_app (goodIn_of _ (by decide +kernel)) ggX1_numberFrom_X1_characterAt
set_option maxRecDepth 20000 in
theorem ggX1_numberFrom_X1_isDigit : GoodIn wsX1_numberFrom wsX1_isDigit := goodIn_r _ [10] (by decide +kernel) (by decide +kernel)
set_option maxRecDepth 20000 in
theorem gX1_numberFrom_X1_isDigit : GoodIn wsX1_numberFrom (va_wsS RX1 35 yX1_isDigit wsX1_isDigit) := goodIn_app (goodIn_of _ (by decide +kernel)) ggX1_numberFrom_X1_isDigit
theorem dX1_numberFrom_0 : decode cX1_numberFrom 0 = .ok (.iconst 0, 1) := by decide +kernel
theorem dX1_numberFrom_1 : decode cX1_numberFrom 1 = .ok (.istore_n 2, 1) := by decide +kernel
theorem dX1_numberFrom_2 : decode cX1_numberFrom 2 = .ok (.iload_n 1, 1) := by decide +kernel
theorem dX1_numberFrom_3 : decode cX1_numberFrom 3 = .ok (.istore_n 3, 1) := by decide +kernel
theorem dX1_numberFrom_4 : decode cX1_numberFrom 4 = .ok (.iload_n 3, 1) := by decide +kernel
theorem dX1_numberFrom_5 : decode cX1_numberFrom 5 = .ok (.aload_n 0, 1) := by decide +kernel
theorem dX1_numberFrom_6 : decode cX1_numberFrom 6 = .ok (.getfield 15, 3) := by decide +kernel
theorem dX1_numberFrom_9 : decode cX1_numberFrom 9 = .ok (.if_icmp .ge 34, 3) := by decide +kernel
theorem dX1_numberFrom_12 : decode cX1_numberFrom 12 = .ok (.aload_n 0, 1) := by decide +kernel
theorem dX1_numberFrom_13 : decode cX1_numberFrom 13 = .ok (.iload_n 3, 1) := by decide +kernel
theorem dX1_numberFrom_14 : decode cX1_numberFrom 14 = .ok (.invokevirtual 19, 3) := by decide +kernel
theorem dX1_numberFrom_17 : decode cX1_numberFrom 17 = .ok (.invokestatic 35, 3) := by decide +kernel
theorem dX1_numberFrom_20 : decode cX1_numberFrom 20 = .ok (.ifCond .eq 23, 3) := by decide +kernel
theorem dX1_numberFrom_23 : decode cX1_numberFrom 23 = .ok (.bipush 10, 2) := by decide +kernel
theorem dX1_numberFrom_25 : decode cX1_numberFrom 25 = .ok (.iload_n 2, 1) := by decide +kernel
theorem dX1_numberFrom_26 : decode cX1_numberFrom 26 = .ok (.imul, 1) := by decide +kernel
theorem dX1_numberFrom_27 : decode cX1_numberFrom 27 = .ok (.aload_n 0, 1) := by decide +kernel
theorem dX1_numberFrom_28 : decode cX1_numberFrom 28 = .ok (.iload_n 3, 1) := by decide +kernel
theorem dX1_numberFrom_29 : decode cX1_numberFrom 29 = .ok (.invokevirtual 19, 3) := by decide +kernel
theorem dX1_numberFrom_32 : decode cX1_numberFrom 32 = .ok (.iadd, 1) := by decide +kernel
theorem dX1_numberFrom_33 : decode cX1_numberFrom 33 = .ok (.bipush 48, 2) := by decide +kernel
theorem dX1_numberFrom_35 : decode cX1_numberFrom 35 = .ok (.isub, 1) := by decide +kernel
theorem dX1_numberFrom_36 : decode cX1_numberFrom 36 = .ok (.istore_n 2, 1) := by decide +kernel
theorem dX1_numberFrom_37 : decode cX1_numberFrom 37 = .ok (.iinc 3 1, 3) := by decide +kernel
theorem dX1_numberFrom_40 : decode cX1_numberFrom 40 = .ok (.goto (-36), 3) := by decide +kernel
theorem dX1_numberFrom_43 : decode cX1_numberFrom 43 = .ok (.iload_n 2, 1) := by decide +kernel
theorem dX1_numberFrom_44 : decode cX1_numberFrom 44 = .ok (.ireturn, 1) := by decide +kernel
set_option maxRecDepth 20000 in
theorem ggX1_hoursInAll_X1_characterAt : GoodIn wsX1_hoursInAll wsX1_characterAt := goodIn_r _ [6, 1, 7, 15, 16] (by decide +kernel) (by decide +kernel)
set_option maxRecDepth 20000 in
theorem gX1_hoursInAll_X1_characterAt : GoodIn wsX1_hoursInAll (wsV RX1 19 RX1 yX1_characterAt wsX1_characterAt) := goodIn_app (goodIn_of _ (by decide +kernel)) ggX1_hoursInAll_X1_characterAt
set_option maxRecDepth 20000 in
theorem ggX1_hoursInAll_X1_numberFrom : GoodIn wsX1_hoursInAll wsX1_numberFrom := goodIn_r _ [11, 1, 2, 3, 4, 5, 6, 7, 12, 13, 14, 15, 16] (by decide +kernel) (by decide +kernel)
set_option maxRecDepth 20000 in
theorem gX1_hoursInAll_X1_numberFrom : GoodIn wsX1_hoursInAll (wsV RX1 45 RX1 yX1_numberFrom wsX1_numberFrom) := goodIn_app (goodIn_of _ (by decide +kernel)) ggX1_hoursInAll_X1_numberFrom
theorem dX1_hoursInAll_0 : decode cX1_hoursInAll 0 = .ok (.iconst 0, 1) := by decide +kernel
theorem dX1_hoursInAll_1 : decode cX1_hoursInAll 1 = .ok (.istore_n 1, 1) := by decide +kernel
theorem dX1_hoursInAll_2 : decode cX1_hoursInAll 2 = .ok (.iconst 0, 1) := by decide +kernel
theorem dX1_hoursInAll_3 : decode cX1_hoursInAll 3 = .ok (.istore_n 2, 1) := by decide +kernel
theorem dX1_hoursInAll_4 : decode cX1_hoursInAll 4 = .ok (.iload_n 2, 1) := by decide +kernel
theorem dX1_hoursInAll_5 : decode cX1_hoursInAll 5 = .ok (.aload_n 0, 1) := by decide +kernel
theorem dX1_hoursInAll_6 : decode cX1_hoursInAll 6 = .ok (.getfield 15, 3) := by decide +kernel
theorem dX1_hoursInAll_9 : decode cX1_hoursInAll 9 = .ok (.if_icmp .ge 29, 3) := by decide +kernel
theorem dX1_hoursInAll_12 : decode cX1_hoursInAll 12 = .ok (.aload_n 0, 1) := by decide +kernel
theorem dX1_hoursInAll_13 : decode cX1_hoursInAll 13 = .ok (.iload_n 2, 1) := by decide +kernel
theorem dX1_hoursInAll_14 : decode cX1_hoursInAll 14 = .ok (.invokevirtual 19, 3) := by decide +kernel
theorem dX1_hoursInAll_17 : decode cX1_hoursInAll 17 = .ok (.bipush 112, 2) := by decide +kernel
theorem dX1_hoursInAll_19 : decode cX1_hoursInAll 19 = .ok (.if_icmp .ne 13, 3) := by decide +kernel
theorem dX1_hoursInAll_22 : decode cX1_hoursInAll 22 = .ok (.iload_n 1, 1) := by decide +kernel
theorem dX1_hoursInAll_23 : decode cX1_hoursInAll 23 = .ok (.aload_n 0, 1) := by decide +kernel
theorem dX1_hoursInAll_24 : decode cX1_hoursInAll 24 = .ok (.iload_n 2, 1) := by decide +kernel
theorem dX1_hoursInAll_25 : decode cX1_hoursInAll 25 = .ok (.iconst 1, 1) := by decide +kernel
theorem dX1_hoursInAll_26 : decode cX1_hoursInAll 26 = .ok (.iadd, 1) := by decide +kernel
theorem dX1_hoursInAll_27 : decode cX1_hoursInAll 27 = .ok (.invokevirtual 45, 3) := by decide +kernel
theorem dX1_hoursInAll_30 : decode cX1_hoursInAll 30 = .ok (.iadd, 1) := by decide +kernel
theorem dX1_hoursInAll_31 : decode cX1_hoursInAll 31 = .ok (.istore_n 1, 1) := by decide +kernel
theorem dX1_hoursInAll_32 : decode cX1_hoursInAll 32 = .ok (.iinc 2 1, 3) := by decide +kernel
theorem dX1_hoursInAll_35 : decode cX1_hoursInAll 35 = .ok (.goto (-31), 3) := by decide +kernel
theorem dX1_hoursInAll_38 : decode cX1_hoursInAll 38 = .ok (.iload_n 1, 1) := by decide +kernel
theorem dX1_hoursInAll_39 : decode cX1_hoursInAll 39 = .ok (.ireturn, 1) := by decide +kernel
set_option maxRecDepth 20000 in
theorem ggX2_init_X3_init : GoodIn wsX2_init wsX3_init := goodIn_r _ [14, 15, 2, 3, 16, 17, 18, 7, 19, 20, 21, 22, 76, 77, 78] (by decide +kernel) (by decide +kernel)
set_option maxRecDepth 20000 in
theorem gX2_init_X3_init : GoodIn wsX2_init (wsX3_init) := ggX2_init_X3_init
set_option maxRecDepth 20000 in
theorem ggX2_init_X0_init : GoodIn wsX2_init wsX0_init := goodIn_r _ [25, 26, 2, 3, 27, 28, 29, 30, 31, 32, 33, 34, 35, 11, 36, 37, 38, 39, 40, 41, 42, 43, 79, 80, 81, 82, 83, 84, 85, 86, 87, 88, 89, 90, 91, 92, 93] (by decide +kernel) (by decide +kernel)
set_option maxRecDepth 20000 in
theorem gX2_init_X0_init : GoodIn wsX2_init (wsX0_init) := ggX2_init_X0_init
set_option maxRecDepth 20000 in
theorem ggX2_init_X2_settleFloat : GoodIn wsX2_init wsX2_settleFloat := goodIn_r _ [48, 49, 50, 51, 52, 47, 53, 54, 55, 56, 57, 58, 59, 60, 5, 61, 62, 63, 7, 64, 21, 22, 20, 65, 66, 67, 68, 69, 70, 71, 72, 79, 80, 81, 82, 83, 84, 85, 86, 87, 88, 89, 90, 91, 92, 93, 73, 74, 75, 76, 77, 78] (by decide +kernel) (by decide +kernel)
set_option maxRecDepth 20000 in
theorem gX2_init_X2_settleFloat : GoodIn wsX2_init (wsV RX2 29 RX2 yX2_settleFloat wsX2_settleFloat) := goodIn_app (goodIn_of _ (by decide +kernel)) ggX2_init_X2_settleFloat
theorem dX2_init_0 : decode cX2_init 0 = .ok (.aload_n 0, 1) := by decide +kernel
theorem dX2_init_1 : decode cX2_init 1 = .ok (.invokespecial 3, 3) := by decide +kernel
theorem dX2_init_4 : decode cX2_init 4 = .ok (.aload_n 0, 1) := by decide +kernel
theorem dX2_init_5 : decode cX2_init 5 = .ok (.iconst 3, 1) := by decide +kernel
theorem dX2_init_6 : decode cX2_init 6 = .ok (.anewarray 9, 3) := by decide +kernel
theorem dX2_init_9 : decode cX2_init 9 = .ok (.putfield 11, 3) := by decide +kernel
theorem dX2_init_12 : decode cX2_init 12 = .ok (.aload_n 0, 1) := by decide +kernel
theorem dX2_init_13 : decode cX2_init 13 = .ok (.getfield 11, 3) := by decide +kernel
theorem dX2_init_16 : decode cX2_init 16 = .ok (.iconst 0, 1) := by decide +kernel
theorem dX2_init_17 : decode cX2_init 17 = .ok (.new 9, 3) := by decide +kernel
theorem dX2_init_20 : decode cX2_init 20 = .ok (.dup, 1) := by decide +kernel
theorem dX2_init_21 : decode cX2_init 21 = .ok (.sipush 1000, 3) := by decide +kernel
theorem dX2_init_24 : decode cX2_init 24 = .ok (.bipush 12, 2) := by decide +kernel
theorem dX2_init_26 : decode cX2_init 26 = .ok (.iconst 0, 1) := by decide +kernel
theorem dX2_init_27 : decode cX2_init 27 = .ok (.invokespecial 17, 3) := by decide +kernel
theorem dX2_init_30 : decode cX2_init 30 = .ok (.aastore, 1) := by decide +kernel
theorem dX2_init_31 : decode cX2_init 31 = .ok (.iconst 1, 1) := by decide +kernel
theorem dX2_init_32 : decode cX2_init 32 = .ok (.istore_n 1, 1) := by decide +kernel
theorem dX2_init_33 : decode cX2_init 33 = .ok (.iload_n 1, 1) := by decide +kernel
theorem dX2_init_34 : decode cX2_init 34 = .ok (.iconst 3, 1) := by decide +kernel
theorem dX2_init_35 : decode cX2_init 35 = .ok (.if_icmp .ge 26, 3) := by decide +kernel
theorem dX2_init_38 : decode cX2_init 38 = .ok (.aload_n 0, 1) := by decide +kernel
theorem dX2_init_39 : decode cX2_init 39 = .ok (.getfield 11, 3) := by decide +kernel
theorem dX2_init_42 : decode cX2_init 42 = .ok (.iload_n 1, 1) := by decide +kernel
theorem dX2_init_43 : decode cX2_init 43 = .ok (.new 9, 3) := by decide +kernel
theorem dX2_init_46 : decode cX2_init 46 = .ok (.dup, 1) := by decide +kernel
theorem dX2_init_47 : decode cX2_init 47 = .ok (.iconst 0, 1) := by decide +kernel
theorem dX2_init_48 : decode cX2_init 48 = .ok (.bipush 24, 2) := by decide +kernel
theorem dX2_init_50 : decode cX2_init 50 = .ok (.iconst 0, 1) := by decide +kernel
theorem dX2_init_51 : decode cX2_init 51 = .ok (.invokespecial 17, 3) := by decide +kernel
theorem dX2_init_54 : decode cX2_init 54 = .ok (.aastore, 1) := by decide +kernel
theorem dX2_init_55 : decode cX2_init 55 = .ok (.iinc 1 1, 3) := by decide +kernel
theorem dX2_init_58 : decode cX2_init 58 = .ok (.goto (-25), 3) := by decide +kernel
theorem dX2_init_61 : decode cX2_init 61 = .ok (.aload_n 0, 1) := by decide +kernel
theorem dX2_init_62 : decode cX2_init 62 = .ok (.iconst 3, 1) := by decide +kernel
theorem dX2_init_63 : decode cX2_init 63 = .ok (.anewarray 20, 3) := by decide +kernel
theorem dX2_init_66 : decode cX2_init 66 = .ok (.putfield 22, 3) := by decide +kernel
theorem dX2_init_69 : decode cX2_init 69 = .ok (.iconst 0, 1) := by decide +kernel
theorem dX2_init_70 : decode cX2_init 70 = .ok (.istore_n 1, 1) := by decide +kernel
theorem dX2_init_71 : decode cX2_init 71 = .ok (.iload_n 1, 1) := by decide +kernel
theorem dX2_init_72 : decode cX2_init 72 = .ok (.iconst 3, 1) := by decide +kernel
theorem dX2_init_73 : decode cX2_init 73 = .ok (.if_icmp .ge 33, 3) := by decide +kernel
theorem dX2_init_76 : decode cX2_init 76 = .ok (.aload_n 0, 1) := by decide +kernel
theorem dX2_init_77 : decode cX2_init 77 = .ok (.getfield 22, 3) := by decide +kernel
theorem dX2_init_80 : decode cX2_init 80 = .ok (.iload_n 1, 1) := by decide +kernel
theorem dX2_init_81 : decode cX2_init 81 = .ok (.new 20, 3) := by decide +kernel
theorem dX2_init_84 : decode cX2_init 84 = .ok (.dup, 1) := by decide +kernel
theorem dX2_init_85 : decode cX2_init 85 = .ok (.iload_n 1, 1) := by decide +kernel
theorem dX2_init_86 : decode cX2_init 86 = .ok (.invokespecial 26, 3) := by decide +kernel
theorem dX2_init_89 : decode cX2_init 89 = .ok (.aastore, 1) := by decide +kernel
theorem dX2_init_90 : decode cX2_init 90 = .ok (.aload_n 0, 1) := by decide +kernel
theorem dX2_init_91 : decode cX2_init 91 = .ok (.aload_n 0, 1) := by decide +kernel
theorem dX2_init_92 : decode cX2_init 92 = .ok (.getfield 22, 3) := by decide +kernel
theorem dX2_init_95 : decode cX2_init 95 = .ok (.iload_n 1, 1) := by decide +kernel
theorem dX2_init_96 : decode cX2_init 96 = .ok (.aaload, 1) := by decide +kernel
theorem dX2_init_97 : decode cX2_init 97 = .ok (.invokevirtual 29, 3) := by decide +kernel
theorem dX2_init_100 : decode cX2_init 100 = .ok (.iinc 1 1, 3) := by decide +kernel
theorem dX2_init_103 : decode cX2_init 103 = .ok (.goto (-32), 3) := by decide +kernel
theorem dX2_init_106 : decode cX2_init 106 = .ok (.return_, 1) := by decide +kernel
set_option maxRecDepth 20000 in
theorem ggX2_copyFrom_X3_become : GoodIn wsX2_copyFrom wsX3_become := goodIn_r _ [11, 12, 13, 14, 46, 47, 48] (by decide +kernel) (by decide +kernel)
set_option maxRecDepth 20000 in
theorem gX2_copyFrom_X3_become : GoodIn wsX2_copyFrom (wsV RX2 46 RX3 yX3_become wsX3_become) := goodIn_app (goodIn_of _ (by decide +kernel)) ggX2_copyFrom_X3_become
set_option maxRecDepth 20000 in
theorem ggX2_copyFrom_X0_copyFrom : GoodIn wsX2_copyFrom wsX0_copyFrom := goodIn_r _ [19, 20, 21, 22, 23, 24, 25, 26, 27, 28, 29, 30, 31, 32, 33, 34, 35, 36, 37, 38, 39, 40, 41, 18, 42, 49, 50, 51, 52, 53, 54, 55, 56, 57, 58, 59, 60, 61, 62, 63] (by decide +kernel) (by decide +kernel)
set_option maxRecDepth 20000 in
theorem gX2_copyFrom_X0_copyFrom : GoodIn wsX2_copyFrom (wsV RX2 49 RX0 yX0_copyFrom wsX0_copyFrom) := goodIn_app (goodIn_of _ (by decide +kernel)) ggX2_copyFrom_X0_copyFrom
theorem dX2_copyFrom_0 : decode cX2_copyFrom 0 = .ok (.aload_n 0, 1) := by decide +kernel
theorem dX2_copyFrom_1 : decode cX2_copyFrom 1 = .ok (.aload_n 1, 1) := by decide +kernel
theorem dX2_copyFrom_2 : decode cX2_copyFrom 2 = .ok (.getfield 33, 3) := by decide +kernel
theorem dX2_copyFrom_5 : decode cX2_copyFrom 5 = .ok (.putfield 33, 3) := by decide +kernel
theorem dX2_copyFrom_8 : decode cX2_copyFrom 8 = .ok (.iconst 0, 1) := by decide +kernel
theorem dX2_copyFrom_9 : decode cX2_copyFrom 9 = .ok (.istore_n 2, 1) := by decide +kernel
theorem dX2_copyFrom_10 : decode cX2_copyFrom 10 = .ok (.iload_n 2, 1) := by decide +kernel
theorem dX2_copyFrom_11 : decode cX2_copyFrom 11 = .ok (.iconst 3, 1) := by decide +kernel
theorem dX2_copyFrom_12 : decode cX2_copyFrom 12 = .ok (.if_icmp .ge 45, 3) := by decide +kernel
theorem dX2_copyFrom_15 : decode cX2_copyFrom 15 = .ok (.aload_n 0, 1) := by decide +kernel
theorem dX2_copyFrom_16 : decode cX2_copyFrom 16 = .ok (.getfield 11, 3) := by decide +kernel
theorem dX2_copyFrom_19 : decode cX2_copyFrom 19 = .ok (.iload_n 2, 1) := by decide +kernel
theorem dX2_copyFrom_20 : decode cX2_copyFrom 20 = .ok (.aaload, 1) := by decide +kernel
theorem dX2_copyFrom_21 : decode cX2_copyFrom 21 = .ok (.aload_n 1, 1) := by decide +kernel
theorem dX2_copyFrom_22 : decode cX2_copyFrom 22 = .ok (.getfield 11, 3) := by decide +kernel
theorem dX2_copyFrom_25 : decode cX2_copyFrom 25 = .ok (.iload_n 2, 1) := by decide +kernel
theorem dX2_copyFrom_26 : decode cX2_copyFrom 26 = .ok (.aaload, 1) := by decide +kernel
theorem dX2_copyFrom_27 : decode cX2_copyFrom 27 = .ok (.getfield 37, 3) := by decide +kernel
theorem dX2_copyFrom_30 : decode cX2_copyFrom 30 = .ok (.aload_n 1, 1) := by decide +kernel
theorem dX2_copyFrom_31 : decode cX2_copyFrom 31 = .ok (.getfield 11, 3) := by decide +kernel
theorem dX2_copyFrom_34 : decode cX2_copyFrom 34 = .ok (.iload_n 2, 1) := by decide +kernel
theorem dX2_copyFrom_35 : decode cX2_copyFrom 35 = .ok (.aaload, 1) := by decide +kernel
theorem dX2_copyFrom_36 : decode cX2_copyFrom 36 = .ok (.getfield 40, 3) := by decide +kernel
theorem dX2_copyFrom_39 : decode cX2_copyFrom 39 = .ok (.aload_n 1, 1) := by decide +kernel
theorem dX2_copyFrom_40 : decode cX2_copyFrom 40 = .ok (.getfield 11, 3) := by decide +kernel
theorem dX2_copyFrom_43 : decode cX2_copyFrom 43 = .ok (.iload_n 2, 1) := by decide +kernel
theorem dX2_copyFrom_44 : decode cX2_copyFrom 44 = .ok (.aaload, 1) := by decide +kernel
theorem dX2_copyFrom_45 : decode cX2_copyFrom 45 = .ok (.getfield 43, 3) := by decide +kernel
theorem dX2_copyFrom_48 : decode cX2_copyFrom 48 = .ok (.invokevirtual 46, 3) := by decide +kernel
theorem dX2_copyFrom_51 : decode cX2_copyFrom 51 = .ok (.iinc 2 1, 3) := by decide +kernel
theorem dX2_copyFrom_54 : decode cX2_copyFrom 54 = .ok (.goto (-44), 3) := by decide +kernel
theorem dX2_copyFrom_57 : decode cX2_copyFrom 57 = .ok (.iconst 0, 1) := by decide +kernel
theorem dX2_copyFrom_58 : decode cX2_copyFrom 58 = .ok (.istore_n 2, 1) := by decide +kernel
theorem dX2_copyFrom_59 : decode cX2_copyFrom 59 = .ok (.iload_n 2, 1) := by decide +kernel
theorem dX2_copyFrom_60 : decode cX2_copyFrom 60 = .ok (.iconst 3, 1) := by decide +kernel
theorem dX2_copyFrom_61 : decode cX2_copyFrom 61 = .ok (.if_icmp .ge 24, 3) := by decide +kernel
theorem dX2_copyFrom_64 : decode cX2_copyFrom 64 = .ok (.aload_n 0, 1) := by decide +kernel
theorem dX2_copyFrom_65 : decode cX2_copyFrom 65 = .ok (.getfield 22, 3) := by decide +kernel
theorem dX2_copyFrom_68 : decode cX2_copyFrom 68 = .ok (.iload_n 2, 1) := by decide +kernel
theorem dX2_copyFrom_69 : decode cX2_copyFrom 69 = .ok (.aaload, 1) := by decide +kernel
theorem dX2_copyFrom_70 : decode cX2_copyFrom 70 = .ok (.aload_n 1, 1) := by decide +kernel
theorem dX2_copyFrom_71 : decode cX2_copyFrom 71 = .ok (.getfield 22, 3) := by decide +kernel
theorem dX2_copyFrom_74 : decode cX2_copyFrom 74 = .ok (.iload_n 2, 1) := by decide +kernel
theorem dX2_copyFrom_75 : decode cX2_copyFrom 75 = .ok (.aaload, 1) := by decide +kernel
theorem dX2_copyFrom_76 : decode cX2_copyFrom 76 = .ok (.invokevirtual 49, 3) := by decide +kernel
theorem dX2_copyFrom_79 : decode cX2_copyFrom 79 = .ok (.iinc 2 1, 3) := by decide +kernel
theorem dX2_copyFrom_82 : decode cX2_copyFrom 82 = .ok (.goto (-23), 3) := by decide +kernel
theorem dX2_copyFrom_85 : decode cX2_copyFrom 85 = .ok (.return_, 1) := by decide +kernel
set_option maxRecDepth 20000 in
theorem ggX2_seaAt_X3_heightAt : GoodIn wsX2_seaAt wsX3_heightAt := goodIn_r _ [6, 7, 8, 9, 10, 11, 12, 13, 14, 15, 16, 20, 21, 22] (by decide +kernel) (by decide +kernel)
set_option maxRecDepth 20000 in
theorem gX2_seaAt_X3_heightAt : GoodIn wsX2_seaAt (wsV RX2 52 RX3 yX3_heightAt wsX3_heightAt) := goodIn_app (goodIn_of _ (by decide +kernel)) ggX2_seaAt_X3_heightAt
theorem dX2_seaAt_0 : decode cX2_seaAt 0 = .ok (.iconst 0, 1) := by decide +kernel
theorem dX2_seaAt_1 : decode cX2_seaAt 1 = .ok (.istore_n 2, 1) := by decide +kernel
theorem dX2_seaAt_2 : decode cX2_seaAt 2 = .ok (.iconst 0, 1) := by decide +kernel
theorem dX2_seaAt_3 : decode cX2_seaAt 3 = .ok (.istore_n 3, 1) := by decide +kernel
theorem dX2_seaAt_4 : decode cX2_seaAt 4 = .ok (.iload_n 3, 1) := by decide +kernel
theorem dX2_seaAt_5 : decode cX2_seaAt 5 = .ok (.iconst 3, 1) := by decide +kernel
theorem dX2_seaAt_6 : decode cX2_seaAt 6 = .ok (.if_icmp .ge 22, 3) := by decide +kernel
theorem dX2_seaAt_9 : decode cX2_seaAt 9 = .ok (.iload_n 2, 1) := by decide +kernel
theorem dX2_seaAt_10 : decode cX2_seaAt 10 = .ok (.aload_n 0, 1) := by decide +kernel
theorem dX2_seaAt_11 : decode cX2_seaAt 11 = .ok (.getfield 11, 3) := by decide +kernel
theorem dX2_seaAt_14 : decode cX2_seaAt 14 = .ok (.iload_n 3, 1) := by decide +kernel
theorem dX2_seaAt_15 : decode cX2_seaAt 15 = .ok (.aaload, 1) := by decide +kernel
theorem dX2_seaAt_16 : decode cX2_seaAt 16 = .ok (.iload_n 1, 1) := by decide +kernel
theorem dX2_seaAt_17 : decode cX2_seaAt 17 = .ok (.invokevirtual 52, 3) := by decide +kernel
theorem dX2_seaAt_20 : decode cX2_seaAt 20 = .ok (.iadd, 1) := by decide +kernel
theorem dX2_seaAt_21 : decode cX2_seaAt 21 = .ok (.istore_n 2, 1) := by decide +kernel
theorem dX2_seaAt_22 : decode cX2_seaAt 22 = .ok (.iinc 3 1, 3) := by decide +kernel
theorem dX2_seaAt_25 : decode cX2_seaAt 25 = .ok (.goto (-21), 3) := by decide +kernel
theorem dX2_seaAt_28 : decode cX2_seaAt 28 = .ok (.iload_n 2, 1) := by decide +kernel
theorem dX2_seaAt_29 : decode cX2_seaAt 29 = .ok (.ireturn, 1) := by decide +kernel
set_option maxRecDepth 20000 in
theorem ggX2_waterAt_X2_seaAt : GoodIn wsX2_waterAt wsX2_seaAt := goodIn_r _ [8, 9, 10, 11, 12, 13, 14, 15, 16, 17, 18, 19, 20, 21, 22, 23, 24, 41, 42, 43, 44, 45, 46] (by decide +kernel) (by decide +kernel)
set_option maxRecDepth 20000 in
theorem gX2_waterAt_X2_seaAt : GoodIn wsX2_waterAt (wsV RX2 62 RX2 yX2_seaAt wsX2_seaAt) := goodIn_app (goodIn_of _ (by decide +kernel)) ggX2_waterAt_X2_seaAt
set_option maxRecDepth 20000 in
theorem ggX2_waterAt_J9_floorDiv_7cf53 : GoodIn wsX2_waterAt wsJ9_floorDiv_7cf53 := goodIn_r _ [24] (by decide +kernel) (by decide +kernel)
set_option maxRecDepth 20000 in
theorem gX2_waterAt_J9_floorDiv_7cf53 : GoodIn wsX2_waterAt (va_wsS RX2 65 yJ9_floorDiv_7cf53 wsJ9_floorDiv_7cf53) := goodIn_app (goodIn_of _ (by decide +kernel)) ggX2_waterAt_J9_floorDiv_7cf53
theorem dX2_waterAt_0 : decode cX2_waterAt 0 = .ok (.aload_n 1, 1) := by decide +kernel
theorem dX2_waterAt_1 : decode cX2_waterAt 1 = .ok (.getfield 56, 3) := by decide +kernel
theorem dX2_waterAt_4 : decode cX2_waterAt 4 = .ok (.aload_n 0, 1) := by decide +kernel
theorem dX2_waterAt_5 : decode cX2_waterAt 5 = .ok (.iload_n 2, 1) := by decide +kernel
theorem dX2_waterAt_6 : decode cX2_waterAt 6 = .ok (.aload_n 1, 1) := by decide +kernel
theorem dX2_waterAt_7 : decode cX2_waterAt 7 = .ok (.getfield 59, 3) := by decide +kernel
theorem dX2_waterAt_10 : decode cX2_waterAt 10 = .ok (.isub, 1) := by decide +kernel
theorem dX2_waterAt_11 : decode cX2_waterAt 11 = .ok (.invokevirtual 62, 3) := by decide +kernel
theorem dX2_waterAt_14 : decode cX2_waterAt 14 = .ok (.imul, 1) := by decide +kernel
theorem dX2_waterAt_15 : decode cX2_waterAt 15 = .ok (.bipush 100, 2) := by decide +kernel
theorem dX2_waterAt_17 : decode cX2_waterAt 17 = .ok (.invokestatic 65, 3) := by decide +kernel
theorem dX2_waterAt_20 : decode cX2_waterAt 20 = .ok (.aload_n 1, 1) := by decide +kernel
theorem dX2_waterAt_21 : decode cX2_waterAt 21 = .ok (.getfield 71, 3) := by decide +kernel
theorem dX2_waterAt_24 : decode cX2_waterAt 24 = .ok (.iadd, 1) := by decide +kernel
theorem dX2_waterAt_25 : decode cX2_waterAt 25 = .ok (.ireturn, 1) := by decide +kernel
set_option maxRecDepth 20000 in
theorem ggX2_settleFloat_X2_waterAt : GoodIn wsX2_settleFloat wsX2_waterAt := goodIn_r _ [6, 7, 8, 9, 10, 11, 12, 5, 13, 14, 15, 16, 17, 18, 19, 20, 21, 22, 23, 24, 25, 26, 27, 28, 29, 30, 31, 32, 33, 34, 35, 36, 37, 38, 39, 40, 41, 42, 43, 44, 45, 46, 47, 48, 49, 50, 51] (by decide +kernel) (by decide +kernel)
set_option maxRecDepth 20000 in
theorem gX2_settleFloat_X2_waterAt : GoodIn wsX2_settleFloat (wsV RX2 74 RX2 yX2_waterAt wsX2_waterAt) := goodIn_app (goodIn_of _ (by decide +kernel)) ggX2_settleFloat_X2_waterAt
theorem dX2_settleFloat_0 : decode cX2_settleFloat 0 = .ok (.aload_n 1, 1) := by decide +kernel
theorem dX2_settleFloat_1 : decode cX2_settleFloat 1 = .ok (.aload_n 0, 1) := by decide +kernel
theorem dX2_settleFloat_2 : decode cX2_settleFloat 2 = .ok (.aload_n 1, 1) := by decide +kernel
theorem dX2_settleFloat_3 : decode cX2_settleFloat 3 = .ok (.iconst 0, 1) := by decide +kernel
theorem dX2_settleFloat_4 : decode cX2_settleFloat 4 = .ok (.invokevirtual 74, 3) := by decide +kernel
theorem dX2_settleFloat_7 : decode cX2_settleFloat 7 = .ok (.putfield 78, 3) := by decide +kernel
theorem dX2_settleFloat_10 : decode cX2_settleFloat 10 = .ok (.return_, 1) := by decide +kernel
set_option maxRecDepth 20000 in
theorem ggX2_settleFloats_X2_settleFloat : GoodIn wsX2_settleFloats wsX2_settleFloat := goodIn_r _ [6, 7, 8, 9, 10, 5, 11, 12, 13, 14, 15, 16, 17, 18, 19, 20, 21, 22, 23, 24, 25, 26, 27, 28, 29, 30, 31, 32, 33, 34, 35, 39, 40, 41, 42, 43, 44, 45, 46, 47, 48, 49, 50, 51, 52, 53, 36, 37, 38, 54, 55, 56] (by decide +kernel) (by decide +kernel)
set_option maxRecDepth 20000 in
theorem gX2_settleFloats_X2_settleFloat : GoodIn wsX2_settleFloats (wsV RX2 29 RX2 yX2_settleFloat wsX2_settleFloat) := goodIn_app (goodIn_of _ (by decide +kernel)) ggX2_settleFloats_X2_settleFloat
theorem dX2_settleFloats_0 : decode cX2_settleFloats 0 = .ok (.iconst 0, 1) := by decide +kernel
theorem dX2_settleFloats_1 : decode cX2_settleFloats 1 = .ok (.istore_n 1, 1) := by decide +kernel
theorem dX2_settleFloats_2 : decode cX2_settleFloats 2 = .ok (.iload_n 1, 1) := by decide +kernel
theorem dX2_settleFloats_3 : decode cX2_settleFloats 3 = .ok (.iconst 3, 1) := by decide +kernel
theorem dX2_settleFloats_4 : decode cX2_settleFloats 4 = .ok (.if_icmp .ge 19, 3) := by decide +kernel
theorem dX2_settleFloats_7 : decode cX2_settleFloats 7 = .ok (.aload_n 0, 1) := by decide +kernel
theorem dX2_settleFloats_8 : decode cX2_settleFloats 8 = .ok (.aload_n 0, 1) := by decide +kernel
theorem dX2_settleFloats_9 : decode cX2_settleFloats 9 = .ok (.getfield 22, 3) := by decide +kernel
theorem dX2_settleFloats_12 : decode cX2_settleFloats 12 = .ok (.iload_n 1, 1) := by decide +kernel
theorem dX2_settleFloats_13 : decode cX2_settleFloats 13 = .ok (.aaload, 1) := by decide +kernel
theorem dX2_settleFloats_14 : decode cX2_settleFloats 14 = .ok (.invokevirtual 29, 3) := by decide +kernel
theorem dX2_settleFloats_17 : decode cX2_settleFloats 17 = .ok (.iinc 1 1, 3) := by decide +kernel
theorem dX2_settleFloats_20 : decode cX2_settleFloats 20 = .ok (.goto (-18), 3) := by decide +kernel
theorem dX2_settleFloats_23 : decode cX2_settleFloats 23 = .ok (.return_, 1) := by decide +kernel
set_option maxRecDepth 20000 in
theorem ggX2_passHours_X2_waterAt : GoodIn wsX2_passHours wsX2_waterAt := goodIn_r _ [7, 8, 9, 10, 11, 12, 13, 6, 14, 15, 16, 17, 18, 19, 20, 21, 22, 23, 24, 25, 26, 27, 28, 29, 30, 31, 54, 55, 56, 57, 58, 59, 60, 61, 62, 63, 64, 65, 66, 67, 68, 51, 52, 53, 69, 70, 71] (by decide +kernel) (by decide +kernel)
set_option maxRecDepth 20000 in
theorem gX2_passHours_X2_waterAt : GoodIn wsX2_passHours (wsV RX2 74 RX2 yX2_waterAt wsX2_waterAt) := goodIn_app (goodIn_of _ (by decide +kernel)) ggX2_passHours_X2_waterAt
set_option maxRecDepth 20000 in
theorem ggX2_passHours_X0_passHour : GoodIn wsX2_passHours wsX0_passHour := goodIn_r _ [36, 37, 38, 39, 40, 41, 42, 43, 44, 45, 46, 47, 29, 26, 30, 48, 49, 35, 50, 54, 55, 56, 57, 58, 59, 60, 61, 62, 63, 64, 65, 66, 67, 68] (by decide +kernel) (by decide +kernel)
set_option maxRecDepth 20000 in
theorem gX2_passHours_X0_passHour : GoodIn wsX2_passHours (wsV RX2 81 RX0 yX0_passHour wsX0_passHour) := goodIn_app (goodIn_of _ (by decide +kernel)) ggX2_passHours_X0_passHour
theorem dX2_passHours_0 : decode cX2_passHours 0 = .ok (.iconst 0, 1) := by decide +kernel
theorem dX2_passHours_1 : decode cX2_passHours 1 = .ok (.istore_n 2, 1) := by decide +kernel
theorem dX2_passHours_2 : decode cX2_passHours 2 = .ok (.iload_n 2, 1) := by decide +kernel
theorem dX2_passHours_3 : decode cX2_passHours 3 = .ok (.iload_n 1, 1) := by decide +kernel
theorem dX2_passHours_4 : decode cX2_passHours 4 = .ok (.if_icmp .ge 68, 3) := by decide +kernel
theorem dX2_passHours_7 : decode cX2_passHours 7 = .ok (.aload_n 0, 1) := by decide +kernel
theorem dX2_passHours_8 : decode cX2_passHours 8 = .ok (.getfield 33, 3) := by decide +kernel
theorem dX2_passHours_11 : decode cX2_passHours 11 = .ok (.bipush 120, 2) := by decide +kernel
theorem dX2_passHours_13 : decode cX2_passHours 13 = .ok (.if_icmp .ge 59, 3) := by decide +kernel
theorem dX2_passHours_16 : decode cX2_passHours 16 = .ok (.iconst 0, 1) := by decide +kernel
theorem dX2_passHours_17 : decode cX2_passHours 17 = .ok (.istore_n 3, 1) := by decide +kernel
theorem dX2_passHours_18 : decode cX2_passHours 18 = .ok (.iload_n 3, 1) := by decide +kernel
theorem dX2_passHours_19 : decode cX2_passHours 19 = .ok (.iconst 3, 1) := by decide +kernel
theorem dX2_passHours_20 : decode cX2_passHours 20 = .ok (.if_icmp .ge 36, 3) := by decide +kernel
theorem dX2_passHours_23 : decode cX2_passHours 23 = .ok (.aload_n 0, 1) := by decide +kernel
theorem dX2_passHours_24 : decode cX2_passHours 24 = .ok (.getfield 22, 3) := by decide +kernel
theorem dX2_passHours_27 : decode cX2_passHours 27 = .ok (.iload_n 3, 1) := by decide +kernel
theorem dX2_passHours_28 : decode cX2_passHours 28 = .ok (.aaload, 1) := by decide +kernel
theorem dX2_passHours_29 : decode cX2_passHours 29 = .ok (.aload_n 0, 1) := by decide +kernel
theorem dX2_passHours_30 : decode cX2_passHours 30 = .ok (.getfield 33, 3) := by decide +kernel
theorem dX2_passHours_33 : decode cX2_passHours 33 = .ok (.aload_n 0, 1) := by decide +kernel
theorem dX2_passHours_34 : decode cX2_passHours 34 = .ok (.aload_n 0, 1) := by decide +kernel
theorem dX2_passHours_35 : decode cX2_passHours 35 = .ok (.getfield 22, 3) := by decide +kernel
theorem dX2_passHours_38 : decode cX2_passHours 38 = .ok (.iload_n 3, 1) := by decide +kernel
theorem dX2_passHours_39 : decode cX2_passHours 39 = .ok (.aaload, 1) := by decide +kernel
theorem dX2_passHours_40 : decode cX2_passHours 40 = .ok (.aload_n 0, 1) := by decide +kernel
theorem dX2_passHours_41 : decode cX2_passHours 41 = .ok (.getfield 33, 3) := by decide +kernel
theorem dX2_passHours_44 : decode cX2_passHours 44 = .ok (.invokevirtual 74, 3) := by decide +kernel
theorem dX2_passHours_47 : decode cX2_passHours 47 = .ok (.invokevirtual 81, 3) := by decide +kernel
theorem dX2_passHours_50 : decode cX2_passHours 50 = .ok (.iinc 3 1, 3) := by decide +kernel
theorem dX2_passHours_53 : decode cX2_passHours 53 = .ok (.goto (-35), 3) := by decide +kernel
theorem dX2_passHours_56 : decode cX2_passHours 56 = .ok (.aload_n 0, 1) := by decide +kernel
theorem dX2_passHours_57 : decode cX2_passHours 57 = .ok (.dup, 1) := by decide +kernel
theorem dX2_passHours_58 : decode cX2_passHours 58 = .ok (.getfield 33, 3) := by decide +kernel
theorem dX2_passHours_61 : decode cX2_passHours 61 = .ok (.iconst 1, 1) := by decide +kernel
theorem dX2_passHours_62 : decode cX2_passHours 62 = .ok (.iadd, 1) := by decide +kernel
theorem dX2_passHours_63 : decode cX2_passHours 63 = .ok (.putfield 33, 3) := by decide +kernel
theorem dX2_passHours_66 : decode cX2_passHours 66 = .ok (.iinc 2 1, 3) := by decide +kernel
theorem dX2_passHours_69 : decode cX2_passHours 69 = .ok (.goto (-67), 3) := by decide +kernel
theorem dX2_passHours_72 : decode cX2_passHours 72 = .ok (.return_, 1) := by decide +kernel
set_option maxRecDepth 20000 in
theorem ggX2_obey_X2_passHours : GoodIn wsX2_obey wsX2_passHours := goodIn_r _ [6, 7, 1, 8, 9, 10, 5, 11, 12, 13, 14, 15, 16, 17, 18, 19, 20, 21, 22, 23, 24, 25, 26, 27, 28, 29, 30, 31, 32, 33, 34, 35, 36, 37, 38, 39, 40, 41, 42, 43, 44, 45, 46, 47, 48, 49, 50, 51, 52, 53, 54, 81, 82, 83, 84, 85, 86, 87, 88, 89, 90, 91, 92, 93, 94, 95, 96, 97, 98, 99, 100, 101] (by decide +kernel) (by decide +kernel)
set_option maxRecDepth 20000 in
theorem gX2_obey_X2_passHours : GoodIn wsX2_obey (wsV RX2 85 RX2 yX2_passHours wsX2_passHours) := goodIn_app (goodIn_of _ (by decide +kernel)) ggX2_obey_X2_passHours
set_option maxRecDepth 20000 in
theorem ggX2_obey_X4_isStation : GoodIn wsX2_obey wsX4_isStation := goodIn_r _ [57] (by decide +kernel) (by decide +kernel)
set_option maxRecDepth 20000 in
theorem gX2_obey_X4_isStation_n88 : GoodIn wsX2_obey (wsX4_isStation) := ggX2_obey_X4_isStation
set_option maxRecDepth 20000 in
theorem ggX2_obey_X2_obeyAt : GoodIn wsX2_obey wsX2_obeyAt := goodIn_r _ [61, 62, 63, 7, 64, 65, 66, 39, 67, 68, 69, 70, 71, 72, 47, 48, 46, 73, 74, 75, 76, 77, 78, 56, 79, 80, 33, 30, 34, 84, 85, 86, 87, 88, 89, 90, 91, 92, 93, 94, 95, 96, 97, 98, 81, 82, 83] (by decide +kernel) (by decide +kernel)
set_option maxRecDepth 20000 in
theorem gX2_obey_X2_obeyAt : GoodIn wsX2_obey (wsV RX2 92 RX2 yX2_obeyAt wsX2_obeyAt) := goodIn_app (goodIn_of _ (by decide +kernel)) ggX2_obey_X2_obeyAt
theorem dX2_obey_0 : decode cX2_obey 0 = .ok (.iload_n 1, 1) := by decide +kernel
theorem dX2_obey_1 : decode cX2_obey 1 = .ok (.bipush 112, 2) := by decide +kernel
theorem dX2_obey_3 : decode cX2_obey 3 = .ok (.if_icmp .ne 11, 3) := by decide +kernel
theorem dX2_obey_6 : decode cX2_obey 6 = .ok (.aload_n 0, 1) := by decide +kernel
theorem dX2_obey_7 : decode cX2_obey 7 = .ok (.iload_n 2, 1) := by decide +kernel
theorem dX2_obey_8 : decode cX2_obey 8 = .ok (.invokevirtual 85, 3) := by decide +kernel
theorem dX2_obey_11 : decode cX2_obey 11 = .ok (.goto 21, 3) := by decide +kernel
theorem dX2_obey_14 : decode cX2_obey 14 = .ok (.iload_n 2, 1) := by decide +kernel
theorem dX2_obey_15 : decode cX2_obey 15 = .ok (.invokestatic 88, 3) := by decide +kernel
theorem dX2_obey_18 : decode cX2_obey 18 = .ok (.ifCond .eq 14, 3) := by decide +kernel
theorem dX2_obey_21 : decode cX2_obey 21 = .ok (.aload_n 0, 1) := by decide +kernel
theorem dX2_obey_22 : decode cX2_obey 22 = .ok (.aload_n 0, 1) := by decide +kernel
theorem dX2_obey_23 : decode cX2_obey 23 = .ok (.getfield 22, 3) := by decide +kernel
theorem dX2_obey_26 : decode cX2_obey 26 = .ok (.iload_n 2, 1) := by decide +kernel
theorem dX2_obey_27 : decode cX2_obey 27 = .ok (.aaload, 1) := by decide +kernel
theorem dX2_obey_28 : decode cX2_obey 28 = .ok (.iload_n 1, 1) := by decide +kernel
theorem dX2_obey_29 : decode cX2_obey 29 = .ok (.invokevirtual 92, 3) := by decide +kernel
theorem dX2_obey_32 : decode cX2_obey 32 = .ok (.return_, 1) := by decide +kernel
set_option maxRecDepth 20000 in
theorem ggX2_obeyAt_X0_noteAt : GoodIn wsX2_obeyAt wsX0_noteAt := goodIn_r _ [8, 9, 10, 11, 12, 13, 14, 15, 16, 17, 18, 19, 20, 7, 21, 22, 23, 24, 25, 26, 27, 28, 29, 30, 31, 32, 33, 34, 35, 36, 37, 38, 39, 40, 41, 42, 43] (by decide +kernel) (by decide +kernel)
set_option maxRecDepth 20000 in
theorem gX2_obeyAt_X0_noteAt : GoodIn wsX2_obeyAt (wsV RX2 103 RX0 yX0_noteAt wsX0_noteAt) := goodIn_app (goodIn_of _ (by decide +kernel)) ggX2_obeyAt_X0_noteAt
theorem dX2_obeyAt_0 : decode cX2_obeyAt 0 = .ok (.iload_n 2, 1) := by decide +kernel
theorem dX2_obeyAt_1 : decode cX2_obeyAt 1 = .ok (.lookupswitch 78 #[(99, 59), (108, 67), (111, 51), (120, 43)], 43) := by decide +kernel
theorem dX2_obeyAt_44 : decode cX2_obeyAt 44 = .ok (.aload_n 1, 1) := by decide +kernel
theorem dX2_obeyAt_45 : decode cX2_obeyAt 45 = .ok (.iconst 0, 1) := by decide +kernel
theorem dX2_obeyAt_46 : decode cX2_obeyAt 46 = .ok (.putfield 96, 3) := by decide +kernel
theorem dX2_obeyAt_49 : decode cX2_obeyAt 49 = .ok (.goto 30, 3) := by decide +kernel
theorem dX2_obeyAt_52 : decode cX2_obeyAt 52 = .ok (.aload_n 1, 1) := by decide +kernel
theorem dX2_obeyAt_53 : decode cX2_obeyAt 53 = .ok (.iconst 1, 1) := by decide +kernel
theorem dX2_obeyAt_54 : decode cX2_obeyAt 54 = .ok (.putfield 96, 3) := by decide +kernel
theorem dX2_obeyAt_57 : decode cX2_obeyAt 57 = .ok (.goto 22, 3) := by decide +kernel
theorem dX2_obeyAt_60 : decode cX2_obeyAt 60 = .ok (.aload_n 1, 1) := by decide +kernel
theorem dX2_obeyAt_61 : decode cX2_obeyAt 61 = .ok (.iconst 0, 1) := by decide +kernel
theorem dX2_obeyAt_62 : decode cX2_obeyAt 62 = .ok (.putfield 100, 3) := by decide +kernel
theorem dX2_obeyAt_65 : decode cX2_obeyAt 65 = .ok (.goto 14, 3) := by decide +kernel
theorem dX2_obeyAt_68 : decode cX2_obeyAt 68 = .ok (.aload_n 1, 1) := by decide +kernel
theorem dX2_obeyAt_69 : decode cX2_obeyAt 69 = .ok (.aload_n 0, 1) := by decide +kernel
theorem dX2_obeyAt_70 : decode cX2_obeyAt 70 = .ok (.getfield 33, 3) := by decide +kernel
theorem dX2_obeyAt_73 : decode cX2_obeyAt 73 = .ok (.invokevirtual 103, 3) := by decide +kernel
theorem dX2_obeyAt_76 : decode cX2_obeyAt 76 = .ok (.goto 3, 3) := by decide +kernel
theorem dX2_obeyAt_79 : decode cX2_obeyAt 79 = .ok (.return_, 1) := by decide +kernel
theorem dX2_stationsOn_0 : decode cX2_stationsOn 0 = .ok (.iconst 0, 1) := by decide +kernel
theorem dX2_stationsOn_1 : decode cX2_stationsOn 1 = .ok (.istore_n 1, 1) := by decide +kernel
theorem dX2_stationsOn_2 : decode cX2_stationsOn 2 = .ok (.iconst 0, 1) := by decide +kernel
theorem dX2_stationsOn_3 : decode cX2_stationsOn 3 = .ok (.istore_n 2, 1) := by decide +kernel
theorem dX2_stationsOn_4 : decode cX2_stationsOn 4 = .ok (.iload_n 2, 1) := by decide +kernel
theorem dX2_stationsOn_5 : decode cX2_stationsOn 5 = .ok (.iconst 3, 1) := by decide +kernel
theorem dX2_stationsOn_6 : decode cX2_stationsOn 6 = .ok (.if_icmp .ge 24, 3) := by decide +kernel
theorem dX2_stationsOn_9 : decode cX2_stationsOn 9 = .ok (.aload_n 0, 1) := by decide +kernel
theorem dX2_stationsOn_10 : decode cX2_stationsOn 10 = .ok (.getfield 22, 3) := by decide +kernel
theorem dX2_stationsOn_13 : decode cX2_stationsOn 13 = .ok (.iload_n 2, 1) := by decide +kernel
theorem dX2_stationsOn_14 : decode cX2_stationsOn 14 = .ok (.aaload, 1) := by decide +kernel
theorem dX2_stationsOn_15 : decode cX2_stationsOn 15 = .ok (.getfield 96, 3) := by decide +kernel
theorem dX2_stationsOn_18 : decode cX2_stationsOn 18 = .ok (.ifCond .eq 6, 3) := by decide +kernel
theorem dX2_stationsOn_21 : decode cX2_stationsOn 21 = .ok (.iinc 1 1, 3) := by decide +kernel
theorem dX2_stationsOn_24 : decode cX2_stationsOn 24 = .ok (.iinc 2 1, 3) := by decide +kernel
theorem dX2_stationsOn_27 : decode cX2_stationsOn 27 = .ok (.goto (-23), 3) := by decide +kernel
theorem dX2_stationsOn_30 : decode cX2_stationsOn 30 = .ok (.iload_n 1, 1) := by decide +kernel
theorem dX2_stationsOn_31 : decode cX2_stationsOn 31 = .ok (.ireturn, 1) := by decide +kernel
set_option maxRecDepth 20000 in
theorem ggX2_hoursOfKind_X0_hoursOfKind : GoodIn wsX2_hoursOfKind wsX0_hoursOfKind := goodIn_r _ [6, 7, 11, 12, 13, 14, 15, 16, 17, 18, 19, 20, 21, 22, 23, 24, 25] (by decide +kernel) (by decide +kernel)
set_option maxRecDepth 20000 in
theorem gX2_hoursOfKind_X0_hoursOfKind : GoodIn wsX2_hoursOfKind (wsV RX2 106 RX0 yX0_hoursOfKind wsX0_hoursOfKind) := goodIn_app (goodIn_of _ (by decide +kernel)) ggX2_hoursOfKind_X0_hoursOfKind
theorem dX2_hoursOfKind_0 : decode cX2_hoursOfKind 0 = .ok (.iconst 0, 1) := by decide +kernel
theorem dX2_hoursOfKind_1 : decode cX2_hoursOfKind 1 = .ok (.istore_n 2, 1) := by decide +kernel
theorem dX2_hoursOfKind_2 : decode cX2_hoursOfKind 2 = .ok (.iconst 0, 1) := by decide +kernel
theorem dX2_hoursOfKind_3 : decode cX2_hoursOfKind 3 = .ok (.istore_n 3, 1) := by decide +kernel
theorem dX2_hoursOfKind_4 : decode cX2_hoursOfKind 4 = .ok (.iload_n 3, 1) := by decide +kernel
theorem dX2_hoursOfKind_5 : decode cX2_hoursOfKind 5 = .ok (.iconst 3, 1) := by decide +kernel
theorem dX2_hoursOfKind_6 : decode cX2_hoursOfKind 6 = .ok (.if_icmp .ge 22, 3) := by decide +kernel
theorem dX2_hoursOfKind_9 : decode cX2_hoursOfKind 9 = .ok (.iload_n 2, 1) := by decide +kernel
theorem dX2_hoursOfKind_10 : decode cX2_hoursOfKind 10 = .ok (.aload_n 0, 1) := by decide +kernel
theorem dX2_hoursOfKind_11 : decode cX2_hoursOfKind 11 = .ok (.getfield 22, 3) := by decide +kernel
theorem dX2_hoursOfKind_14 : decode cX2_hoursOfKind 14 = .ok (.iload_n 3, 1) := by decide +kernel
theorem dX2_hoursOfKind_15 : decode cX2_hoursOfKind 15 = .ok (.aaload, 1) := by decide +kernel
theorem dX2_hoursOfKind_16 : decode cX2_hoursOfKind 16 = .ok (.iload_n 1, 1) := by decide +kernel
theorem dX2_hoursOfKind_17 : decode cX2_hoursOfKind 17 = .ok (.invokevirtual 106, 3) := by decide +kernel
theorem dX2_hoursOfKind_20 : decode cX2_hoursOfKind 20 = .ok (.iadd, 1) := by decide +kernel
theorem dX2_hoursOfKind_21 : decode cX2_hoursOfKind 21 = .ok (.istore_n 2, 1) := by decide +kernel
theorem dX2_hoursOfKind_22 : decode cX2_hoursOfKind 22 = .ok (.iinc 3 1, 3) := by decide +kernel
theorem dX2_hoursOfKind_25 : decode cX2_hoursOfKind 25 = .ok (.goto (-21), 3) := by decide +kernel
theorem dX2_hoursOfKind_28 : decode cX2_hoursOfKind 28 = .ok (.iload_n 2, 1) := by decide +kernel
theorem dX2_hoursOfKind_29 : decode cX2_hoursOfKind 29 = .ok (.ireturn, 1) := by decide +kernel
set_option maxRecDepth 20000 in
theorem ggX3_init_X3_become : GoodIn wsX3_init wsX3_become := goodIn_r _ [8, 9, 10, 11, 12, 13, 14] (by decide +kernel) (by decide +kernel)
set_option maxRecDepth 20000 in
theorem gX3_init_X3_become : GoodIn wsX3_init (wsV RX3 7 RX3 yX3_become wsX3_become) := goodIn_app (goodIn_of _ (by decide +kernel)) ggX3_init_X3_become
theorem dX3_init_0 : decode cX3_init 0 = .ok (.aload_n 0, 1) := by decide +kernel
theorem dX3_init_1 : decode cX3_init 1 = .ok (.invokespecial 1, 3) := by decide +kernel
theorem dX3_init_4 : decode cX3_init 4 = .ok (.aload_n 0, 1) := by decide +kernel
theorem dX3_init_5 : decode cX3_init 5 = .ok (.iload_n 1, 1) := by decide +kernel
theorem dX3_init_6 : decode cX3_init 6 = .ok (.iload_n 2, 1) := by decide +kernel
theorem dX3_init_7 : decode cX3_init 7 = .ok (.iload_n 3, 1) := by decide +kernel
theorem dX3_init_8 : decode cX3_init 8 = .ok (.invokevirtual 7, 3) := by decide +kernel
theorem dX3_init_11 : decode cX3_init 11 = .ok (.return_, 1) := by decide +kernel
theorem dX3_become_0 : decode cX3_become 0 = .ok (.aload_n 0, 1) := by decide +kernel
theorem dX3_become_1 : decode cX3_become 1 = .ok (.iload_n 1, 1) := by decide +kernel
theorem dX3_become_2 : decode cX3_become 2 = .ok (.putfield 13, 3) := by decide +kernel
theorem dX3_become_5 : decode cX3_become 5 = .ok (.aload_n 0, 1) := by decide +kernel
theorem dX3_become_6 : decode cX3_become 6 = .ok (.iload_n 2, 1) := by decide +kernel
theorem dX3_become_7 : decode cX3_become 7 = .ok (.putfield 17, 3) := by decide +kernel
theorem dX3_become_10 : decode cX3_become 10 = .ok (.aload_n 0, 1) := by decide +kernel
theorem dX3_become_11 : decode cX3_become 11 = .ok (.iload_n 3, 1) := by decide +kernel
theorem dX3_become_12 : decode cX3_become 12 = .ok (.putfield 20, 3) := by decide +kernel
theorem dX3_become_15 : decode cX3_become 15 = .ok (.return_, 1) := by decide +kernel
theorem dX3_isSo_0 : decode cX3_isSo 0 = .ok (.aload_n 0, 1) := by decide +kernel
theorem dX3_isSo_1 : decode cX3_isSo 1 = .ok (.getfield 13, 3) := by decide +kernel
theorem dX3_isSo_4 : decode cX3_isSo 4 = .ok (.iload_n 1, 1) := by decide +kernel
theorem dX3_isSo_5 : decode cX3_isSo 5 = .ok (.if_icmp .ne 23, 3) := by decide +kernel
theorem dX3_isSo_8 : decode cX3_isSo 8 = .ok (.aload_n 0, 1) := by decide +kernel
theorem dX3_isSo_9 : decode cX3_isSo 9 = .ok (.getfield 17, 3) := by decide +kernel
theorem dX3_isSo_12 : decode cX3_isSo 12 = .ok (.iload_n 2, 1) := by decide +kernel
theorem dX3_isSo_13 : decode cX3_isSo 13 = .ok (.if_icmp .ne 15, 3) := by decide +kernel
theorem dX3_isSo_16 : decode cX3_isSo 16 = .ok (.aload_n 0, 1) := by decide +kernel
theorem dX3_isSo_17 : decode cX3_isSo 17 = .ok (.getfield 20, 3) := by decide +kernel
theorem dX3_isSo_20 : decode cX3_isSo 20 = .ok (.iload_n 3, 1) := by decide +kernel
theorem dX3_isSo_21 : decode cX3_isSo 21 = .ok (.if_icmp .ne 7, 3) := by decide +kernel
theorem dX3_isSo_24 : decode cX3_isSo 24 = .ok (.iconst 1, 1) := by decide +kernel
theorem dX3_isSo_25 : decode cX3_isSo 25 = .ok (.goto 4, 3) := by decide +kernel
theorem dX3_isSo_28 : decode cX3_isSo 28 = .ok (.iconst 0, 1) := by decide +kernel
theorem dX3_isSo_29 : decode cX3_isSo 29 = .ok (.ireturn, 1) := by decide +kernel
set_option maxRecDepth 20000 in
theorem ggX3_heightAt_J9_floorMod_7cf53 : GoodIn wsX3_heightAt wsJ9_floorMod_7cf53 := goodIn_r _ [7] (by decide +kernel) (by decide +kernel)
set_option maxRecDepth 20000 in
theorem gX3_heightAt_J9_floorMod_7cf53 : GoodIn wsX3_heightAt (va_wsS RX3 23 yJ9_floorMod_7cf53 wsJ9_floorMod_7cf53) := goodIn_app (goodIn_of _ (by decide +kernel)) ggX3_heightAt_J9_floorMod_7cf53
set_option maxRecDepth 20000 in
theorem ggX3_heightAt_J9_floorDiv_7cf53 : GoodIn wsX3_heightAt wsJ9_floorDiv_7cf53 := goodIn_r _ [10] (by decide +kernel) (by decide +kernel)
set_option maxRecDepth 20000 in
theorem gX3_heightAt_J9_floorDiv_7cf53 : GoodIn wsX3_heightAt (va_wsS RX3 29 yJ9_floorDiv_7cf53 wsJ9_floorDiv_7cf53) := goodIn_app (goodIn_of _ (by decide +kernel)) ggX3_heightAt_J9_floorDiv_7cf53
theorem dX3_heightAt_0 : decode cX3_heightAt 0 = .ok (.aload_n 0, 1) := by decide +kernel
theorem dX3_heightAt_1 : decode cX3_heightAt 1 = .ok (.getfield 17, 3) := by decide +kernel
theorem dX3_heightAt_4 : decode cX3_heightAt 4 = .ok (.ifCond .gt 5, 3) := by decide +kernel
theorem dX3_heightAt_7 : decode cX3_heightAt 7 = .ok (.iconst 0, 1) := by decide +kernel
theorem dX3_heightAt_8 : decode cX3_heightAt 8 = .ok (.ireturn, 1) := by decide +kernel
theorem dX3_heightAt_9 : decode cX3_heightAt 9 = .ok (.iload_n 1, 1) := by decide +kernel
theorem dX3_heightAt_10 : decode cX3_heightAt 10 = .ok (.aload_n 0, 1) := by decide +kernel
theorem dX3_heightAt_11 : decode cX3_heightAt 11 = .ok (.getfield 20, 3) := by decide +kernel
theorem dX3_heightAt_14 : decode cX3_heightAt 14 = .ok (.iadd, 1) := by decide +kernel
theorem dX3_heightAt_15 : decode cX3_heightAt 15 = .ok (.aload_n 0, 1) := by decide +kernel
theorem dX3_heightAt_16 : decode cX3_heightAt 16 = .ok (.getfield 17, 3) := by decide +kernel
theorem dX3_heightAt_19 : decode cX3_heightAt 19 = .ok (.invokestatic 23, 3) := by decide +kernel
theorem dX3_heightAt_22 : decode cX3_heightAt 22 = .ok (.istore_n 2, 1) := by decide +kernel
theorem dX3_heightAt_23 : decode cX3_heightAt 23 = .ok (.iconst 4, 1) := by decide +kernel
theorem dX3_heightAt_24 : decode cX3_heightAt 24 = .ok (.aload_n 0, 1) := by decide +kernel
theorem dX3_heightAt_25 : decode cX3_heightAt 25 = .ok (.getfield 13, 3) := by decide +kernel
theorem dX3_heightAt_28 : decode cX3_heightAt 28 = .ok (.imul, 1) := by decide +kernel
theorem dX3_heightAt_29 : decode cX3_heightAt 29 = .ok (.iload_n 2, 1) := by decide +kernel
theorem dX3_heightAt_30 : decode cX3_heightAt 30 = .ok (.imul, 1) := by decide +kernel
theorem dX3_heightAt_31 : decode cX3_heightAt 31 = .ok (.aload_n 0, 1) := by decide +kernel
theorem dX3_heightAt_32 : decode cX3_heightAt 32 = .ok (.getfield 17, 3) := by decide +kernel
theorem dX3_heightAt_35 : decode cX3_heightAt 35 = .ok (.invokestatic 29, 3) := by decide +kernel
theorem dX3_heightAt_38 : decode cX3_heightAt 38 = .ok (.istore_n 3, 1) := by decide +kernel
theorem dX3_heightAt_39 : decode cX3_heightAt 39 = .ok (.iconst 2, 1) := by decide +kernel
theorem dX3_heightAt_40 : decode cX3_heightAt 40 = .ok (.iload_n 2, 1) := by decide +kernel
theorem dX3_heightAt_41 : decode cX3_heightAt 41 = .ok (.imul, 1) := by decide +kernel
theorem dX3_heightAt_42 : decode cX3_heightAt 42 = .ok (.aload_n 0, 1) := by decide +kernel
theorem dX3_heightAt_43 : decode cX3_heightAt 43 = .ok (.getfield 17, 3) := by decide +kernel
theorem dX3_heightAt_46 : decode cX3_heightAt 46 = .ok (.if_icmp .gt 12, 3) := by decide +kernel
theorem dX3_heightAt_49 : decode cX3_heightAt 49 = .ok (.iload_n 3, 1) := by decide +kernel
theorem dX3_heightAt_50 : decode cX3_heightAt 50 = .ok (.aload_n 0, 1) := by decide +kernel
theorem dX3_heightAt_51 : decode cX3_heightAt 51 = .ok (.getfield 13, 3) := by decide +kernel
theorem dX3_heightAt_54 : decode cX3_heightAt 54 = .ok (.isub, 1) := by decide +kernel
theorem dX3_heightAt_55 : decode cX3_heightAt 55 = .ok (.goto 11, 3) := by decide +kernel
theorem dX3_heightAt_58 : decode cX3_heightAt 58 = .ok (.iconst 3, 1) := by decide +kernel
theorem dX3_heightAt_59 : decode cX3_heightAt 59 = .ok (.aload_n 0, 1) := by decide +kernel
theorem dX3_heightAt_60 : decode cX3_heightAt 60 = .ok (.getfield 13, 3) := by decide +kernel
theorem dX3_heightAt_63 : decode cX3_heightAt 63 = .ok (.imul, 1) := by decide +kernel
theorem dX3_heightAt_64 : decode cX3_heightAt 64 = .ok (.iload_n 3, 1) := by decide +kernel
theorem dX3_heightAt_65 : decode cX3_heightAt 65 = .ok (.isub, 1) := by decide +kernel
theorem dX3_heightAt_66 : decode cX3_heightAt 66 = .ok (.ireturn, 1) := by decide +kernel
set_option maxRecDepth 20000 in
theorem ggX4_init_X2_init : GoodIn wsX4_init wsX2_init := goodIn_r _ [16, 17, 2, 3, 18, 19, 20, 21, 22, 23, 24, 25, 26, 27, 28, 29, 30, 31, 32, 33, 34, 35, 36, 37, 38, 39, 40, 41, 42, 43, 44, 45, 46, 47, 48, 49, 50, 51, 52, 53, 54, 55, 56, 57, 58, 59, 60, 6, 61, 62, 63, 64, 65, 66, 67, 68, 69, 70, 71, 72, 73, 74, 75, 76, 77, 78, 79, 80, 81, 82, 83, 84, 85, 92, 93, 94, 103, 104, 105, 106, 107, 108, 109, 110, 111, 112, 113, 114, 115, 116, 117, 118, 119, 120] (by decide +kernel) (by decide +kernel)
set_option maxRecDepth 20000 in
theorem gX4_init_X2_init : GoodIn wsX4_init (wsX2_init) := ggX4_init_X2_init
set_option maxRecDepth 20000 in
theorem ggX4_init_X1_init : GoodIn wsX4_init wsX1_init := goodIn_r _ [88, 89, 2, 3, 90, 91, 101, 102] (by decide +kernel) (by decide +kernel)
set_option maxRecDepth 20000 in
theorem gX4_init_X1_init : GoodIn wsX4_init (wsX1_init) := ggX4_init_X1_init
theorem dX4_init_0 : decode cX4_init 0 = .ok (.aload_n 0, 1) := by decide +kernel
theorem dX4_init_1 : decode cX4_init 1 = .ok (.invokespecial 1, 3) := by decide +kernel
theorem dX4_init_4 : decode cX4_init 4 = .ok (.aload_n 0, 1) := by decide +kernel
theorem dX4_init_5 : decode cX4_init 5 = .ok (.new 7, 3) := by decide +kernel
theorem dX4_init_8 : decode cX4_init 8 = .ok (.dup, 1) := by decide +kernel
theorem dX4_init_9 : decode cX4_init 9 = .ok (.invokespecial 9, 3) := by decide +kernel
theorem dX4_init_12 : decode cX4_init 12 = .ok (.putfield 10, 3) := by decide +kernel
theorem dX4_init_15 : decode cX4_init 15 = .ok (.aload_n 0, 1) := by decide +kernel
theorem dX4_init_16 : decode cX4_init 16 = .ok (.new 7, 3) := by decide +kernel
theorem dX4_init_19 : decode cX4_init 19 = .ok (.dup, 1) := by decide +kernel
theorem dX4_init_20 : decode cX4_init 20 = .ok (.invokespecial 9, 3) := by decide +kernel
theorem dX4_init_23 : decode cX4_init 23 = .ok (.putfield 16, 3) := by decide +kernel
theorem dX4_init_26 : decode cX4_init 26 = .ok (.aload_n 0, 1) := by decide +kernel
theorem dX4_init_27 : decode cX4_init 27 = .ok (.iconst 4, 1) := by decide +kernel
theorem dX4_init_28 : decode cX4_init 28 = .ok (.anewarray 7, 3) := by decide +kernel
theorem dX4_init_31 : decode cX4_init 31 = .ok (.putfield 19, 3) := by decide +kernel
theorem dX4_init_34 : decode cX4_init 34 = .ok (.iconst 0, 1) := by decide +kernel
theorem dX4_init_35 : decode cX4_init 35 = .ok (.istore_n 1, 1) := by decide +kernel
theorem dX4_init_36 : decode cX4_init 36 = .ok (.iload_n 1, 1) := by decide +kernel
theorem dX4_init_37 : decode cX4_init 37 = .ok (.iconst 4, 1) := by decide +kernel
theorem dX4_init_38 : decode cX4_init 38 = .ok (.if_icmp .ge 22, 3) := by decide +kernel
theorem dX4_init_41 : decode cX4_init 41 = .ok (.aload_n 0, 1) := by decide +kernel
theorem dX4_init_42 : decode cX4_init 42 = .ok (.getfield 19, 3) := by decide +kernel
theorem dX4_init_45 : decode cX4_init 45 = .ok (.iload_n 1, 1) := by decide +kernel
theorem dX4_init_46 : decode cX4_init 46 = .ok (.new 7, 3) := by decide +kernel
theorem dX4_init_49 : decode cX4_init 49 = .ok (.dup, 1) := by decide +kernel
theorem dX4_init_50 : decode cX4_init 50 = .ok (.invokespecial 9, 3) := by decide +kernel
theorem dX4_init_53 : decode cX4_init 53 = .ok (.aastore, 1) := by decide +kernel
theorem dX4_init_54 : decode cX4_init 54 = .ok (.iinc 1 1, 3) := by decide +kernel
theorem dX4_init_57 : decode cX4_init 57 = .ok (.goto (-21), 3) := by decide +kernel
theorem dX4_init_60 : decode cX4_init 60 = .ok (.aload_n 0, 1) := by decide +kernel
theorem dX4_init_61 : decode cX4_init 61 = .ok (.new 23, 3) := by decide +kernel
theorem dX4_init_64 : decode cX4_init 64 = .ok (.dup, 1) := by decide +kernel
theorem dX4_init_65 : decode cX4_init 65 = .ok (.invokespecial 25, 3) := by decide +kernel
theorem dX4_init_68 : decode cX4_init 68 = .ok (.putfield 26, 3) := by decide +kernel
theorem dX4_init_71 : decode cX4_init 71 = .ok (.return_, 1) := by decide +kernel
set_option maxRecDepth 20000 in
theorem ggX4_setWave_X4_isWithin : GoodIn wsX4_setWave wsX4_isWithin := goodIn_r _ [8] (by decide +kernel) (by decide +kernel)
end
section
set_option maxRecDepth 20000 in
theorem gX4_setWave_X4_isWithin : GoodIn wsX4_setWave (va_wsS RX4 30 yX4_isWithin wsX4_isWithin) := goodIn_app (goodIn_of _ (by decide +kernel)) ggX4_setWave_X4_isWithin
set_option maxRecDepth 20000 in
theorem ggX4_setWave_X3_isSo : GoodIn wsX4_setWave wsX3_isSo := goodIn_r _ [13, 14, 15, 16, 113, 114, 115] (by decide +kernel) (by decide +kernel)
set_option maxRecDepth 20000 in
theorem gX4_setWave_X3_isSo : GoodIn wsX4_setWave (wsV RX4 42 RX3 yX3_isSo wsX3_isSo) := goodIn_app (goodIn_of _ (by decide +kernel)) ggX4_setWave_X3_isSo
set_option maxRecDepth 20000 in
theorem ggX4_setWave_X4_remember : GoodIn wsX4_setWave wsX4_remember := goodIn_r _ [20, 21, 22, 1, 23, 24, 25, 7, 26, 27, 28, 29, 30, 31, 32, 33, 34, 35, 36, 37, 38, 39, 40, 12, 41, 14, 15, 16, 42, 43, 44, 45, 46, 47, 48, 49, 50, 51, 52, 53, 54, 55, 56, 57, 58, 59, 60, 61, 62, 63, 64, 65, 66, 67, 68, 69, 104, 105, 106, 107, 108, 109, 110, 111, 112, 113, 114, 115, 116, 117, 118, 119, 120, 121, 122, 123, 124, 125, 126, 127, 128, 129, 130] (by decide +kernel) (by decide +kernel)
set_option maxRecDepth 20000 in
theorem gX4_setWave_X4_remember : GoodIn wsX4_setWave (wsV RX4 47 RX4 yX4_remember wsX4_remember) := goodIn_app (goodIn_of _ (by decide +kernel)) ggX4_setWave_X4_remember
set_option maxRecDepth 20000 in
theorem ggX4_setWave_X3_become : GoodIn wsX4_setWave wsX3_become := goodIn_r _ [41, 14, 15, 16, 113, 114, 115] (by decide +kernel) (by decide +kernel)
set_option maxRecDepth 20000 in
theorem gX4_setWave_X3_become : GoodIn wsX4_setWave (wsV RX4 50 RX3 yX3_become wsX3_become) := goodIn_app (goodIn_of _ (by decide +kernel)) ggX4_setWave_X3_become
set_option maxRecDepth 20000 in
theorem ggX4_setWave_X2_settleFloats : GoodIn wsX4_setWave wsX2_settleFloats := goodIn_r _ [74, 37, 75, 76, 77, 30, 78, 79, 80, 81, 82, 83, 84, 85, 86, 87, 88, 89, 90, 33, 91, 92, 93, 12, 94, 15, 16, 14, 95, 96, 97, 98, 99, 100, 101, 102, 110, 111, 112, 116, 117, 118, 119, 120, 121, 122, 123, 124, 125, 126, 127, 128, 129, 130, 113, 114, 115] (by decide +kernel) (by decide +kernel)
set_option maxRecDepth 20000 in
theorem gX4_setWave_X2_settleFloats : GoodIn wsX4_setWave (wsV RX4 54 RX2 yX2_settleFloats wsX2_settleFloats) := goodIn_app (goodIn_of _ (by decide +kernel)) ggX4_setWave_X2_settleFloats
set_option maxRecDepth 20000 in
theorem ggX4_setWave_X2_seaAt : GoodIn wsX4_setWave wsX2_seaAt := goodIn_r _ [90, 33, 91, 92, 93, 12, 94, 15, 16, 14, 95, 96, 97, 98, 99, 100, 101, 110, 111, 112, 113, 114, 115] (by decide +kernel) (by decide +kernel)
set_option maxRecDepth 20000 in
theorem gX4_setWave_X2_seaAt : GoodIn wsX4_setWave (wsV RX4 57 RX2 yX2_seaAt wsX2_seaAt) := goodIn_app (goodIn_of _ (by decide +kernel)) ggX4_setWave_X2_seaAt
theorem dX4_setWave_0 : decode cX4_setWave 0 = .ok (.iload_n 1, 1) := by decide +kernel
theorem dX4_setWave_1 : decode cX4_setWave 1 = .ok (.ifCond .lt 8, 3) := by decide +kernel
theorem dX4_setWave_4 : decode cX4_setWave 4 = .ok (.iload_n 1, 1) := by decide +kernel
theorem dX4_setWave_5 : decode cX4_setWave 5 = .ok (.iconst 3, 1) := by decide +kernel
theorem dX4_setWave_6 : decode cX4_setWave 6 = .ok (.if_icmp .lt 5, 3) := by decide +kernel
theorem dX4_setWave_9 : decode cX4_setWave 9 = .ok (.iconst (-1), 1) := by decide +kernel
theorem dX4_setWave_10 : decode cX4_setWave 10 = .ok (.ireturn, 1) := by decide +kernel
theorem dX4_setWave_11 : decode cX4_setWave 11 = .ok (.iload_n 2, 1) := by decide +kernel
theorem dX4_setWave_12 : decode cX4_setWave 12 = .ok (.iconst 0, 1) := by decide +kernel
theorem dX4_setWave_13 : decode cX4_setWave 13 = .ok (.sipush 3000, 3) := by decide +kernel
theorem dX4_setWave_16 : decode cX4_setWave 16 = .ok (.invokestatic 30, 3) := by decide +kernel
theorem dX4_setWave_19 : decode cX4_setWave 19 = .ok (.ifCond .eq 24, 3) := by decide +kernel
theorem dX4_setWave_22 : decode cX4_setWave 22 = .ok (.iload_n 3, 1) := by decide +kernel
theorem dX4_setWave_23 : decode cX4_setWave 23 = .ok (.iconst 2, 1) := by decide +kernel
theorem dX4_setWave_24 : decode cX4_setWave 24 = .ok (.bipush 48, 2) := by decide +kernel
theorem dX4_setWave_26 : decode cX4_setWave 26 = .ok (.invokestatic 30, 3) := by decide +kernel
theorem dX4_setWave_29 : decode cX4_setWave 29 = .ok (.ifCond .eq 14, 3) := by decide +kernel
theorem dX4_setWave_32 : decode cX4_setWave 32 = .ok (.iload 4, 2) := by decide +kernel
theorem dX4_setWave_34 : decode cX4_setWave 34 = .ok (.iconst 0, 1) := by decide +kernel
theorem dX4_setWave_35 : decode cX4_setWave 35 = .ok (.bipush 47, 2) := by decide +kernel
theorem dX4_setWave_37 : decode cX4_setWave 37 = .ok (.invokestatic 30, 3) := by decide +kernel
theorem dX4_setWave_40 : decode cX4_setWave 40 = .ok (.ifCond .ne 6, 3) := by decide +kernel
theorem dX4_setWave_43 : decode cX4_setWave 43 = .ok (.bipush (-2), 2) := by decide +kernel
theorem dX4_setWave_45 : decode cX4_setWave 45 = .ok (.ireturn, 1) := by decide +kernel
theorem dX4_setWave_46 : decode cX4_setWave 46 = .ok (.aload_n 0, 1) := by decide +kernel
theorem dX4_setWave_47 : decode cX4_setWave 47 = .ok (.getfield 10, 3) := by decide +kernel
theorem dX4_setWave_50 : decode cX4_setWave 50 = .ok (.getfield 34, 3) := by decide +kernel
theorem dX4_setWave_53 : decode cX4_setWave 53 = .ok (.ifCond .eq 6, 3) := by decide +kernel
theorem dX4_setWave_56 : decode cX4_setWave 56 = .ok (.bipush (-4), 2) := by decide +kernel
theorem dX4_setWave_58 : decode cX4_setWave 58 = .ok (.ireturn, 1) := by decide +kernel
theorem dX4_setWave_59 : decode cX4_setWave 59 = .ok (.aload_n 0, 1) := by decide +kernel
theorem dX4_setWave_60 : decode cX4_setWave 60 = .ok (.getfield 10, 3) := by decide +kernel
theorem dX4_setWave_63 : decode cX4_setWave 63 = .ok (.getfield 38, 3) := by decide +kernel
theorem dX4_setWave_66 : decode cX4_setWave 66 = .ok (.iload_n 1, 1) := by decide +kernel
theorem dX4_setWave_67 : decode cX4_setWave 67 = .ok (.aaload, 1) := by decide +kernel
theorem dX4_setWave_68 : decode cX4_setWave 68 = .ok (.iload_n 2, 1) := by decide +kernel
theorem dX4_setWave_69 : decode cX4_setWave 69 = .ok (.iload_n 3, 1) := by decide +kernel
theorem dX4_setWave_70 : decode cX4_setWave 70 = .ok (.iload 4, 2) := by decide +kernel
theorem dX4_setWave_72 : decode cX4_setWave 72 = .ok (.invokevirtual 42, 3) := by decide +kernel
theorem dX4_setWave_75 : decode cX4_setWave 75 = .ok (.ifCond .eq 6, 3) := by decide +kernel
theorem dX4_setWave_78 : decode cX4_setWave 78 = .ok (.bipush (-5), 2) := by decide +kernel
theorem dX4_setWave_80 : decode cX4_setWave 80 = .ok (.ireturn, 1) := by decide +kernel
theorem dX4_setWave_81 : decode cX4_setWave 81 = .ok (.aload_n 0, 1) := by decide +kernel
theorem dX4_setWave_82 : decode cX4_setWave 82 = .ok (.invokevirtual 47, 3) := by decide +kernel
theorem dX4_setWave_85 : decode cX4_setWave 85 = .ok (.aload_n 0, 1) := by decide +kernel
theorem dX4_setWave_86 : decode cX4_setWave 86 = .ok (.getfield 10, 3) := by decide +kernel
theorem dX4_setWave_89 : decode cX4_setWave 89 = .ok (.getfield 38, 3) := by decide +kernel
theorem dX4_setWave_92 : decode cX4_setWave 92 = .ok (.iload_n 1, 1) := by decide +kernel
theorem dX4_setWave_93 : decode cX4_setWave 93 = .ok (.aaload, 1) := by decide +kernel
theorem dX4_setWave_94 : decode cX4_setWave 94 = .ok (.iload_n 2, 1) := by decide +kernel
theorem dX4_setWave_95 : decode cX4_setWave 95 = .ok (.iload_n 3, 1) := by decide +kernel
theorem dX4_setWave_96 : decode cX4_setWave 96 = .ok (.iload 4, 2) := by decide +kernel
theorem dX4_setWave_98 : decode cX4_setWave 98 = .ok (.invokevirtual 50, 3) := by decide +kernel
theorem dX4_setWave_101 : decode cX4_setWave 101 = .ok (.aload_n 0, 1) := by decide +kernel
theorem dX4_setWave_102 : decode cX4_setWave 102 = .ok (.getfield 10, 3) := by decide +kernel
theorem dX4_setWave_105 : decode cX4_setWave 105 = .ok (.invokevirtual 54, 3) := by decide +kernel
theorem dX4_setWave_108 : decode cX4_setWave 108 = .ok (.aload_n 0, 1) := by decide +kernel
theorem dX4_setWave_109 : decode cX4_setWave 109 = .ok (.getfield 10, 3) := by decide +kernel
theorem dX4_setWave_112 : decode cX4_setWave 112 = .ok (.iconst 0, 1) := by decide +kernel
theorem dX4_setWave_113 : decode cX4_setWave 113 = .ok (.invokevirtual 57, 3) := by decide +kernel
theorem dX4_setWave_116 : decode cX4_setWave 116 = .ok (.ldc 61, 2) := by decide +kernel
theorem dX4_setWave_118 : decode cX4_setWave 118 = .ok (.iadd, 1) := by decide +kernel
theorem dX4_setWave_119 : decode cX4_setWave 119 = .ok (.ireturn, 1) := by decide +kernel
set_option maxRecDepth 20000 in
theorem ggX4_setStation_X4_isStation : GoodIn wsX4_setStation wsX4_isStation := goodIn_r _ [9] (by decide +kernel) (by decide +kernel)
set_option maxRecDepth 20000 in
theorem gX4_setStation_X4_isStation : GoodIn wsX4_setStation (va_wsS RX4 62 yX4_isStation wsX4_isStation) := goodIn_app (goodIn_of _ (by decide +kernel)) ggX4_setStation_X4_isStation
set_option maxRecDepth 20000 in
theorem ggX4_setStation_X4_isWithin : GoodIn wsX4_setStation wsX4_isWithin := goodIn_r _ [12] (by decide +kernel) (by decide +kernel)
set_option maxRecDepth 20000 in
theorem gX4_setStation_X4_isWithin : GoodIn wsX4_setStation (va_wsS RX4 30 yX4_isWithin wsX4_isWithin) := goodIn_app (goodIn_of _ (by decide +kernel)) ggX4_setStation_X4_isWithin
set_option maxRecDepth 20000 in
theorem ggX4_setStation_X0_isSo : GoodIn wsX4_setStation wsX0_isSo := goodIn_r _ [17, 18, 19, 20, 112, 113, 114, 115, 116, 117, 118, 119, 120, 121, 122, 123, 124, 125, 126] (by decide +kernel) (by decide +kernel)
set_option maxRecDepth 20000 in
theorem gX4_setStation_X0_isSo : GoodIn wsX4_setStation (wsV RX4 70 RX0 yX0_isSo wsX0_isSo) := goodIn_app (goodIn_of _ (by decide +kernel)) ggX4_setStation_X0_isSo
set_option maxRecDepth 20000 in
theorem ggX4_setStation_X4_remember : GoodIn wsX4_setStation wsX4_remember := goodIn_r _ [24, 25, 26, 1, 27, 28, 29, 8, 30, 31, 32, 33, 34, 35, 36, 37, 38, 39, 40, 41, 42, 43, 44, 45, 46, 47, 48, 49, 50, 51, 52, 16, 53, 18, 19, 20, 54, 55, 56, 57, 58, 59, 60, 61, 62, 63, 64, 65, 66, 67, 68, 69, 70, 71, 72, 73, 103, 104, 105, 106, 107, 108, 109, 110, 111, 127, 128, 129, 112, 113, 114, 115, 116, 117, 118, 119, 120, 121, 122, 123, 124, 125, 126] (by decide +kernel) (by decide +kernel)
set_option maxRecDepth 20000 in
theorem gX4_setStation_X4_remember : GoodIn wsX4_setStation (wsV RX4 47 RX4 yX4_remember wsX4_remember) := goodIn_app (goodIn_of _ (by decide +kernel)) ggX4_setStation_X4_remember
set_option maxRecDepth 20000 in
theorem ggX4_setStation_X0_become : GoodIn wsX4_setStation wsX0_become := goodIn_r _ [73, 18, 19, 20, 112, 113, 114, 115, 116, 117, 118, 119, 120, 121, 122, 123, 124, 125, 126] (by decide +kernel) (by decide +kernel)
set_option maxRecDepth 20000 in
theorem gX4_setStation_X0_become : GoodIn wsX4_setStation (wsV RX4 73 RX0 yX0_become wsX0_become) := goodIn_app (goodIn_of _ (by decide +kernel)) ggX4_setStation_X0_become
set_option maxRecDepth 20000 in
theorem ggX4_setStation_X2_settleFloat : GoodIn wsX4_setStation wsX2_settleFloat := goodIn_r _ [78, 79, 80, 81, 82, 34, 83, 84, 85, 86, 87, 88, 89, 90, 37, 91, 92, 93, 45, 94, 48, 49, 47, 95, 96, 97, 98, 99, 100, 101, 102, 112, 113, 114, 115, 116, 117, 118, 119, 120, 121, 122, 123, 124, 125, 126, 109, 110, 111, 127, 128, 129] (by decide +kernel) (by decide +kernel)
set_option maxRecDepth 20000 in
theorem gX4_setStation_X2_settleFloat : GoodIn wsX4_setStation (wsV RX4 74 RX2 yX2_settleFloat wsX2_settleFloat) := goodIn_app (goodIn_of _ (by decide +kernel)) ggX4_setStation_X2_settleFloat
theorem dX4_setStation_0 : decode cX4_setStation 0 = .ok (.iload_n 1, 1) := by decide +kernel
theorem dX4_setStation_1 : decode cX4_setStation 1 = .ok (.invokestatic 62, 3) := by decide +kernel
theorem dX4_setStation_4 : decode cX4_setStation 4 = .ok (.ifCond .ne 5, 3) := by decide +kernel
theorem dX4_setStation_7 : decode cX4_setStation 7 = .ok (.iconst (-1), 1) := by decide +kernel
theorem dX4_setStation_8 : decode cX4_setStation 8 = .ok (.ireturn, 1) := by decide +kernel
theorem dX4_setStation_9 : decode cX4_setStation 9 = .ok (.iload_n 2, 1) := by decide +kernel
theorem dX4_setStation_10 : decode cX4_setStation 10 = .ok (.iconst 0, 1) := by decide +kernel
theorem dX4_setStation_11 : decode cX4_setStation 11 = .ok (.bipush 12, 2) := by decide +kernel
theorem dX4_setStation_13 : decode cX4_setStation 13 = .ok (.invokestatic 30, 3) := by decide +kernel
theorem dX4_setStation_16 : decode cX4_setStation 16 = .ok (.ifCond .eq 29, 3) := by decide +kernel
theorem dX4_setStation_19 : decode cX4_setStation 19 = .ok (.iload_n 3, 1) := by decide +kernel
theorem dX4_setStation_20 : decode cX4_setStation 20 = .ok (.bipush 10, 2) := by decide +kernel
theorem dX4_setStation_22 : decode cX4_setStation 22 = .ok (.sipush 200, 3) := by decide +kernel
theorem dX4_setStation_25 : decode cX4_setStation 25 = .ok (.invokestatic 30, 3) := by decide +kernel
theorem dX4_setStation_28 : decode cX4_setStation 28 = .ok (.ifCond .eq 17, 3) := by decide +kernel
theorem dX4_setStation_31 : decode cX4_setStation 31 = .ok (.iload 4, 2) := by decide +kernel
theorem dX4_setStation_33 : decode cX4_setStation 33 = .ok (.sipush (-2000), 3) := by decide +kernel
theorem dX4_setStation_36 : decode cX4_setStation 36 = .ok (.sipush 2000, 3) := by decide +kernel
theorem dX4_setStation_39 : decode cX4_setStation 39 = .ok (.invokestatic 30, 3) := by decide +kernel
theorem dX4_setStation_42 : decode cX4_setStation 42 = .ok (.ifCond .ne 6, 3) := by decide +kernel
theorem dX4_setStation_45 : decode cX4_setStation 45 = .ok (.bipush (-2), 2) := by decide +kernel
theorem dX4_setStation_47 : decode cX4_setStation 47 = .ok (.ireturn, 1) := by decide +kernel
theorem dX4_setStation_48 : decode cX4_setStation 48 = .ok (.aload_n 0, 1) := by decide +kernel
theorem dX4_setStation_49 : decode cX4_setStation 49 = .ok (.getfield 10, 3) := by decide +kernel
theorem dX4_setStation_52 : decode cX4_setStation 52 = .ok (.getfield 34, 3) := by decide +kernel
theorem dX4_setStation_55 : decode cX4_setStation 55 = .ok (.ifCond .eq 6, 3) := by decide +kernel
theorem dX4_setStation_58 : decode cX4_setStation 58 = .ok (.bipush (-4), 2) := by decide +kernel
theorem dX4_setStation_60 : decode cX4_setStation 60 = .ok (.ireturn, 1) := by decide +kernel
theorem dX4_setStation_61 : decode cX4_setStation 61 = .ok (.aload_n 0, 1) := by decide +kernel
theorem dX4_setStation_62 : decode cX4_setStation 62 = .ok (.getfield 10, 3) := by decide +kernel
theorem dX4_setStation_65 : decode cX4_setStation 65 = .ok (.getfield 66, 3) := by decide +kernel
theorem dX4_setStation_68 : decode cX4_setStation 68 = .ok (.iload_n 1, 1) := by decide +kernel
theorem dX4_setStation_69 : decode cX4_setStation 69 = .ok (.aaload, 1) := by decide +kernel
theorem dX4_setStation_70 : decode cX4_setStation 70 = .ok (.astore 5, 2) := by decide +kernel
theorem dX4_setStation_72 : decode cX4_setStation 72 = .ok (.aload 5, 2) := by decide +kernel
theorem dX4_setStation_74 : decode cX4_setStation 74 = .ok (.iload_n 2, 1) := by decide +kernel
theorem dX4_setStation_75 : decode cX4_setStation 75 = .ok (.iload_n 3, 1) := by decide +kernel
theorem dX4_setStation_76 : decode cX4_setStation 76 = .ok (.iload 4, 2) := by decide +kernel
theorem dX4_setStation_78 : decode cX4_setStation 78 = .ok (.invokevirtual 70, 3) := by decide +kernel
theorem dX4_setStation_81 : decode cX4_setStation 81 = .ok (.ifCond .eq 6, 3) := by decide +kernel
theorem dX4_setStation_84 : decode cX4_setStation 84 = .ok (.bipush (-5), 2) := by decide +kernel
theorem dX4_setStation_86 : decode cX4_setStation 86 = .ok (.ireturn, 1) := by decide +kernel
theorem dX4_setStation_87 : decode cX4_setStation 87 = .ok (.aload_n 0, 1) := by decide +kernel
theorem dX4_setStation_88 : decode cX4_setStation 88 = .ok (.invokevirtual 47, 3) := by decide +kernel
theorem dX4_setStation_91 : decode cX4_setStation 91 = .ok (.aload 5, 2) := by decide +kernel
theorem dX4_setStation_93 : decode cX4_setStation 93 = .ok (.iload_n 2, 1) := by decide +kernel
theorem dX4_setStation_94 : decode cX4_setStation 94 = .ok (.iload_n 3, 1) := by decide +kernel
theorem dX4_setStation_95 : decode cX4_setStation 95 = .ok (.iload 4, 2) := by decide +kernel
theorem dX4_setStation_97 : decode cX4_setStation 97 = .ok (.invokevirtual 73, 3) := by decide +kernel
theorem dX4_setStation_100 : decode cX4_setStation 100 = .ok (.aload_n 0, 1) := by decide +kernel
theorem dX4_setStation_101 : decode cX4_setStation 101 = .ok (.getfield 10, 3) := by decide +kernel
theorem dX4_setStation_104 : decode cX4_setStation 104 = .ok (.aload 5, 2) := by decide +kernel
theorem dX4_setStation_106 : decode cX4_setStation 106 = .ok (.invokevirtual 74, 3) := by decide +kernel
theorem dX4_setStation_109 : decode cX4_setStation 109 = .ok (.aload 5, 2) := by decide +kernel
theorem dX4_setStation_111 : decode cX4_setStation 111 = .ok (.getfield 78, 3) := by decide +kernel
theorem dX4_setStation_114 : decode cX4_setStation 114 = .ok (.ldc 61, 2) := by decide +kernel
theorem dX4_setStation_116 : decode cX4_setStation 116 = .ok (.iadd, 1) := by decide +kernel
theorem dX4_setStation_117 : decode cX4_setStation 117 = .ok (.ireturn, 1) := by decide +kernel
set_option maxRecDepth 20000 in
theorem ggX4_setRate_X4_isStation : GoodIn wsX4_setRate wsX4_isStation := goodIn_r _ [8] (by decide +kernel) (by decide +kernel)
set_option maxRecDepth 20000 in
theorem gX4_setRate_X4_isStation : GoodIn wsX4_setRate (va_wsS RX4 62 yX4_isStation wsX4_isStation) := goodIn_app (goodIn_of _ (by decide +kernel)) ggX4_setRate_X4_isStation
set_option maxRecDepth 20000 in
theorem ggX4_setRate_X4_isWithin : GoodIn wsX4_setRate wsX4_isWithin := goodIn_r _ [11] (by decide +kernel) (by decide +kernel)
set_option maxRecDepth 20000 in
theorem gX4_setRate_X4_isWithin : GoodIn wsX4_setRate (va_wsS RX4 30 yX4_isWithin wsX4_isWithin) := goodIn_app (goodIn_of _ (by decide +kernel)) ggX4_setRate_X4_isWithin
set_option maxRecDepth 20000 in
theorem ggX4_setRate_X4_remember : GoodIn wsX4_setRate wsX4_remember := goodIn_r _ [15, 16, 17, 1, 18, 19, 20, 7, 21, 22, 23, 24, 25, 26, 27, 28, 29, 30, 31, 32, 33, 34, 35, 36, 37, 38, 39, 40, 41, 42, 43, 44, 45, 46, 47, 48, 49, 50, 51, 52, 53, 54, 55, 56, 57, 58, 59, 60, 61, 62, 63, 64, 65, 66, 67, 68, 69, 70, 71, 72, 73, 74, 75, 76, 77, 93, 94, 95, 78, 79, 80, 81, 82, 83, 84, 85, 86, 87, 88, 89, 90, 91, 92] (by decide +kernel) (by decide +kernel)
set_option maxRecDepth 20000 in
theorem gX4_setRate_X4_remember : GoodIn wsX4_setRate (wsV RX4 47 RX4 yX4_remember wsX4_remember) := goodIn_app (goodIn_of _ (by decide +kernel)) ggX4_setRate_X4_remember
theorem dX4_setRate_0 : decode cX4_setRate 0 = .ok (.iload_n 1, 1) := by decide +kernel
theorem dX4_setRate_1 : decode cX4_setRate 1 = .ok (.invokestatic 62, 3) := by decide +kernel
theorem dX4_setRate_4 : decode cX4_setRate 4 = .ok (.ifCond .ne 5, 3) := by decide +kernel
theorem dX4_setRate_7 : decode cX4_setRate 7 = .ok (.iconst (-1), 1) := by decide +kernel
theorem dX4_setRate_8 : decode cX4_setRate 8 = .ok (.ireturn, 1) := by decide +kernel
theorem dX4_setRate_9 : decode cX4_setRate 9 = .ok (.iload_n 3, 1) := by decide +kernel
theorem dX4_setRate_10 : decode cX4_setRate 10 = .ok (.iconst 0, 1) := by decide +kernel
theorem dX4_setRate_11 : decode cX4_setRate 11 = .ok (.bipush 20, 2) := by decide +kernel
theorem dX4_setRate_13 : decode cX4_setRate 13 = .ok (.invokestatic 30, 3) := by decide +kernel
theorem dX4_setRate_16 : decode cX4_setRate 16 = .ok (.ifCond .ne 6, 3) := by decide +kernel
theorem dX4_setRate_19 : decode cX4_setRate 19 = .ok (.bipush (-2), 2) := by decide +kernel
theorem dX4_setRate_21 : decode cX4_setRate 21 = .ok (.ireturn, 1) := by decide +kernel
theorem dX4_setRate_22 : decode cX4_setRate 22 = .ok (.aload_n 0, 1) := by decide +kernel
theorem dX4_setRate_23 : decode cX4_setRate 23 = .ok (.getfield 10, 3) := by decide +kernel
theorem dX4_setRate_26 : decode cX4_setRate 26 = .ok (.getfield 66, 3) := by decide +kernel
theorem dX4_setRate_29 : decode cX4_setRate 29 = .ok (.iload_n 1, 1) := by decide +kernel
theorem dX4_setRate_30 : decode cX4_setRate 30 = .ok (.aaload, 1) := by decide +kernel
theorem dX4_setRate_31 : decode cX4_setRate 31 = .ok (.astore 4, 2) := by decide +kernel
theorem dX4_setRate_33 : decode cX4_setRate 33 = .ok (.iload_n 2, 1) := by decide +kernel
theorem dX4_setRate_34 : decode cX4_setRate 34 = .ok (.ifCond .eq 11, 3) := by decide +kernel
theorem dX4_setRate_37 : decode cX4_setRate 37 = .ok (.aload 4, 2) := by decide +kernel
theorem dX4_setRate_39 : decode cX4_setRate 39 = .ok (.getfield 81, 3) := by decide +kernel
theorem dX4_setRate_42 : decode cX4_setRate 42 = .ok (.goto 8, 3) := by decide +kernel
theorem dX4_setRate_45 : decode cX4_setRate 45 = .ok (.aload 4, 2) := by decide +kernel
theorem dX4_setRate_47 : decode cX4_setRate 47 = .ok (.getfield 84, 3) := by decide +kernel
theorem dX4_setRate_50 : decode cX4_setRate 50 = .ok (.istore 5, 2) := by decide +kernel
theorem dX4_setRate_52 : decode cX4_setRate 52 = .ok (.iload 5, 2) := by decide +kernel
theorem dX4_setRate_54 : decode cX4_setRate 54 = .ok (.iload_n 3, 1) := by decide +kernel
theorem dX4_setRate_55 : decode cX4_setRate 55 = .ok (.if_icmp .ne 6, 3) := by decide +kernel
theorem dX4_setRate_58 : decode cX4_setRate 58 = .ok (.bipush (-5), 2) := by decide +kernel
theorem dX4_setRate_60 : decode cX4_setRate 60 = .ok (.ireturn, 1) := by decide +kernel
theorem dX4_setRate_61 : decode cX4_setRate 61 = .ok (.aload_n 0, 1) := by decide +kernel
theorem dX4_setRate_62 : decode cX4_setRate 62 = .ok (.invokevirtual 47, 3) := by decide +kernel
theorem dX4_setRate_65 : decode cX4_setRate 65 = .ok (.iload_n 2, 1) := by decide +kernel
theorem dX4_setRate_66 : decode cX4_setRate 66 = .ok (.ifCond .eq 12, 3) := by decide +kernel
theorem dX4_setRate_69 : decode cX4_setRate 69 = .ok (.aload 4, 2) := by decide +kernel
theorem dX4_setRate_71 : decode cX4_setRate 71 = .ok (.iload_n 3, 1) := by decide +kernel
theorem dX4_setRate_72 : decode cX4_setRate 72 = .ok (.putfield 81, 3) := by decide +kernel
theorem dX4_setRate_75 : decode cX4_setRate 75 = .ok (.goto 9, 3) := by decide +kernel
theorem dX4_setRate_78 : decode cX4_setRate 78 = .ok (.aload 4, 2) := by decide +kernel
theorem dX4_setRate_80 : decode cX4_setRate 80 = .ok (.iload_n 3, 1) := by decide +kernel
theorem dX4_setRate_81 : decode cX4_setRate 81 = .ok (.putfield 84, 3) := by decide +kernel
theorem dX4_setRate_84 : decode cX4_setRate 84 = .ok (.iload 5, 2) := by decide +kernel
theorem dX4_setRate_86 : decode cX4_setRate 86 = .ok (.ireturn, 1) := by decide +kernel
set_option maxRecDepth 20000 in
theorem ggX4_turn_X4_isStation : GoodIn wsX4_turn wsX4_isStation := goodIn_r _ [7] (by decide +kernel) (by decide +kernel)
set_option maxRecDepth 20000 in
theorem gX4_turn_X4_isStation : GoodIn wsX4_turn (va_wsS RX4 62 yX4_isStation wsX4_isStation) := goodIn_app (goodIn_of _ (by decide +kernel)) ggX4_turn_X4_isStation
set_option maxRecDepth 20000 in
theorem ggX4_turn_X4_remember : GoodIn wsX4_turn wsX4_remember := goodIn_r _ [11, 12, 13, 1, 14, 15, 16, 6, 17, 18, 19, 20, 21, 22, 23, 24, 25, 26, 27, 28, 29, 30, 31, 32, 33, 34, 35, 36, 37, 38, 39, 40, 41, 42, 43, 44, 45, 46, 47, 48, 49, 50, 51, 52, 53, 54, 55, 56, 57, 58, 59, 60, 61, 62, 63, 64, 70, 71, 72, 73, 74, 75, 76, 77, 78, 94, 95, 96, 79, 80, 81, 82, 83, 84, 85, 86, 87, 88, 89, 90, 91, 92, 93] (by decide +kernel) (by decide +kernel)
set_option maxRecDepth 20000 in
theorem gX4_turn_X4_remember : GoodIn wsX4_turn (wsV RX4 47 RX4 yX4_remember wsX4_remember) := goodIn_app (goodIn_of _ (by decide +kernel)) ggX4_turn_X4_remember
set_option maxRecDepth 20000 in
theorem ggX4_turn_X2_stationsOn : GoodIn wsX4_turn wsX2_stationsOn := goodIn_r _ [68, 28, 69, 76, 77, 78, 79, 80, 81, 82, 83, 84, 85, 86, 87, 88, 89, 90, 91, 92, 93] (by decide +kernel) (by decide +kernel)
set_option maxRecDepth 20000 in
theorem gX4_turn_X2_stationsOn : GoodIn wsX4_turn (wsV RX4 91 RX2 yX2_stationsOn wsX2_stationsOn) := goodIn_app (goodIn_of _ (by decide +kernel)) ggX4_turn_X2_stationsOn
theorem dX4_turn_0 : decode cX4_turn 0 = .ok (.iload_n 1, 1) := by decide +kernel
theorem dX4_turn_1 : decode cX4_turn 1 = .ok (.invokestatic 62, 3) := by decide +kernel
theorem dX4_turn_4 : decode cX4_turn 4 = .ok (.ifCond .ne 5, 3) := by decide +kernel
theorem dX4_turn_7 : decode cX4_turn 7 = .ok (.iconst (-1), 1) := by decide +kernel
theorem dX4_turn_8 : decode cX4_turn 8 = .ok (.ireturn, 1) := by decide +kernel
theorem dX4_turn_9 : decode cX4_turn 9 = .ok (.aload_n 0, 1) := by decide +kernel
theorem dX4_turn_10 : decode cX4_turn 10 = .ok (.getfield 10, 3) := by decide +kernel
theorem dX4_turn_13 : decode cX4_turn 13 = .ok (.getfield 66, 3) := by decide +kernel
theorem dX4_turn_16 : decode cX4_turn 16 = .ok (.iload_n 1, 1) := by decide +kernel
theorem dX4_turn_17 : decode cX4_turn 17 = .ok (.aaload, 1) := by decide +kernel
theorem dX4_turn_18 : decode cX4_turn 18 = .ok (.astore_n 3, 1) := by decide +kernel
theorem dX4_turn_19 : decode cX4_turn 19 = .ok (.aload_n 3, 1) := by decide +kernel
theorem dX4_turn_20 : decode cX4_turn 20 = .ok (.getfield 87, 3) := by decide +kernel
theorem dX4_turn_23 : decode cX4_turn 23 = .ok (.iload_n 2, 1) := by decide +kernel
theorem dX4_turn_24 : decode cX4_turn 24 = .ok (.if_icmp .ne 6, 3) := by decide +kernel
theorem dX4_turn_27 : decode cX4_turn 27 = .ok (.bipush (-5), 2) := by decide +kernel
theorem dX4_turn_29 : decode cX4_turn 29 = .ok (.ireturn, 1) := by decide +kernel
theorem dX4_turn_30 : decode cX4_turn 30 = .ok (.aload_n 0, 1) := by decide +kernel
theorem dX4_turn_31 : decode cX4_turn 31 = .ok (.invokevirtual 47, 3) := by decide +kernel
theorem dX4_turn_34 : decode cX4_turn 34 = .ok (.aload_n 3, 1) := by decide +kernel
theorem dX4_turn_35 : decode cX4_turn 35 = .ok (.iload_n 2, 1) := by decide +kernel
theorem dX4_turn_36 : decode cX4_turn 36 = .ok (.putfield 87, 3) := by decide +kernel
theorem dX4_turn_39 : decode cX4_turn 39 = .ok (.aload_n 0, 1) := by decide +kernel
theorem dX4_turn_40 : decode cX4_turn 40 = .ok (.getfield 10, 3) := by decide +kernel
theorem dX4_turn_43 : decode cX4_turn 43 = .ok (.invokevirtual 91, 3) := by decide +kernel
theorem dX4_turn_46 : decode cX4_turn 46 = .ok (.ireturn, 1) := by decide +kernel
set_option maxRecDepth 20000 in
theorem ggX4_clean_X4_isStation : GoodIn wsX4_clean wsX4_isStation := goodIn_r _ [7] (by decide +kernel) (by decide +kernel)
set_option maxRecDepth 20000 in
theorem gX4_clean_X4_isStation : GoodIn wsX4_clean (va_wsS RX4 62 yX4_isStation wsX4_isStation) := goodIn_app (goodIn_of _ (by decide +kernel)) ggX4_clean_X4_isStation
set_option maxRecDepth 20000 in
theorem ggX4_clean_X4_remember : GoodIn wsX4_clean wsX4_remember := goodIn_r _ [11, 12, 13, 1, 14, 15, 16, 6, 17, 18, 19, 20, 21, 22, 23, 24, 25, 26, 27, 28, 29, 30, 31, 32, 33, 34, 35, 36, 37, 38, 39, 40, 41, 42, 43, 44, 45, 46, 47, 48, 49, 50, 51, 52, 53, 54, 55, 56, 57, 58, 59, 60, 61, 62, 63, 64, 65, 66, 67, 68, 69, 70, 71, 72, 73, 89, 90, 91, 74, 75, 76, 77, 78, 79, 80, 81, 82, 83, 84, 85, 86, 87, 88] (by decide +kernel) (by decide +kernel)
set_option maxRecDepth 20000 in
theorem gX4_clean_X4_remember : GoodIn wsX4_clean (wsV RX4 47 RX4 yX4_remember wsX4_remember) := goodIn_app (goodIn_of _ (by decide +kernel)) ggX4_clean_X4_remember
theorem dX4_clean_0 : decode cX4_clean 0 = .ok (.iload_n 1, 1) := by decide +kernel
theorem dX4_clean_1 : decode cX4_clean 1 = .ok (.invokestatic 62, 3) := by decide +kernel
theorem dX4_clean_4 : decode cX4_clean 4 = .ok (.ifCond .ne 5, 3) := by decide +kernel
theorem dX4_clean_7 : decode cX4_clean 7 = .ok (.iconst (-1), 1) := by decide +kernel
theorem dX4_clean_8 : decode cX4_clean 8 = .ok (.ireturn, 1) := by decide +kernel
theorem dX4_clean_9 : decode cX4_clean 9 = .ok (.aload_n 0, 1) := by decide +kernel
theorem dX4_clean_10 : decode cX4_clean 10 = .ok (.getfield 10, 3) := by decide +kernel
theorem dX4_clean_13 : decode cX4_clean 13 = .ok (.getfield 66, 3) := by decide +kernel
theorem dX4_clean_16 : decode cX4_clean 16 = .ok (.iload_n 1, 1) := by decide +kernel
theorem dX4_clean_17 : decode cX4_clean 17 = .ok (.aaload, 1) := by decide +kernel
theorem dX4_clean_18 : decode cX4_clean 18 = .ok (.astore_n 2, 1) := by decide +kernel
theorem dX4_clean_19 : decode cX4_clean 19 = .ok (.aload_n 2, 1) := by decide +kernel
theorem dX4_clean_20 : decode cX4_clean 20 = .ok (.getfield 95, 3) := by decide +kernel
theorem dX4_clean_23 : decode cX4_clean 23 = .ok (.istore_n 3, 1) := by decide +kernel
theorem dX4_clean_24 : decode cX4_clean 24 = .ok (.iload_n 3, 1) := by decide +kernel
theorem dX4_clean_25 : decode cX4_clean 25 = .ok (.ifCond .ne 6, 3) := by decide +kernel
theorem dX4_clean_28 : decode cX4_clean 28 = .ok (.bipush (-5), 2) := by decide +kernel
theorem dX4_clean_30 : decode cX4_clean 30 = .ok (.ireturn, 1) := by decide +kernel
theorem dX4_clean_31 : decode cX4_clean 31 = .ok (.aload_n 0, 1) := by decide +kernel
theorem dX4_clean_32 : decode cX4_clean 32 = .ok (.invokevirtual 47, 3) := by decide +kernel
theorem dX4_clean_35 : decode cX4_clean 35 = .ok (.aload_n 2, 1) := by decide +kernel
theorem dX4_clean_36 : decode cX4_clean 36 = .ok (.iconst 0, 1) := by decide +kernel
theorem dX4_clean_37 : decode cX4_clean 37 = .ok (.putfield 95, 3) := by decide +kernel
theorem dX4_clean_40 : decode cX4_clean 40 = .ok (.iload_n 3, 1) := by decide +kernel
theorem dX4_clean_41 : decode cX4_clean 41 = .ok (.ireturn, 1) := by decide +kernel
set_option maxRecDepth 20000 in
theorem ggX4_level_X4_isStation : GoodIn wsX4_level wsX4_isStation := goodIn_r _ [8] (by decide +kernel) (by decide +kernel)
set_option maxRecDepth 20000 in
theorem gX4_level_X4_isStation : GoodIn wsX4_level (va_wsS RX4 62 yX4_isStation wsX4_isStation) := goodIn_app (goodIn_of _ (by decide +kernel)) ggX4_level_X4_isStation
set_option maxRecDepth 20000 in
theorem ggX4_level_X0_isNotedAt : GoodIn wsX4_level wsX0_isNotedAt := goodIn_r _ [13, 14, 94, 95, 96, 97, 98, 99, 100, 101, 102, 103, 104, 105, 106, 107, 108] (by decide +kernel) (by decide +kernel)
set_option maxRecDepth 20000 in
theorem gX4_level_X0_isNotedAt : GoodIn wsX4_level (wsV RX4 98 RX0 yX0_isNotedAt wsX0_isNotedAt) := goodIn_app (goodIn_of _ (by decide +kernel)) ggX4_level_X0_isNotedAt
set_option maxRecDepth 20000 in
theorem ggX4_level_X4_remember : GoodIn wsX4_level wsX4_remember := goodIn_r _ [18, 19, 20, 1, 21, 22, 23, 7, 24, 25, 26, 27, 28, 29, 30, 31, 32, 33, 34, 35, 36, 37, 38, 39, 40, 41, 42, 43, 44, 45, 46, 12, 47, 48, 49, 50, 51, 52, 53, 54, 55, 56, 57, 58, 14, 59, 60, 61, 62, 63, 64, 65, 66, 67, 68, 69, 85, 86, 87, 88, 89, 90, 91, 92, 93, 109, 110, 111, 94, 95, 96, 97, 98, 99, 100, 101, 102, 103, 104, 105, 106, 107, 108] (by decide +kernel) (by decide +kernel)
set_option maxRecDepth 20000 in
theorem gX4_level_X4_remember : GoodIn wsX4_level (wsV RX4 47 RX4 yX4_remember wsX4_remember) := goodIn_app (goodIn_of _ (by decide +kernel)) ggX4_level_X4_remember
set_option maxRecDepth 20000 in
theorem ggX4_level_X0_noteAt : GoodIn wsX4_level wsX0_noteAt := goodIn_r _ [73, 14, 74, 75, 76, 77, 65, 58, 55, 57, 78, 10, 11, 12, 13, 79, 7, 80, 81, 82, 83, 84, 94, 95, 96, 97, 98, 99, 100, 101, 102, 103, 104, 105, 106, 107, 108] (by decide +kernel) (by decide +kernel)
set_option maxRecDepth 20000 in
theorem gX4_level_X0_noteAt : GoodIn wsX4_level (wsV RX4 101 RX0 yX0_noteAt wsX0_noteAt) := goodIn_app (goodIn_of _ (by decide +kernel)) ggX4_level_X0_noteAt
theorem dX4_level_0 : decode cX4_level 0 = .ok (.iload_n 1, 1) := by decide +kernel
theorem dX4_level_1 : decode cX4_level 1 = .ok (.invokestatic 62, 3) := by decide +kernel
theorem dX4_level_4 : decode cX4_level 4 = .ok (.ifCond .ne 5, 3) := by decide +kernel
theorem dX4_level_7 : decode cX4_level 7 = .ok (.iconst (-1), 1) := by decide +kernel
theorem dX4_level_8 : decode cX4_level 8 = .ok (.ireturn, 1) := by decide +kernel
theorem dX4_level_9 : decode cX4_level 9 = .ok (.aload_n 0, 1) := by decide +kernel
theorem dX4_level_10 : decode cX4_level 10 = .ok (.getfield 10, 3) := by decide +kernel
theorem dX4_level_13 : decode cX4_level 13 = .ok (.getfield 66, 3) := by decide +kernel
theorem dX4_level_16 : decode cX4_level 16 = .ok (.iload_n 1, 1) := by decide +kernel
theorem dX4_level_17 : decode cX4_level 17 = .ok (.aaload, 1) := by decide +kernel
theorem dX4_level_18 : decode cX4_level 18 = .ok (.astore_n 2, 1) := by decide +kernel
theorem dX4_level_19 : decode cX4_level 19 = .ok (.aload_n 2, 1) := by decide +kernel
theorem dX4_level_20 : decode cX4_level 20 = .ok (.aload_n 0, 1) := by decide +kernel
theorem dX4_level_21 : decode cX4_level 21 = .ok (.getfield 10, 3) := by decide +kernel
theorem dX4_level_24 : decode cX4_level 24 = .ok (.getfield 34, 3) := by decide +kernel
theorem dX4_level_27 : decode cX4_level 27 = .ok (.invokevirtual 98, 3) := by decide +kernel
theorem dX4_level_30 : decode cX4_level 30 = .ok (.ifCond .eq 6, 3) := by decide +kernel
theorem dX4_level_33 : decode cX4_level 33 = .ok (.bipush (-5), 2) := by decide +kernel
theorem dX4_level_35 : decode cX4_level 35 = .ok (.ireturn, 1) := by decide +kernel
theorem dX4_level_36 : decode cX4_level 36 = .ok (.aload_n 0, 1) := by decide +kernel
theorem dX4_level_37 : decode cX4_level 37 = .ok (.invokevirtual 47, 3) := by decide +kernel
theorem dX4_level_40 : decode cX4_level 40 = .ok (.aload_n 2, 1) := by decide +kernel
theorem dX4_level_41 : decode cX4_level 41 = .ok (.aload_n 0, 1) := by decide +kernel
theorem dX4_level_42 : decode cX4_level 42 = .ok (.getfield 10, 3) := by decide +kernel
theorem dX4_level_45 : decode cX4_level 45 = .ok (.getfield 34, 3) := by decide +kernel
theorem dX4_level_48 : decode cX4_level 48 = .ok (.invokevirtual 101, 3) := by decide +kernel
theorem dX4_level_51 : decode cX4_level 51 = .ok (.aload_n 2, 1) := by decide +kernel
theorem dX4_level_52 : decode cX4_level 52 = .ok (.getfield 105, 3) := by decide +kernel
theorem dX4_level_55 : decode cX4_level 55 = .ok (.ireturn, 1) := by decide +kernel
set_option maxRecDepth 20000 in
theorem ggX4_pass_X4_isWithin : GoodIn wsX4_pass wsX4_isWithin := goodIn_r _ [6] (by decide +kernel) (by decide +kernel)
set_option maxRecDepth 20000 in
theorem gX4_pass_X4_isWithin : GoodIn wsX4_pass (va_wsS RX4 30 yX4_isWithin wsX4_isWithin) := goodIn_app (goodIn_of _ (by decide +kernel)) ggX4_pass_X4_isWithin
set_option maxRecDepth 20000 in
theorem ggX4_pass_X4_remember : GoodIn wsX4_pass wsX4_remember := goodIn_r _ [10, 11, 12, 1, 13, 14, 15, 5, 16, 17, 18, 19, 20, 21, 22, 23, 24, 25, 26, 27, 28, 29, 30, 31, 32, 33, 34, 35, 36, 37, 38, 39, 40, 41, 42, 43, 44, 45, 46, 47, 48, 49, 50, 51, 52, 53, 54, 55, 56, 57, 58, 59, 60, 61, 62, 63, 99, 100, 101, 102, 103, 104, 105, 106, 107, 108, 109, 110, 111, 112, 113, 114, 115, 116, 117, 118, 119, 120, 121, 122, 123, 124, 125] (by decide +kernel) (by decide +kernel)
set_option maxRecDepth 20000 in
theorem gX4_pass_X4_remember : GoodIn wsX4_pass (wsV RX4 47 RX4 yX4_remember wsX4_remember) := goodIn_app (goodIn_of _ (by decide +kernel)) ggX4_pass_X4_remember
set_option maxRecDepth 20000 in
theorem ggX4_pass_X2_passHours : GoodIn wsX4_pass wsX2_passHours := goodIn_r _ [67, 22, 27, 68, 69, 70, 20, 71, 72, 73, 74, 75, 76, 77, 78, 23, 79, 80, 81, 31, 82, 34, 35, 33, 83, 84, 85, 86, 87, 88, 89, 90, 91, 92, 93, 39, 94, 44, 45, 53, 49, 58, 48, 59, 51, 46, 47, 95, 96, 97, 98, 105, 106, 107, 111, 112, 113, 114, 115, 116, 117, 118, 119, 120, 121, 122, 123, 124, 125, 108, 109, 110] (by decide +kernel) (by decide +kernel)
set_option maxRecDepth 20000 in
theorem gX4_pass_X2_passHours : GoodIn wsX4_pass (wsV RX4 108 RX2 yX2_passHours wsX2_passHours) := goodIn_app (goodIn_of _ (by decide +kernel)) ggX4_pass_X2_passHours
theorem dX4_pass_0 : decode cX4_pass 0 = .ok (.iload_n 1, 1) := by decide +kernel
theorem dX4_pass_1 : decode cX4_pass 1 = .ok (.iconst 1, 1) := by decide +kernel
theorem dX4_pass_2 : decode cX4_pass 2 = .ok (.bipush 120, 2) := by decide +kernel
theorem dX4_pass_4 : decode cX4_pass 4 = .ok (.invokestatic 30, 3) := by decide +kernel
theorem dX4_pass_7 : decode cX4_pass 7 = .ok (.ifCond .ne 6, 3) := by decide +kernel
theorem dX4_pass_10 : decode cX4_pass 10 = .ok (.bipush (-2), 2) := by decide +kernel
theorem dX4_pass_12 : decode cX4_pass 12 = .ok (.ireturn, 1) := by decide +kernel
theorem dX4_pass_13 : decode cX4_pass 13 = .ok (.aload_n 0, 1) := by decide +kernel
theorem dX4_pass_14 : decode cX4_pass 14 = .ok (.getfield 10, 3) := by decide +kernel
theorem dX4_pass_17 : decode cX4_pass 17 = .ok (.getfield 34, 3) := by decide +kernel
theorem dX4_pass_20 : decode cX4_pass 20 = .ok (.iload_n 1, 1) := by decide +kernel
theorem dX4_pass_21 : decode cX4_pass 21 = .ok (.iadd, 1) := by decide +kernel
theorem dX4_pass_22 : decode cX4_pass 22 = .ok (.bipush 120, 2) := by decide +kernel
theorem dX4_pass_24 : decode cX4_pass 24 = .ok (.if_icmp .le 6, 3) := by decide +kernel
theorem dX4_pass_27 : decode cX4_pass 27 = .ok (.bipush (-3), 2) := by decide +kernel
theorem dX4_pass_29 : decode cX4_pass 29 = .ok (.ireturn, 1) := by decide +kernel
theorem dX4_pass_30 : decode cX4_pass 30 = .ok (.aload_n 0, 1) := by decide +kernel
theorem dX4_pass_31 : decode cX4_pass 31 = .ok (.invokevirtual 47, 3) := by decide +kernel
theorem dX4_pass_34 : decode cX4_pass 34 = .ok (.aload_n 0, 1) := by decide +kernel
theorem dX4_pass_35 : decode cX4_pass 35 = .ok (.getfield 10, 3) := by decide +kernel
theorem dX4_pass_38 : decode cX4_pass 38 = .ok (.iload_n 1, 1) := by decide +kernel
theorem dX4_pass_39 : decode cX4_pass 39 = .ok (.invokevirtual 108, 3) := by decide +kernel
theorem dX4_pass_42 : decode cX4_pass 42 = .ok (.aload_n 0, 1) := by decide +kernel
theorem dX4_pass_43 : decode cX4_pass 43 = .ok (.getfield 10, 3) := by decide +kernel
theorem dX4_pass_46 : decode cX4_pass 46 = .ok (.getfield 34, 3) := by decide +kernel
theorem dX4_pass_49 : decode cX4_pass 49 = .ok (.ireturn, 1) := by decide +kernel
set_option maxRecDepth 20000 in
theorem ggX4_follow_X1_faultAt : GoodIn wsX4_follow wsX1_faultAt := goodIn_r _ [9, 10, 11, 12, 13, 8, 14, 15, 16, 17, 18, 19, 20, 21, 22, 23, 24, 25, 26, 27, 28, 29, 30, 31, 32, 33, 176, 177] (by decide +kernel) (by decide +kernel)
set_option maxRecDepth 20000 in
theorem gX4_follow_X1_faultAt : GoodIn wsX4_follow (wsV RX4 111 RX1 yX1_faultAt wsX1_faultAt) := goodIn_app (goodIn_of _ (by decide +kernel)) ggX4_follow_X1_faultAt
set_option maxRecDepth 20000 in
theorem ggX4_follow_X1_hoursInAll : GoodIn wsX4_follow wsX1_hoursInAll := goodIn_r _ [37, 10, 11, 12, 13, 8, 14, 15, 38, 39, 40, 41, 28, 29, 30, 176, 177] (by decide +kernel) (by decide +kernel)
set_option maxRecDepth 20000 in
theorem gX4_follow_X1_hoursInAll : GoodIn wsX4_follow (wsV RX4 114 RX1 yX1_hoursInAll wsX1_hoursInAll) := goodIn_app (goodIn_of _ (by decide +kernel)) ggX4_follow_X1_hoursInAll
set_option maxRecDepth 20000 in
theorem ggX4_follow_X4_remember : GoodIn wsX4_follow wsX4_remember := goodIn_r _ [45, 46, 47, 2, 48, 49, 50, 26, 51, 52, 53, 54, 55, 56, 57, 58, 59, 60, 61, 62, 63, 64, 65, 66, 67, 68, 69, 70, 71, 72, 73, 74, 75, 76, 77, 78, 79, 80, 81, 82, 83, 84, 85, 86, 87, 88, 89, 90, 91, 92, 93, 94, 95, 96, 97, 98, 167, 168, 169, 170, 171, 172, 173, 174, 175, 178, 179, 180, 181, 182, 183, 184, 185, 186, 187, 188, 189, 190, 191, 192, 193, 194, 195] (by decide +kernel) (by decide +kernel)
set_option maxRecDepth 20000 in
theorem gX4_follow_X4_remember : GoodIn wsX4_follow (wsV RX4 47 RX4 yX4_remember wsX4_remember) := goodIn_app (goodIn_of _ (by decide +kernel)) ggX4_follow_X4_remember
set_option maxRecDepth 20000 in
theorem ggX4_follow_X1_startsOrder : GoodIn wsX4_follow wsX1_startsOrder := goodIn_r _ [102, 11, 12, 13, 8, 14, 10, 15, 22, 23, 24, 176, 177] (by decide +kernel) (by decide +kernel)
set_option maxRecDepth 20000 in
theorem gX4_follow_X1_startsOrder : GoodIn wsX4_follow (wsV RX4 120 RX1 yX1_startsOrder wsX1_startsOrder) := goodIn_app (goodIn_of _ (by decide +kernel)) ggX4_follow_X1_startsOrder
set_option maxRecDepth 20000 in
theorem ggX4_follow_X1_characterAt : GoodIn wsX4_follow wsX1_characterAt := goodIn_r _ [14, 10, 15, 176, 177] (by decide +kernel) (by decide +kernel)
set_option maxRecDepth 20000 in
theorem gX4_follow_X1_characterAt : GoodIn wsX4_follow (wsV RX4 123 RX1 yX1_characterAt wsX1_characterAt) := goodIn_app (goodIn_of _ (by decide +kernel)) ggX4_follow_X1_characterAt
set_option maxRecDepth 20000 in
theorem ggX4_follow_X1_numberFrom : GoodIn wsX4_follow wsX1_numberFrom := goodIn_r _ [41, 10, 11, 12, 13, 8, 14, 15, 28, 29, 30, 176, 177] (by decide +kernel) (by decide +kernel)
set_option maxRecDepth 20000 in
theorem gX4_follow_X1_numberFrom : GoodIn wsX4_follow (wsV RX4 127 RX1 yX1_numberFrom wsX1_numberFrom) := goodIn_app (goodIn_of _ (by decide +kernel)) ggX4_follow_X1_numberFrom
set_option maxRecDepth 20000 in
theorem ggX4_follow_X2_obey : GoodIn wsX4_follow wsX2_obey := goodIn_r _ [108, 62, 109, 110, 111, 55, 112, 57, 113, 114, 115, 116, 117, 118, 119, 120, 121, 122, 123, 58, 124, 125, 126, 66, 127, 69, 70, 68, 128, 129, 130, 131, 132, 133, 134, 135, 136, 137, 138, 74, 139, 79, 80, 88, 84, 93, 83, 94, 86, 81, 82, 140, 141, 142, 143, 144, 26, 145, 146, 147, 148, 149, 150, 151, 152, 153, 154, 155, 87, 156, 157, 158, 159, 85, 160, 161, 162, 163, 164, 165, 166, 173, 174, 175, 181, 182, 183, 184, 185, 186, 187, 188, 189, 190, 191, 192, 193, 194, 195, 178, 179, 180] (by decide +kernel) (by decide +kernel)
set_option maxRecDepth 20000 in
theorem gX4_follow_X2_obey : GoodIn wsX4_follow (wsV RX4 130 RX2 yX2_obey wsX2_obey) := goodIn_app (goodIn_of _ (by decide +kernel)) ggX4_follow_X2_obey
theorem dX4_follow_0 : decode cX4_follow 0 = .ok (.aload_n 0, 1) := by decide +kernel
theorem dX4_follow_1 : decode cX4_follow 1 = .ok (.getfield 26, 3) := by decide +kernel
theorem dX4_follow_4 : decode cX4_follow 4 = .ok (.invokevirtual 111, 3) := by decide +kernel
theorem dX4_follow_7 : decode cX4_follow 7 = .ok (.istore_n 1, 1) := by decide +kernel
theorem dX4_follow_8 : decode cX4_follow 8 = .ok (.iload_n 1, 1) := by decide +kernel
theorem dX4_follow_9 : decode cX4_follow 9 = .ok (.iconst (-1), 1) := by decide +kernel
theorem dX4_follow_10 : decode cX4_follow 10 = .ok (.if_icmp .eq 8, 3) := by decide +kernel
theorem dX4_follow_13 : decode cX4_follow 13 = .ok (.bipush (-100), 2) := by decide +kernel
theorem dX4_follow_15 : decode cX4_follow 15 = .ok (.iload_n 1, 1) := by decide +kernel
theorem dX4_follow_16 : decode cX4_follow 16 = .ok (.isub, 1) := by decide +kernel
theorem dX4_follow_17 : decode cX4_follow 17 = .ok (.ireturn, 1) := by decide +kernel
theorem dX4_follow_18 : decode cX4_follow 18 = .ok (.aload_n 0, 1) := by decide +kernel
theorem dX4_follow_19 : decode cX4_follow 19 = .ok (.getfield 10, 3) := by decide +kernel
theorem dX4_follow_22 : decode cX4_follow 22 = .ok (.getfield 34, 3) := by decide +kernel
theorem dX4_follow_25 : decode cX4_follow 25 = .ok (.aload_n 0, 1) := by decide +kernel
theorem dX4_follow_26 : decode cX4_follow 26 = .ok (.getfield 26, 3) := by decide +kernel
theorem dX4_follow_29 : decode cX4_follow 29 = .ok (.invokevirtual 114, 3) := by decide +kernel
theorem dX4_follow_32 : decode cX4_follow 32 = .ok (.iadd, 1) := by decide +kernel
theorem dX4_follow_33 : decode cX4_follow 33 = .ok (.bipush 120, 2) := by decide +kernel
theorem dX4_follow_35 : decode cX4_follow 35 = .ok (.if_icmp .le 6, 3) := by decide +kernel
theorem dX4_follow_38 : decode cX4_follow 38 = .ok (.bipush (-3), 2) := by decide +kernel
theorem dX4_follow_40 : decode cX4_follow 40 = .ok (.ireturn, 1) := by decide +kernel
theorem dX4_follow_41 : decode cX4_follow 41 = .ok (.aload_n 0, 1) := by decide +kernel
theorem dX4_follow_42 : decode cX4_follow 42 = .ok (.invokevirtual 47, 3) := by decide +kernel
theorem dX4_follow_45 : decode cX4_follow 45 = .ok (.iconst 0, 1) := by decide +kernel
theorem dX4_follow_46 : decode cX4_follow 46 = .ok (.istore_n 2, 1) := by decide +kernel
theorem dX4_follow_47 : decode cX4_follow 47 = .ok (.iconst 0, 1) := by decide +kernel
theorem dX4_follow_48 : decode cX4_follow 48 = .ok (.istore_n 3, 1) := by decide +kernel
theorem dX4_follow_49 : decode cX4_follow 49 = .ok (.iload_n 3, 1) := by decide +kernel
theorem dX4_follow_50 : decode cX4_follow 50 = .ok (.aload_n 0, 1) := by decide +kernel
theorem dX4_follow_51 : decode cX4_follow 51 = .ok (.getfield 26, 3) := by decide +kernel
theorem dX4_follow_54 : decode cX4_follow 54 = .ok (.getfield 117, 3) := by decide +kernel
theorem dX4_follow_57 : decode cX4_follow 57 = .ok (.if_icmp .ge 48, 3) := by decide +kernel
theorem dX4_follow_60 : decode cX4_follow 60 = .ok (.aload_n 0, 1) := by decide +kernel
theorem dX4_follow_61 : decode cX4_follow 61 = .ok (.getfield 26, 3) := by decide +kernel
theorem dX4_follow_64 : decode cX4_follow 64 = .ok (.iload_n 3, 1) := by decide +kernel
theorem dX4_follow_65 : decode cX4_follow 65 = .ok (.invokevirtual 120, 3) := by decide +kernel
theorem dX4_follow_68 : decode cX4_follow 68 = .ok (.ifCond .eq 31, 3) := by decide +kernel
theorem dX4_follow_71 : decode cX4_follow 71 = .ok (.aload_n 0, 1) := by decide +kernel
theorem dX4_follow_72 : decode cX4_follow 72 = .ok (.getfield 10, 3) := by decide +kernel
theorem dX4_follow_75 : decode cX4_follow 75 = .ok (.aload_n 0, 1) := by decide +kernel
theorem dX4_follow_76 : decode cX4_follow 76 = .ok (.getfield 26, 3) := by decide +kernel
theorem dX4_follow_79 : decode cX4_follow 79 = .ok (.iload_n 3, 1) := by decide +kernel
theorem dX4_follow_80 : decode cX4_follow 80 = .ok (.invokevirtual 123, 3) := by decide +kernel
theorem dX4_follow_83 : decode cX4_follow 83 = .ok (.aload_n 0, 1) := by decide +kernel
theorem dX4_follow_84 : decode cX4_follow 84 = .ok (.getfield 26, 3) := by decide +kernel
theorem dX4_follow_87 : decode cX4_follow 87 = .ok (.iload_n 3, 1) := by decide +kernel
theorem dX4_follow_88 : decode cX4_follow 88 = .ok (.iconst 1, 1) := by decide +kernel
theorem dX4_follow_89 : decode cX4_follow 89 = .ok (.iadd, 1) := by decide +kernel
theorem dX4_follow_90 : decode cX4_follow 90 = .ok (.invokevirtual 127, 3) := by decide +kernel
theorem dX4_follow_93 : decode cX4_follow 93 = .ok (.invokevirtual 130, 3) := by decide +kernel
theorem dX4_follow_96 : decode cX4_follow 96 = .ok (.iinc 2 1, 3) := by decide +kernel
theorem dX4_follow_99 : decode cX4_follow 99 = .ok (.iinc 3 1, 3) := by decide +kernel
theorem dX4_follow_102 : decode cX4_follow 102 = .ok (.goto (-53), 3) := by decide +kernel
theorem dX4_follow_105 : decode cX4_follow 105 = .ok (.iload_n 2, 1) := by decide +kernel
theorem dX4_follow_106 : decode cX4_follow 106 = .ok (.ireturn, 1) := by decide +kernel
set_option maxRecDepth 20000 in
theorem ggX4_mend_X4_checkMending : GoodIn wsX4_mend wsX4_checkMending := goodIn_r _ [7, 1, 2, 8, 9, 6, 10, 11, 12, 13, 14, 15, 16, 17, 18, 19, 20, 21, 22, 23, 24, 25, 26, 27, 28, 29, 30, 31, 32, 33, 34, 35, 36, 37, 38, 39, 40, 41, 42, 43, 44, 45, 46, 47, 135, 136, 137, 138, 139, 140, 141, 142, 143, 144, 145, 146, 147, 148, 149, 150, 151, 152, 153, 154, 155, 156, 157, 158] (by decide +kernel) (by decide +kernel)
set_option maxRecDepth 20000 in
theorem gX4_mend_X4_checkMending : GoodIn wsX4_mend (wsV RX4 134 RX4 yX4_checkMending wsX4_checkMending) := goodIn_app (goodIn_of _ (by decide +kernel)) ggX4_mend_X4_checkMending
set_option maxRecDepth 20000 in
theorem ggX4_mend_X0_firstHourOfGap : GoodIn wsX4_mend wsX0_firstHourOfGap := goodIn_r _ [19, 20, 21, 22, 14, 23, 24, 25, 26, 27, 28, 29, 30, 31, 32, 144, 145, 146, 147, 148, 149, 150, 151, 152, 153, 154, 155, 156, 157, 158] (by decide +kernel) (by decide +kernel)
set_option maxRecDepth 20000 in
theorem gX4_mend_X0_firstHourOfGap : GoodIn wsX4_mend (wsV RX4 138 RX0 yX0_firstHourOfGap wsX0_firstHourOfGap) := goodIn_app (goodIn_of _ (by decide +kernel)) ggX4_mend_X0_firstHourOfGap
set_option maxRecDepth 20000 in
theorem ggX4_mend_X0_hourBehindGapFrom : GoodIn wsX4_mend wsX0_hourBehindGapFrom := goodIn_r _ [47, 24, 25, 26, 14, 27, 28, 29, 30, 31, 32, 144, 145, 146, 147, 148, 149, 150, 151, 152, 153, 154, 155, 156, 157, 158] (by decide +kernel) (by decide +kernel)
set_option maxRecDepth 20000 in
theorem gX4_mend_X0_hourBehindGapFrom : GoodIn wsX4_mend (wsV RX4 141 RX0 yX0_hourBehindGapFrom wsX0_hourBehindGapFrom) := goodIn_app (goodIn_of _ (by decide +kernel)) ggX4_mend_X0_hourBehindGapFrom
set_option maxRecDepth 20000 in
theorem ggX4_mend_X0_hasReadings : GoodIn wsX4_mend wsX0_hasReadings := goodIn_r _ [53, 40, 41, 42, 14, 43, 28, 29, 30, 31, 32, 144, 145, 146, 147, 148, 149, 150, 151, 152, 153, 154, 155, 156, 157, 158] (by decide +kernel) (by decide +kernel)
set_option maxRecDepth 20000 in
theorem gX4_mend_X0_hasReadings : GoodIn wsX4_mend (wsV RX4 144 RX0 yX0_hasReadings wsX0_hasReadings) := goodIn_app (goodIn_of _ (by decide +kernel)) ggX4_mend_X0_hasReadings
set_option maxRecDepth 20000 in
theorem ggX4_mend_X4_remember : GoodIn wsX4_mend wsX4_remember := goodIn_r _ [57, 58, 59, 1, 60, 61, 62, 6, 63, 64, 65, 66, 67, 68, 69, 70, 71, 72, 73, 74, 75, 76, 77, 78, 79, 80, 81, 82, 83, 84, 85, 14, 86, 87, 88, 89, 90, 91, 92, 93, 94, 95, 96, 97, 98, 32, 99, 100, 101, 102, 103, 104, 105, 106, 107, 108, 135, 136, 137, 138, 139, 140, 141, 142, 143, 159, 160, 161, 144, 145, 146, 147, 148, 149, 150, 151, 152, 153, 154, 155, 156, 157, 158] (by decide +kernel) (by decide +kernel)
set_option maxRecDepth 20000 in
theorem gX4_mend_X4_remember : GoodIn wsX4_mend (wsV RX4 47 RX4 yX4_remember wsX4_remember) := goodIn_app (goodIn_of _ (by decide +kernel)) ggX4_mend_X4_remember
set_option maxRecDepth 20000 in
theorem ggX4_mend_X0_mendBetween : GoodIn wsX4_mend wsX0_mendBetween := goodIn_r _ [112, 113, 114, 115, 116, 32, 103, 117, 118, 119, 14, 120, 121, 122, 123, 124, 125, 126, 127, 128, 104, 129, 6, 130, 131, 132, 133, 134, 144, 145, 146, 147, 148, 149, 150, 151, 152, 153, 154, 155, 156, 157, 158] (by decide +kernel) (by decide +kernel)
set_option maxRecDepth 20000 in
theorem gX4_mend_X0_mendBetween : GoodIn wsX4_mend (wsV RX4 148 RX0 yX0_mendBetween wsX0_mendBetween) := goodIn_app (goodIn_of _ (by decide +kernel)) ggX4_mend_X0_mendBetween
theorem dX4_mend_0 : decode cX4_mend 0 = .ok (.aload_n 0, 1) := by decide +kernel
theorem dX4_mend_1 : decode cX4_mend 1 = .ok (.iload_n 1, 1) := by decide +kernel
theorem dX4_mend_2 : decode cX4_mend 2 = .ok (.iload_n 2, 1) := by decide +kernel
theorem dX4_mend_3 : decode cX4_mend 3 = .ok (.iload_n 3, 1) := by decide +kernel
theorem dX4_mend_4 : decode cX4_mend 4 = .ok (.iload 4, 2) := by decide +kernel
theorem dX4_mend_6 : decode cX4_mend 6 = .ok (.invokevirtual 134, 3) := by decide +kernel
theorem dX4_mend_9 : decode cX4_mend 9 = .ok (.istore 5, 2) := by decide +kernel
theorem dX4_mend_11 : decode cX4_mend 11 = .ok (.iload 5, 2) := by decide +kernel
theorem dX4_mend_13 : decode cX4_mend 13 = .ok (.ifCond .eq 6, 3) := by decide +kernel
theorem dX4_mend_16 : decode cX4_mend 16 = .ok (.iload 5, 2) := by decide +kernel
theorem dX4_mend_18 : decode cX4_mend 18 = .ok (.ireturn, 1) := by decide +kernel
theorem dX4_mend_19 : decode cX4_mend 19 = .ok (.aload_n 0, 1) := by decide +kernel
theorem dX4_mend_20 : decode cX4_mend 20 = .ok (.getfield 10, 3) := by decide +kernel
theorem dX4_mend_23 : decode cX4_mend 23 = .ok (.getfield 66, 3) := by decide +kernel
theorem dX4_mend_26 : decode cX4_mend 26 = .ok (.iload_n 1, 1) := by decide +kernel
theorem dX4_mend_27 : decode cX4_mend 27 = .ok (.aaload, 1) := by decide +kernel
theorem dX4_mend_28 : decode cX4_mend 28 = .ok (.astore 6, 2) := by decide +kernel
theorem dX4_mend_30 : decode cX4_mend 30 = .ok (.aload_n 0, 1) := by decide +kernel
theorem dX4_mend_31 : decode cX4_mend 31 = .ok (.getfield 10, 3) := by decide +kernel
theorem dX4_mend_34 : decode cX4_mend 34 = .ok (.getfield 66, 3) := by decide +kernel
theorem dX4_mend_37 : decode cX4_mend 37 = .ok (.iload_n 3, 1) := by decide +kernel
theorem dX4_mend_38 : decode cX4_mend 38 = .ok (.aaload, 1) := by decide +kernel
theorem dX4_mend_39 : decode cX4_mend 39 = .ok (.astore 7, 2) := by decide +kernel
theorem dX4_mend_41 : decode cX4_mend 41 = .ok (.aload 6, 2) := by decide +kernel
theorem dX4_mend_43 : decode cX4_mend 43 = .ok (.iload_n 2, 1) := by decide +kernel
theorem dX4_mend_44 : decode cX4_mend 44 = .ok (.invokevirtual 138, 3) := by decide +kernel
theorem dX4_mend_47 : decode cX4_mend 47 = .ok (.iconst 1, 1) := by decide +kernel
theorem dX4_mend_48 : decode cX4_mend 48 = .ok (.isub, 1) := by decide +kernel
theorem dX4_mend_49 : decode cX4_mend 49 = .ok (.istore 8, 2) := by decide +kernel
theorem dX4_mend_51 : decode cX4_mend 51 = .ok (.aload 6, 2) := by decide +kernel
theorem dX4_mend_53 : decode cX4_mend 53 = .ok (.iload 8, 2) := by decide +kernel
theorem dX4_mend_55 : decode cX4_mend 55 = .ok (.iconst 1, 1) := by decide +kernel
theorem dX4_mend_56 : decode cX4_mend 56 = .ok (.iadd, 1) := by decide +kernel
theorem dX4_mend_57 : decode cX4_mend 57 = .ok (.invokevirtual 141, 3) := by decide +kernel
theorem dX4_mend_60 : decode cX4_mend 60 = .ok (.istore 9, 2) := by decide +kernel
theorem dX4_mend_62 : decode cX4_mend 62 = .ok (.aload 7, 2) := by decide +kernel
theorem dX4_mend_64 : decode cX4_mend 64 = .ok (.iload 8, 2) := by decide +kernel
theorem dX4_mend_66 : decode cX4_mend 66 = .ok (.iload 4, 2) := by decide +kernel
theorem dX4_mend_68 : decode cX4_mend 68 = .ok (.iadd, 1) := by decide +kernel
theorem dX4_mend_69 : decode cX4_mend 69 = .ok (.iload 9, 2) := by decide +kernel
theorem dX4_mend_71 : decode cX4_mend 71 = .ok (.iload 4, 2) := by decide +kernel
theorem dX4_mend_73 : decode cX4_mend 73 = .ok (.iadd, 1) := by decide +kernel
theorem dX4_mend_74 : decode cX4_mend 74 = .ok (.invokevirtual 144, 3) := by decide +kernel
theorem dX4_mend_77 : decode cX4_mend 77 = .ok (.ifCond .ne 6, 3) := by decide +kernel
theorem dX4_mend_80 : decode cX4_mend 80 = .ok (.bipush (-4), 2) := by decide +kernel
theorem dX4_mend_82 : decode cX4_mend 82 = .ok (.ireturn, 1) := by decide +kernel
theorem dX4_mend_83 : decode cX4_mend 83 = .ok (.aload_n 0, 1) := by decide +kernel
theorem dX4_mend_84 : decode cX4_mend 84 = .ok (.invokevirtual 47, 3) := by decide +kernel
theorem dX4_mend_87 : decode cX4_mend 87 = .ok (.aload 6, 2) := by decide +kernel
theorem dX4_mend_89 : decode cX4_mend 89 = .ok (.iload 8, 2) := by decide +kernel
theorem dX4_mend_91 : decode cX4_mend 91 = .ok (.iload 9, 2) := by decide +kernel
theorem dX4_mend_93 : decode cX4_mend 93 = .ok (.aload 7, 2) := by decide +kernel
theorem dX4_mend_95 : decode cX4_mend 95 = .ok (.iload 4, 2) := by decide +kernel
theorem dX4_mend_97 : decode cX4_mend 97 = .ok (.invokevirtual 148, 3) := by decide +kernel
theorem dX4_mend_100 : decode cX4_mend 100 = .ok (.iload 9, 2) := by decide +kernel
theorem dX4_mend_102 : decode cX4_mend 102 = .ok (.iload 8, 2) := by decide +kernel
theorem dX4_mend_104 : decode cX4_mend 104 = .ok (.isub, 1) := by decide +kernel
theorem dX4_mend_105 : decode cX4_mend 105 = .ok (.iconst 1, 1) := by decide +kernel
theorem dX4_mend_106 : decode cX4_mend 106 = .ok (.isub, 1) := by decide +kernel
theorem dX4_mend_107 : decode cX4_mend 107 = .ok (.ireturn, 1) := by decide +kernel
set_option maxRecDepth 20000 in
theorem ggX4_forget_X4_isStation : GoodIn wsX4_forget wsX4_isStation := goodIn_r _ [6] (by decide +kernel) (by decide +kernel)
set_option maxRecDepth 20000 in
theorem gX4_forget_X4_isStation : GoodIn wsX4_forget (va_wsS RX4 62 yX4_isStation wsX4_isStation) := goodIn_app (goodIn_of _ (by decide +kernel)) ggX4_forget_X4_isStation
set_option maxRecDepth 20000 in
theorem ggX4_forget_X0_hoursOfKind : GoodIn wsX4_forget wsX0_hoursOfKind := goodIn_r _ [11, 12, 81, 82, 83, 84, 85, 86, 87, 88, 89, 90, 91, 92, 93, 94, 95] (by decide +kernel) (by decide +kernel)
set_option maxRecDepth 20000 in
theorem gX4_forget_X0_hoursOfKind : GoodIn wsX4_forget (wsV RX4 152 RX0 yX0_hoursOfKind wsX0_hoursOfKind) := goodIn_app (goodIn_of _ (by decide +kernel)) ggX4_forget_X0_hoursOfKind
set_option maxRecDepth 20000 in
theorem ggX4_forget_X4_remember : GoodIn wsX4_forget wsX4_remember := goodIn_r _ [16, 17, 18, 1, 19, 20, 21, 5, 22, 23, 24, 25, 26, 27, 28, 29, 30, 31, 32, 33, 34, 35, 36, 37, 38, 39, 40, 41, 42, 43, 44, 10, 45, 46, 47, 48, 49, 50, 51, 52, 53, 54, 55, 56, 57, 12, 58, 59, 60, 61, 62, 63, 64, 65, 66, 67, 72, 73, 74, 75, 76, 77, 78, 79, 80, 96, 97, 98, 81, 82, 83, 84, 85, 86, 87, 88, 89, 90, 91, 92, 93, 94, 95] (by decide +kernel) (by decide +kernel)
set_option maxRecDepth 20000 in
theorem gX4_forget_X4_remember : GoodIn wsX4_forget (wsV RX4 47 RX4 yX4_remember wsX4_remember) := goodIn_app (goodIn_of _ (by decide +kernel)) ggX4_forget_X4_remember
set_option maxRecDepth 20000 in
theorem ggX4_forget_X0_forgetMended : GoodIn wsX4_forget wsX0_forgetMended := goodIn_r _ [71, 12, 81, 82, 83, 84, 85, 86, 87, 88, 89, 90, 91, 92, 93, 94, 95] (by decide +kernel) (by decide +kernel)
set_option maxRecDepth 20000 in
theorem gX4_forget_X0_forgetMended : GoodIn wsX4_forget (wsV RX4 155 RX0 yX0_forgetMended wsX0_forgetMended) := goodIn_app (goodIn_of _ (by decide +kernel)) ggX4_forget_X0_forgetMended
theorem dX4_forget_0 : decode cX4_forget 0 = .ok (.iload_n 1, 1) := by decide +kernel
theorem dX4_forget_1 : decode cX4_forget 1 = .ok (.invokestatic 62, 3) := by decide +kernel
theorem dX4_forget_4 : decode cX4_forget 4 = .ok (.ifCond .ne 5, 3) := by decide +kernel
theorem dX4_forget_7 : decode cX4_forget 7 = .ok (.iconst (-1), 1) := by decide +kernel
theorem dX4_forget_8 : decode cX4_forget 8 = .ok (.ireturn, 1) := by decide +kernel
theorem dX4_forget_9 : decode cX4_forget 9 = .ok (.aload_n 0, 1) := by decide +kernel
theorem dX4_forget_10 : decode cX4_forget 10 = .ok (.getfield 10, 3) := by decide +kernel
theorem dX4_forget_13 : decode cX4_forget 13 = .ok (.getfield 66, 3) := by decide +kernel
theorem dX4_forget_16 : decode cX4_forget 16 = .ok (.iload_n 1, 1) := by decide +kernel
theorem dX4_forget_17 : decode cX4_forget 17 = .ok (.aaload, 1) := by decide +kernel
theorem dX4_forget_18 : decode cX4_forget 18 = .ok (.astore_n 2, 1) := by decide +kernel
theorem dX4_forget_19 : decode cX4_forget 19 = .ok (.aload_n 2, 1) := by decide +kernel
theorem dX4_forget_20 : decode cX4_forget 20 = .ok (.iconst 2, 1) := by decide +kernel
theorem dX4_forget_21 : decode cX4_forget 21 = .ok (.invokevirtual 152, 3) := by decide +kernel
theorem dX4_forget_24 : decode cX4_forget 24 = .ok (.istore_n 3, 1) := by decide +kernel
theorem dX4_forget_25 : decode cX4_forget 25 = .ok (.iload_n 3, 1) := by decide +kernel
theorem dX4_forget_26 : decode cX4_forget 26 = .ok (.ifCond .ne 6, 3) := by decide +kernel
theorem dX4_forget_29 : decode cX4_forget 29 = .ok (.bipush (-5), 2) := by decide +kernel
theorem dX4_forget_31 : decode cX4_forget 31 = .ok (.ireturn, 1) := by decide +kernel
theorem dX4_forget_32 : decode cX4_forget 32 = .ok (.aload_n 0, 1) := by decide +kernel
theorem dX4_forget_33 : decode cX4_forget 33 = .ok (.invokevirtual 47, 3) := by decide +kernel
theorem dX4_forget_36 : decode cX4_forget 36 = .ok (.aload_n 2, 1) := by decide +kernel
theorem dX4_forget_37 : decode cX4_forget 37 = .ok (.invokevirtual 155, 3) := by decide +kernel
theorem dX4_forget_40 : decode cX4_forget 40 = .ok (.iload_n 3, 1) := by decide +kernel
theorem dX4_forget_41 : decode cX4_forget 41 = .ok (.ireturn, 1) := by decide +kernel
set_option maxRecDepth 20000 in
theorem ggX4_type_X1_add : GoodIn wsX4_type wsX1_add := goodIn_r _ [7, 8, 9, 16, 17] (by decide +kernel) (by decide +kernel)
set_option maxRecDepth 20000 in
theorem gX4_type_X1_add : GoodIn wsX4_type (wsV RX4 158 RX1 yX1_add wsX1_add) := goodIn_app (goodIn_of _ (by decide +kernel)) ggX4_type_X1_add
theorem dX4_type_0 : decode cX4_type 0 = .ok (.aload_n 0, 1) := by decide +kernel
theorem dX4_type_1 : decode cX4_type 1 = .ok (.getfield 26, 3) := by decide +kernel
theorem dX4_type_4 : decode cX4_type 4 = .ok (.getfield 117, 3) := by decide +kernel
theorem dX4_type_7 : decode cX4_type 7 = .ok (.bipush 60, 2) := by decide +kernel
theorem dX4_type_9 : decode cX4_type 9 = .ok (.if_icmp .lt 6, 3) := by decide +kernel
theorem dX4_type_12 : decode cX4_type 12 = .ok (.bipush (-3), 2) := by decide +kernel
theorem dX4_type_14 : decode cX4_type 14 = .ok (.ireturn, 1) := by decide +kernel
theorem dX4_type_15 : decode cX4_type 15 = .ok (.aload_n 0, 1) := by decide +kernel
theorem dX4_type_16 : decode cX4_type 16 = .ok (.getfield 26, 3) := by decide +kernel
theorem dX4_type_19 : decode cX4_type 19 = .ok (.iload_n 1, 1) := by decide +kernel
theorem dX4_type_20 : decode cX4_type 20 = .ok (.invokevirtual 158, 3) := by decide +kernel
theorem dX4_type_23 : decode cX4_type 23 = .ok (.aload_n 0, 1) := by decide +kernel
theorem dX4_type_24 : decode cX4_type 24 = .ok (.getfield 26, 3) := by decide +kernel
theorem dX4_type_27 : decode cX4_type 27 = .ok (.getfield 117, 3) := by decide +kernel
theorem dX4_type_30 : decode cX4_type 30 = .ok (.ireturn, 1) := by decide +kernel
theorem dX4_clearText_0 : decode cX4_clearText 0 = .ok (.aload_n 0, 1) := by decide +kernel
theorem dX4_clearText_1 : decode cX4_clearText 1 = .ok (.getfield 26, 3) := by decide +kernel
theorem dX4_clearText_4 : decode cX4_clearText 4 = .ok (.getfield 117, 3) := by decide +kernel
theorem dX4_clearText_7 : decode cX4_clearText 7 = .ok (.istore_n 1, 1) := by decide +kernel
theorem dX4_clearText_8 : decode cX4_clearText 8 = .ok (.aload_n 0, 1) := by decide +kernel
theorem dX4_clearText_9 : decode cX4_clearText 9 = .ok (.getfield 26, 3) := by decide +kernel
theorem dX4_clearText_12 : decode cX4_clearText 12 = .ok (.iconst 0, 1) := by decide +kernel
theorem dX4_clearText_13 : decode cX4_clearText 13 = .ok (.putfield 117, 3) := by decide +kernel
theorem dX4_clearText_16 : decode cX4_clearText 16 = .ok (.iload_n 1, 1) := by decide +kernel
theorem dX4_clearText_17 : decode cX4_clearText 17 = .ok (.ireturn, 1) := by decide +kernel
set_option maxRecDepth 20000 in
theorem ggX4_undo_X2_copyFrom : GoodIn wsX4_undo wsX2_copyFrom := goodIn_r _ [8, 9, 10, 11, 12, 13, 14, 15, 16, 17, 18, 19, 20, 21, 22, 23, 24, 25, 26, 27, 28, 29, 30, 31, 32, 33, 34, 35, 36, 37, 38, 39, 40, 41, 42, 43, 44, 45, 46, 47, 48, 49, 50, 57, 58, 59, 60, 61, 62, 63, 64, 65, 66, 67, 68, 69, 70, 71, 72, 73, 74, 75, 76, 77] (by decide +kernel) (by decide +kernel)
set_option maxRecDepth 20000 in
theorem gX4_undo_X2_copyFrom : GoodIn wsX4_undo (wsV RX4 165 RX2 yX2_copyFrom wsX2_copyFrom) := goodIn_app (goodIn_of _ (by decide +kernel)) ggX4_undo_X2_copyFrom
theorem dX4_undo_0 : decode cX4_undo 0 = .ok (.aload_n 0, 1) := by decide +kernel
theorem dX4_undo_1 : decode cX4_undo 1 = .ok (.getfield 162, 3) := by decide +kernel
theorem dX4_undo_4 : decode cX4_undo 4 = .ok (.ifCond .le 15, 3) := by decide +kernel
theorem dX4_undo_7 : decode cX4_undo 7 = .ok (.aload_n 0, 1) := by decide +kernel
theorem dX4_undo_8 : decode cX4_undo 8 = .ok (.getfield 162, 3) := by decide +kernel
theorem dX4_undo_11 : decode cX4_undo 11 = .ok (.aload_n 0, 1) := by decide +kernel
theorem dX4_undo_12 : decode cX4_undo 12 = .ok (.getfield 19, 3) := by decide +kernel
theorem dX4_undo_15 : decode cX4_undo 15 = .ok (.arraylength, 1) := by decide +kernel
theorem dX4_undo_16 : decode cX4_undo 16 = .ok (.if_icmp .le 6, 3) := by decide +kernel
theorem dX4_undo_19 : decode cX4_undo 19 = .ok (.bipush (-5), 2) := by decide +kernel
theorem dX4_undo_21 : decode cX4_undo 21 = .ok (.ireturn, 1) := by decide +kernel
theorem dX4_undo_22 : decode cX4_undo 22 = .ok (.aload_n 0, 1) := by decide +kernel
theorem dX4_undo_23 : decode cX4_undo 23 = .ok (.dup, 1) := by decide +kernel
theorem dX4_undo_24 : decode cX4_undo 24 = .ok (.getfield 162, 3) := by decide +kernel
theorem dX4_undo_27 : decode cX4_undo 27 = .ok (.iconst 1, 1) := by decide +kernel
theorem dX4_undo_28 : decode cX4_undo 28 = .ok (.isub, 1) := by decide +kernel
theorem dX4_undo_29 : decode cX4_undo 29 = .ok (.putfield 162, 3) := by decide +kernel
theorem dX4_undo_32 : decode cX4_undo 32 = .ok (.aload_n 0, 1) := by decide +kernel
theorem dX4_undo_33 : decode cX4_undo 33 = .ok (.getfield 10, 3) := by decide +kernel
theorem dX4_undo_36 : decode cX4_undo 36 = .ok (.aload_n 0, 1) := by decide +kernel
theorem dX4_undo_37 : decode cX4_undo 37 = .ok (.getfield 19, 3) := by decide +kernel
theorem dX4_undo_40 : decode cX4_undo 40 = .ok (.aload_n 0, 1) := by decide +kernel
theorem dX4_undo_41 : decode cX4_undo 41 = .ok (.getfield 162, 3) := by decide +kernel
theorem dX4_undo_44 : decode cX4_undo 44 = .ok (.aaload, 1) := by decide +kernel
theorem dX4_undo_45 : decode cX4_undo 45 = .ok (.invokevirtual 165, 3) := by decide +kernel
theorem dX4_undo_48 : decode cX4_undo 48 = .ok (.aload_n 0, 1) := by decide +kernel
theorem dX4_undo_49 : decode cX4_undo 49 = .ok (.getfield 162, 3) := by decide +kernel
theorem dX4_undo_52 : decode cX4_undo 52 = .ok (.ireturn, 1) := by decide +kernel
set_option maxRecDepth 20000 in
theorem ggX4_keep_X2_copyFrom : GoodIn wsX4_keep wsX2_copyFrom := goodIn_r _ [9, 10, 11, 12, 13, 14, 15, 16, 17, 18, 19, 20, 21, 22, 23, 24, 25, 26, 27, 28, 29, 30, 31, 32, 33, 34, 35, 36, 37, 38, 39, 40, 41, 42, 43, 44, 45, 46, 47, 48, 49, 50, 51, 58, 59, 60, 61, 62, 63, 64, 65, 66, 67, 68, 69, 70, 71, 72, 73, 74, 75, 76, 77, 78] (by decide +kernel) (by decide +kernel)
set_option maxRecDepth 20000 in
theorem gX4_keep_X2_copyFrom : GoodIn wsX4_keep (wsV RX4 165 RX2 yX2_copyFrom wsX2_copyFrom) := goodIn_app (goodIn_of _ (by decide +kernel)) ggX4_keep_X2_copyFrom
theorem dX4_keep_0 : decode cX4_keep 0 = .ok (.aload_n 0, 1) := by decide +kernel
theorem dX4_keep_1 : decode cX4_keep 1 = .ok (.getfield 16, 3) := by decide +kernel
theorem dX4_keep_4 : decode cX4_keep 4 = .ok (.aload_n 0, 1) := by decide +kernel
theorem dX4_keep_5 : decode cX4_keep 5 = .ok (.getfield 10, 3) := by decide +kernel
theorem dX4_keep_8 : decode cX4_keep 8 = .ok (.invokevirtual 165, 3) := by decide +kernel
theorem dX4_keep_11 : decode cX4_keep 11 = .ok (.aload_n 0, 1) := by decide +kernel
theorem dX4_keep_12 : decode cX4_keep 12 = .ok (.iconst 1, 1) := by decide +kernel
theorem dX4_keep_13 : decode cX4_keep 13 = .ok (.putfield 169, 3) := by decide +kernel
theorem dX4_keep_16 : decode cX4_keep 16 = .ok (.aload_n 0, 1) := by decide +kernel
theorem dX4_keep_17 : decode cX4_keep 17 = .ok (.getfield 10, 3) := by decide +kernel
theorem dX4_keep_20 : decode cX4_keep 20 = .ok (.getfield 34, 3) := by decide +kernel
theorem dX4_keep_23 : decode cX4_keep 23 = .ok (.ireturn, 1) := by decide +kernel
set_option maxRecDepth 20000 in
theorem ggX4_restore_X4_remember : GoodIn wsX4_restore wsX4_remember := goodIn_r _ [9, 10, 11, 2, 12, 13, 14, 8, 15, 16, 17, 18, 19, 20, 21, 22, 23, 24, 25, 26, 27, 28, 29, 30, 31, 32, 33, 34, 35, 36, 37, 38, 39, 40, 41, 42, 43, 44, 45, 46, 47, 48, 49, 50, 51, 52, 53, 54, 55, 56, 57, 58, 59, 60, 61, 62, 63, 64, 65, 66, 67, 68, 69, 70, 71, 72, 73, 74, 75, 76, 77, 78, 79, 80, 81, 82, 83, 84, 85, 86, 87, 88, 89] (by decide +kernel) (by decide +kernel)
set_option maxRecDepth 20000 in
theorem gX4_restore_X4_remember : GoodIn wsX4_restore (wsV RX4 47 RX4 yX4_remember wsX4_remember) := goodIn_app (goodIn_of _ (by decide +kernel)) ggX4_restore_X4_remember
set_option maxRecDepth 20000 in
theorem ggX4_restore_X2_copyFrom : GoodIn wsX4_restore wsX2_copyFrom := goodIn_r _ [20, 21, 22, 23, 24, 25, 26, 27, 28, 29, 30, 31, 32, 33, 34, 35, 36, 37, 38, 39, 40, 41, 42, 43, 44, 45, 46, 47, 48, 49, 50, 51, 52, 53, 54, 55, 56, 57, 58, 59, 60, 61, 62, 69, 70, 71, 72, 73, 74, 75, 76, 77, 78, 79, 80, 81, 82, 83, 84, 85, 86, 87, 88, 89] (by decide +kernel) (by decide +kernel)
set_option maxRecDepth 20000 in
theorem gX4_restore_X2_copyFrom : GoodIn wsX4_restore (wsV RX4 165 RX2 yX2_copyFrom wsX2_copyFrom) := goodIn_app (goodIn_of _ (by decide +kernel)) ggX4_restore_X2_copyFrom
theorem dX4_restore_0 : decode cX4_restore 0 = .ok (.aload_n 0, 1) := by decide +kernel
theorem dX4_restore_1 : decode cX4_restore 1 = .ok (.getfield 169, 3) := by decide +kernel
theorem dX4_restore_4 : decode cX4_restore 4 = .ok (.ifCond .ne 6, 3) := by decide +kernel
theorem dX4_restore_7 : decode cX4_restore 7 = .ok (.bipush (-5), 2) := by decide +kernel
theorem dX4_restore_9 : decode cX4_restore 9 = .ok (.ireturn, 1) := by decide +kernel
theorem dX4_restore_10 : decode cX4_restore 10 = .ok (.aload_n 0, 1) := by decide +kernel
theorem dX4_restore_11 : decode cX4_restore 11 = .ok (.invokevirtual 47, 3) := by decide +kernel
theorem dX4_restore_14 : decode cX4_restore 14 = .ok (.aload_n 0, 1) := by decide +kernel
theorem dX4_restore_15 : decode cX4_restore 15 = .ok (.getfield 10, 3) := by decide +kernel
theorem dX4_restore_18 : decode cX4_restore 18 = .ok (.aload_n 0, 1) := by decide +kernel
theorem dX4_restore_19 : decode cX4_restore 19 = .ok (.getfield 16, 3) := by decide +kernel
theorem dX4_restore_22 : decode cX4_restore 22 = .ok (.invokevirtual 165, 3) := by decide +kernel
theorem dX4_restore_25 : decode cX4_restore 25 = .ok (.aload_n 0, 1) := by decide +kernel
theorem dX4_restore_26 : decode cX4_restore 26 = .ok (.getfield 10, 3) := by decide +kernel
theorem dX4_restore_29 : decode cX4_restore 29 = .ok (.getfield 34, 3) := by decide +kernel
theorem dX4_restore_32 : decode cX4_restore 32 = .ok (.ireturn, 1) := by decide +kernel
set_option maxRecDepth 20000 in
theorem ggX4_sea_X4_isWithin : GoodIn wsX4_sea wsX4_isWithin := goodIn_r _ [6] (by decide +kernel) (by decide +kernel)
set_option maxRecDepth 20000 in
theorem gX4_sea_X4_isWithin : GoodIn wsX4_sea (va_wsS RX4 30 yX4_isWithin wsX4_isWithin) := goodIn_app (goodIn_of _ (by decide +kernel)) ggX4_sea_X4_isWithin
set_option maxRecDepth 20000 in
theorem ggX4_sea_X2_seaAt : GoodIn wsX4_sea wsX2_seaAt := goodIn_r _ [11, 12, 13, 14, 15, 16, 17, 18, 19, 20, 21, 22, 23, 24, 25, 26, 27, 34, 35, 36, 37, 38, 39] (by decide +kernel) (by decide +kernel)
set_option maxRecDepth 20000 in
theorem gX4_sea_X2_seaAt : GoodIn wsX4_sea (wsV RX4 57 RX2 yX2_seaAt wsX2_seaAt) := goodIn_app (goodIn_of _ (by decide +kernel)) ggX4_sea_X2_seaAt
theorem dX4_sea_0 : decode cX4_sea 0 = .ok (.iload_n 1, 1) := by decide +kernel
theorem dX4_sea_1 : decode cX4_sea 1 = .ok (.bipush (-24), 2) := by decide +kernel
theorem dX4_sea_3 : decode cX4_sea 3 = .ok (.sipush 200, 3) := by decide +kernel
theorem dX4_sea_6 : decode cX4_sea 6 = .ok (.invokestatic 30, 3) := by decide +kernel
theorem dX4_sea_9 : decode cX4_sea 9 = .ok (.ifCond .ne 6, 3) := by decide +kernel
theorem dX4_sea_12 : decode cX4_sea 12 = .ok (.bipush (-2), 2) := by decide +kernel
theorem dX4_sea_14 : decode cX4_sea 14 = .ok (.ireturn, 1) := by decide +kernel
theorem dX4_sea_15 : decode cX4_sea 15 = .ok (.aload_n 0, 1) := by decide +kernel
theorem dX4_sea_16 : decode cX4_sea 16 = .ok (.getfield 10, 3) := by decide +kernel
theorem dX4_sea_19 : decode cX4_sea 19 = .ok (.iload_n 1, 1) := by decide +kernel
theorem dX4_sea_20 : decode cX4_sea 20 = .ok (.invokevirtual 57, 3) := by decide +kernel
theorem dX4_sea_23 : decode cX4_sea 23 = .ok (.ldc 61, 2) := by decide +kernel
theorem dX4_sea_25 : decode cX4_sea 25 = .ok (.iadd, 1) := by decide +kernel
theorem dX4_sea_26 : decode cX4_sea 26 = .ok (.ireturn, 1) := by decide +kernel
set_option maxRecDepth 20000 in
theorem ggX4_outside_X4_isStation : GoodIn wsX4_outside wsX4_isStation := goodIn_r _ [7] (by decide +kernel) (by decide +kernel)
set_option maxRecDepth 20000 in
theorem gX4_outside_X4_isStation : GoodIn wsX4_outside (va_wsS RX4 62 yX4_isStation wsX4_isStation) := goodIn_app (goodIn_of _ (by decide +kernel)) ggX4_outside_X4_isStation
set_option maxRecDepth 20000 in
theorem ggX4_outside_X4_isWithin : GoodIn wsX4_outside wsX4_isWithin := goodIn_r _ [10] (by decide +kernel) (by decide +kernel)
set_option maxRecDepth 20000 in
theorem gX4_outside_X4_isWithin : GoodIn wsX4_outside (va_wsS RX4 30 yX4_isWithin wsX4_isWithin) := goodIn_app (goodIn_of _ (by decide +kernel)) ggX4_outside_X4_isWithin
set_option maxRecDepth 20000 in
theorem ggX4_outside_X2_waterAt : GoodIn wsX4_outside wsX2_waterAt := goodIn_r _ [15, 16, 17, 18, 19, 20, 21, 14, 22, 23, 24, 25, 26, 27, 28, 29, 30, 31, 32, 33, 34, 35, 36, 37, 38, 39, 49, 50, 51, 52, 53, 54, 55, 56, 57, 58, 59, 60, 61, 62, 63, 46, 47, 48, 64, 65, 66] (by decide +kernel) (by decide +kernel)
set_option maxRecDepth 20000 in
theorem gX4_outside_X2_waterAt : GoodIn wsX4_outside (wsV RX4 172 RX2 yX2_waterAt wsX2_waterAt) := goodIn_app (goodIn_of _ (by decide +kernel)) ggX4_outside_X2_waterAt
theorem dX4_outside_0 : decode cX4_outside 0 = .ok (.iload_n 1, 1) := by decide +kernel
theorem dX4_outside_1 : decode cX4_outside 1 = .ok (.invokestatic 62, 3) := by decide +kernel
theorem dX4_outside_4 : decode cX4_outside 4 = .ok (.ifCond .ne 5, 3) := by decide +kernel
theorem dX4_outside_7 : decode cX4_outside 7 = .ok (.iconst (-1), 1) := by decide +kernel
theorem dX4_outside_8 : decode cX4_outside 8 = .ok (.ireturn, 1) := by decide +kernel
theorem dX4_outside_9 : decode cX4_outside 9 = .ok (.iload_n 2, 1) := by decide +kernel
theorem dX4_outside_10 : decode cX4_outside 10 = .ok (.iconst 0, 1) := by decide +kernel
theorem dX4_outside_11 : decode cX4_outside 11 = .ok (.sipush 200, 3) := by decide +kernel
theorem dX4_outside_14 : decode cX4_outside 14 = .ok (.invokestatic 30, 3) := by decide +kernel
theorem dX4_outside_17 : decode cX4_outside 17 = .ok (.ifCond .ne 6, 3) := by decide +kernel
theorem dX4_outside_20 : decode cX4_outside 20 = .ok (.bipush (-2), 2) := by decide +kernel
theorem dX4_outside_22 : decode cX4_outside 22 = .ok (.ireturn, 1) := by decide +kernel
theorem dX4_outside_23 : decode cX4_outside 23 = .ok (.aload_n 0, 1) := by decide +kernel
theorem dX4_outside_24 : decode cX4_outside 24 = .ok (.getfield 10, 3) := by decide +kernel
theorem dX4_outside_27 : decode cX4_outside 27 = .ok (.aload_n 0, 1) := by decide +kernel
theorem dX4_outside_28 : decode cX4_outside 28 = .ok (.getfield 10, 3) := by decide +kernel
theorem dX4_outside_31 : decode cX4_outside 31 = .ok (.getfield 66, 3) := by decide +kernel
theorem dX4_outside_34 : decode cX4_outside 34 = .ok (.iload_n 1, 1) := by decide +kernel
theorem dX4_outside_35 : decode cX4_outside 35 = .ok (.aaload, 1) := by decide +kernel
theorem dX4_outside_36 : decode cX4_outside 36 = .ok (.iload_n 2, 1) := by decide +kernel
theorem dX4_outside_37 : decode cX4_outside 37 = .ok (.invokevirtual 172, 3) := by decide +kernel
theorem dX4_outside_40 : decode cX4_outside 40 = .ok (.ldc 61, 2) := by decide +kernel
theorem dX4_outside_42 : decode cX4_outside 42 = .ok (.iadd, 1) := by decide +kernel
theorem dX4_outside_43 : decode cX4_outside 43 = .ok (.ireturn, 1) := by decide +kernel
set_option maxRecDepth 20000 in
theorem ggX4_station_X4_isStation : GoodIn wsX4_station wsX4_isStation := goodIn_r _ [17] (by decide +kernel) (by decide +kernel)
set_option maxRecDepth 20000 in
theorem gX4_station_X4_isStation : GoodIn wsX4_station (va_wsS RX4 62 yX4_isStation wsX4_isStation) := goodIn_app (goodIn_of _ (by decide +kernel)) ggX4_station_X4_isStation
set_option maxRecDepth 20000 in
theorem ggX4_station_X0_hoursOfKind : GoodIn wsX4_station wsX0_hoursOfKind := goodIn_r _ [22, 23, 49, 50, 51, 52, 53, 54, 55, 56, 57, 58, 59, 60, 61, 62, 63] (by decide +kernel) (by decide +kernel)
set_option maxRecDepth 20000 in
theorem gX4_station_X0_hoursOfKind : GoodIn wsX4_station (wsV RX4 152 RX0 yX0_hoursOfKind wsX0_hoursOfKind) := goodIn_app (goodIn_of _ (by decide +kernel)) ggX4_station_X0_hoursOfKind
set_option maxRecDepth 20000 in
theorem ggX4_station_X0_gaps : GoodIn wsX4_station wsX0_gaps := goodIn_r _ [27, 28, 29, 30, 21, 31, 32, 33, 34, 35, 36, 37, 38, 39, 23, 49, 50, 51, 52, 53, 54, 55, 56, 57, 58, 59, 60, 61, 62, 63] (by decide +kernel) (by decide +kernel)
set_option maxRecDepth 20000 in
theorem gX4_station_X0_gaps : GoodIn wsX4_station (wsV RX4 185 RX0 yX0_gaps wsX0_gaps) := goodIn_app (goodIn_of _ (by decide +kernel)) ggX4_station_X0_gaps
theorem dX4_station_0 : decode cX4_station 0 = .ok (.iload_n 1, 1) := by decide +kernel
theorem dX4_station_1 : decode cX4_station 1 = .ok (.invokestatic 62, 3) := by decide +kernel
theorem dX4_station_4 : decode cX4_station 4 = .ok (.ifCond .ne 5, 3) := by decide +kernel
theorem dX4_station_7 : decode cX4_station 7 = .ok (.iconst (-1), 1) := by decide +kernel
theorem dX4_station_8 : decode cX4_station 8 = .ok (.ireturn, 1) := by decide +kernel
theorem dX4_station_9 : decode cX4_station 9 = .ok (.aload_n 0, 1) := by decide +kernel
theorem dX4_station_10 : decode cX4_station 10 = .ok (.getfield 10, 3) := by decide +kernel
theorem dX4_station_13 : decode cX4_station 13 = .ok (.getfield 66, 3) := by decide +kernel
theorem dX4_station_16 : decode cX4_station 16 = .ok (.iload_n 1, 1) := by decide +kernel
theorem dX4_station_17 : decode cX4_station 17 = .ok (.aaload, 1) := by decide +kernel
theorem dX4_station_18 : decode cX4_station 18 = .ok (.astore_n 3, 1) := by decide +kernel
theorem dX4_station_19 : decode cX4_station 19 = .ok (.iload_n 2, 1) := by decide +kernel
theorem dX4_station_20 : decode cX4_station 20 = .ok (.tableswitch 149 0 12 #[68, 73, 78, 86, 94, 99, 104, 109, 114, 127, 133, 138, 144], 68) := by decide +kernel
theorem dX4_station_88 : decode cX4_station 88 = .ok (.aload_n 3, 1) := by decide +kernel
theorem dX4_station_89 : decode cX4_station 89 = .ok (.getfield 176, 3) := by decide +kernel
theorem dX4_station_92 : decode cX4_station 92 = .ok (.ireturn, 1) := by decide +kernel
theorem dX4_station_93 : decode cX4_station 93 = .ok (.aload_n 3, 1) := by decide +kernel
theorem dX4_station_94 : decode cX4_station 94 = .ok (.getfield 179, 3) := by decide +kernel
theorem dX4_station_97 : decode cX4_station 97 = .ok (.ireturn, 1) := by decide +kernel
theorem dX4_station_98 : decode cX4_station 98 = .ok (.aload_n 3, 1) := by decide +kernel
theorem dX4_station_99 : decode cX4_station 99 = .ok (.getfield 182, 3) := by decide +kernel
theorem dX4_station_102 : decode cX4_station 102 = .ok (.ldc 61, 2) := by decide +kernel
theorem dX4_station_104 : decode cX4_station 104 = .ok (.iadd, 1) := by decide +kernel
theorem dX4_station_105 : decode cX4_station 105 = .ok (.ireturn, 1) := by decide +kernel
theorem dX4_station_106 : decode cX4_station 106 = .ok (.aload_n 3, 1) := by decide +kernel
theorem dX4_station_107 : decode cX4_station 107 = .ok (.getfield 78, 3) := by decide +kernel
theorem dX4_station_110 : decode cX4_station 110 = .ok (.ldc 61, 2) := by decide +kernel
theorem dX4_station_112 : decode cX4_station 112 = .ok (.iadd, 1) := by decide +kernel
theorem dX4_station_113 : decode cX4_station 113 = .ok (.ireturn, 1) := by decide +kernel
theorem dX4_station_114 : decode cX4_station 114 = .ok (.aload_n 3, 1) := by decide +kernel
theorem dX4_station_115 : decode cX4_station 115 = .ok (.getfield 95, 3) := by decide +kernel
theorem dX4_station_118 : decode cX4_station 118 = .ok (.ireturn, 1) := by decide +kernel
theorem dX4_station_119 : decode cX4_station 119 = .ok (.aload_n 3, 1) := by decide +kernel
theorem dX4_station_120 : decode cX4_station 120 = .ok (.getfield 84, 3) := by decide +kernel
theorem dX4_station_123 : decode cX4_station 123 = .ok (.ireturn, 1) := by decide +kernel
theorem dX4_station_124 : decode cX4_station 124 = .ok (.aload_n 3, 1) := by decide +kernel
theorem dX4_station_125 : decode cX4_station 125 = .ok (.getfield 81, 3) := by decide +kernel
theorem dX4_station_128 : decode cX4_station 128 = .ok (.ireturn, 1) := by decide +kernel
theorem dX4_station_129 : decode cX4_station 129 = .ok (.aload_n 3, 1) := by decide +kernel
theorem dX4_station_130 : decode cX4_station 130 = .ok (.getfield 105, 3) := by decide +kernel
theorem dX4_station_133 : decode cX4_station 133 = .ok (.ireturn, 1) := by decide +kernel
theorem dX4_station_134 : decode cX4_station 134 = .ok (.aload_n 3, 1) := by decide +kernel
theorem dX4_station_135 : decode cX4_station 135 = .ok (.getfield 87, 3) := by decide +kernel
end
section
theorem dX4_station_138 : decode cX4_station 138 = .ok (.ifCond .eq 7, 3) := by decide +kernel
theorem dX4_station_141 : decode cX4_station 141 = .ok (.iconst 1, 1) := by decide +kernel
theorem dX4_station_142 : decode cX4_station 142 = .ok (.goto 4, 3) := by decide +kernel
theorem dX4_station_145 : decode cX4_station 145 = .ok (.iconst 0, 1) := by decide +kernel
theorem dX4_station_146 : decode cX4_station 146 = .ok (.ireturn, 1) := by decide +kernel
theorem dX4_station_147 : decode cX4_station 147 = .ok (.aload_n 3, 1) := by decide +kernel
theorem dX4_station_148 : decode cX4_station 148 = .ok (.iconst 0, 1) := by decide +kernel
theorem dX4_station_149 : decode cX4_station 149 = .ok (.invokevirtual 152, 3) := by decide +kernel
theorem dX4_station_152 : decode cX4_station 152 = .ok (.ireturn, 1) := by decide +kernel
theorem dX4_station_153 : decode cX4_station 153 = .ok (.aload_n 3, 1) := by decide +kernel
theorem dX4_station_154 : decode cX4_station 154 = .ok (.invokevirtual 185, 3) := by decide +kernel
theorem dX4_station_157 : decode cX4_station 157 = .ok (.ireturn, 1) := by decide +kernel
theorem dX4_station_158 : decode cX4_station 158 = .ok (.aload_n 3, 1) := by decide +kernel
theorem dX4_station_159 : decode cX4_station 159 = .ok (.iconst 2, 1) := by decide +kernel
theorem dX4_station_160 : decode cX4_station 160 = .ok (.invokevirtual 152, 3) := by decide +kernel
theorem dX4_station_163 : decode cX4_station 163 = .ok (.ireturn, 1) := by decide +kernel
theorem dX4_station_164 : decode cX4_station 164 = .ok (.aload_n 3, 1) := by decide +kernel
theorem dX4_station_165 : decode cX4_station 165 = .ok (.getfield 188, 3) := by decide +kernel
theorem dX4_station_168 : decode cX4_station 168 = .ok (.ireturn, 1) := by decide +kernel
theorem dX4_station_169 : decode cX4_station 169 = .ok (.bipush (-2), 2) := by decide +kernel
theorem dX4_station_171 : decode cX4_station 171 = .ok (.ireturn, 1) := by decide +kernel
set_option maxRecDepth 20000 in
theorem ggX4_hour_X4_isStation : GoodIn wsX4_hour wsX4_isStation := goodIn_r _ [8] (by decide +kernel) (by decide +kernel)
set_option maxRecDepth 20000 in
theorem gX4_hour_X4_isStation : GoodIn wsX4_hour (va_wsS RX4 62 yX4_isStation wsX4_isStation) := goodIn_app (goodIn_of _ (by decide +kernel)) ggX4_hour_X4_isStation
set_option maxRecDepth 20000 in
theorem ggX4_hour_X4_isWithin : GoodIn wsX4_hour wsX4_isWithin := goodIn_r _ [11] (by decide +kernel) (by decide +kernel)
set_option maxRecDepth 20000 in
theorem gX4_hour_X4_isWithin : GoodIn wsX4_hour (va_wsS RX4 30 yX4_isWithin wsX4_isWithin) := goodIn_app (goodIn_of _ (by decide +kernel)) ggX4_hour_X4_isWithin
set_option maxRecDepth 20000 in
theorem ggX4_hour_X0_kindAt : GoodIn wsX4_hour wsX0_kindAt := goodIn_r _ [16, 17, 49, 50, 51, 52, 53, 54, 55, 56, 57, 58, 59, 60, 61, 62, 63] (by decide +kernel) (by decide +kernel)
set_option maxRecDepth 20000 in
theorem gX4_hour_X0_kindAt : GoodIn wsX4_hour (wsV RX4 191 RX0 yX0_kindAt wsX0_kindAt) := goodIn_app (goodIn_of _ (by decide +kernel)) ggX4_hour_X0_kindAt
set_option maxRecDepth 20000 in
theorem ggX4_hour_X0_readingAt : GoodIn wsX4_hour wsX0_readingAt := goodIn_r _ [21, 22, 49, 50, 51, 52, 53, 54, 55, 56, 57, 58, 59, 60, 61, 62, 63] (by decide +kernel) (by decide +kernel)
set_option maxRecDepth 20000 in
theorem gX4_hour_X0_readingAt : GoodIn wsX4_hour (wsV RX4 194 RX0 yX0_readingAt wsX0_readingAt) := goodIn_app (goodIn_of _ (by decide +kernel)) ggX4_hour_X0_readingAt
set_option maxRecDepth 20000 in
theorem ggX4_hour_X0_correctedAt : GoodIn wsX4_hour wsX0_correctedAt := goodIn_r _ [26, 27, 19, 20, 15, 21, 22, 28, 29, 30, 31, 32, 49, 50, 51, 52, 53, 54, 55, 56, 57, 58, 59, 60, 61, 62, 63] (by decide +kernel) (by decide +kernel)
set_option maxRecDepth 20000 in
theorem gX4_hour_X0_correctedAt : GoodIn wsX4_hour (wsV RX4 197 RX0 yX0_correctedAt wsX0_correctedAt) := goodIn_app (goodIn_of _ (by decide +kernel)) ggX4_hour_X0_correctedAt
set_option maxRecDepth 20000 in
theorem ggX4_hour_X0_valueAt : GoodIn wsX4_hour wsX0_valueAt := goodIn_r _ [36, 37, 13, 14, 15, 16, 17, 27, 19, 20, 21, 22, 38, 24, 25, 26, 28, 29, 30, 31, 32, 49, 50, 51, 52, 53, 54, 55, 56, 57, 58, 59, 60, 61, 62, 63] (by decide +kernel) (by decide +kernel)
set_option maxRecDepth 20000 in
theorem gX4_hour_X0_valueAt : GoodIn wsX4_hour (wsV RX4 200 RX0 yX0_valueAt wsX0_valueAt) := goodIn_app (goodIn_of _ (by decide +kernel)) ggX4_hour_X0_valueAt
set_option maxRecDepth 20000 in
theorem ggX4_hour_X0_correctionAt : GoodIn wsX4_hour wsX0_correctionAt := goodIn_r _ [31, 32, 49, 50, 51, 52, 53, 54, 55, 56, 57, 58, 59, 60, 61, 62, 63] (by decide +kernel) (by decide +kernel)
set_option maxRecDepth 20000 in
theorem gX4_hour_X0_correctionAt : GoodIn wsX4_hour (wsV RX4 203 RX0 yX0_correctionAt wsX0_correctionAt) := goodIn_app (goodIn_of _ (by decide +kernel)) ggX4_hour_X0_correctionAt
theorem dX4_hour_0 : decode cX4_hour 0 = .ok (.iload_n 1, 1) := by decide +kernel
theorem dX4_hour_1 : decode cX4_hour 1 = .ok (.invokestatic 62, 3) := by decide +kernel
theorem dX4_hour_4 : decode cX4_hour 4 = .ok (.ifCond .ne 5, 3) := by decide +kernel
theorem dX4_hour_7 : decode cX4_hour 7 = .ok (.iconst (-1), 1) := by decide +kernel
theorem dX4_hour_8 : decode cX4_hour 8 = .ok (.ireturn, 1) := by decide +kernel
theorem dX4_hour_9 : decode cX4_hour 9 = .ok (.iload_n 2, 1) := by decide +kernel
theorem dX4_hour_10 : decode cX4_hour 10 = .ok (.ifCond .lt 12, 3) := by decide +kernel
theorem dX4_hour_13 : decode cX4_hour 13 = .ok (.iload_n 3, 1) := by decide +kernel
theorem dX4_hour_14 : decode cX4_hour 14 = .ok (.iconst 0, 1) := by decide +kernel
theorem dX4_hour_15 : decode cX4_hour 15 = .ok (.iconst 4, 1) := by decide +kernel
theorem dX4_hour_16 : decode cX4_hour 16 = .ok (.invokestatic 30, 3) := by decide +kernel
theorem dX4_hour_19 : decode cX4_hour 19 = .ok (.ifCond .ne 6, 3) := by decide +kernel
theorem dX4_hour_22 : decode cX4_hour 22 = .ok (.bipush (-2), 2) := by decide +kernel
theorem dX4_hour_24 : decode cX4_hour 24 = .ok (.ireturn, 1) := by decide +kernel
theorem dX4_hour_25 : decode cX4_hour 25 = .ok (.iload_n 2, 1) := by decide +kernel
theorem dX4_hour_26 : decode cX4_hour 26 = .ok (.aload_n 0, 1) := by decide +kernel
theorem dX4_hour_27 : decode cX4_hour 27 = .ok (.getfield 10, 3) := by decide +kernel
theorem dX4_hour_30 : decode cX4_hour 30 = .ok (.getfield 34, 3) := by decide +kernel
theorem dX4_hour_33 : decode cX4_hour 33 = .ok (.if_icmp .lt 6, 3) := by decide +kernel
theorem dX4_hour_36 : decode cX4_hour 36 = .ok (.bipush (-5), 2) := by decide +kernel
theorem dX4_hour_38 : decode cX4_hour 38 = .ok (.ireturn, 1) := by decide +kernel
theorem dX4_hour_39 : decode cX4_hour 39 = .ok (.aload_n 0, 1) := by decide +kernel
theorem dX4_hour_40 : decode cX4_hour 40 = .ok (.getfield 10, 3) := by decide +kernel
theorem dX4_hour_43 : decode cX4_hour 43 = .ok (.getfield 66, 3) := by decide +kernel
theorem dX4_hour_46 : decode cX4_hour 46 = .ok (.iload_n 1, 1) := by decide +kernel
theorem dX4_hour_47 : decode cX4_hour 47 = .ok (.aaload, 1) := by decide +kernel
theorem dX4_hour_48 : decode cX4_hour 48 = .ok (.astore 4, 2) := by decide +kernel
theorem dX4_hour_50 : decode cX4_hour 50 = .ok (.aload 4, 2) := by decide +kernel
theorem dX4_hour_52 : decode cX4_hour 52 = .ok (.iload_n 2, 1) := by decide +kernel
theorem dX4_hour_53 : decode cX4_hour 53 = .ok (.invokevirtual 191, 3) := by decide +kernel
theorem dX4_hour_56 : decode cX4_hour 56 = .ok (.istore 5, 2) := by decide +kernel
theorem dX4_hour_58 : decode cX4_hour 58 = .ok (.iload_n 3, 1) := by decide +kernel
theorem dX4_hour_59 : decode cX4_hour 59 = .ok (.tableswitch 97 0 3 #[29, 49, 69, 90], 29) := by decide +kernel
theorem dX4_hour_88 : decode cX4_hour 88 = .ok (.iload 5, 2) := by decide +kernel
theorem dX4_hour_90 : decode cX4_hour 90 = .ok (.ifCond .ne 15, 3) := by decide +kernel
theorem dX4_hour_93 : decode cX4_hour 93 = .ok (.aload 4, 2) := by decide +kernel
theorem dX4_hour_95 : decode cX4_hour 95 = .ok (.iload_n 2, 1) := by decide +kernel
theorem dX4_hour_96 : decode cX4_hour 96 = .ok (.invokevirtual 194, 3) := by decide +kernel
theorem dX4_hour_99 : decode cX4_hour 99 = .ok (.ldc 61, 2) := by decide +kernel
theorem dX4_hour_101 : decode cX4_hour 101 = .ok (.iadd, 1) := by decide +kernel
theorem dX4_hour_102 : decode cX4_hour 102 = .ok (.goto 5, 3) := by decide +kernel
theorem dX4_hour_105 : decode cX4_hour 105 = .ok (.bipush (-5), 2) := by decide +kernel
theorem dX4_hour_107 : decode cX4_hour 107 = .ok (.ireturn, 1) := by decide +kernel
theorem dX4_hour_108 : decode cX4_hour 108 = .ok (.iload 5, 2) := by decide +kernel
theorem dX4_hour_110 : decode cX4_hour 110 = .ok (.ifCond .ne 15, 3) := by decide +kernel
theorem dX4_hour_113 : decode cX4_hour 113 = .ok (.aload 4, 2) := by decide +kernel
theorem dX4_hour_115 : decode cX4_hour 115 = .ok (.iload_n 2, 1) := by decide +kernel
theorem dX4_hour_116 : decode cX4_hour 116 = .ok (.invokevirtual 197, 3) := by decide +kernel
theorem dX4_hour_119 : decode cX4_hour 119 = .ok (.ldc 61, 2) := by decide +kernel
theorem dX4_hour_121 : decode cX4_hour 121 = .ok (.iadd, 1) := by decide +kernel
theorem dX4_hour_122 : decode cX4_hour 122 = .ok (.goto 5, 3) := by decide +kernel
theorem dX4_hour_125 : decode cX4_hour 125 = .ok (.bipush (-5), 2) := by decide +kernel
theorem dX4_hour_127 : decode cX4_hour 127 = .ok (.ireturn, 1) := by decide +kernel
theorem dX4_hour_128 : decode cX4_hour 128 = .ok (.iload 5, 2) := by decide +kernel
theorem dX4_hour_130 : decode cX4_hour 130 = .ok (.iconst 2, 1) := by decide +kernel
theorem dX4_hour_131 : decode cX4_hour 131 = .ok (.if_icmp .ne 15, 3) := by decide +kernel
theorem dX4_hour_134 : decode cX4_hour 134 = .ok (.aload 4, 2) := by decide +kernel
theorem dX4_hour_136 : decode cX4_hour 136 = .ok (.iload_n 2, 1) := by decide +kernel
theorem dX4_hour_137 : decode cX4_hour 137 = .ok (.invokevirtual 200, 3) := by decide +kernel
theorem dX4_hour_140 : decode cX4_hour 140 = .ok (.ldc 61, 2) := by decide +kernel
theorem dX4_hour_142 : decode cX4_hour 142 = .ok (.iadd, 1) := by decide +kernel
theorem dX4_hour_143 : decode cX4_hour 143 = .ok (.goto 5, 3) := by decide +kernel
theorem dX4_hour_146 : decode cX4_hour 146 = .ok (.bipush (-5), 2) := by decide +kernel
theorem dX4_hour_148 : decode cX4_hour 148 = .ok (.ireturn, 1) := by decide +kernel
theorem dX4_hour_149 : decode cX4_hour 149 = .ok (.aload 4, 2) := by decide +kernel
theorem dX4_hour_151 : decode cX4_hour 151 = .ok (.iload_n 2, 1) := by decide +kernel
theorem dX4_hour_152 : decode cX4_hour 152 = .ok (.invokevirtual 203, 3) := by decide +kernel
theorem dX4_hour_155 : decode cX4_hour 155 = .ok (.ireturn, 1) := by decide +kernel
theorem dX4_hour_156 : decode cX4_hour 156 = .ok (.iload 5, 2) := by decide +kernel
theorem dX4_hour_158 : decode cX4_hour 158 = .ok (.ireturn, 1) := by decide +kernel
set_option maxRecDepth 20000 in
theorem ggX4_gap_X4_isStation : GoodIn wsX4_gap wsX4_isStation := goodIn_r _ [6] (by decide +kernel) (by decide +kernel)
set_option maxRecDepth 20000 in
theorem gX4_gap_X4_isStation : GoodIn wsX4_gap (va_wsS RX4 62 yX4_isStation wsX4_isStation) := goodIn_app (goodIn_of _ (by decide +kernel)) ggX4_gap_X4_isStation
set_option maxRecDepth 20000 in
theorem ggX4_gap_X0_hasGap : GoodIn wsX4_gap wsX0_hasGap := goodIn_r _ [11, 12, 13, 14, 10, 15, 16, 17, 18, 19, 20, 21, 22, 23, 24, 25, 26, 27, 28, 56, 57, 58, 59, 60, 61, 62, 63, 64, 65, 66, 67, 68, 69, 70] (by decide +kernel) (by decide +kernel)
set_option maxRecDepth 20000 in
theorem gX4_gap_X0_hasGap : GoodIn wsX4_gap (wsV RX4 206 RX0 yX0_hasGap wsX0_hasGap) := goodIn_app (goodIn_of _ (by decide +kernel)) ggX4_gap_X0_hasGap
set_option maxRecDepth 20000 in
theorem ggX4_gap_X0_firstHourOfGap : GoodIn wsX4_gap wsX0_firstHourOfGap := goodIn_r _ [15, 16, 17, 18, 10, 19, 20, 21, 22, 23, 24, 25, 26, 27, 28, 56, 57, 58, 59, 60, 61, 62, 63, 64, 65, 66, 67, 68, 69, 70] (by decide +kernel) (by decide +kernel)
set_option maxRecDepth 20000 in
theorem gX4_gap_X0_firstHourOfGap : GoodIn wsX4_gap (wsV RX4 138 RX0 yX0_firstHourOfGap wsX0_firstHourOfGap) := goodIn_app (goodIn_of _ (by decide +kernel)) ggX4_gap_X0_firstHourOfGap
set_option maxRecDepth 20000 in
theorem ggX4_gap_X0_hourBehindGapFrom : GoodIn wsX4_gap wsX0_hourBehindGapFrom := goodIn_r _ [33, 20, 21, 22, 10, 23, 24, 25, 26, 27, 28, 56, 57, 58, 59, 60, 61, 62, 63, 64, 65, 66, 67, 68, 69, 70] (by decide +kernel) (by decide +kernel)
set_option maxRecDepth 20000 in
theorem gX4_gap_X0_hourBehindGapFrom : GoodIn wsX4_gap (wsV RX4 141 RX0 yX0_hourBehindGapFrom wsX0_hourBehindGapFrom) := goodIn_app (goodIn_of _ (by decide +kernel)) ggX4_gap_X0_hourBehindGapFrom
set_option maxRecDepth 20000 in
theorem ggX4_gap_X0_isInner : GoodIn wsX4_gap wsX0_isInner := goodIn_r _ [37, 12, 13, 14, 10, 15, 16, 17, 18, 19, 20, 21, 22, 23, 24, 25, 26, 27, 28, 38, 39, 40, 41, 42, 31, 32, 33, 56, 57, 58, 59, 60, 61, 62, 63, 64, 65, 66, 67, 68, 69, 70] (by decide +kernel) (by decide +kernel)
set_option maxRecDepth 20000 in
theorem gX4_gap_X0_isInner : GoodIn wsX4_gap (wsV RX4 209 RX0 yX0_isInner wsX0_isInner) := goodIn_app (goodIn_of _ (by decide +kernel)) ggX4_gap_X0_isInner
set_option maxRecDepth 20000 in
theorem ggX4_gap_X0_mendedWithin : GoodIn wsX4_gap wsX0_mendedWithin := goodIn_r _ [46, 24, 25, 26, 10, 27, 28, 56, 57, 58, 59, 60, 61, 62, 63, 64, 65, 66, 67, 68, 69, 70] (by decide +kernel) (by decide +kernel)
set_option maxRecDepth 20000 in
theorem gX4_gap_X0_mendedWithin : GoodIn wsX4_gap (wsV RX4 212 RX0 yX0_mendedWithin wsX0_mendedWithin) := goodIn_app (goodIn_of _ (by decide +kernel)) ggX4_gap_X0_mendedWithin
theorem dX4_gap_0 : decode cX4_gap 0 = .ok (.iload_n 1, 1) := by decide +kernel
theorem dX4_gap_1 : decode cX4_gap 1 = .ok (.invokestatic 62, 3) := by decide +kernel
theorem dX4_gap_4 : decode cX4_gap 4 = .ok (.ifCond .eq 19, 3) := by decide +kernel
theorem dX4_gap_7 : decode cX4_gap 7 = .ok (.aload_n 0, 1) := by decide +kernel
theorem dX4_gap_8 : decode cX4_gap 8 = .ok (.getfield 10, 3) := by decide +kernel
theorem dX4_gap_11 : decode cX4_gap 11 = .ok (.getfield 66, 3) := by decide +kernel
theorem dX4_gap_14 : decode cX4_gap 14 = .ok (.iload_n 1, 1) := by decide +kernel
theorem dX4_gap_15 : decode cX4_gap 15 = .ok (.aaload, 1) := by decide +kernel
theorem dX4_gap_16 : decode cX4_gap 16 = .ok (.iload_n 2, 1) := by decide +kernel
theorem dX4_gap_17 : decode cX4_gap 17 = .ok (.invokevirtual 206, 3) := by decide +kernel
theorem dX4_gap_20 : decode cX4_gap 20 = .ok (.ifCond .ne 5, 3) := by decide +kernel
theorem dX4_gap_23 : decode cX4_gap 23 = .ok (.iconst (-1), 1) := by decide +kernel
theorem dX4_gap_24 : decode cX4_gap 24 = .ok (.ireturn, 1) := by decide +kernel
theorem dX4_gap_25 : decode cX4_gap 25 = .ok (.aload_n 0, 1) := by decide +kernel
theorem dX4_gap_26 : decode cX4_gap 26 = .ok (.getfield 10, 3) := by decide +kernel
theorem dX4_gap_29 : decode cX4_gap 29 = .ok (.getfield 66, 3) := by decide +kernel
theorem dX4_gap_32 : decode cX4_gap 32 = .ok (.iload_n 1, 1) := by decide +kernel
theorem dX4_gap_33 : decode cX4_gap 33 = .ok (.aaload, 1) := by decide +kernel
theorem dX4_gap_34 : decode cX4_gap 34 = .ok (.astore 4, 2) := by decide +kernel
theorem dX4_gap_36 : decode cX4_gap 36 = .ok (.aload 4, 2) := by decide +kernel
theorem dX4_gap_38 : decode cX4_gap 38 = .ok (.iload_n 2, 1) := by decide +kernel
theorem dX4_gap_39 : decode cX4_gap 39 = .ok (.invokevirtual 138, 3) := by decide +kernel
theorem dX4_gap_42 : decode cX4_gap 42 = .ok (.istore 5, 2) := by decide +kernel
theorem dX4_gap_44 : decode cX4_gap 44 = .ok (.aload 4, 2) := by decide +kernel
theorem dX4_gap_46 : decode cX4_gap 46 = .ok (.iload 5, 2) := by decide +kernel
theorem dX4_gap_48 : decode cX4_gap 48 = .ok (.invokevirtual 141, 3) := by decide +kernel
theorem dX4_gap_51 : decode cX4_gap 51 = .ok (.iconst 1, 1) := by decide +kernel
theorem dX4_gap_52 : decode cX4_gap 52 = .ok (.isub, 1) := by decide +kernel
theorem dX4_gap_53 : decode cX4_gap 53 = .ok (.istore 6, 2) := by decide +kernel
theorem dX4_gap_55 : decode cX4_gap 55 = .ok (.iload_n 3, 1) := by decide +kernel
theorem dX4_gap_56 : decode cX4_gap 56 = .ok (.tableswitch 63 0 3 #[32, 35, 38, 53], 32) := by decide +kernel
theorem dX4_gap_88 : decode cX4_gap 88 = .ok (.iload 5, 2) := by decide +kernel
theorem dX4_gap_90 : decode cX4_gap 90 = .ok (.ireturn, 1) := by decide +kernel
theorem dX4_gap_91 : decode cX4_gap 91 = .ok (.iload 6, 2) := by decide +kernel
theorem dX4_gap_93 : decode cX4_gap 93 = .ok (.ireturn, 1) := by decide +kernel
theorem dX4_gap_94 : decode cX4_gap 94 = .ok (.aload 4, 2) := by decide +kernel
theorem dX4_gap_96 : decode cX4_gap 96 = .ok (.iload_n 2, 1) := by decide +kernel
theorem dX4_gap_97 : decode cX4_gap 97 = .ok (.invokevirtual 209, 3) := by decide +kernel
theorem dX4_gap_100 : decode cX4_gap 100 = .ok (.ifCond .eq 7, 3) := by decide +kernel
theorem dX4_gap_103 : decode cX4_gap 103 = .ok (.iconst 1, 1) := by decide +kernel
theorem dX4_gap_104 : decode cX4_gap 104 = .ok (.goto 4, 3) := by decide +kernel
theorem dX4_gap_107 : decode cX4_gap 107 = .ok (.iconst 0, 1) := by decide +kernel
theorem dX4_gap_108 : decode cX4_gap 108 = .ok (.ireturn, 1) := by decide +kernel
theorem dX4_gap_109 : decode cX4_gap 109 = .ok (.aload 4, 2) := by decide +kernel
theorem dX4_gap_111 : decode cX4_gap 111 = .ok (.iload 5, 2) := by decide +kernel
theorem dX4_gap_113 : decode cX4_gap 113 = .ok (.iload 6, 2) := by decide +kernel
theorem dX4_gap_115 : decode cX4_gap 115 = .ok (.invokevirtual 212, 3) := by decide +kernel
theorem dX4_gap_118 : decode cX4_gap 118 = .ok (.ireturn, 1) := by decide +kernel
theorem dX4_gap_119 : decode cX4_gap 119 = .ok (.bipush (-2), 2) := by decide +kernel
theorem dX4_gap_121 : decode cX4_gap 121 = .ok (.ireturn, 1) := by decide +kernel
set_option maxRecDepth 20000 in
theorem ggX4_misfit_X4_checkMending : GoodIn wsX4_misfit wsX4_checkMending := goodIn_r _ [7, 1, 2, 8, 9, 6, 10, 11, 12, 13, 14, 15, 16, 17, 18, 19, 20, 21, 22, 23, 24, 25, 26, 27, 28, 29, 30, 31, 32, 33, 34, 35, 36, 37, 38, 39, 40, 41, 42, 43, 44, 45, 46, 47, 85, 86, 87, 88, 89, 90, 91, 92, 93, 94, 95, 96, 97, 98, 99, 100, 101, 102, 103, 104, 105, 106, 107, 108] (by decide +kernel) (by decide +kernel)
set_option maxRecDepth 20000 in
theorem gX4_misfit_X4_checkMending : GoodIn wsX4_misfit (wsV RX4 134 RX4 yX4_checkMending wsX4_checkMending) := goodIn_app (goodIn_of _ (by decide +kernel)) ggX4_misfit_X4_checkMending
set_option maxRecDepth 20000 in
theorem ggX4_misfit_X0_firstHourOfGap : GoodIn wsX4_misfit wsX0_firstHourOfGap := goodIn_r _ [19, 20, 21, 22, 14, 23, 24, 25, 26, 27, 28, 29, 30, 31, 32, 94, 95, 96, 97, 98, 99, 100, 101, 102, 103, 104, 105, 106, 107, 108] (by decide +kernel) (by decide +kernel)
set_option maxRecDepth 20000 in
theorem gX4_misfit_X0_firstHourOfGap : GoodIn wsX4_misfit (wsV RX4 138 RX0 yX0_firstHourOfGap wsX0_firstHourOfGap) := goodIn_app (goodIn_of _ (by decide +kernel)) ggX4_misfit_X0_firstHourOfGap
set_option maxRecDepth 20000 in
theorem ggX4_misfit_X0_hourBehindGapFrom : GoodIn wsX4_misfit wsX0_hourBehindGapFrom := goodIn_r _ [47, 24, 25, 26, 14, 27, 28, 29, 30, 31, 32, 94, 95, 96, 97, 98, 99, 100, 101, 102, 103, 104, 105, 106, 107, 108] (by decide +kernel) (by decide +kernel)
set_option maxRecDepth 20000 in
theorem gX4_misfit_X0_hourBehindGapFrom : GoodIn wsX4_misfit (wsV RX4 141 RX0 yX0_hourBehindGapFrom wsX0_hourBehindGapFrom) := goodIn_app (goodIn_of _ (by decide +kernel)) ggX4_misfit_X0_hourBehindGapFrom
set_option maxRecDepth 20000 in
theorem ggX4_misfit_X0_hasReadings : GoodIn wsX4_misfit wsX0_hasReadings := goodIn_r _ [53, 40, 41, 42, 14, 43, 28, 29, 30, 31, 32, 94, 95, 96, 97, 98, 99, 100, 101, 102, 103, 104, 105, 106, 107, 108] (by decide +kernel) (by decide +kernel)
set_option maxRecDepth 20000 in
theorem gX4_misfit_X0_hasReadings : GoodIn wsX4_misfit (wsV RX4 144 RX0 yX0_hasReadings wsX0_hasReadings) := goodIn_app (goodIn_of _ (by decide +kernel)) ggX4_misfit_X0_hasReadings
set_option maxRecDepth 20000 in
theorem ggX4_misfit_X0_misfitAround : GoodIn wsX4_misfit wsX0_misfitAround := goodIn_r _ [57, 58, 59, 60, 14, 61, 62, 63, 64, 65, 66, 51, 52, 53, 40, 41, 42, 43, 28, 29, 30, 31, 32, 67, 68, 69, 70, 71, 72, 73, 74, 75, 76, 77, 78, 79, 80, 81, 82, 83, 84, 94, 95, 96, 97, 98, 99, 100, 101, 102, 103, 104, 105, 106, 107, 108] (by decide +kernel) (by decide +kernel)
set_option maxRecDepth 20000 in
theorem gX4_misfit_X0_misfitAround : GoodIn wsX4_misfit (wsV RX4 216 RX0 yX0_misfitAround wsX0_misfitAround) := goodIn_app (goodIn_of _ (by decide +kernel)) ggX4_misfit_X0_misfitAround
theorem dX4_misfit_0 : decode cX4_misfit 0 = .ok (.aload_n 0, 1) := by decide +kernel
theorem dX4_misfit_1 : decode cX4_misfit 1 = .ok (.iload_n 1, 1) := by decide +kernel
theorem dX4_misfit_2 : decode cX4_misfit 2 = .ok (.iload_n 2, 1) := by decide +kernel
theorem dX4_misfit_3 : decode cX4_misfit 3 = .ok (.iload_n 3, 1) := by decide +kernel
theorem dX4_misfit_4 : decode cX4_misfit 4 = .ok (.iload 4, 2) := by decide +kernel
theorem dX4_misfit_6 : decode cX4_misfit 6 = .ok (.invokevirtual 134, 3) := by decide +kernel
theorem dX4_misfit_9 : decode cX4_misfit 9 = .ok (.istore 5, 2) := by decide +kernel
theorem dX4_misfit_11 : decode cX4_misfit 11 = .ok (.iload 5, 2) := by decide +kernel
theorem dX4_misfit_13 : decode cX4_misfit 13 = .ok (.ifCond .eq 6, 3) := by decide +kernel
theorem dX4_misfit_16 : decode cX4_misfit 16 = .ok (.iload 5, 2) := by decide +kernel
theorem dX4_misfit_18 : decode cX4_misfit 18 = .ok (.ireturn, 1) := by decide +kernel
theorem dX4_misfit_19 : decode cX4_misfit 19 = .ok (.aload_n 0, 1) := by decide +kernel
theorem dX4_misfit_20 : decode cX4_misfit 20 = .ok (.getfield 10, 3) := by decide +kernel
theorem dX4_misfit_23 : decode cX4_misfit 23 = .ok (.getfield 66, 3) := by decide +kernel
theorem dX4_misfit_26 : decode cX4_misfit 26 = .ok (.iload_n 1, 1) := by decide +kernel
theorem dX4_misfit_27 : decode cX4_misfit 27 = .ok (.aaload, 1) := by decide +kernel
theorem dX4_misfit_28 : decode cX4_misfit 28 = .ok (.astore 6, 2) := by decide +kernel
theorem dX4_misfit_30 : decode cX4_misfit 30 = .ok (.aload_n 0, 1) := by decide +kernel
theorem dX4_misfit_31 : decode cX4_misfit 31 = .ok (.getfield 10, 3) := by decide +kernel
theorem dX4_misfit_34 : decode cX4_misfit 34 = .ok (.getfield 66, 3) := by decide +kernel
theorem dX4_misfit_37 : decode cX4_misfit 37 = .ok (.iload_n 3, 1) := by decide +kernel
theorem dX4_misfit_38 : decode cX4_misfit 38 = .ok (.aaload, 1) := by decide +kernel
theorem dX4_misfit_39 : decode cX4_misfit 39 = .ok (.astore 7, 2) := by decide +kernel
theorem dX4_misfit_41 : decode cX4_misfit 41 = .ok (.aload 6, 2) := by decide +kernel
theorem dX4_misfit_43 : decode cX4_misfit 43 = .ok (.iload_n 2, 1) := by decide +kernel
theorem dX4_misfit_44 : decode cX4_misfit 44 = .ok (.invokevirtual 138, 3) := by decide +kernel
theorem dX4_misfit_47 : decode cX4_misfit 47 = .ok (.iconst 1, 1) := by decide +kernel
theorem dX4_misfit_48 : decode cX4_misfit 48 = .ok (.isub, 1) := by decide +kernel
theorem dX4_misfit_49 : decode cX4_misfit 49 = .ok (.istore 8, 2) := by decide +kernel
theorem dX4_misfit_51 : decode cX4_misfit 51 = .ok (.aload 6, 2) := by decide +kernel
theorem dX4_misfit_53 : decode cX4_misfit 53 = .ok (.iload 8, 2) := by decide +kernel
theorem dX4_misfit_55 : decode cX4_misfit 55 = .ok (.iconst 1, 1) := by decide +kernel
theorem dX4_misfit_56 : decode cX4_misfit 56 = .ok (.iadd, 1) := by decide +kernel
theorem dX4_misfit_57 : decode cX4_misfit 57 = .ok (.invokevirtual 141, 3) := by decide +kernel
theorem dX4_misfit_60 : decode cX4_misfit 60 = .ok (.istore 9, 2) := by decide +kernel
theorem dX4_misfit_62 : decode cX4_misfit 62 = .ok (.aload 7, 2) := by decide +kernel
theorem dX4_misfit_64 : decode cX4_misfit 64 = .ok (.iload 8, 2) := by decide +kernel
theorem dX4_misfit_66 : decode cX4_misfit 66 = .ok (.iload 4, 2) := by decide +kernel
theorem dX4_misfit_68 : decode cX4_misfit 68 = .ok (.iadd, 1) := by decide +kernel
theorem dX4_misfit_69 : decode cX4_misfit 69 = .ok (.iload 9, 2) := by decide +kernel
theorem dX4_misfit_71 : decode cX4_misfit 71 = .ok (.iload 4, 2) := by decide +kernel
theorem dX4_misfit_73 : decode cX4_misfit 73 = .ok (.iadd, 1) := by decide +kernel
theorem dX4_misfit_74 : decode cX4_misfit 74 = .ok (.invokevirtual 144, 3) := by decide +kernel
theorem dX4_misfit_77 : decode cX4_misfit 77 = .ok (.ifCond .ne 6, 3) := by decide +kernel
theorem dX4_misfit_80 : decode cX4_misfit 80 = .ok (.bipush (-5), 2) := by decide +kernel
theorem dX4_misfit_82 : decode cX4_misfit 82 = .ok (.ireturn, 1) := by decide +kernel
theorem dX4_misfit_83 : decode cX4_misfit 83 = .ok (.aload 6, 2) := by decide +kernel
theorem dX4_misfit_85 : decode cX4_misfit 85 = .ok (.iload 8, 2) := by decide +kernel
theorem dX4_misfit_87 : decode cX4_misfit 87 = .ok (.iload 9, 2) := by decide +kernel
theorem dX4_misfit_89 : decode cX4_misfit 89 = .ok (.aload 7, 2) := by decide +kernel
theorem dX4_misfit_91 : decode cX4_misfit 91 = .ok (.iload 4, 2) := by decide +kernel
theorem dX4_misfit_93 : decode cX4_misfit 93 = .ok (.invokevirtual 216, 3) := by decide +kernel
theorem dX4_misfit_96 : decode cX4_misfit 96 = .ok (.ireturn, 1) := by decide +kernel
set_option maxRecDepth 20000 in
theorem ggX4_bestPhase_X4_checkMending : GoodIn wsX4_bestPhase wsX4_checkMending := goodIn_r _ [7, 1, 2, 8, 9, 6, 10, 11, 12, 13, 14, 15, 16, 17, 18, 19, 20, 21, 22, 23, 24, 25, 26, 27, 28, 29, 30, 31, 32, 33, 34, 35, 36, 37, 38, 39, 40, 41, 42, 43, 44, 45, 46, 47, 88, 89, 90, 91, 92, 93, 94, 95, 96, 97, 98, 99, 100, 101, 102, 103, 104, 105, 106, 107, 108, 109, 110, 111] (by decide +kernel) (by decide +kernel)
set_option maxRecDepth 20000 in
theorem gX4_bestPhase_X4_checkMending : GoodIn wsX4_bestPhase (wsV RX4 134 RX4 yX4_checkMending wsX4_checkMending) := goodIn_app (goodIn_of _ (by decide +kernel)) ggX4_bestPhase_X4_checkMending
set_option maxRecDepth 20000 in
theorem ggX4_bestPhase_X0_firstHourOfGap : GoodIn wsX4_bestPhase wsX0_firstHourOfGap := goodIn_r _ [19, 20, 21, 22, 14, 23, 24, 25, 26, 27, 28, 29, 30, 31, 32, 97, 98, 99, 100, 101, 102, 103, 104, 105, 106, 107, 108, 109, 110, 111] (by decide +kernel) (by decide +kernel)
set_option maxRecDepth 20000 in
theorem gX4_bestPhase_X0_firstHourOfGap : GoodIn wsX4_bestPhase (wsV RX4 138 RX0 yX0_firstHourOfGap wsX0_firstHourOfGap) := goodIn_app (goodIn_of _ (by decide +kernel)) ggX4_bestPhase_X0_firstHourOfGap
set_option maxRecDepth 20000 in
theorem ggX4_bestPhase_X0_hourBehindGapFrom : GoodIn wsX4_bestPhase wsX0_hourBehindGapFrom := goodIn_r _ [47, 24, 25, 26, 14, 27, 28, 29, 30, 31, 32, 97, 98, 99, 100, 101, 102, 103, 104, 105, 106, 107, 108, 109, 110, 111] (by decide +kernel) (by decide +kernel)
set_option maxRecDepth 20000 in
theorem gX4_bestPhase_X0_hourBehindGapFrom : GoodIn wsX4_bestPhase (wsV RX4 141 RX0 yX0_hourBehindGapFrom wsX0_hourBehindGapFrom) := goodIn_app (goodIn_of _ (by decide +kernel)) ggX4_bestPhase_X0_hourBehindGapFrom
set_option maxRecDepth 20000 in
theorem ggX4_bestPhase_X4_phaseOfStep : GoodIn wsX4_bestPhase wsX4_phaseOfStep := goodIn_r _ [52] (by decide +kernel) (by decide +kernel)
set_option maxRecDepth 20000 in
theorem gX4_bestPhase_X4_phaseOfStep : GoodIn wsX4_bestPhase (va_wsS RX4 220 yX4_phaseOfStep wsX4_phaseOfStep) := goodIn_app (goodIn_of _ (by decide +kernel)) ggX4_bestPhase_X4_phaseOfStep
set_option maxRecDepth 20000 in
theorem ggX4_bestPhase_X0_hasReadings : GoodIn wsX4_bestPhase wsX0_hasReadings := goodIn_r _ [56, 40, 41, 42, 14, 43, 28, 29, 30, 31, 32, 97, 98, 99, 100, 101, 102, 103, 104, 105, 106, 107, 108, 109, 110, 111] (by decide +kernel) (by decide +kernel)
set_option maxRecDepth 20000 in
theorem gX4_bestPhase_X0_hasReadings : GoodIn wsX4_bestPhase (wsV RX4 144 RX0 yX0_hasReadings wsX0_hasReadings) := goodIn_app (goodIn_of _ (by decide +kernel)) ggX4_bestPhase_X0_hasReadings
set_option maxRecDepth 20000 in
theorem ggX4_bestPhase_X0_misfitAround : GoodIn wsX4_bestPhase wsX0_misfitAround := goodIn_r _ [60, 61, 62, 63, 14, 64, 65, 66, 67, 68, 69, 54, 55, 56, 40, 41, 42, 43, 28, 29, 30, 31, 32, 70, 71, 72, 73, 74, 75, 76, 77, 78, 79, 80, 81, 82, 83, 84, 85, 86, 87, 97, 98, 99, 100, 101, 102, 103, 104, 105, 106, 107, 108, 109, 110, 111] (by decide +kernel) (by decide +kernel)
set_option maxRecDepth 20000 in
theorem gX4_bestPhase_X0_misfitAround : GoodIn wsX4_bestPhase (wsV RX4 216 RX0 yX0_misfitAround wsX0_misfitAround) := goodIn_app (goodIn_of _ (by decide +kernel)) ggX4_bestPhase_X0_misfitAround
theorem dX4_bestPhase_0 : decode cX4_bestPhase 0 = .ok (.aload_n 0, 1) := by decide +kernel
theorem dX4_bestPhase_1 : decode cX4_bestPhase 1 = .ok (.iload_n 1, 1) := by decide +kernel
theorem dX4_bestPhase_2 : decode cX4_bestPhase 2 = .ok (.iload_n 2, 1) := by decide +kernel
theorem dX4_bestPhase_3 : decode cX4_bestPhase 3 = .ok (.iload_n 3, 1) := by decide +kernel
theorem dX4_bestPhase_4 : decode cX4_bestPhase 4 = .ok (.iconst 0, 1) := by decide +kernel
theorem dX4_bestPhase_5 : decode cX4_bestPhase 5 = .ok (.invokevirtual 134, 3) := by decide +kernel
theorem dX4_bestPhase_8 : decode cX4_bestPhase 8 = .ok (.istore 4, 2) := by decide +kernel
theorem dX4_bestPhase_10 : decode cX4_bestPhase 10 = .ok (.iload 4, 2) := by decide +kernel
theorem dX4_bestPhase_12 : decode cX4_bestPhase 12 = .ok (.ifCond .eq 6, 3) := by decide +kernel
theorem dX4_bestPhase_15 : decode cX4_bestPhase 15 = .ok (.iload 4, 2) := by decide +kernel
theorem dX4_bestPhase_17 : decode cX4_bestPhase 17 = .ok (.ireturn, 1) := by decide +kernel
theorem dX4_bestPhase_18 : decode cX4_bestPhase 18 = .ok (.aload_n 0, 1) := by decide +kernel
theorem dX4_bestPhase_19 : decode cX4_bestPhase 19 = .ok (.getfield 10, 3) := by decide +kernel
theorem dX4_bestPhase_22 : decode cX4_bestPhase 22 = .ok (.getfield 66, 3) := by decide +kernel
theorem dX4_bestPhase_25 : decode cX4_bestPhase 25 = .ok (.iload_n 1, 1) := by decide +kernel
theorem dX4_bestPhase_26 : decode cX4_bestPhase 26 = .ok (.aaload, 1) := by decide +kernel
theorem dX4_bestPhase_27 : decode cX4_bestPhase 27 = .ok (.astore 5, 2) := by decide +kernel
theorem dX4_bestPhase_29 : decode cX4_bestPhase 29 = .ok (.aload_n 0, 1) := by decide +kernel
theorem dX4_bestPhase_30 : decode cX4_bestPhase 30 = .ok (.getfield 10, 3) := by decide +kernel
theorem dX4_bestPhase_33 : decode cX4_bestPhase 33 = .ok (.getfield 66, 3) := by decide +kernel
theorem dX4_bestPhase_36 : decode cX4_bestPhase 36 = .ok (.iload_n 3, 1) := by decide +kernel
theorem dX4_bestPhase_37 : decode cX4_bestPhase 37 = .ok (.aaload, 1) := by decide +kernel
theorem dX4_bestPhase_38 : decode cX4_bestPhase 38 = .ok (.astore 6, 2) := by decide +kernel
theorem dX4_bestPhase_40 : decode cX4_bestPhase 40 = .ok (.aload 5, 2) := by decide +kernel
theorem dX4_bestPhase_42 : decode cX4_bestPhase 42 = .ok (.iload_n 2, 1) := by decide +kernel
theorem dX4_bestPhase_43 : decode cX4_bestPhase 43 = .ok (.invokevirtual 138, 3) := by decide +kernel
theorem dX4_bestPhase_46 : decode cX4_bestPhase 46 = .ok (.iconst 1, 1) := by decide +kernel
theorem dX4_bestPhase_47 : decode cX4_bestPhase 47 = .ok (.isub, 1) := by decide +kernel
theorem dX4_bestPhase_48 : decode cX4_bestPhase 48 = .ok (.istore 7, 2) := by decide +kernel
theorem dX4_bestPhase_50 : decode cX4_bestPhase 50 = .ok (.aload 5, 2) := by decide +kernel
theorem dX4_bestPhase_52 : decode cX4_bestPhase 52 = .ok (.iload 7, 2) := by decide +kernel
theorem dX4_bestPhase_54 : decode cX4_bestPhase 54 = .ok (.iconst 1, 1) := by decide +kernel
theorem dX4_bestPhase_55 : decode cX4_bestPhase 55 = .ok (.iadd, 1) := by decide +kernel
theorem dX4_bestPhase_56 : decode cX4_bestPhase 56 = .ok (.invokevirtual 141, 3) := by decide +kernel
theorem dX4_bestPhase_59 : decode cX4_bestPhase 59 = .ok (.istore 8, 2) := by decide +kernel
theorem dX4_bestPhase_61 : decode cX4_bestPhase 61 = .ok (.bipush (-5), 2) := by decide +kernel
theorem dX4_bestPhase_63 : decode cX4_bestPhase 63 = .ok (.istore 9, 2) := by decide +kernel
theorem dX4_bestPhase_65 : decode cX4_bestPhase 65 = .ok (.iconst 0, 1) := by decide +kernel
theorem dX4_bestPhase_66 : decode cX4_bestPhase 66 = .ok (.istore 10, 2) := by decide +kernel
theorem dX4_bestPhase_68 : decode cX4_bestPhase 68 = .ok (.iconst 0, 1) := by decide +kernel
theorem dX4_bestPhase_69 : decode cX4_bestPhase 69 = .ok (.istore 11, 2) := by decide +kernel
theorem dX4_bestPhase_71 : decode cX4_bestPhase 71 = .ok (.iload 11, 2) := by decide +kernel
theorem dX4_bestPhase_73 : decode cX4_bestPhase 73 = .ok (.bipush 24, 2) := by decide +kernel
theorem dX4_bestPhase_75 : decode cX4_bestPhase 75 = .ok (.if_icmp .gt 74, 3) := by decide +kernel
theorem dX4_bestPhase_78 : decode cX4_bestPhase 78 = .ok (.iload 11, 2) := by decide +kernel
theorem dX4_bestPhase_80 : decode cX4_bestPhase 80 = .ok (.invokestatic 220, 3) := by decide +kernel
theorem dX4_bestPhase_83 : decode cX4_bestPhase 83 = .ok (.istore 12, 2) := by decide +kernel
theorem dX4_bestPhase_85 : decode cX4_bestPhase 85 = .ok (.aload 6, 2) := by decide +kernel
theorem dX4_bestPhase_87 : decode cX4_bestPhase 87 = .ok (.iload 7, 2) := by decide +kernel
theorem dX4_bestPhase_89 : decode cX4_bestPhase 89 = .ok (.iload 12, 2) := by decide +kernel
theorem dX4_bestPhase_91 : decode cX4_bestPhase 91 = .ok (.iadd, 1) := by decide +kernel
theorem dX4_bestPhase_92 : decode cX4_bestPhase 92 = .ok (.iload 8, 2) := by decide +kernel
theorem dX4_bestPhase_94 : decode cX4_bestPhase 94 = .ok (.iload 12, 2) := by decide +kernel
theorem dX4_bestPhase_96 : decode cX4_bestPhase 96 = .ok (.iadd, 1) := by decide +kernel
theorem dX4_bestPhase_97 : decode cX4_bestPhase 97 = .ok (.invokevirtual 144, 3) := by decide +kernel
theorem dX4_bestPhase_100 : decode cX4_bestPhase 100 = .ok (.ifCond .eq 43, 3) := by decide +kernel
theorem dX4_bestPhase_103 : decode cX4_bestPhase 103 = .ok (.aload 5, 2) := by decide +kernel
theorem dX4_bestPhase_105 : decode cX4_bestPhase 105 = .ok (.iload 7, 2) := by decide +kernel
theorem dX4_bestPhase_107 : decode cX4_bestPhase 107 = .ok (.iload 8, 2) := by decide +kernel
theorem dX4_bestPhase_109 : decode cX4_bestPhase 109 = .ok (.aload 6, 2) := by decide +kernel
theorem dX4_bestPhase_111 : decode cX4_bestPhase 111 = .ok (.iload 12, 2) := by decide +kernel
theorem dX4_bestPhase_113 : decode cX4_bestPhase 113 = .ok (.invokevirtual 216, 3) := by decide +kernel
theorem dX4_bestPhase_116 : decode cX4_bestPhase 116 = .ok (.istore 13, 2) := by decide +kernel
theorem dX4_bestPhase_118 : decode cX4_bestPhase 118 = .ok (.iload 9, 2) := by decide +kernel
theorem dX4_bestPhase_120 : decode cX4_bestPhase 120 = .ok (.bipush (-5), 2) := by decide +kernel
theorem dX4_bestPhase_122 : decode cX4_bestPhase 122 = .ok (.if_icmp .eq 10, 3) := by decide +kernel
theorem dX4_bestPhase_125 : decode cX4_bestPhase 125 = .ok (.iload 13, 2) := by decide +kernel
theorem dX4_bestPhase_127 : decode cX4_bestPhase 127 = .ok (.iload 10, 2) := by decide +kernel
theorem dX4_bestPhase_129 : decode cX4_bestPhase 129 = .ok (.if_icmp .ge 14, 3) := by decide +kernel
theorem dX4_bestPhase_132 : decode cX4_bestPhase 132 = .ok (.iload 13, 2) := by decide +kernel
theorem dX4_bestPhase_134 : decode cX4_bestPhase 134 = .ok (.istore 10, 2) := by decide +kernel
theorem dX4_bestPhase_136 : decode cX4_bestPhase 136 = .ok (.iload 12, 2) := by decide +kernel
theorem dX4_bestPhase_138 : decode cX4_bestPhase 138 = .ok (.bipush 100, 2) := by decide +kernel
theorem dX4_bestPhase_140 : decode cX4_bestPhase 140 = .ok (.iadd, 1) := by decide +kernel
theorem dX4_bestPhase_141 : decode cX4_bestPhase 141 = .ok (.istore 9, 2) := by decide +kernel
theorem dX4_bestPhase_143 : decode cX4_bestPhase 143 = .ok (.iinc 11 1, 3) := by decide +kernel
theorem dX4_bestPhase_146 : decode cX4_bestPhase 146 = .ok (.goto (-75), 3) := by decide +kernel
theorem dX4_bestPhase_149 : decode cX4_bestPhase 149 = .ok (.iload 9, 2) := by decide +kernel
theorem dX4_bestPhase_151 : decode cX4_bestPhase 151 = .ok (.ireturn, 1) := by decide +kernel
set_option maxRecDepth 20000 in
theorem ggX4_high_X4_isStation : GoodIn wsX4_high wsX4_isStation := goodIn_r _ [6] (by decide +kernel) (by decide +kernel)
set_option maxRecDepth 20000 in
theorem gX4_high_X4_isStation : GoodIn wsX4_high (va_wsS RX4 62 yX4_isStation wsX4_isStation) := goodIn_app (goodIn_of _ (by decide +kernel)) ggX4_high_X4_isStation
set_option maxRecDepth 20000 in
theorem ggX4_high_X0_isHighAt : GoodIn wsX4_high wsX0_isHighAt := goodIn_r _ [11, 12, 13, 14, 10, 15, 16, 17, 18, 19, 20, 21, 22, 23, 24, 25, 26, 27, 28, 29, 30, 31, 32, 33, 34, 35, 36, 37, 38, 48, 49, 50, 51, 52, 53, 54, 55, 56, 57, 58, 59, 60, 61, 62] (by decide +kernel) (by decide +kernel)
set_option maxRecDepth 20000 in
theorem gX4_high_X0_isHighAt : GoodIn wsX4_high (wsV RX4 223 RX0 yX0_isHighAt wsX0_isHighAt) := goodIn_app (goodIn_of _ (by decide +kernel)) ggX4_high_X0_isHighAt
theorem dX4_high_0 : decode cX4_high 0 = .ok (.iload_n 1, 1) := by decide +kernel
theorem dX4_high_1 : decode cX4_high 1 = .ok (.invokestatic 62, 3) := by decide +kernel
theorem dX4_high_4 : decode cX4_high 4 = .ok (.ifCond .ne 5, 3) := by decide +kernel
theorem dX4_high_7 : decode cX4_high 7 = .ok (.iconst (-1), 1) := by decide +kernel
theorem dX4_high_8 : decode cX4_high 8 = .ok (.ireturn, 1) := by decide +kernel
theorem dX4_high_9 : decode cX4_high 9 = .ok (.iload_n 2, 1) := by decide +kernel
theorem dX4_high_10 : decode cX4_high 10 = .ok (.ifCond .ge 6, 3) := by decide +kernel
theorem dX4_high_13 : decode cX4_high 13 = .ok (.bipush (-2), 2) := by decide +kernel
theorem dX4_high_15 : decode cX4_high 15 = .ok (.ireturn, 1) := by decide +kernel
theorem dX4_high_16 : decode cX4_high 16 = .ok (.aload_n 0, 1) := by decide +kernel
theorem dX4_high_17 : decode cX4_high 17 = .ok (.getfield 10, 3) := by decide +kernel
theorem dX4_high_20 : decode cX4_high 20 = .ok (.getfield 66, 3) := by decide +kernel
theorem dX4_high_23 : decode cX4_high 23 = .ok (.iload_n 1, 1) := by decide +kernel
theorem dX4_high_24 : decode cX4_high 24 = .ok (.aaload, 1) := by decide +kernel
theorem dX4_high_25 : decode cX4_high 25 = .ok (.astore_n 3, 1) := by decide +kernel
theorem dX4_high_26 : decode cX4_high 26 = .ok (.iconst 0, 1) := by decide +kernel
theorem dX4_high_27 : decode cX4_high 27 = .ok (.istore 4, 2) := by decide +kernel
theorem dX4_high_29 : decode cX4_high 29 = .ok (.iconst 1, 1) := by decide +kernel
theorem dX4_high_30 : decode cX4_high 30 = .ok (.istore 5, 2) := by decide +kernel
theorem dX4_high_32 : decode cX4_high 32 = .ok (.iload 5, 2) := by decide +kernel
theorem dX4_high_34 : decode cX4_high 34 = .ok (.bipush 119, 2) := by decide +kernel
theorem dX4_high_36 : decode cX4_high 36 = .ok (.if_icmp .ge 30, 3) := by decide +kernel
theorem dX4_high_39 : decode cX4_high 39 = .ok (.aload_n 3, 1) := by decide +kernel
theorem dX4_high_40 : decode cX4_high 40 = .ok (.iload 5, 2) := by decide +kernel
theorem dX4_high_42 : decode cX4_high 42 = .ok (.invokevirtual 223, 3) := by decide +kernel
theorem dX4_high_45 : decode cX4_high 45 = .ok (.ifCond .eq 15, 3) := by decide +kernel
theorem dX4_high_48 : decode cX4_high 48 = .ok (.iload 4, 2) := by decide +kernel
theorem dX4_high_50 : decode cX4_high 50 = .ok (.iload_n 2, 1) := by decide +kernel
theorem dX4_high_51 : decode cX4_high 51 = .ok (.if_icmp .ne 6, 3) := by decide +kernel
theorem dX4_high_54 : decode cX4_high 54 = .ok (.iload 5, 2) := by decide +kernel
theorem dX4_high_56 : decode cX4_high 56 = .ok (.ireturn, 1) := by decide +kernel
theorem dX4_high_57 : decode cX4_high 57 = .ok (.iinc 4 1, 3) := by decide +kernel
theorem dX4_high_60 : decode cX4_high 60 = .ok (.iinc 5 1, 3) := by decide +kernel
theorem dX4_high_63 : decode cX4_high 63 = .ok (.goto (-31), 3) := by decide +kernel
theorem dX4_high_66 : decode cX4_high 66 = .ok (.bipush (-5), 2) := by decide +kernel
theorem dX4_high_68 : decode cX4_high 68 = .ok (.ireturn, 1) := by decide +kernel
set_option maxRecDepth 20000 in
theorem ggX4_count_X2_stationsOn : GoodIn wsX4_count wsX2_stationsOn := goodIn_r _ [10, 11, 12, 29, 30, 31, 34, 35, 36, 37, 38, 39, 40, 41, 42, 43, 44, 45, 46, 47, 48] (by decide +kernel) (by decide +kernel)
set_option maxRecDepth 20000 in
theorem gX4_count_X2_stationsOn : GoodIn wsX4_count (wsV RX4 91 RX2 yX2_stationsOn wsX2_stationsOn) := goodIn_app (goodIn_of _ (by decide +kernel)) ggX4_count_X2_stationsOn
set_option maxRecDepth 20000 in
theorem ggX4_count_X2_hoursOfKind : GoodIn wsX4_count wsX2_hoursOfKind := goodIn_r _ [16, 11, 17, 18, 19, 20, 21, 22, 29, 30, 31, 34, 35, 36, 37, 38, 39, 40, 41, 42, 43, 44, 45, 46, 47, 48] (by decide +kernel) (by decide +kernel)
set_option maxRecDepth 20000 in
theorem gX4_count_X2_hoursOfKind : GoodIn wsX4_count (wsV RX4 226 RX2 yX2_hoursOfKind wsX2_hoursOfKind) := goodIn_app (goodIn_of _ (by decide +kernel)) ggX4_count_X2_hoursOfKind
theorem dX4_count_0 : decode cX4_count 0 = .ok (.iload_n 1, 1) := by decide +kernel
theorem dX4_count_1 : decode cX4_count 1 = .ok (.tableswitch 108 0 6 #[43, 51, 59, 68, 86, 95, 100], 43) := by decide +kernel
theorem dX4_count_44 : decode cX4_count 44 = .ok (.aload_n 0, 1) := by decide +kernel
theorem dX4_count_45 : decode cX4_count 45 = .ok (.getfield 10, 3) := by decide +kernel
theorem dX4_count_48 : decode cX4_count 48 = .ok (.getfield 34, 3) := by decide +kernel
theorem dX4_count_51 : decode cX4_count 51 = .ok (.ireturn, 1) := by decide +kernel
theorem dX4_count_52 : decode cX4_count 52 = .ok (.aload_n 0, 1) := by decide +kernel
theorem dX4_count_53 : decode cX4_count 53 = .ok (.getfield 10, 3) := by decide +kernel
theorem dX4_count_56 : decode cX4_count 56 = .ok (.invokevirtual 91, 3) := by decide +kernel
theorem dX4_count_59 : decode cX4_count 59 = .ok (.ireturn, 1) := by decide +kernel
theorem dX4_count_60 : decode cX4_count 60 = .ok (.aload_n 0, 1) := by decide +kernel
theorem dX4_count_61 : decode cX4_count 61 = .ok (.getfield 10, 3) := by decide +kernel
theorem dX4_count_64 : decode cX4_count 64 = .ok (.iconst 0, 1) := by decide +kernel
theorem dX4_count_65 : decode cX4_count 65 = .ok (.invokevirtual 226, 3) := by decide +kernel
theorem dX4_count_68 : decode cX4_count 68 = .ok (.ireturn, 1) := by decide +kernel
theorem dX4_count_69 : decode cX4_count 69 = .ok (.aload_n 0, 1) := by decide +kernel
theorem dX4_count_70 : decode cX4_count 70 = .ok (.getfield 10, 3) := by decide +kernel
theorem dX4_count_73 : decode cX4_count 73 = .ok (.iconst 1, 1) := by decide +kernel
theorem dX4_count_74 : decode cX4_count 74 = .ok (.invokevirtual 226, 3) := by decide +kernel
theorem dX4_count_77 : decode cX4_count 77 = .ok (.aload_n 0, 1) := by decide +kernel
theorem dX4_count_78 : decode cX4_count 78 = .ok (.getfield 10, 3) := by decide +kernel
theorem dX4_count_81 : decode cX4_count 81 = .ok (.iconst 2, 1) := by decide +kernel
theorem dX4_count_82 : decode cX4_count 82 = .ok (.invokevirtual 226, 3) := by decide +kernel
theorem dX4_count_85 : decode cX4_count 85 = .ok (.iadd, 1) := by decide +kernel
theorem dX4_count_86 : decode cX4_count 86 = .ok (.ireturn, 1) := by decide +kernel
theorem dX4_count_87 : decode cX4_count 87 = .ok (.aload_n 0, 1) := by decide +kernel
theorem dX4_count_88 : decode cX4_count 88 = .ok (.getfield 10, 3) := by decide +kernel
theorem dX4_count_91 : decode cX4_count 91 = .ok (.iconst 2, 1) := by decide +kernel
theorem dX4_count_92 : decode cX4_count 92 = .ok (.invokevirtual 226, 3) := by decide +kernel
theorem dX4_count_95 : decode cX4_count 95 = .ok (.ireturn, 1) := by decide +kernel
theorem dX4_count_96 : decode cX4_count 96 = .ok (.aload_n 0, 1) := by decide +kernel
theorem dX4_count_97 : decode cX4_count 97 = .ok (.getfield 162, 3) := by decide +kernel
theorem dX4_count_100 : decode cX4_count 100 = .ok (.ireturn, 1) := by decide +kernel
theorem dX4_count_101 : decode cX4_count 101 = .ok (.aload_n 0, 1) := by decide +kernel
theorem dX4_count_102 : decode cX4_count 102 = .ok (.getfield 26, 3) := by decide +kernel
theorem dX4_count_105 : decode cX4_count 105 = .ok (.getfield 117, 3) := by decide +kernel
theorem dX4_count_108 : decode cX4_count 108 = .ok (.ireturn, 1) := by decide +kernel
theorem dX4_count_109 : decode cX4_count 109 = .ok (.bipush (-2), 2) := by decide +kernel
theorem dX4_count_111 : decode cX4_count 111 = .ok (.ireturn, 1) := by decide +kernel
set_option maxRecDepth 20000 in
theorem ggX4_remember_X4_dropOldest : GoodIn wsX4_remember wsX4_dropOldest := goodIn_r _ [8, 2, 1, 56, 57, 58, 59, 60, 61] (by decide +kernel) (by decide +kernel)
set_option maxRecDepth 20000 in
theorem gX4_remember_X4_dropOldest : GoodIn wsX4_remember (wsV RX4 227 RX4 yX4_dropOldest wsX4_dropOldest) := goodIn_app (goodIn_of _ (by decide +kernel)) ggX4_remember_X4_dropOldest
set_option maxRecDepth 20000 in
theorem ggX4_remember_X2_copyFrom : GoodIn wsX4_remember wsX2_copyFrom := goodIn_r _ [13, 14, 15, 16, 17, 18, 19, 20, 21, 22, 23, 24, 25, 26, 27, 28, 29, 30, 31, 32, 33, 34, 35, 36, 37, 38, 39, 40, 41, 42, 43, 44, 45, 46, 47, 48, 49, 50, 51, 52, 53, 54, 55, 62, 63, 64, 65, 66, 67, 68, 69, 70, 71, 72, 73, 74, 75, 76, 77, 78, 79, 80, 81, 82] (by decide +kernel) (by decide +kernel)
set_option maxRecDepth 20000 in
theorem gX4_remember_X2_copyFrom : GoodIn wsX4_remember (wsV RX4 165 RX2 yX2_copyFrom wsX2_copyFrom) := goodIn_app (goodIn_of _ (by decide +kernel)) ggX4_remember_X2_copyFrom
theorem dX4_remember_0 : decode cX4_remember 0 = .ok (.aload_n 0, 1) := by decide +kernel
theorem dX4_remember_1 : decode cX4_remember 1 = .ok (.getfield 162, 3) := by decide +kernel
theorem dX4_remember_4 : decode cX4_remember 4 = .ok (.aload_n 0, 1) := by decide +kernel
theorem dX4_remember_5 : decode cX4_remember 5 = .ok (.getfield 19, 3) := by decide +kernel
theorem dX4_remember_8 : decode cX4_remember 8 = .ok (.arraylength, 1) := by decide +kernel
theorem dX4_remember_9 : decode cX4_remember 9 = .ok (.if_icmp .lt 7, 3) := by decide +kernel
theorem dX4_remember_12 : decode cX4_remember 12 = .ok (.aload_n 0, 1) := by decide +kernel
theorem dX4_remember_13 : decode cX4_remember 13 = .ok (.invokevirtual 227, 3) := by decide +kernel
theorem dX4_remember_16 : decode cX4_remember 16 = .ok (.aload_n 0, 1) := by decide +kernel
theorem dX4_remember_17 : decode cX4_remember 17 = .ok (.getfield 162, 3) := by decide +kernel
theorem dX4_remember_20 : decode cX4_remember 20 = .ok (.ifCond .lt 41, 3) := by decide +kernel
theorem dX4_remember_23 : decode cX4_remember 23 = .ok (.aload_n 0, 1) := by decide +kernel
theorem dX4_remember_24 : decode cX4_remember 24 = .ok (.getfield 162, 3) := by decide +kernel
theorem dX4_remember_27 : decode cX4_remember 27 = .ok (.aload_n 0, 1) := by decide +kernel
theorem dX4_remember_28 : decode cX4_remember 28 = .ok (.getfield 19, 3) := by decide +kernel
theorem dX4_remember_31 : decode cX4_remember 31 = .ok (.arraylength, 1) := by decide +kernel
theorem dX4_remember_32 : decode cX4_remember 32 = .ok (.if_icmp .ge 29, 3) := by decide +kernel
theorem dX4_remember_35 : decode cX4_remember 35 = .ok (.aload_n 0, 1) := by decide +kernel
theorem dX4_remember_36 : decode cX4_remember 36 = .ok (.getfield 19, 3) := by decide +kernel
theorem dX4_remember_39 : decode cX4_remember 39 = .ok (.aload_n 0, 1) := by decide +kernel
theorem dX4_remember_40 : decode cX4_remember 40 = .ok (.getfield 162, 3) := by decide +kernel
theorem dX4_remember_43 : decode cX4_remember 43 = .ok (.aaload, 1) := by decide +kernel
theorem dX4_remember_44 : decode cX4_remember 44 = .ok (.aload_n 0, 1) := by decide +kernel
theorem dX4_remember_45 : decode cX4_remember 45 = .ok (.getfield 10, 3) := by decide +kernel
theorem dX4_remember_48 : decode cX4_remember 48 = .ok (.invokevirtual 165, 3) := by decide +kernel
theorem dX4_remember_51 : decode cX4_remember 51 = .ok (.aload_n 0, 1) := by decide +kernel
theorem dX4_remember_52 : decode cX4_remember 52 = .ok (.dup, 1) := by decide +kernel
theorem dX4_remember_53 : decode cX4_remember 53 = .ok (.getfield 162, 3) := by decide +kernel
theorem dX4_remember_56 : decode cX4_remember 56 = .ok (.iconst 1, 1) := by decide +kernel
theorem dX4_remember_57 : decode cX4_remember 57 = .ok (.iadd, 1) := by decide +kernel
theorem dX4_remember_58 : decode cX4_remember 58 = .ok (.putfield 162, 3) := by decide +kernel
theorem dX4_remember_61 : decode cX4_remember 61 = .ok (.return_, 1) := by decide +kernel
theorem dX4_dropOldest_0 : decode cX4_dropOldest 0 = .ok (.aload_n 0, 1) := by decide +kernel
theorem dX4_dropOldest_1 : decode cX4_dropOldest 1 = .ok (.getfield 19, 3) := by decide +kernel
theorem dX4_dropOldest_4 : decode cX4_dropOldest 4 = .ok (.iconst 0, 1) := by decide +kernel
theorem dX4_dropOldest_5 : decode cX4_dropOldest 5 = .ok (.aaload, 1) := by decide +kernel
theorem dX4_dropOldest_6 : decode cX4_dropOldest 6 = .ok (.astore_n 1, 1) := by decide +kernel
theorem dX4_dropOldest_7 : decode cX4_dropOldest 7 = .ok (.iconst 1, 1) := by decide +kernel
theorem dX4_dropOldest_8 : decode cX4_dropOldest 8 = .ok (.istore_n 2, 1) := by decide +kernel
theorem dX4_dropOldest_9 : decode cX4_dropOldest 9 = .ok (.iload_n 2, 1) := by decide +kernel
theorem dX4_dropOldest_10 : decode cX4_dropOldest 10 = .ok (.aload_n 0, 1) := by decide +kernel
theorem dX4_dropOldest_11 : decode cX4_dropOldest 11 = .ok (.getfield 19, 3) := by decide +kernel
theorem dX4_dropOldest_14 : decode cX4_dropOldest 14 = .ok (.arraylength, 1) := by decide +kernel
theorem dX4_dropOldest_15 : decode cX4_dropOldest 15 = .ok (.if_icmp .ge 23, 3) := by decide +kernel
theorem dX4_dropOldest_18 : decode cX4_dropOldest 18 = .ok (.aload_n 0, 1) := by decide +kernel
theorem dX4_dropOldest_19 : decode cX4_dropOldest 19 = .ok (.getfield 19, 3) := by decide +kernel
theorem dX4_dropOldest_22 : decode cX4_dropOldest 22 = .ok (.iload_n 2, 1) := by decide +kernel
theorem dX4_dropOldest_23 : decode cX4_dropOldest 23 = .ok (.iconst 1, 1) := by decide +kernel
theorem dX4_dropOldest_24 : decode cX4_dropOldest 24 = .ok (.isub, 1) := by decide +kernel
theorem dX4_dropOldest_25 : decode cX4_dropOldest 25 = .ok (.aload_n 0, 1) := by decide +kernel
theorem dX4_dropOldest_26 : decode cX4_dropOldest 26 = .ok (.getfield 19, 3) := by decide +kernel
theorem dX4_dropOldest_29 : decode cX4_dropOldest 29 = .ok (.iload_n 2, 1) := by decide +kernel
theorem dX4_dropOldest_30 : decode cX4_dropOldest 30 = .ok (.aaload, 1) := by decide +kernel
theorem dX4_dropOldest_31 : decode cX4_dropOldest 31 = .ok (.aastore, 1) := by decide +kernel
theorem dX4_dropOldest_32 : decode cX4_dropOldest 32 = .ok (.iinc 2 1, 3) := by decide +kernel
theorem dX4_dropOldest_35 : decode cX4_dropOldest 35 = .ok (.goto (-26), 3) := by decide +kernel
theorem dX4_dropOldest_38 : decode cX4_dropOldest 38 = .ok (.aload_n 0, 1) := by decide +kernel
theorem dX4_dropOldest_39 : decode cX4_dropOldest 39 = .ok (.getfield 19, 3) := by decide +kernel
theorem dX4_dropOldest_42 : decode cX4_dropOldest 42 = .ok (.aload_n 0, 1) := by decide +kernel
theorem dX4_dropOldest_43 : decode cX4_dropOldest 43 = .ok (.getfield 19, 3) := by decide +kernel
theorem dX4_dropOldest_46 : decode cX4_dropOldest 46 = .ok (.arraylength, 1) := by decide +kernel
theorem dX4_dropOldest_47 : decode cX4_dropOldest 47 = .ok (.iconst 1, 1) := by decide +kernel
theorem dX4_dropOldest_48 : decode cX4_dropOldest 48 = .ok (.isub, 1) := by decide +kernel
theorem dX4_dropOldest_49 : decode cX4_dropOldest 49 = .ok (.aload_n 1, 1) := by decide +kernel
theorem dX4_dropOldest_50 : decode cX4_dropOldest 50 = .ok (.aastore, 1) := by decide +kernel
theorem dX4_dropOldest_51 : decode cX4_dropOldest 51 = .ok (.aload_n 0, 1) := by decide +kernel
theorem dX4_dropOldest_52 : decode cX4_dropOldest 52 = .ok (.aload_n 0, 1) := by decide +kernel
theorem dX4_dropOldest_53 : decode cX4_dropOldest 53 = .ok (.getfield 19, 3) := by decide +kernel
theorem dX4_dropOldest_56 : decode cX4_dropOldest 56 = .ok (.arraylength, 1) := by decide +kernel
theorem dX4_dropOldest_57 : decode cX4_dropOldest 57 = .ok (.iconst 1, 1) := by decide +kernel
theorem dX4_dropOldest_58 : decode cX4_dropOldest 58 = .ok (.isub, 1) := by decide +kernel
theorem dX4_dropOldest_59 : decode cX4_dropOldest 59 = .ok (.putfield 162, 3) := by decide +kernel
theorem dX4_dropOldest_62 : decode cX4_dropOldest 62 = .ok (.return_, 1) := by decide +kernel
set_option maxRecDepth 20000 in
theorem ggX4_checkMending_X4_isStation : GoodIn wsX4_checkMending wsX4_isStation := goodIn_r _ [6] (by decide +kernel) (by decide +kernel)
set_option maxRecDepth 20000 in
theorem gX4_checkMending_X4_isStation : GoodIn wsX4_checkMending (va_wsS RX4 62 yX4_isStation wsX4_isStation) := goodIn_app (goodIn_of _ (by decide +kernel)) ggX4_checkMending_X4_isStation
set_option maxRecDepth 20000 in
theorem ggX4_checkMending_X0_hasGap : GoodIn wsX4_checkMending wsX0_hasGap := goodIn_r _ [11, 12, 13, 14, 10, 15, 16, 17, 18, 19, 20, 21, 22, 23, 24, 25, 26, 27, 28, 53, 54, 55, 56, 57, 58, 59, 60, 61, 62, 63, 64, 65, 66, 67] (by decide +kernel) (by decide +kernel)
set_option maxRecDepth 20000 in
theorem gX4_checkMending_X0_hasGap : GoodIn wsX4_checkMending (wsV RX4 206 RX0 yX0_hasGap wsX0_hasGap) := goodIn_app (goodIn_of _ (by decide +kernel)) ggX4_checkMending_X0_hasGap
set_option maxRecDepth 20000 in
theorem ggX4_checkMending_X4_isWithin : GoodIn wsX4_checkMending wsX4_isWithin := goodIn_r _ [31] (by decide +kernel) (by decide +kernel)
set_option maxRecDepth 20000 in
theorem gX4_checkMending_X4_isWithin : GoodIn wsX4_checkMending (va_wsS RX4 30 yX4_isWithin wsX4_isWithin) := goodIn_app (goodIn_of _ (by decide +kernel)) ggX4_checkMending_X4_isWithin
set_option maxRecDepth 20000 in
theorem ggX4_checkMending_X0_isInner : GoodIn wsX4_checkMending wsX0_isInner := goodIn_r _ [35, 12, 13, 14, 10, 15, 16, 17, 18, 19, 20, 21, 22, 23, 24, 25, 26, 27, 28, 36, 37, 38, 39, 40, 41, 42, 43, 53, 54, 55, 56, 57, 58, 59, 60, 61, 62, 63, 64, 65, 66, 67] (by decide +kernel) (by decide +kernel)
set_option maxRecDepth 20000 in
theorem gX4_checkMending_X0_isInner : GoodIn wsX4_checkMending (wsV RX4 209 RX0 yX0_isInner wsX0_isInner) := goodIn_app (goodIn_of _ (by decide +kernel)) ggX4_checkMending_X0_isInner
theorem dX4_checkMending_0 : decode cX4_checkMending 0 = .ok (.iload_n 1, 1) := by decide +kernel
theorem dX4_checkMending_1 : decode cX4_checkMending 1 = .ok (.invokestatic 62, 3) := by decide +kernel
theorem dX4_checkMending_4 : decode cX4_checkMending 4 = .ok (.ifCond .eq 26, 3) := by decide +kernel
theorem dX4_checkMending_7 : decode cX4_checkMending 7 = .ok (.iload_n 3, 1) := by decide +kernel
theorem dX4_checkMending_8 : decode cX4_checkMending 8 = .ok (.invokestatic 62, 3) := by decide +kernel
theorem dX4_checkMending_11 : decode cX4_checkMending 11 = .ok (.ifCond .eq 19, 3) := by decide +kernel
theorem dX4_checkMending_14 : decode cX4_checkMending 14 = .ok (.aload_n 0, 1) := by decide +kernel
theorem dX4_checkMending_15 : decode cX4_checkMending 15 = .ok (.getfield 10, 3) := by decide +kernel
theorem dX4_checkMending_18 : decode cX4_checkMending 18 = .ok (.getfield 66, 3) := by decide +kernel
theorem dX4_checkMending_21 : decode cX4_checkMending 21 = .ok (.iload_n 1, 1) := by decide +kernel
theorem dX4_checkMending_22 : decode cX4_checkMending 22 = .ok (.aaload, 1) := by decide +kernel
theorem dX4_checkMending_23 : decode cX4_checkMending 23 = .ok (.iload_n 2, 1) := by decide +kernel
theorem dX4_checkMending_24 : decode cX4_checkMending 24 = .ok (.invokevirtual 206, 3) := by decide +kernel
theorem dX4_checkMending_27 : decode cX4_checkMending 27 = .ok (.ifCond .ne 5, 3) := by decide +kernel
theorem dX4_checkMending_30 : decode cX4_checkMending 30 = .ok (.iconst (-1), 1) := by decide +kernel
theorem dX4_checkMending_31 : decode cX4_checkMending 31 = .ok (.ireturn, 1) := by decide +kernel
theorem dX4_checkMending_32 : decode cX4_checkMending 32 = .ok (.iload 4, 2) := by decide +kernel
theorem dX4_checkMending_34 : decode cX4_checkMending 34 = .ok (.bipush (-12), 2) := by decide +kernel
theorem dX4_checkMending_36 : decode cX4_checkMending 36 = .ok (.bipush 12, 2) := by decide +kernel
theorem dX4_checkMending_38 : decode cX4_checkMending 38 = .ok (.invokestatic 30, 3) := by decide +kernel
theorem dX4_checkMending_41 : decode cX4_checkMending 41 = .ok (.ifCond .eq 8, 3) := by decide +kernel
theorem dX4_checkMending_44 : decode cX4_checkMending 44 = .ok (.iload_n 3, 1) := by decide +kernel
theorem dX4_checkMending_45 : decode cX4_checkMending 45 = .ok (.iload_n 1, 1) := by decide +kernel
theorem dX4_checkMending_46 : decode cX4_checkMending 46 = .ok (.if_icmp .ne 6, 3) := by decide +kernel
theorem dX4_checkMending_49 : decode cX4_checkMending 49 = .ok (.bipush (-2), 2) := by decide +kernel
theorem dX4_checkMending_51 : decode cX4_checkMending 51 = .ok (.ireturn, 1) := by decide +kernel
theorem dX4_checkMending_52 : decode cX4_checkMending 52 = .ok (.aload_n 0, 1) := by decide +kernel
theorem dX4_checkMending_53 : decode cX4_checkMending 53 = .ok (.getfield 10, 3) := by decide +kernel
theorem dX4_checkMending_56 : decode cX4_checkMending 56 = .ok (.getfield 66, 3) := by decide +kernel
theorem dX4_checkMending_59 : decode cX4_checkMending 59 = .ok (.iload_n 1, 1) := by decide +kernel
theorem dX4_checkMending_60 : decode cX4_checkMending 60 = .ok (.aaload, 1) := by decide +kernel
theorem dX4_checkMending_61 : decode cX4_checkMending 61 = .ok (.iload_n 2, 1) := by decide +kernel
theorem dX4_checkMending_62 : decode cX4_checkMending 62 = .ok (.invokevirtual 209, 3) := by decide +kernel
theorem dX4_checkMending_65 : decode cX4_checkMending 65 = .ok (.ifCond .eq 7, 3) := by decide +kernel
theorem dX4_checkMending_68 : decode cX4_checkMending 68 = .ok (.iconst 0, 1) := by decide +kernel
theorem dX4_checkMending_69 : decode cX4_checkMending 69 = .ok (.goto 5, 3) := by decide +kernel
theorem dX4_checkMending_72 : decode cX4_checkMending 72 = .ok (.bipush (-4), 2) := by decide +kernel
theorem dX4_checkMending_74 : decode cX4_checkMending 74 = .ok (.ireturn, 1) := by decide +kernel
theorem dX4_phaseOfStep_0 : decode cX4_phaseOfStep 0 = .ok (.iload_n 0, 1) := by decide +kernel
theorem dX4_phaseOfStep_1 : decode cX4_phaseOfStep 1 = .ok (.iconst 2, 1) := by decide +kernel
theorem dX4_phaseOfStep_2 : decode cX4_phaseOfStep 2 = .ok (.irem, 1) := by decide +kernel
theorem dX4_phaseOfStep_3 : decode cX4_phaseOfStep 3 = .ok (.ifCond .ne 9, 3) := by decide +kernel
theorem dX4_phaseOfStep_6 : decode cX4_phaseOfStep 6 = .ok (.iload_n 0, 1) := by decide +kernel
theorem dX4_phaseOfStep_7 : decode cX4_phaseOfStep 7 = .ok (.iconst 2, 1) := by decide +kernel
theorem dX4_phaseOfStep_8 : decode cX4_phaseOfStep 8 = .ok (.idiv, 1) := by decide +kernel
theorem dX4_phaseOfStep_9 : decode cX4_phaseOfStep 9 = .ok (.goto 9, 3) := by decide +kernel
theorem dX4_phaseOfStep_12 : decode cX4_phaseOfStep 12 = .ok (.iload_n 0, 1) := by decide +kernel
theorem dX4_phaseOfStep_13 : decode cX4_phaseOfStep 13 = .ok (.iconst 1, 1) := by decide +kernel
theorem dX4_phaseOfStep_14 : decode cX4_phaseOfStep 14 = .ok (.iadd, 1) := by decide +kernel
theorem dX4_phaseOfStep_15 : decode cX4_phaseOfStep 15 = .ok (.ineg, 1) := by decide +kernel
theorem dX4_phaseOfStep_16 : decode cX4_phaseOfStep 16 = .ok (.iconst 2, 1) := by decide +kernel
theorem dX4_phaseOfStep_17 : decode cX4_phaseOfStep 17 = .ok (.idiv, 1) := by decide +kernel
theorem dX4_phaseOfStep_18 : decode cX4_phaseOfStep 18 = .ok (.ireturn, 1) := by decide +kernel
theorem dX4_isStation_0 : decode cX4_isStation 0 = .ok (.iload_n 0, 1) := by decide +kernel
theorem dX4_isStation_1 : decode cX4_isStation 1 = .ok (.ifCond .lt 12, 3) := by decide +kernel
theorem dX4_isStation_4 : decode cX4_isStation 4 = .ok (.iload_n 0, 1) := by decide +kernel
theorem dX4_isStation_5 : decode cX4_isStation 5 = .ok (.iconst 3, 1) := by decide +kernel
theorem dX4_isStation_6 : decode cX4_isStation 6 = .ok (.if_icmp .ge 7, 3) := by decide +kernel
theorem dX4_isStation_9 : decode cX4_isStation 9 = .ok (.iconst 1, 1) := by decide +kernel
theorem dX4_isStation_10 : decode cX4_isStation 10 = .ok (.goto 4, 3) := by decide +kernel
theorem dX4_isStation_13 : decode cX4_isStation 13 = .ok (.iconst 0, 1) := by decide +kernel
theorem dX4_isStation_14 : decode cX4_isStation 14 = .ok (.ireturn, 1) := by decide +kernel
theorem dX4_isWithin_0 : decode cX4_isWithin 0 = .ok (.iload_n 0, 1) := by decide +kernel
theorem dX4_isWithin_1 : decode cX4_isWithin 1 = .ok (.iload_n 1, 1) := by decide +kernel
theorem dX4_isWithin_2 : decode cX4_isWithin 2 = .ok (.if_icmp .lt 12, 3) := by decide +kernel
theorem dX4_isWithin_5 : decode cX4_isWithin 5 = .ok (.iload_n 0, 1) := by decide +kernel
theorem dX4_isWithin_6 : decode cX4_isWithin 6 = .ok (.iload_n 2, 1) := by decide +kernel
theorem dX4_isWithin_7 : decode cX4_isWithin 7 = .ok (.if_icmp .gt 7, 3) := by decide +kernel
theorem dX4_isWithin_10 : decode cX4_isWithin 10 = .ok (.iconst 1, 1) := by decide +kernel
theorem dX4_isWithin_11 : decode cX4_isWithin 11 = .ok (.goto 4, 3) := by decide +kernel
theorem dX4_isWithin_14 : decode cX4_isWithin 14 = .ok (.iconst 0, 1) := by decide +kernel
theorem dX4_isWithin_15 : decode cX4_isWithin 15 = .ok (.ireturn, 1) := by decide +kernel
set_option maxRecDepth 20000 in
theorem ggX4_shareOf_J9_floorDiv_7cf53 : GoodIn wsX4_shareOf wsJ9_floorDiv_7cf53 := goodIn_r _ [4] (by decide +kernel) (by decide +kernel)
set_option maxRecDepth 20000 in
theorem gX4_shareOf_J9_floorDiv_7cf53 : GoodIn wsX4_shareOf (va_wsS RX4 230 yJ9_floorDiv_7cf53 wsJ9_floorDiv_7cf53) := goodIn_app (goodIn_of _ (by decide +kernel)) ggX4_shareOf_J9_floorDiv_7cf53
theorem dX4_shareOf_0 : decode cX4_shareOf 0 = .ok (.iload_n 2, 1) := by decide +kernel
theorem dX4_shareOf_1 : decode cX4_shareOf 1 = .ok (.ifCond .gt 7, 3) := by decide +kernel
theorem dX4_shareOf_4 : decode cX4_shareOf 4 = .ok (.iconst 0, 1) := by decide +kernel
theorem dX4_shareOf_5 : decode cX4_shareOf 5 = .ok (.goto 10, 3) := by decide +kernel
theorem dX4_shareOf_8 : decode cX4_shareOf 8 = .ok (.iload_n 0, 1) := by decide +kernel
theorem dX4_shareOf_9 : decode cX4_shareOf 9 = .ok (.iload_n 1, 1) := by decide +kernel
theorem dX4_shareOf_10 : decode cX4_shareOf 10 = .ok (.imul, 1) := by decide +kernel
theorem dX4_shareOf_11 : decode cX4_shareOf 11 = .ok (.iload_n 2, 1) := by decide +kernel
theorem dX4_shareOf_12 : decode cX4_shareOf 12 = .ok (.invokestatic 230, 3) := by decide +kernel
theorem dX4_shareOf_15 : decode cX4_shareOf 15 = .ok (.ireturn, 1) := by decide +kernel
set_option maxRecDepth 20000 in
theorem ggX5_init_X5_of : GoodIn wsX5_init wsX5_of := goodIn_r _ [12] (by decide +kernel) (by decide +kernel)
set_option maxRecDepth 20000 in
theorem gX5_init_X5_of : GoodIn wsX5_init (va_wsS RX5 22 yX5_of wsX5_of) := goodIn_app (goodIn_of _ (by decide +kernel)) ggX5_init_X5_of
set_option maxRecDepth 20000 in
theorem ggX5_init_X5_letFloat : GoodIn wsX5_init wsX5_letFloat := goodIn_r _ [16, 5, 9, 10, 11, 12, 17, 18, 19, 20, 21, 22, 23, 24, 25, 26, 27, 28, 29, 30, 31, 32, 33, 34, 35, 36, 37, 38, 39, 40, 41] (by decide +kernel) (by decide +kernel)
set_option maxRecDepth 20000 in
theorem gX5_init_X5_letFloat : GoodIn wsX5_init (wsV RX5 26 RX5 yX5_letFloat wsX5_letFloat) := goodIn_app (goodIn_of _ (by decide +kernel)) ggX5_init_X5_letFloat
theorem dX5_init_0 : decode cX5_init 0 = .ok (.aload_n 0, 1) := by decide +kernel
theorem dX5_init_1 : decode cX5_init 1 = .ok (.invokespecial 1, 3) := by decide +kernel
theorem dX5_init_4 : decode cX5_init 4 = .ok (.aload_n 0, 1) := by decide +kernel
theorem dX5_init_5 : decode cX5_init 5 = .ok (.sipush 2203, 3) := by decide +kernel
theorem dX5_init_8 : decode cX5_init 8 = .ok (.newarray .int, 2) := by decide +kernel
theorem dX5_init_10 : decode cX5_init 10 = .ok (.putfield 7, 3) := by decide +kernel
theorem dX5_init_13 : decode cX5_init 13 = .ok (.aload_n 0, 1) := by decide +kernel
theorem dX5_init_14 : decode cX5_init 14 = .ok (.sipush 8812, 3) := by decide +kernel
theorem dX5_init_17 : decode cX5_init 17 = .ok (.newarray .int, 2) := by decide +kernel
theorem dX5_init_19 : decode cX5_init 19 = .ok (.putfield 13, 3) := by decide +kernel
theorem dX5_init_22 : decode cX5_init 22 = .ok (.aload_n 0, 1) := by decide +kernel
theorem dX5_init_23 : decode cX5_init 23 = .ok (.sipush 2203, 3) := by decide +kernel
theorem dX5_init_26 : decode cX5_init 26 = .ok (.newarray .int, 2) := by decide +kernel
theorem dX5_init_28 : decode cX5_init 28 = .ok (.putfield 16, 3) := by decide +kernel
theorem dX5_init_31 : decode cX5_init 31 = .ok (.aload_n 0, 1) := by decide +kernel
theorem dX5_init_32 : decode cX5_init 32 = .ok (.bipush 60, 2) := by decide +kernel
theorem dX5_init_34 : decode cX5_init 34 = .ok (.newarray .int, 2) := by decide +kernel
theorem dX5_init_36 : decode cX5_init 36 = .ok (.putfield 19, 3) := by decide +kernel
theorem dX5_init_39 : decode cX5_init 39 = .ok (.aload_n 0, 1) := by decide +kernel
theorem dX5_init_40 : decode cX5_init 40 = .ok (.getfield 7, 3) := by decide +kernel
theorem dX5_init_43 : decode cX5_init 43 = .ok (.iconst 1, 1) := by decide +kernel
theorem dX5_init_44 : decode cX5_init 44 = .ok (.sipush 1000, 3) := by decide +kernel
theorem dX5_init_47 : decode cX5_init 47 = .ok (.iastore, 1) := by decide +kernel
theorem dX5_init_48 : decode cX5_init 48 = .ok (.aload_n 0, 1) := by decide +kernel
theorem dX5_init_49 : decode cX5_init 49 = .ok (.getfield 7, 3) := by decide +kernel
theorem dX5_init_52 : decode cX5_init 52 = .ok (.iconst 2, 1) := by decide +kernel
theorem dX5_init_53 : decode cX5_init 53 = .ok (.bipush 12, 2) := by decide +kernel
theorem dX5_init_55 : decode cX5_init 55 = .ok (.iastore, 1) := by decide +kernel
theorem dX5_init_56 : decode cX5_init 56 = .ok (.aload_n 0, 1) := by decide +kernel
theorem dX5_init_57 : decode cX5_init 57 = .ok (.getfield 7, 3) := by decide +kernel
theorem dX5_init_60 : decode cX5_init 60 = .ok (.iconst 5, 1) := by decide +kernel
theorem dX5_init_61 : decode cX5_init 61 = .ok (.bipush 24, 2) := by decide +kernel
theorem dX5_init_63 : decode cX5_init 63 = .ok (.iastore, 1) := by decide +kernel
theorem dX5_init_64 : decode cX5_init 64 = .ok (.aload_n 0, 1) := by decide +kernel
theorem dX5_init_65 : decode cX5_init 65 = .ok (.getfield 7, 3) := by decide +kernel
theorem dX5_init_68 : decode cX5_init 68 = .ok (.bipush 8, 2) := by decide +kernel
theorem dX5_init_70 : decode cX5_init 70 = .ok (.bipush 24, 2) := by decide +kernel
theorem dX5_init_72 : decode cX5_init 72 = .ok (.iastore, 1) := by decide +kernel
theorem dX5_init_73 : decode cX5_init 73 = .ok (.iconst 0, 1) := by decide +kernel
theorem dX5_init_74 : decode cX5_init 74 = .ok (.istore_n 1, 1) := by decide +kernel
theorem dX5_init_75 : decode cX5_init 75 = .ok (.iload_n 1, 1) := by decide +kernel
theorem dX5_init_76 : decode cX5_init 76 = .ok (.iconst 3, 1) := by decide +kernel
theorem dX5_init_77 : decode cX5_init 77 = .ok (.if_icmp .ge 57, 3) := by decide +kernel
theorem dX5_init_80 : decode cX5_init 80 = .ok (.aload_n 0, 1) := by decide +kernel
theorem dX5_init_81 : decode cX5_init 81 = .ok (.getfield 7, 3) := by decide +kernel
theorem dX5_init_84 : decode cX5_init 84 = .ok (.iload_n 1, 1) := by decide +kernel
theorem dX5_init_85 : decode cX5_init 85 = .ok (.iconst 0, 1) := by decide +kernel
theorem dX5_init_86 : decode cX5_init 86 = .ok (.invokestatic 22, 3) := by decide +kernel
theorem dX5_init_89 : decode cX5_init 89 = .ok (.iload_n 1, 1) := by decide +kernel
theorem dX5_init_90 : decode cX5_init 90 = .ok (.iastore, 1) := by decide +kernel
theorem dX5_init_91 : decode cX5_init 91 = .ok (.aload_n 0, 1) := by decide +kernel
theorem dX5_init_92 : decode cX5_init 92 = .ok (.getfield 7, 3) := by decide +kernel
theorem dX5_init_95 : decode cX5_init 95 = .ok (.iload_n 1, 1) := by decide +kernel
theorem dX5_init_96 : decode cX5_init 96 = .ok (.iconst 1, 1) := by decide +kernel
theorem dX5_init_97 : decode cX5_init 97 = .ok (.invokestatic 22, 3) := by decide +kernel
theorem dX5_init_100 : decode cX5_init 100 = .ok (.bipush 100, 2) := by decide +kernel
theorem dX5_init_102 : decode cX5_init 102 = .ok (.iastore, 1) := by decide +kernel
theorem dX5_init_103 : decode cX5_init 103 = .ok (.aload_n 0, 1) := by decide +kernel
theorem dX5_init_104 : decode cX5_init 104 = .ok (.getfield 7, 3) := by decide +kernel
theorem dX5_init_107 : decode cX5_init 107 = .ok (.iload_n 1, 1) := by decide +kernel
theorem dX5_init_108 : decode cX5_init 108 = .ok (.bipush 8, 2) := by decide +kernel
theorem dX5_init_110 : decode cX5_init 110 = .ok (.invokestatic 22, 3) := by decide +kernel
theorem dX5_init_113 : decode cX5_init 113 = .ok (.iconst 1, 1) := by decide +kernel
theorem dX5_init_114 : decode cX5_init 114 = .ok (.iastore, 1) := by decide +kernel
theorem dX5_init_115 : decode cX5_init 115 = .ok (.aload_n 0, 1) := by decide +kernel
theorem dX5_init_116 : decode cX5_init 116 = .ok (.getfield 7, 3) := by decide +kernel
theorem dX5_init_119 : decode cX5_init 119 = .ok (.iload_n 1, 1) := by decide +kernel
theorem dX5_init_120 : decode cX5_init 120 = .ok (.sipush 610, 3) := by decide +kernel
theorem dX5_init_123 : decode cX5_init 123 = .ok (.invokestatic 22, 3) := by decide +kernel
theorem dX5_init_126 : decode cX5_init 126 = .ok (.iconst 1, 1) := by decide +kernel
theorem dX5_init_127 : decode cX5_init 127 = .ok (.iastore, 1) := by decide +kernel
theorem dX5_init_128 : decode cX5_init 128 = .ok (.iinc 1 1, 3) := by decide +kernel
theorem dX5_init_131 : decode cX5_init 131 = .ok (.goto (-56), 3) := by decide +kernel
theorem dX5_init_134 : decode cX5_init 134 = .ok (.aload_n 0, 1) := by decide +kernel
theorem dX5_init_135 : decode cX5_init 135 = .ok (.invokevirtual 26, 3) := by decide +kernel
theorem dX5_init_138 : decode cX5_init 138 = .ok (.return_, 1) := by decide +kernel
theorem dX5_in_0 : decode cX5_in 0 = .ok (.iload_n 0, 1) := by decide +kernel
theorem dX5_in_1 : decode cX5_in 1 = .ok (.iload_n 1, 1) := by decide +kernel
theorem dX5_in_2 : decode cX5_in 2 = .ok (.if_icmp .lt 12, 3) := by decide +kernel
theorem dX5_in_5 : decode cX5_in 5 = .ok (.iload_n 0, 1) := by decide +kernel
theorem dX5_in_6 : decode cX5_in 6 = .ok (.iload_n 2, 1) := by decide +kernel
theorem dX5_in_7 : decode cX5_in 7 = .ok (.if_icmp .gt 7, 3) := by decide +kernel
theorem dX5_in_10 : decode cX5_in 10 = .ok (.iconst 1, 1) := by decide +kernel
theorem dX5_in_11 : decode cX5_in 11 = .ok (.goto 4, 3) := by decide +kernel
theorem dX5_in_14 : decode cX5_in 14 = .ok (.iconst 0, 1) := by decide +kernel
theorem dX5_in_15 : decode cX5_in 15 = .ok (.ireturn, 1) := by decide +kernel
theorem dX5_of_0 : decode cX5_of 0 = .ok (.bipush 10, 2) := by decide +kernel
theorem dX5_of_2 : decode cX5_of 2 = .ok (.sipush 731, 3) := by decide +kernel
theorem dX5_of_5 : decode cX5_of 5 = .ok (.iload_n 0, 1) := by decide +kernel
theorem dX5_of_6 : decode cX5_of 6 = .ok (.imul, 1) := by decide +kernel
theorem dX5_of_7 : decode cX5_of 7 = .ok (.iadd, 1) := by decide +kernel
theorem dX5_of_8 : decode cX5_of 8 = .ok (.iload_n 1, 1) := by decide +kernel
theorem dX5_of_9 : decode cX5_of 9 = .ok (.iadd, 1) := by decide +kernel
theorem dX5_of_10 : decode cX5_of 10 = .ok (.ireturn, 1) := by decide +kernel
set_option maxRecDepth 20000 in
theorem ggX5_isStation_X5_in : GoodIn wsX5_isStation wsX5_in := goodIn_r _ [4] (by decide +kernel) (by decide +kernel)
set_option maxRecDepth 20000 in
theorem gX5_isStation_X5_in : GoodIn wsX5_isStation (va_wsS RX5 29 yX5_in wsX5_in) := goodIn_app (goodIn_of _ (by decide +kernel)) ggX5_isStation_X5_in
theorem dX5_isStation_0 : decode cX5_isStation 0 = .ok (.iload_n 0, 1) := by decide +kernel
theorem dX5_isStation_1 : decode cX5_isStation 1 = .ok (.iconst 0, 1) := by decide +kernel
theorem dX5_isStation_2 : decode cX5_isStation 2 = .ok (.iconst 2, 1) := by decide +kernel
theorem dX5_isStation_3 : decode cX5_isStation 3 = .ok (.invokestatic 29, 3) := by decide +kernel
theorem dX5_isStation_6 : decode cX5_isStation 6 = .ok (.ireturn, 1) := by decide +kernel
theorem dX5_size_0 : decode cX5_size 0 = .ok (.iload_n 0, 1) := by decide +kernel
theorem dX5_size_1 : decode cX5_size 1 = .ok (.ifCond .ge 8, 3) := by decide +kernel
theorem dX5_size_4 : decode cX5_size 4 = .ok (.iload_n 0, 1) := by decide +kernel
theorem dX5_size_5 : decode cX5_size 5 = .ok (.ineg, 1) := by decide +kernel
theorem dX5_size_6 : decode cX5_size 6 = .ok (.goto 4, 3) := by decide +kernel
theorem dX5_size_9 : decode cX5_size 9 = .ok (.iload_n 0, 1) := by decide +kernel
theorem dX5_size_10 : decode cX5_size 10 = .ok (.ireturn, 1) := by decide +kernel
theorem dX5_divide_0 : decode cX5_divide 0 = .ok (.iload_n 0, 1) := by decide +kernel
theorem dX5_divide_1 : decode cX5_divide 1 = .ok (.ifCond .ge 15, 3) := by decide +kernel
theorem dX5_divide_4 : decode cX5_divide 4 = .ok (.iload_n 0, 1) := by decide +kernel
theorem dX5_divide_5 : decode cX5_divide 5 = .ok (.ineg, 1) := by decide +kernel
theorem dX5_divide_6 : decode cX5_divide 6 = .ok (.iload_n 1, 1) := by decide +kernel
theorem dX5_divide_7 : decode cX5_divide 7 = .ok (.iadd, 1) := by decide +kernel
theorem dX5_divide_8 : decode cX5_divide 8 = .ok (.iconst 1, 1) := by decide +kernel
theorem dX5_divide_9 : decode cX5_divide 9 = .ok (.isub, 1) := by decide +kernel
theorem dX5_divide_10 : decode cX5_divide 10 = .ok (.iload_n 1, 1) := by decide +kernel
theorem dX5_divide_11 : decode cX5_divide 11 = .ok (.idiv, 1) := by decide +kernel
theorem dX5_divide_12 : decode cX5_divide 12 = .ok (.ineg, 1) := by decide +kernel
theorem dX5_divide_13 : decode cX5_divide 13 = .ok (.goto 6, 3) := by decide +kernel
theorem dX5_divide_16 : decode cX5_divide 16 = .ok (.iload_n 0, 1) := by decide +kernel
theorem dX5_divide_17 : decode cX5_divide 17 = .ok (.iload_n 1, 1) := by decide +kernel
theorem dX5_divide_18 : decode cX5_divide 18 = .ok (.idiv, 1) := by decide +kernel
theorem dX5_divide_19 : decode cX5_divide 19 = .ok (.ireturn, 1) := by decide +kernel
theorem dX5_know_0 : decode cX5_know 0 = .ok (.aload_n 0, 1) := by decide +kernel
theorem dX5_know_1 : decode cX5_know 1 = .ok (.getfield 33, 3) := by decide +kernel
theorem dX5_know_4 : decode cX5_know 4 = .ok (.iconst 4, 1) := by decide +kernel
theorem dX5_know_5 : decode cX5_know 5 = .ok (.if_icmp .ne 44, 3) := by decide +kernel
theorem dX5_know_8 : decode cX5_know 8 = .ok (.iconst 0, 1) := by decide +kernel
theorem dX5_know_9 : decode cX5_know 9 = .ok (.istore_n 1, 1) := by decide +kernel
theorem dX5_know_10 : decode cX5_know 10 = .ok (.iload_n 1, 1) := by decide +kernel
theorem dX5_know_11 : decode cX5_know 11 = .ok (.sipush 6609, 3) := by decide +kernel
theorem dX5_know_14 : decode cX5_know 14 = .ok (.if_icmp .ge 25, 3) := by decide +kernel
theorem dX5_know_17 : decode cX5_know 17 = .ok (.aload_n 0, 1) := by decide +kernel
theorem dX5_know_18 : decode cX5_know 18 = .ok (.getfield 13, 3) := by decide +kernel
theorem dX5_know_21 : decode cX5_know 21 = .ok (.iload_n 1, 1) := by decide +kernel
theorem dX5_know_22 : decode cX5_know 22 = .ok (.aload_n 0, 1) := by decide +kernel
theorem dX5_know_23 : decode cX5_know 23 = .ok (.getfield 13, 3) := by decide +kernel
theorem dX5_know_26 : decode cX5_know 26 = .ok (.sipush 2203, 3) := by decide +kernel
theorem dX5_know_29 : decode cX5_know 29 = .ok (.iload_n 1, 1) := by decide +kernel
theorem dX5_know_30 : decode cX5_know 30 = .ok (.iadd, 1) := by decide +kernel
theorem dX5_know_31 : decode cX5_know 31 = .ok (.iaload, 1) := by decide +kernel
theorem dX5_know_32 : decode cX5_know 32 = .ok (.iastore, 1) := by decide +kernel
theorem dX5_know_33 : decode cX5_know 33 = .ok (.iinc 1 1, 3) := by decide +kernel
theorem dX5_know_36 : decode cX5_know 36 = .ok (.goto (-26), 3) := by decide +kernel
theorem dX5_know_39 : decode cX5_know 39 = .ok (.aload_n 0, 1) := by decide +kernel
theorem dX5_know_40 : decode cX5_know 40 = .ok (.dup, 1) := by decide +kernel
end
section
theorem dX5_know_41 : decode cX5_know 41 = .ok (.getfield 33, 3) := by decide +kernel
theorem dX5_know_44 : decode cX5_know 44 = .ok (.iconst 1, 1) := by decide +kernel
theorem dX5_know_45 : decode cX5_know 45 = .ok (.isub, 1) := by decide +kernel
theorem dX5_know_46 : decode cX5_know 46 = .ok (.putfield 33, 3) := by decide +kernel
theorem dX5_know_49 : decode cX5_know 49 = .ok (.iconst 0, 1) := by decide +kernel
theorem dX5_know_50 : decode cX5_know 50 = .ok (.istore_n 1, 1) := by decide +kernel
theorem dX5_know_51 : decode cX5_know 51 = .ok (.iload_n 1, 1) := by decide +kernel
theorem dX5_know_52 : decode cX5_know 52 = .ok (.sipush 2203, 3) := by decide +kernel
theorem dX5_know_55 : decode cX5_know 55 = .ok (.if_icmp .ge 30, 3) := by decide +kernel
theorem dX5_know_58 : decode cX5_know 58 = .ok (.aload_n 0, 1) := by decide +kernel
theorem dX5_know_59 : decode cX5_know 59 = .ok (.getfield 13, 3) := by decide +kernel
theorem dX5_know_62 : decode cX5_know 62 = .ok (.sipush 2203, 3) := by decide +kernel
theorem dX5_know_65 : decode cX5_know 65 = .ok (.aload_n 0, 1) := by decide +kernel
theorem dX5_know_66 : decode cX5_know 66 = .ok (.getfield 33, 3) := by decide +kernel
theorem dX5_know_69 : decode cX5_know 69 = .ok (.imul, 1) := by decide +kernel
theorem dX5_know_70 : decode cX5_know 70 = .ok (.iload_n 1, 1) := by decide +kernel
theorem dX5_know_71 : decode cX5_know 71 = .ok (.iadd, 1) := by decide +kernel
theorem dX5_know_72 : decode cX5_know 72 = .ok (.aload_n 0, 1) := by decide +kernel
theorem dX5_know_73 : decode cX5_know 73 = .ok (.getfield 7, 3) := by decide +kernel
theorem dX5_know_76 : decode cX5_know 76 = .ok (.iload_n 1, 1) := by decide +kernel
theorem dX5_know_77 : decode cX5_know 77 = .ok (.iaload, 1) := by decide +kernel
theorem dX5_know_78 : decode cX5_know 78 = .ok (.iastore, 1) := by decide +kernel
theorem dX5_know_79 : decode cX5_know 79 = .ok (.iinc 1 1, 3) := by decide +kernel
theorem dX5_know_82 : decode cX5_know 82 = .ok (.goto (-31), 3) := by decide +kernel
theorem dX5_know_85 : decode cX5_know 85 = .ok (.aload_n 0, 1) := by decide +kernel
theorem dX5_know_86 : decode cX5_know 86 = .ok (.dup, 1) := by decide +kernel
theorem dX5_know_87 : decode cX5_know 87 = .ok (.getfield 33, 3) := by decide +kernel
theorem dX5_know_90 : decode cX5_know 90 = .ok (.iconst 1, 1) := by decide +kernel
theorem dX5_know_91 : decode cX5_know 91 = .ok (.iadd, 1) := by decide +kernel
theorem dX5_know_92 : decode cX5_know 92 = .ok (.putfield 33, 3) := by decide +kernel
theorem dX5_know_95 : decode cX5_know 95 = .ok (.return_, 1) := by decide +kernel
theorem dX5_waveAt_0 : decode cX5_waveAt 0 = .ok (.aload_n 0, 1) := by decide +kernel
theorem dX5_waveAt_1 : decode cX5_waveAt 1 = .ok (.getfield 7, 3) := by decide +kernel
theorem dX5_waveAt_4 : decode cX5_waveAt 4 = .ok (.iconst 1, 1) := by decide +kernel
theorem dX5_waveAt_5 : decode cX5_waveAt 5 = .ok (.iconst 3, 1) := by decide +kernel
theorem dX5_waveAt_6 : decode cX5_waveAt 6 = .ok (.iload_n 1, 1) := by decide +kernel
theorem dX5_waveAt_7 : decode cX5_waveAt 7 = .ok (.imul, 1) := by decide +kernel
theorem dX5_waveAt_8 : decode cX5_waveAt 8 = .ok (.iadd, 1) := by decide +kernel
theorem dX5_waveAt_9 : decode cX5_waveAt 9 = .ok (.iaload, 1) := by decide +kernel
theorem dX5_waveAt_10 : decode cX5_waveAt 10 = .ok (.istore_n 3, 1) := by decide +kernel
theorem dX5_waveAt_11 : decode cX5_waveAt 11 = .ok (.aload_n 0, 1) := by decide +kernel
theorem dX5_waveAt_12 : decode cX5_waveAt 12 = .ok (.getfield 7, 3) := by decide +kernel
theorem dX5_waveAt_15 : decode cX5_waveAt 15 = .ok (.iconst 1, 1) := by decide +kernel
theorem dX5_waveAt_16 : decode cX5_waveAt 16 = .ok (.iconst 3, 1) := by decide +kernel
theorem dX5_waveAt_17 : decode cX5_waveAt 17 = .ok (.iload_n 1, 1) := by decide +kernel
theorem dX5_waveAt_18 : decode cX5_waveAt 18 = .ok (.imul, 1) := by decide +kernel
theorem dX5_waveAt_19 : decode cX5_waveAt 19 = .ok (.iadd, 1) := by decide +kernel
theorem dX5_waveAt_20 : decode cX5_waveAt 20 = .ok (.iconst 1, 1) := by decide +kernel
theorem dX5_waveAt_21 : decode cX5_waveAt 21 = .ok (.iadd, 1) := by decide +kernel
theorem dX5_waveAt_22 : decode cX5_waveAt 22 = .ok (.iaload, 1) := by decide +kernel
theorem dX5_waveAt_23 : decode cX5_waveAt 23 = .ok (.istore 4, 2) := by decide +kernel
theorem dX5_waveAt_25 : decode cX5_waveAt 25 = .ok (.iload_n 2, 1) := by decide +kernel
theorem dX5_waveAt_26 : decode cX5_waveAt 26 = .ok (.aload_n 0, 1) := by decide +kernel
theorem dX5_waveAt_27 : decode cX5_waveAt 27 = .ok (.getfield 7, 3) := by decide +kernel
theorem dX5_waveAt_30 : decode cX5_waveAt 30 = .ok (.iconst 1, 1) := by decide +kernel
theorem dX5_waveAt_31 : decode cX5_waveAt 31 = .ok (.iconst 3, 1) := by decide +kernel
theorem dX5_waveAt_32 : decode cX5_waveAt 32 = .ok (.iload_n 1, 1) := by decide +kernel
theorem dX5_waveAt_33 : decode cX5_waveAt 33 = .ok (.imul, 1) := by decide +kernel
theorem dX5_waveAt_34 : decode cX5_waveAt 34 = .ok (.iadd, 1) := by decide +kernel
theorem dX5_waveAt_35 : decode cX5_waveAt 35 = .ok (.iconst 2, 1) := by decide +kernel
theorem dX5_waveAt_36 : decode cX5_waveAt 36 = .ok (.iadd, 1) := by decide +kernel
theorem dX5_waveAt_37 : decode cX5_waveAt 37 = .ok (.iaload, 1) := by decide +kernel
theorem dX5_waveAt_38 : decode cX5_waveAt 38 = .ok (.iadd, 1) := by decide +kernel
theorem dX5_waveAt_39 : decode cX5_waveAt 39 = .ok (.sipush 480, 3) := by decide +kernel
theorem dX5_waveAt_42 : decode cX5_waveAt 42 = .ok (.iload 4, 2) := by decide +kernel
theorem dX5_waveAt_44 : decode cX5_waveAt 44 = .ok (.imul, 1) := by decide +kernel
theorem dX5_waveAt_45 : decode cX5_waveAt 45 = .ok (.iadd, 1) := by decide +kernel
theorem dX5_waveAt_46 : decode cX5_waveAt 46 = .ok (.iload 4, 2) := by decide +kernel
theorem dX5_waveAt_48 : decode cX5_waveAt 48 = .ok (.irem, 1) := by decide +kernel
theorem dX5_waveAt_49 : decode cX5_waveAt 49 = .ok (.istore 5, 2) := by decide +kernel
theorem dX5_waveAt_51 : decode cX5_waveAt 51 = .ok (.iconst 4, 1) := by decide +kernel
theorem dX5_waveAt_52 : decode cX5_waveAt 52 = .ok (.iload_n 3, 1) := by decide +kernel
theorem dX5_waveAt_53 : decode cX5_waveAt 53 = .ok (.imul, 1) := by decide +kernel
theorem dX5_waveAt_54 : decode cX5_waveAt 54 = .ok (.iload 5, 2) := by decide +kernel
theorem dX5_waveAt_56 : decode cX5_waveAt 56 = .ok (.imul, 1) := by decide +kernel
theorem dX5_waveAt_57 : decode cX5_waveAt 57 = .ok (.iload 4, 2) := by decide +kernel
theorem dX5_waveAt_59 : decode cX5_waveAt 59 = .ok (.idiv, 1) := by decide +kernel
theorem dX5_waveAt_60 : decode cX5_waveAt 60 = .ok (.istore 6, 2) := by decide +kernel
theorem dX5_waveAt_62 : decode cX5_waveAt 62 = .ok (.iconst 2, 1) := by decide +kernel
theorem dX5_waveAt_63 : decode cX5_waveAt 63 = .ok (.iload 5, 2) := by decide +kernel
theorem dX5_waveAt_65 : decode cX5_waveAt 65 = .ok (.imul, 1) := by decide +kernel
theorem dX5_waveAt_66 : decode cX5_waveAt 66 = .ok (.iload 4, 2) := by decide +kernel
theorem dX5_waveAt_68 : decode cX5_waveAt 68 = .ok (.if_icmp .gt 10, 3) := by decide +kernel
theorem dX5_waveAt_71 : decode cX5_waveAt 71 = .ok (.iload 6, 2) := by decide +kernel
theorem dX5_waveAt_73 : decode cX5_waveAt 73 = .ok (.iload_n 3, 1) := by decide +kernel
theorem dX5_waveAt_74 : decode cX5_waveAt 74 = .ok (.isub, 1) := by decide +kernel
theorem dX5_waveAt_75 : decode cX5_waveAt 75 = .ok (.goto 9, 3) := by decide +kernel
theorem dX5_waveAt_78 : decode cX5_waveAt 78 = .ok (.iconst 3, 1) := by decide +kernel
theorem dX5_waveAt_79 : decode cX5_waveAt 79 = .ok (.iload_n 3, 1) := by decide +kernel
theorem dX5_waveAt_80 : decode cX5_waveAt 80 = .ok (.imul, 1) := by decide +kernel
theorem dX5_waveAt_81 : decode cX5_waveAt 81 = .ok (.iload 6, 2) := by decide +kernel
theorem dX5_waveAt_83 : decode cX5_waveAt 83 = .ok (.isub, 1) := by decide +kernel
theorem dX5_waveAt_84 : decode cX5_waveAt 84 = .ok (.ireturn, 1) := by decide +kernel
set_option maxRecDepth 20000 in
theorem ggX5_seaAt_X5_waveAt : GoodIn wsX5_seaAt wsX5_waveAt := goodIn_r _ [5, 6, 7, 8, 9, 10, 11, 12, 13, 14, 15, 16] (by decide +kernel) (by decide +kernel)
set_option maxRecDepth 20000 in
theorem gX5_seaAt_X5_waveAt : GoodIn wsX5_seaAt (wsV RX5 37 RX5 yX5_waveAt wsX5_waveAt) := goodIn_app (goodIn_of _ (by decide +kernel)) ggX5_seaAt_X5_waveAt
theorem dX5_seaAt_0 : decode cX5_seaAt 0 = .ok (.aload_n 0, 1) := by decide +kernel
theorem dX5_seaAt_1 : decode cX5_seaAt 1 = .ok (.iconst 0, 1) := by decide +kernel
theorem dX5_seaAt_2 : decode cX5_seaAt 2 = .ok (.iload_n 1, 1) := by decide +kernel
theorem dX5_seaAt_3 : decode cX5_seaAt 3 = .ok (.invokevirtual 37, 3) := by decide +kernel
theorem dX5_seaAt_6 : decode cX5_seaAt 6 = .ok (.aload_n 0, 1) := by decide +kernel
theorem dX5_seaAt_7 : decode cX5_seaAt 7 = .ok (.iconst 1, 1) := by decide +kernel
theorem dX5_seaAt_8 : decode cX5_seaAt 8 = .ok (.iload_n 1, 1) := by decide +kernel
theorem dX5_seaAt_9 : decode cX5_seaAt 9 = .ok (.invokevirtual 37, 3) := by decide +kernel
theorem dX5_seaAt_12 : decode cX5_seaAt 12 = .ok (.iadd, 1) := by decide +kernel
theorem dX5_seaAt_13 : decode cX5_seaAt 13 = .ok (.aload_n 0, 1) := by decide +kernel
theorem dX5_seaAt_14 : decode cX5_seaAt 14 = .ok (.iconst 2, 1) := by decide +kernel
theorem dX5_seaAt_15 : decode cX5_seaAt 15 = .ok (.iload_n 1, 1) := by decide +kernel
theorem dX5_seaAt_16 : decode cX5_seaAt 16 = .ok (.invokevirtual 37, 3) := by decide +kernel
theorem dX5_seaAt_19 : decode cX5_seaAt 19 = .ok (.iadd, 1) := by decide +kernel
theorem dX5_seaAt_20 : decode cX5_seaAt 20 = .ok (.ireturn, 1) := by decide +kernel
set_option maxRecDepth 20000 in
theorem ggX5_outsideAt_X5_of : GoodIn wsX5_outsideAt wsX5_of := goodIn_r _ [5] (by decide +kernel) (by decide +kernel)
set_option maxRecDepth 20000 in
theorem gX5_outsideAt_X5_of : GoodIn wsX5_outsideAt (va_wsS RX5 22 yX5_of wsX5_of) := goodIn_app (goodIn_of _ (by decide +kernel)) ggX5_outsideAt_X5_of
set_option maxRecDepth 20000 in
theorem ggX5_outsideAt_X5_seaAt : GoodIn wsX5_outsideAt wsX5_seaAt := goodIn_r _ [9, 10, 11, 12, 4, 13, 1, 17, 18, 19, 20, 21, 22, 23, 24, 25, 26] (by decide +kernel) (by decide +kernel)
set_option maxRecDepth 20000 in
theorem gX5_outsideAt_X5_seaAt : GoodIn wsX5_outsideAt (wsV RX5 40 RX5 yX5_seaAt wsX5_seaAt) := goodIn_app (goodIn_of _ (by decide +kernel)) ggX5_outsideAt_X5_seaAt
set_option maxRecDepth 20000 in
theorem ggX5_outsideAt_X5_divide : GoodIn wsX5_outsideAt wsX5_divide := goodIn_r _ [16] (by decide +kernel) (by decide +kernel)
set_option maxRecDepth 20000 in
theorem gX5_outsideAt_X5_divide : GoodIn wsX5_outsideAt (va_wsS RX5 44 yX5_divide wsX5_divide) := goodIn_app (goodIn_of _ (by decide +kernel)) ggX5_outsideAt_X5_divide
theorem dX5_outsideAt_0 : decode cX5_outsideAt 0 = .ok (.aload_n 0, 1) := by decide +kernel
theorem dX5_outsideAt_1 : decode cX5_outsideAt 1 = .ok (.getfield 7, 3) := by decide +kernel
theorem dX5_outsideAt_4 : decode cX5_outsideAt 4 = .ok (.iload_n 1, 1) := by decide +kernel
theorem dX5_outsideAt_5 : decode cX5_outsideAt 5 = .ok (.iconst 1, 1) := by decide +kernel
theorem dX5_outsideAt_6 : decode cX5_outsideAt 6 = .ok (.invokestatic 22, 3) := by decide +kernel
theorem dX5_outsideAt_9 : decode cX5_outsideAt 9 = .ok (.iaload, 1) := by decide +kernel
theorem dX5_outsideAt_10 : decode cX5_outsideAt 10 = .ok (.aload_n 0, 1) := by decide +kernel
theorem dX5_outsideAt_11 : decode cX5_outsideAt 11 = .ok (.iload_n 2, 1) := by decide +kernel
theorem dX5_outsideAt_12 : decode cX5_outsideAt 12 = .ok (.aload_n 0, 1) := by decide +kernel
theorem dX5_outsideAt_13 : decode cX5_outsideAt 13 = .ok (.getfield 7, 3) := by decide +kernel
theorem dX5_outsideAt_16 : decode cX5_outsideAt 16 = .ok (.iload_n 1, 1) := by decide +kernel
theorem dX5_outsideAt_17 : decode cX5_outsideAt 17 = .ok (.iconst 0, 1) := by decide +kernel
theorem dX5_outsideAt_18 : decode cX5_outsideAt 18 = .ok (.invokestatic 22, 3) := by decide +kernel
theorem dX5_outsideAt_21 : decode cX5_outsideAt 21 = .ok (.iaload, 1) := by decide +kernel
theorem dX5_outsideAt_22 : decode cX5_outsideAt 22 = .ok (.isub, 1) := by decide +kernel
theorem dX5_outsideAt_23 : decode cX5_outsideAt 23 = .ok (.invokevirtual 40, 3) := by decide +kernel
theorem dX5_outsideAt_26 : decode cX5_outsideAt 26 = .ok (.imul, 1) := by decide +kernel
theorem dX5_outsideAt_27 : decode cX5_outsideAt 27 = .ok (.bipush 100, 2) := by decide +kernel
theorem dX5_outsideAt_29 : decode cX5_outsideAt 29 = .ok (.invokestatic 44, 3) := by decide +kernel
theorem dX5_outsideAt_32 : decode cX5_outsideAt 32 = .ok (.aload_n 0, 1) := by decide +kernel
theorem dX5_outsideAt_33 : decode cX5_outsideAt 33 = .ok (.getfield 7, 3) := by decide +kernel
theorem dX5_outsideAt_36 : decode cX5_outsideAt 36 = .ok (.iload_n 1, 1) := by decide +kernel
theorem dX5_outsideAt_37 : decode cX5_outsideAt 37 = .ok (.iconst 2, 1) := by decide +kernel
theorem dX5_outsideAt_38 : decode cX5_outsideAt 38 = .ok (.invokestatic 22, 3) := by decide +kernel
theorem dX5_outsideAt_41 : decode cX5_outsideAt 41 = .ok (.iaload, 1) := by decide +kernel
theorem dX5_outsideAt_42 : decode cX5_outsideAt 42 = .ok (.iadd, 1) := by decide +kernel
theorem dX5_outsideAt_43 : decode cX5_outsideAt 43 = .ok (.ireturn, 1) := by decide +kernel
set_option maxRecDepth 20000 in
theorem ggX5_letFloat_X5_of : GoodIn wsX5_letFloat wsX5_of := goodIn_r _ [5] (by decide +kernel) (by decide +kernel)
set_option maxRecDepth 20000 in
theorem gX5_letFloat_X5_of : GoodIn wsX5_letFloat (va_wsS RX5 22 yX5_of wsX5_of) := goodIn_app (goodIn_of _ (by decide +kernel)) ggX5_letFloat_X5_of
set_option maxRecDepth 20000 in
theorem ggX5_letFloat_X5_outsideAt : GoodIn wsX5_letFloat wsX5_outsideAt := goodIn_r _ [9, 1, 2, 3, 4, 5, 10, 11, 12, 13, 14, 15, 16, 17, 18, 19, 20, 21, 22, 23, 24, 25, 26, 27, 28, 29, 30] (by decide +kernel) (by decide +kernel)
set_option maxRecDepth 20000 in
theorem gX5_letFloat_X5_outsideAt : GoodIn wsX5_letFloat (wsV RX5 47 RX5 yX5_outsideAt wsX5_outsideAt) := goodIn_app (goodIn_of _ (by decide +kernel)) ggX5_letFloat_X5_outsideAt
theorem dX5_letFloat_0 : decode cX5_letFloat 0 = .ok (.iconst 0, 1) := by decide +kernel
theorem dX5_letFloat_1 : decode cX5_letFloat 1 = .ok (.istore_n 1, 1) := by decide +kernel
theorem dX5_letFloat_2 : decode cX5_letFloat 2 = .ok (.iload_n 1, 1) := by decide +kernel
theorem dX5_letFloat_3 : decode cX5_letFloat 3 = .ok (.iconst 3, 1) := by decide +kernel
theorem dX5_letFloat_4 : decode cX5_letFloat 4 = .ok (.if_icmp .ge 25, 3) := by decide +kernel
theorem dX5_letFloat_7 : decode cX5_letFloat 7 = .ok (.aload_n 0, 1) := by decide +kernel
theorem dX5_letFloat_8 : decode cX5_letFloat 8 = .ok (.getfield 7, 3) := by decide +kernel
theorem dX5_letFloat_11 : decode cX5_letFloat 11 = .ok (.iload_n 1, 1) := by decide +kernel
theorem dX5_letFloat_12 : decode cX5_letFloat 12 = .ok (.iconst 3, 1) := by decide +kernel
theorem dX5_letFloat_13 : decode cX5_letFloat 13 = .ok (.invokestatic 22, 3) := by decide +kernel
theorem dX5_letFloat_16 : decode cX5_letFloat 16 = .ok (.aload_n 0, 1) := by decide +kernel
theorem dX5_letFloat_17 : decode cX5_letFloat 17 = .ok (.iload_n 1, 1) := by decide +kernel
theorem dX5_letFloat_18 : decode cX5_letFloat 18 = .ok (.iconst 0, 1) := by decide +kernel
theorem dX5_letFloat_19 : decode cX5_letFloat 19 = .ok (.invokevirtual 47, 3) := by decide +kernel
theorem dX5_letFloat_22 : decode cX5_letFloat 22 = .ok (.iastore, 1) := by decide +kernel
theorem dX5_letFloat_23 : decode cX5_letFloat 23 = .ok (.iinc 1 1, 3) := by decide +kernel
theorem dX5_letFloat_26 : decode cX5_letFloat 26 = .ok (.goto (-24), 3) := by decide +kernel
theorem dX5_letFloat_29 : decode cX5_letFloat 29 = .ok (.return_, 1) := by decide +kernel
set_option maxRecDepth 20000 in
theorem ggX5_setWave_X5_in : GoodIn wsX5_setWave wsX5_in := goodIn_r _ [6] (by decide +kernel) (by decide +kernel)
set_option maxRecDepth 20000 in
theorem gX5_setWave_X5_in : GoodIn wsX5_setWave (va_wsS RX5 29 yX5_in wsX5_in) := goodIn_app (goodIn_of _ (by decide +kernel)) ggX5_setWave_X5_in
set_option maxRecDepth 20000 in
theorem ggX5_setWave_X5_know : GoodIn wsX5_setWave wsX5_know := goodIn_r _ [10, 11, 12, 1, 35, 36, 37, 38, 39, 40, 41, 42, 43, 44] (by decide +kernel) (by decide +kernel)
set_option maxRecDepth 20000 in
theorem gX5_setWave_X5_know : GoodIn wsX5_setWave (wsV RX5 50 RX5 yX5_know wsX5_know) := goodIn_app (goodIn_of _ (by decide +kernel)) ggX5_setWave_X5_know
set_option maxRecDepth 20000 in
theorem ggX5_setWave_X5_letFloat : GoodIn wsX5_setWave wsX5_letFloat := goodIn_r _ [16, 1, 17, 18, 5, 19, 20, 21, 22, 23, 24, 25, 26, 27, 28, 29, 30, 31, 32, 33, 34, 35, 36, 37, 38, 39, 40, 41, 42, 43, 44] (by decide +kernel) (by decide +kernel)
set_option maxRecDepth 20000 in
theorem gX5_setWave_X5_letFloat : GoodIn wsX5_setWave (wsV RX5 26 RX5 yX5_letFloat wsX5_letFloat) := goodIn_app (goodIn_of _ (by decide +kernel)) ggX5_setWave_X5_letFloat
set_option maxRecDepth 20000 in
theorem ggX5_setWave_X5_seaAt : GoodIn wsX5_setWave wsX5_seaAt := goodIn_r _ [27, 28, 29, 30, 5, 31, 1, 35, 36, 37, 38, 39, 40, 41, 42, 43, 44] (by decide +kernel) (by decide +kernel)
set_option maxRecDepth 20000 in
theorem gX5_setWave_X5_seaAt : GoodIn wsX5_setWave (wsV RX5 40 RX5 yX5_seaAt wsX5_seaAt) := goodIn_app (goodIn_of _ (by decide +kernel)) ggX5_setWave_X5_seaAt
theorem dX5_setWave_0 : decode cX5_setWave 0 = .ok (.iload_n 1, 1) := by decide +kernel
theorem dX5_setWave_1 : decode cX5_setWave 1 = .ok (.iconst 0, 1) := by decide +kernel
theorem dX5_setWave_2 : decode cX5_setWave 2 = .ok (.iconst 2, 1) := by decide +kernel
theorem dX5_setWave_3 : decode cX5_setWave 3 = .ok (.invokestatic 29, 3) := by decide +kernel
theorem dX5_setWave_6 : decode cX5_setWave 6 = .ok (.ifCond .ne 5, 3) := by decide +kernel
theorem dX5_setWave_9 : decode cX5_setWave 9 = .ok (.iconst (-1), 1) := by decide +kernel
theorem dX5_setWave_10 : decode cX5_setWave 10 = .ok (.ireturn, 1) := by decide +kernel
theorem dX5_setWave_11 : decode cX5_setWave 11 = .ok (.iload_n 2, 1) := by decide +kernel
theorem dX5_setWave_12 : decode cX5_setWave 12 = .ok (.iconst 0, 1) := by decide +kernel
theorem dX5_setWave_13 : decode cX5_setWave 13 = .ok (.sipush 3000, 3) := by decide +kernel
theorem dX5_setWave_16 : decode cX5_setWave 16 = .ok (.invokestatic 29, 3) := by decide +kernel
theorem dX5_setWave_19 : decode cX5_setWave 19 = .ok (.ifCond .eq 24, 3) := by decide +kernel
theorem dX5_setWave_22 : decode cX5_setWave 22 = .ok (.iload_n 3, 1) := by decide +kernel
theorem dX5_setWave_23 : decode cX5_setWave 23 = .ok (.iconst 2, 1) := by decide +kernel
theorem dX5_setWave_24 : decode cX5_setWave 24 = .ok (.bipush 48, 2) := by decide +kernel
theorem dX5_setWave_26 : decode cX5_setWave 26 = .ok (.invokestatic 29, 3) := by decide +kernel
theorem dX5_setWave_29 : decode cX5_setWave 29 = .ok (.ifCond .eq 14, 3) := by decide +kernel
theorem dX5_setWave_32 : decode cX5_setWave 32 = .ok (.iload 4, 2) := by decide +kernel
theorem dX5_setWave_34 : decode cX5_setWave 34 = .ok (.iconst 0, 1) := by decide +kernel
theorem dX5_setWave_35 : decode cX5_setWave 35 = .ok (.bipush 47, 2) := by decide +kernel
theorem dX5_setWave_37 : decode cX5_setWave 37 = .ok (.invokestatic 29, 3) := by decide +kernel
theorem dX5_setWave_40 : decode cX5_setWave 40 = .ok (.ifCond .ne 6, 3) := by decide +kernel
theorem dX5_setWave_43 : decode cX5_setWave 43 = .ok (.bipush (-2), 2) := by decide +kernel
theorem dX5_setWave_45 : decode cX5_setWave 45 = .ok (.ireturn, 1) := by decide +kernel
theorem dX5_setWave_46 : decode cX5_setWave 46 = .ok (.aload_n 0, 1) := by decide +kernel
theorem dX5_setWave_47 : decode cX5_setWave 47 = .ok (.getfield 7, 3) := by decide +kernel
theorem dX5_setWave_50 : decode cX5_setWave 50 = .ok (.iconst 0, 1) := by decide +kernel
theorem dX5_setWave_51 : decode cX5_setWave 51 = .ok (.iaload, 1) := by decide +kernel
theorem dX5_setWave_52 : decode cX5_setWave 52 = .ok (.ifCond .eq 6, 3) := by decide +kernel
theorem dX5_setWave_55 : decode cX5_setWave 55 = .ok (.bipush (-4), 2) := by decide +kernel
theorem dX5_setWave_57 : decode cX5_setWave 57 = .ok (.ireturn, 1) := by decide +kernel
theorem dX5_setWave_58 : decode cX5_setWave 58 = .ok (.iconst 1, 1) := by decide +kernel
theorem dX5_setWave_59 : decode cX5_setWave 59 = .ok (.iconst 3, 1) := by decide +kernel
theorem dX5_setWave_60 : decode cX5_setWave 60 = .ok (.iload_n 1, 1) := by decide +kernel
theorem dX5_setWave_61 : decode cX5_setWave 61 = .ok (.imul, 1) := by decide +kernel
theorem dX5_setWave_62 : decode cX5_setWave 62 = .ok (.iadd, 1) := by decide +kernel
theorem dX5_setWave_63 : decode cX5_setWave 63 = .ok (.istore 5, 2) := by decide +kernel
theorem dX5_setWave_65 : decode cX5_setWave 65 = .ok (.aload_n 0, 1) := by decide +kernel
theorem dX5_setWave_66 : decode cX5_setWave 66 = .ok (.getfield 7, 3) := by decide +kernel
theorem dX5_setWave_69 : decode cX5_setWave 69 = .ok (.iload 5, 2) := by decide +kernel
theorem dX5_setWave_71 : decode cX5_setWave 71 = .ok (.iaload, 1) := by decide +kernel
theorem dX5_setWave_72 : decode cX5_setWave 72 = .ok (.iload_n 2, 1) := by decide +kernel
theorem dX5_setWave_73 : decode cX5_setWave 73 = .ok (.if_icmp .ne 33, 3) := by decide +kernel
theorem dX5_setWave_76 : decode cX5_setWave 76 = .ok (.aload_n 0, 1) := by decide +kernel
theorem dX5_setWave_77 : decode cX5_setWave 77 = .ok (.getfield 7, 3) := by decide +kernel
theorem dX5_setWave_80 : decode cX5_setWave 80 = .ok (.iload 5, 2) := by decide +kernel
theorem dX5_setWave_82 : decode cX5_setWave 82 = .ok (.iconst 1, 1) := by decide +kernel
theorem dX5_setWave_83 : decode cX5_setWave 83 = .ok (.iadd, 1) := by decide +kernel
theorem dX5_setWave_84 : decode cX5_setWave 84 = .ok (.iaload, 1) := by decide +kernel
theorem dX5_setWave_85 : decode cX5_setWave 85 = .ok (.iload_n 3, 1) := by decide +kernel
theorem dX5_setWave_86 : decode cX5_setWave 86 = .ok (.if_icmp .ne 20, 3) := by decide +kernel
theorem dX5_setWave_89 : decode cX5_setWave 89 = .ok (.aload_n 0, 1) := by decide +kernel
theorem dX5_setWave_90 : decode cX5_setWave 90 = .ok (.getfield 7, 3) := by decide +kernel
theorem dX5_setWave_93 : decode cX5_setWave 93 = .ok (.iload 5, 2) := by decide +kernel
theorem dX5_setWave_95 : decode cX5_setWave 95 = .ok (.iconst 2, 1) := by decide +kernel
theorem dX5_setWave_96 : decode cX5_setWave 96 = .ok (.iadd, 1) := by decide +kernel
theorem dX5_setWave_97 : decode cX5_setWave 97 = .ok (.iaload, 1) := by decide +kernel
theorem dX5_setWave_98 : decode cX5_setWave 98 = .ok (.iload 4, 2) := by decide +kernel
theorem dX5_setWave_100 : decode cX5_setWave 100 = .ok (.if_icmp .ne 6, 3) := by decide +kernel
theorem dX5_setWave_103 : decode cX5_setWave 103 = .ok (.bipush (-5), 2) := by decide +kernel
theorem dX5_setWave_105 : decode cX5_setWave 105 = .ok (.ireturn, 1) := by decide +kernel
theorem dX5_setWave_106 : decode cX5_setWave 106 = .ok (.aload_n 0, 1) := by decide +kernel
theorem dX5_setWave_107 : decode cX5_setWave 107 = .ok (.invokevirtual 50, 3) := by decide +kernel
theorem dX5_setWave_110 : decode cX5_setWave 110 = .ok (.aload_n 0, 1) := by decide +kernel
theorem dX5_setWave_111 : decode cX5_setWave 111 = .ok (.getfield 7, 3) := by decide +kernel
theorem dX5_setWave_114 : decode cX5_setWave 114 = .ok (.iload 5, 2) := by decide +kernel
theorem dX5_setWave_116 : decode cX5_setWave 116 = .ok (.iload_n 2, 1) := by decide +kernel
theorem dX5_setWave_117 : decode cX5_setWave 117 = .ok (.iastore, 1) := by decide +kernel
theorem dX5_setWave_118 : decode cX5_setWave 118 = .ok (.aload_n 0, 1) := by decide +kernel
theorem dX5_setWave_119 : decode cX5_setWave 119 = .ok (.getfield 7, 3) := by decide +kernel
theorem dX5_setWave_122 : decode cX5_setWave 122 = .ok (.iload 5, 2) := by decide +kernel
theorem dX5_setWave_124 : decode cX5_setWave 124 = .ok (.iconst 1, 1) := by decide +kernel
theorem dX5_setWave_125 : decode cX5_setWave 125 = .ok (.iadd, 1) := by decide +kernel
theorem dX5_setWave_126 : decode cX5_setWave 126 = .ok (.iload_n 3, 1) := by decide +kernel
theorem dX5_setWave_127 : decode cX5_setWave 127 = .ok (.iastore, 1) := by decide +kernel
theorem dX5_setWave_128 : decode cX5_setWave 128 = .ok (.aload_n 0, 1) := by decide +kernel
theorem dX5_setWave_129 : decode cX5_setWave 129 = .ok (.getfield 7, 3) := by decide +kernel
theorem dX5_setWave_132 : decode cX5_setWave 132 = .ok (.iload 5, 2) := by decide +kernel
theorem dX5_setWave_134 : decode cX5_setWave 134 = .ok (.iconst 2, 1) := by decide +kernel
theorem dX5_setWave_135 : decode cX5_setWave 135 = .ok (.iadd, 1) := by decide +kernel
theorem dX5_setWave_136 : decode cX5_setWave 136 = .ok (.iload 4, 2) := by decide +kernel
theorem dX5_setWave_138 : decode cX5_setWave 138 = .ok (.iastore, 1) := by decide +kernel
theorem dX5_setWave_139 : decode cX5_setWave 139 = .ok (.aload_n 0, 1) := by decide +kernel
theorem dX5_setWave_140 : decode cX5_setWave 140 = .ok (.invokevirtual 26, 3) := by decide +kernel
theorem dX5_setWave_143 : decode cX5_setWave 143 = .ok (.aload_n 0, 1) := by decide +kernel
theorem dX5_setWave_144 : decode cX5_setWave 144 = .ok (.iconst 0, 1) := by decide +kernel
theorem dX5_setWave_145 : decode cX5_setWave 145 = .ok (.invokevirtual 40, 3) := by decide +kernel
theorem dX5_setWave_148 : decode cX5_setWave 148 = .ok (.ldc 53, 2) := by decide +kernel
theorem dX5_setWave_150 : decode cX5_setWave 150 = .ok (.iadd, 1) := by decide +kernel
theorem dX5_setWave_151 : decode cX5_setWave 151 = .ok (.ireturn, 1) := by decide +kernel
set_option maxRecDepth 20000 in
theorem ggX5_setStation_X5_isStation : GoodIn wsX5_setStation wsX5_isStation := goodIn_r _ [6, 7, 8, 5, 9] (by decide +kernel) (by decide +kernel)
set_option maxRecDepth 20000 in
theorem gX5_setStation_X5_isStation : GoodIn wsX5_setStation (va_wsS RX5 54 yX5_isStation wsX5_isStation) := goodIn_app (goodIn_of _ (by decide +kernel)) ggX5_setStation_X5_isStation
set_option maxRecDepth 20000 in
theorem ggX5_setStation_X5_in : GoodIn wsX5_setStation wsX5_in := goodIn_r _ [9] (by decide +kernel) (by decide +kernel)
set_option maxRecDepth 20000 in
theorem gX5_setStation_X5_in : GoodIn wsX5_setStation (va_wsS RX5 29 yX5_in wsX5_in) := goodIn_app (goodIn_of _ (by decide +kernel)) ggX5_setStation_X5_in
set_option maxRecDepth 20000 in
theorem ggX5_setStation_X5_of : GoodIn wsX5_setStation wsX5_of := goodIn_r _ [12] (by decide +kernel) (by decide +kernel)
set_option maxRecDepth 20000 in
theorem gX5_setStation_X5_of : GoodIn wsX5_setStation (va_wsS RX5 22 yX5_of wsX5_of) := goodIn_app (goodIn_of _ (by decide +kernel)) ggX5_setStation_X5_of
set_option maxRecDepth 20000 in
theorem ggX5_setStation_X5_know : GoodIn wsX5_setStation wsX5_know := goodIn_r _ [16, 17, 18, 1, 34, 35, 36, 37, 38, 39, 40, 41, 42, 43] (by decide +kernel) (by decide +kernel)
set_option maxRecDepth 20000 in
theorem gX5_setStation_X5_know : GoodIn wsX5_setStation (wsV RX5 50 RX5 yX5_know wsX5_know) := goodIn_app (goodIn_of _ (by decide +kernel)) ggX5_setStation_X5_know
set_option maxRecDepth 20000 in
theorem ggX5_setStation_X5_outsideAt : GoodIn wsX5_setStation wsX5_outsideAt := goodIn_r _ [22, 1, 10, 11, 5, 12, 23, 24, 25, 26, 27, 28, 29, 30, 31, 32, 33, 34, 35, 36, 37, 38, 39, 40, 41, 42, 43] (by decide +kernel) (by decide +kernel)
set_option maxRecDepth 20000 in
theorem gX5_setStation_X5_outsideAt : GoodIn wsX5_setStation (wsV RX5 47 RX5 yX5_outsideAt wsX5_outsideAt) := goodIn_app (goodIn_of _ (by decide +kernel)) ggX5_setStation_X5_outsideAt
theorem dX5_setStation_0 : decode cX5_setStation 0 = .ok (.iload_n 1, 1) := by decide +kernel
theorem dX5_setStation_1 : decode cX5_setStation 1 = .ok (.invokestatic 54, 3) := by decide +kernel
theorem dX5_setStation_4 : decode cX5_setStation 4 = .ok (.ifCond .ne 5, 3) := by decide +kernel
theorem dX5_setStation_7 : decode cX5_setStation 7 = .ok (.iconst (-1), 1) := by decide +kernel
theorem dX5_setStation_8 : decode cX5_setStation 8 = .ok (.ireturn, 1) := by decide +kernel
theorem dX5_setStation_9 : decode cX5_setStation 9 = .ok (.iload_n 2, 1) := by decide +kernel
theorem dX5_setStation_10 : decode cX5_setStation 10 = .ok (.iconst 0, 1) := by decide +kernel
theorem dX5_setStation_11 : decode cX5_setStation 11 = .ok (.bipush 12, 2) := by decide +kernel
theorem dX5_setStation_13 : decode cX5_setStation 13 = .ok (.invokestatic 29, 3) := by decide +kernel
theorem dX5_setStation_16 : decode cX5_setStation 16 = .ok (.ifCond .eq 29, 3) := by decide +kernel
theorem dX5_setStation_19 : decode cX5_setStation 19 = .ok (.iload_n 3, 1) := by decide +kernel
theorem dX5_setStation_20 : decode cX5_setStation 20 = .ok (.bipush 10, 2) := by decide +kernel
theorem dX5_setStation_22 : decode cX5_setStation 22 = .ok (.sipush 200, 3) := by decide +kernel
theorem dX5_setStation_25 : decode cX5_setStation 25 = .ok (.invokestatic 29, 3) := by decide +kernel
theorem dX5_setStation_28 : decode cX5_setStation 28 = .ok (.ifCond .eq 17, 3) := by decide +kernel
theorem dX5_setStation_31 : decode cX5_setStation 31 = .ok (.iload 4, 2) := by decide +kernel
theorem dX5_setStation_33 : decode cX5_setStation 33 = .ok (.sipush (-2000), 3) := by decide +kernel
theorem dX5_setStation_36 : decode cX5_setStation 36 = .ok (.sipush 2000, 3) := by decide +kernel
theorem dX5_setStation_39 : decode cX5_setStation 39 = .ok (.invokestatic 29, 3) := by decide +kernel
theorem dX5_setStation_42 : decode cX5_setStation 42 = .ok (.ifCond .ne 6, 3) := by decide +kernel
theorem dX5_setStation_45 : decode cX5_setStation 45 = .ok (.bipush (-2), 2) := by decide +kernel
theorem dX5_setStation_47 : decode cX5_setStation 47 = .ok (.ireturn, 1) := by decide +kernel
theorem dX5_setStation_48 : decode cX5_setStation 48 = .ok (.aload_n 0, 1) := by decide +kernel
theorem dX5_setStation_49 : decode cX5_setStation 49 = .ok (.getfield 7, 3) := by decide +kernel
theorem dX5_setStation_52 : decode cX5_setStation 52 = .ok (.iconst 0, 1) := by decide +kernel
theorem dX5_setStation_53 : decode cX5_setStation 53 = .ok (.iaload, 1) := by decide +kernel
theorem dX5_setStation_54 : decode cX5_setStation 54 = .ok (.ifCond .eq 6, 3) := by decide +kernel
theorem dX5_setStation_57 : decode cX5_setStation 57 = .ok (.bipush (-4), 2) := by decide +kernel
theorem dX5_setStation_59 : decode cX5_setStation 59 = .ok (.ireturn, 1) := by decide +kernel
theorem dX5_setStation_60 : decode cX5_setStation 60 = .ok (.aload_n 0, 1) := by decide +kernel
theorem dX5_setStation_61 : decode cX5_setStation 61 = .ok (.getfield 7, 3) := by decide +kernel
theorem dX5_setStation_64 : decode cX5_setStation 64 = .ok (.iload_n 1, 1) := by decide +kernel
theorem dX5_setStation_65 : decode cX5_setStation 65 = .ok (.iconst 0, 1) := by decide +kernel
theorem dX5_setStation_66 : decode cX5_setStation 66 = .ok (.invokestatic 22, 3) := by decide +kernel
theorem dX5_setStation_69 : decode cX5_setStation 69 = .ok (.iaload, 1) := by decide +kernel
theorem dX5_setStation_70 : decode cX5_setStation 70 = .ok (.iload_n 2, 1) := by decide +kernel
theorem dX5_setStation_71 : decode cX5_setStation 71 = .ok (.if_icmp .ne 35, 3) := by decide +kernel
theorem dX5_setStation_74 : decode cX5_setStation 74 = .ok (.aload_n 0, 1) := by decide +kernel
theorem dX5_setStation_75 : decode cX5_setStation 75 = .ok (.getfield 7, 3) := by decide +kernel
theorem dX5_setStation_78 : decode cX5_setStation 78 = .ok (.iload_n 1, 1) := by decide +kernel
theorem dX5_setStation_79 : decode cX5_setStation 79 = .ok (.iconst 1, 1) := by decide +kernel
theorem dX5_setStation_80 : decode cX5_setStation 80 = .ok (.invokestatic 22, 3) := by decide +kernel
theorem dX5_setStation_83 : decode cX5_setStation 83 = .ok (.iaload, 1) := by decide +kernel
theorem dX5_setStation_84 : decode cX5_setStation 84 = .ok (.iload_n 3, 1) := by decide +kernel
theorem dX5_setStation_85 : decode cX5_setStation 85 = .ok (.if_icmp .ne 21, 3) := by decide +kernel
theorem dX5_setStation_88 : decode cX5_setStation 88 = .ok (.aload_n 0, 1) := by decide +kernel
theorem dX5_setStation_89 : decode cX5_setStation 89 = .ok (.getfield 7, 3) := by decide +kernel
theorem dX5_setStation_92 : decode cX5_setStation 92 = .ok (.iload_n 1, 1) := by decide +kernel
theorem dX5_setStation_93 : decode cX5_setStation 93 = .ok (.iconst 2, 1) := by decide +kernel
theorem dX5_setStation_94 : decode cX5_setStation 94 = .ok (.invokestatic 22, 3) := by decide +kernel
theorem dX5_setStation_97 : decode cX5_setStation 97 = .ok (.iaload, 1) := by decide +kernel
theorem dX5_setStation_98 : decode cX5_setStation 98 = .ok (.iload 4, 2) := by decide +kernel
theorem dX5_setStation_100 : decode cX5_setStation 100 = .ok (.if_icmp .ne 6, 3) := by decide +kernel
theorem dX5_setStation_103 : decode cX5_setStation 103 = .ok (.bipush (-5), 2) := by decide +kernel
theorem dX5_setStation_105 : decode cX5_setStation 105 = .ok (.ireturn, 1) := by decide +kernel
theorem dX5_setStation_106 : decode cX5_setStation 106 = .ok (.aload_n 0, 1) := by decide +kernel
theorem dX5_setStation_107 : decode cX5_setStation 107 = .ok (.invokevirtual 50, 3) := by decide +kernel
theorem dX5_setStation_110 : decode cX5_setStation 110 = .ok (.aload_n 0, 1) := by decide +kernel
theorem dX5_setStation_111 : decode cX5_setStation 111 = .ok (.getfield 7, 3) := by decide +kernel
theorem dX5_setStation_114 : decode cX5_setStation 114 = .ok (.iload_n 1, 1) := by decide +kernel
theorem dX5_setStation_115 : decode cX5_setStation 115 = .ok (.iconst 0, 1) := by decide +kernel
theorem dX5_setStation_116 : decode cX5_setStation 116 = .ok (.invokestatic 22, 3) := by decide +kernel
theorem dX5_setStation_119 : decode cX5_setStation 119 = .ok (.iload_n 2, 1) := by decide +kernel
theorem dX5_setStation_120 : decode cX5_setStation 120 = .ok (.iastore, 1) := by decide +kernel
theorem dX5_setStation_121 : decode cX5_setStation 121 = .ok (.aload_n 0, 1) := by decide +kernel
theorem dX5_setStation_122 : decode cX5_setStation 122 = .ok (.getfield 7, 3) := by decide +kernel
theorem dX5_setStation_125 : decode cX5_setStation 125 = .ok (.iload_n 1, 1) := by decide +kernel
theorem dX5_setStation_126 : decode cX5_setStation 126 = .ok (.iconst 1, 1) := by decide +kernel
theorem dX5_setStation_127 : decode cX5_setStation 127 = .ok (.invokestatic 22, 3) := by decide +kernel
theorem dX5_setStation_130 : decode cX5_setStation 130 = .ok (.iload_n 3, 1) := by decide +kernel
theorem dX5_setStation_131 : decode cX5_setStation 131 = .ok (.iastore, 1) := by decide +kernel
theorem dX5_setStation_132 : decode cX5_setStation 132 = .ok (.aload_n 0, 1) := by decide +kernel
theorem dX5_setStation_133 : decode cX5_setStation 133 = .ok (.getfield 7, 3) := by decide +kernel
theorem dX5_setStation_136 : decode cX5_setStation 136 = .ok (.iload_n 1, 1) := by decide +kernel
theorem dX5_setStation_137 : decode cX5_setStation 137 = .ok (.iconst 2, 1) := by decide +kernel
theorem dX5_setStation_138 : decode cX5_setStation 138 = .ok (.invokestatic 22, 3) := by decide +kernel
theorem dX5_setStation_141 : decode cX5_setStation 141 = .ok (.iload 4, 2) := by decide +kernel
theorem dX5_setStation_143 : decode cX5_setStation 143 = .ok (.iastore, 1) := by decide +kernel
theorem dX5_setStation_144 : decode cX5_setStation 144 = .ok (.aload_n 0, 1) := by decide +kernel
theorem dX5_setStation_145 : decode cX5_setStation 145 = .ok (.getfield 7, 3) := by decide +kernel
theorem dX5_setStation_148 : decode cX5_setStation 148 = .ok (.iload_n 1, 1) := by decide +kernel
theorem dX5_setStation_149 : decode cX5_setStation 149 = .ok (.iconst 3, 1) := by decide +kernel
theorem dX5_setStation_150 : decode cX5_setStation 150 = .ok (.invokestatic 22, 3) := by decide +kernel
theorem dX5_setStation_153 : decode cX5_setStation 153 = .ok (.aload_n 0, 1) := by decide +kernel
theorem dX5_setStation_154 : decode cX5_setStation 154 = .ok (.iload_n 1, 1) := by decide +kernel
theorem dX5_setStation_155 : decode cX5_setStation 155 = .ok (.iconst 0, 1) := by decide +kernel
theorem dX5_setStation_156 : decode cX5_setStation 156 = .ok (.invokevirtual 47, 3) := by decide +kernel
theorem dX5_setStation_159 : decode cX5_setStation 159 = .ok (.iastore, 1) := by decide +kernel
theorem dX5_setStation_160 : decode cX5_setStation 160 = .ok (.aload_n 0, 1) := by decide +kernel
theorem dX5_setStation_161 : decode cX5_setStation 161 = .ok (.getfield 7, 3) := by decide +kernel
theorem dX5_setStation_164 : decode cX5_setStation 164 = .ok (.iload_n 1, 1) := by decide +kernel
theorem dX5_setStation_165 : decode cX5_setStation 165 = .ok (.iconst 3, 1) := by decide +kernel
theorem dX5_setStation_166 : decode cX5_setStation 166 = .ok (.invokestatic 22, 3) := by decide +kernel
theorem dX5_setStation_169 : decode cX5_setStation 169 = .ok (.iaload, 1) := by decide +kernel
theorem dX5_setStation_170 : decode cX5_setStation 170 = .ok (.ldc 53, 2) := by decide +kernel
theorem dX5_setStation_172 : decode cX5_setStation 172 = .ok (.iadd, 1) := by decide +kernel
theorem dX5_setStation_173 : decode cX5_setStation 173 = .ok (.ireturn, 1) := by decide +kernel
set_option maxRecDepth 20000 in
theorem ggX5_setRate_X5_isStation : GoodIn wsX5_setRate wsX5_isStation := goodIn_r _ [5, 6, 7, 4, 8] (by decide +kernel) (by decide +kernel)
set_option maxRecDepth 20000 in
theorem gX5_setRate_X5_isStation : GoodIn wsX5_setRate (va_wsS RX5 54 yX5_isStation wsX5_isStation) := goodIn_app (goodIn_of _ (by decide +kernel)) ggX5_setRate_X5_isStation
set_option maxRecDepth 20000 in
theorem ggX5_setRate_X5_in : GoodIn wsX5_setRate wsX5_in := goodIn_r _ [8] (by decide +kernel) (by decide +kernel)
set_option maxRecDepth 20000 in
theorem gX5_setRate_X5_in : GoodIn wsX5_setRate (va_wsS RX5 29 yX5_in wsX5_in) := goodIn_app (goodIn_of _ (by decide +kernel)) ggX5_setRate_X5_in
set_option maxRecDepth 20000 in
theorem ggX5_setRate_X5_of : GoodIn wsX5_setRate wsX5_of := goodIn_r _ [11] (by decide +kernel) (by decide +kernel)
set_option maxRecDepth 20000 in
theorem gX5_setRate_X5_of : GoodIn wsX5_setRate (va_wsS RX5 22 yX5_of wsX5_of) := goodIn_app (goodIn_of _ (by decide +kernel)) ggX5_setRate_X5_of
set_option maxRecDepth 20000 in
theorem ggX5_setRate_X5_know : GoodIn wsX5_setRate wsX5_know := goodIn_r _ [15, 16, 17, 1, 18, 19, 20, 21, 22, 23, 24, 25, 26, 27] (by decide +kernel) (by decide +kernel)
set_option maxRecDepth 20000 in
theorem gX5_setRate_X5_know : GoodIn wsX5_setRate (wsV RX5 50 RX5 yX5_know wsX5_know) := goodIn_app (goodIn_of _ (by decide +kernel)) ggX5_setRate_X5_know
theorem dX5_setRate_0 : decode cX5_setRate 0 = .ok (.iload_n 1, 1) := by decide +kernel
theorem dX5_setRate_1 : decode cX5_setRate 1 = .ok (.invokestatic 54, 3) := by decide +kernel
theorem dX5_setRate_4 : decode cX5_setRate 4 = .ok (.ifCond .ne 5, 3) := by decide +kernel
theorem dX5_setRate_7 : decode cX5_setRate 7 = .ok (.iconst (-1), 1) := by decide +kernel
theorem dX5_setRate_8 : decode cX5_setRate 8 = .ok (.ireturn, 1) := by decide +kernel
theorem dX5_setRate_9 : decode cX5_setRate 9 = .ok (.iload_n 3, 1) := by decide +kernel
theorem dX5_setRate_10 : decode cX5_setRate 10 = .ok (.iconst 0, 1) := by decide +kernel
theorem dX5_setRate_11 : decode cX5_setRate 11 = .ok (.bipush 20, 2) := by decide +kernel
theorem dX5_setRate_13 : decode cX5_setRate 13 = .ok (.invokestatic 29, 3) := by decide +kernel
theorem dX5_setRate_16 : decode cX5_setRate 16 = .ok (.ifCond .ne 6, 3) := by decide +kernel
theorem dX5_setRate_19 : decode cX5_setRate 19 = .ok (.bipush (-2), 2) := by decide +kernel
theorem dX5_setRate_21 : decode cX5_setRate 21 = .ok (.ireturn, 1) := by decide +kernel
theorem dX5_setRate_22 : decode cX5_setRate 22 = .ok (.iload_n 1, 1) := by decide +kernel
theorem dX5_setRate_23 : decode cX5_setRate 23 = .ok (.iload_n 2, 1) := by decide +kernel
theorem dX5_setRate_24 : decode cX5_setRate 24 = .ok (.ifCond .eq 8, 3) := by decide +kernel
theorem dX5_setRate_27 : decode cX5_setRate 27 = .ok (.bipush 6, 2) := by decide +kernel
theorem dX5_setRate_29 : decode cX5_setRate 29 = .ok (.goto 4, 3) := by decide +kernel
theorem dX5_setRate_32 : decode cX5_setRate 32 = .ok (.iconst 5, 1) := by decide +kernel
theorem dX5_setRate_33 : decode cX5_setRate 33 = .ok (.invokestatic 22, 3) := by decide +kernel
theorem dX5_setRate_36 : decode cX5_setRate 36 = .ok (.istore 4, 2) := by decide +kernel
theorem dX5_setRate_38 : decode cX5_setRate 38 = .ok (.aload_n 0, 1) := by decide +kernel
theorem dX5_setRate_39 : decode cX5_setRate 39 = .ok (.getfield 7, 3) := by decide +kernel
theorem dX5_setRate_42 : decode cX5_setRate 42 = .ok (.iload 4, 2) := by decide +kernel
theorem dX5_setRate_44 : decode cX5_setRate 44 = .ok (.iaload, 1) := by decide +kernel
theorem dX5_setRate_45 : decode cX5_setRate 45 = .ok (.istore 5, 2) := by decide +kernel
theorem dX5_setRate_47 : decode cX5_setRate 47 = .ok (.iload 5, 2) := by decide +kernel
theorem dX5_setRate_49 : decode cX5_setRate 49 = .ok (.iload_n 3, 1) := by decide +kernel
theorem dX5_setRate_50 : decode cX5_setRate 50 = .ok (.if_icmp .ne 6, 3) := by decide +kernel
theorem dX5_setRate_53 : decode cX5_setRate 53 = .ok (.bipush (-5), 2) := by decide +kernel
theorem dX5_setRate_55 : decode cX5_setRate 55 = .ok (.ireturn, 1) := by decide +kernel
theorem dX5_setRate_56 : decode cX5_setRate 56 = .ok (.aload_n 0, 1) := by decide +kernel
theorem dX5_setRate_57 : decode cX5_setRate 57 = .ok (.invokevirtual 50, 3) := by decide +kernel
theorem dX5_setRate_60 : decode cX5_setRate 60 = .ok (.aload_n 0, 1) := by decide +kernel
theorem dX5_setRate_61 : decode cX5_setRate 61 = .ok (.getfield 7, 3) := by decide +kernel
theorem dX5_setRate_64 : decode cX5_setRate 64 = .ok (.iload 4, 2) := by decide +kernel
theorem dX5_setRate_66 : decode cX5_setRate 66 = .ok (.iload_n 3, 1) := by decide +kernel
theorem dX5_setRate_67 : decode cX5_setRate 67 = .ok (.iastore, 1) := by decide +kernel
theorem dX5_setRate_68 : decode cX5_setRate 68 = .ok (.iload 5, 2) := by decide +kernel
theorem dX5_setRate_70 : decode cX5_setRate 70 = .ok (.ireturn, 1) := by decide +kernel
set_option maxRecDepth 20000 in
theorem ggX5_manyOn_X5_of : GoodIn wsX5_manyOn wsX5_of := goodIn_r _ [5] (by decide +kernel) (by decide +kernel)
set_option maxRecDepth 20000 in
theorem gX5_manyOn_X5_of : GoodIn wsX5_manyOn (va_wsS RX5 22 yX5_of wsX5_of) := goodIn_app (goodIn_of _ (by decide +kernel)) ggX5_manyOn_X5_of
theorem dX5_manyOn_0 : decode cX5_manyOn 0 = .ok (.aload_n 0, 1) := by decide +kernel
theorem dX5_manyOn_1 : decode cX5_manyOn 1 = .ok (.getfield 7, 3) := by decide +kernel
theorem dX5_manyOn_4 : decode cX5_manyOn 4 = .ok (.iconst 0, 1) := by decide +kernel
theorem dX5_manyOn_5 : decode cX5_manyOn 5 = .ok (.bipush 8, 2) := by decide +kernel
theorem dX5_manyOn_7 : decode cX5_manyOn 7 = .ok (.invokestatic 22, 3) := by decide +kernel
theorem dX5_manyOn_10 : decode cX5_manyOn 10 = .ok (.iaload, 1) := by decide +kernel
theorem dX5_manyOn_11 : decode cX5_manyOn 11 = .ok (.aload_n 0, 1) := by decide +kernel
theorem dX5_manyOn_12 : decode cX5_manyOn 12 = .ok (.getfield 7, 3) := by decide +kernel
theorem dX5_manyOn_15 : decode cX5_manyOn 15 = .ok (.iconst 1, 1) := by decide +kernel
theorem dX5_manyOn_16 : decode cX5_manyOn 16 = .ok (.bipush 8, 2) := by decide +kernel
theorem dX5_manyOn_18 : decode cX5_manyOn 18 = .ok (.invokestatic 22, 3) := by decide +kernel
theorem dX5_manyOn_21 : decode cX5_manyOn 21 = .ok (.iaload, 1) := by decide +kernel
theorem dX5_manyOn_22 : decode cX5_manyOn 22 = .ok (.iadd, 1) := by decide +kernel
theorem dX5_manyOn_23 : decode cX5_manyOn 23 = .ok (.aload_n 0, 1) := by decide +kernel
theorem dX5_manyOn_24 : decode cX5_manyOn 24 = .ok (.getfield 7, 3) := by decide +kernel
theorem dX5_manyOn_27 : decode cX5_manyOn 27 = .ok (.iconst 2, 1) := by decide +kernel
theorem dX5_manyOn_28 : decode cX5_manyOn 28 = .ok (.bipush 8, 2) := by decide +kernel
theorem dX5_manyOn_30 : decode cX5_manyOn 30 = .ok (.invokestatic 22, 3) := by decide +kernel
theorem dX5_manyOn_33 : decode cX5_manyOn 33 = .ok (.iaload, 1) := by decide +kernel
theorem dX5_manyOn_34 : decode cX5_manyOn 34 = .ok (.iadd, 1) := by decide +kernel
theorem dX5_manyOn_35 : decode cX5_manyOn 35 = .ok (.ireturn, 1) := by decide +kernel
set_option maxRecDepth 20000 in
theorem ggX5_turn_X5_isStation : GoodIn wsX5_turn wsX5_isStation := goodIn_r _ [5, 6, 7, 4, 8] (by decide +kernel) (by decide +kernel)
set_option maxRecDepth 20000 in
theorem gX5_turn_X5_isStation : GoodIn wsX5_turn (va_wsS RX5 54 yX5_isStation wsX5_isStation) := goodIn_app (goodIn_of _ (by decide +kernel)) ggX5_turn_X5_isStation
set_option maxRecDepth 20000 in
theorem ggX5_turn_X5_of : GoodIn wsX5_turn wsX5_of := goodIn_r _ [11] (by decide +kernel) (by decide +kernel)
set_option maxRecDepth 20000 in
theorem gX5_turn_X5_of : GoodIn wsX5_turn (va_wsS RX5 22 yX5_of wsX5_of) := goodIn_app (goodIn_of _ (by decide +kernel)) ggX5_turn_X5_of
set_option maxRecDepth 20000 in
theorem ggX5_turn_X5_know : GoodIn wsX5_turn wsX5_know := goodIn_r _ [15, 16, 17, 1, 22, 23, 24, 25, 26, 27, 28, 29, 30, 31] (by decide +kernel) (by decide +kernel)
set_option maxRecDepth 20000 in
theorem gX5_turn_X5_know : GoodIn wsX5_turn (wsV RX5 50 RX5 yX5_know wsX5_know) := goodIn_app (goodIn_of _ (by decide +kernel)) ggX5_turn_X5_know
set_option maxRecDepth 20000 in
theorem ggX5_turn_X5_manyOn : GoodIn wsX5_turn wsX5_manyOn := goodIn_r _ [21, 1, 9, 10, 4, 11, 22, 23, 24, 25, 26, 27, 28, 29, 30, 31] (by decide +kernel) (by decide +kernel)
set_option maxRecDepth 20000 in
theorem gX5_turn_X5_manyOn : GoodIn wsX5_turn (wsV RX5 58 RX5 yX5_manyOn wsX5_manyOn) := goodIn_app (goodIn_of _ (by decide +kernel)) ggX5_turn_X5_manyOn
theorem dX5_turn_0 : decode cX5_turn 0 = .ok (.iload_n 1, 1) := by decide +kernel
theorem dX5_turn_1 : decode cX5_turn 1 = .ok (.invokestatic 54, 3) := by decide +kernel
theorem dX5_turn_4 : decode cX5_turn 4 = .ok (.ifCond .ne 5, 3) := by decide +kernel
theorem dX5_turn_7 : decode cX5_turn 7 = .ok (.iconst (-1), 1) := by decide +kernel
theorem dX5_turn_8 : decode cX5_turn 8 = .ok (.ireturn, 1) := by decide +kernel
theorem dX5_turn_9 : decode cX5_turn 9 = .ok (.aload_n 0, 1) := by decide +kernel
theorem dX5_turn_10 : decode cX5_turn 10 = .ok (.getfield 7, 3) := by decide +kernel
theorem dX5_turn_13 : decode cX5_turn 13 = .ok (.iload_n 1, 1) := by decide +kernel
theorem dX5_turn_14 : decode cX5_turn 14 = .ok (.bipush 8, 2) := by decide +kernel
theorem dX5_turn_16 : decode cX5_turn 16 = .ok (.invokestatic 22, 3) := by decide +kernel
theorem dX5_turn_19 : decode cX5_turn 19 = .ok (.iaload, 1) := by decide +kernel
theorem dX5_turn_20 : decode cX5_turn 20 = .ok (.iconst 1, 1) := by decide +kernel
theorem dX5_turn_21 : decode cX5_turn 21 = .ok (.if_icmp .ne 7, 3) := by decide +kernel
theorem dX5_turn_24 : decode cX5_turn 24 = .ok (.iconst 1, 1) := by decide +kernel
theorem dX5_turn_25 : decode cX5_turn 25 = .ok (.goto 4, 3) := by decide +kernel
theorem dX5_turn_28 : decode cX5_turn 28 = .ok (.iconst 0, 1) := by decide +kernel
theorem dX5_turn_29 : decode cX5_turn 29 = .ok (.iload_n 2, 1) := by decide +kernel
theorem dX5_turn_30 : decode cX5_turn 30 = .ok (.if_icmp .ne 6, 3) := by decide +kernel
theorem dX5_turn_33 : decode cX5_turn 33 = .ok (.bipush (-5), 2) := by decide +kernel
theorem dX5_turn_35 : decode cX5_turn 35 = .ok (.ireturn, 1) := by decide +kernel
theorem dX5_turn_36 : decode cX5_turn 36 = .ok (.aload_n 0, 1) := by decide +kernel
theorem dX5_turn_37 : decode cX5_turn 37 = .ok (.invokevirtual 50, 3) := by decide +kernel
theorem dX5_turn_40 : decode cX5_turn 40 = .ok (.aload_n 0, 1) := by decide +kernel
theorem dX5_turn_41 : decode cX5_turn 41 = .ok (.getfield 7, 3) := by decide +kernel
theorem dX5_turn_44 : decode cX5_turn 44 = .ok (.iload_n 1, 1) := by decide +kernel
theorem dX5_turn_45 : decode cX5_turn 45 = .ok (.bipush 8, 2) := by decide +kernel
theorem dX5_turn_47 : decode cX5_turn 47 = .ok (.invokestatic 22, 3) := by decide +kernel
theorem dX5_turn_50 : decode cX5_turn 50 = .ok (.iload_n 2, 1) := by decide +kernel
theorem dX5_turn_51 : decode cX5_turn 51 = .ok (.ifCond .eq 7, 3) := by decide +kernel
theorem dX5_turn_54 : decode cX5_turn 54 = .ok (.iconst 1, 1) := by decide +kernel
theorem dX5_turn_55 : decode cX5_turn 55 = .ok (.goto 4, 3) := by decide +kernel
theorem dX5_turn_58 : decode cX5_turn 58 = .ok (.iconst 0, 1) := by decide +kernel
theorem dX5_turn_59 : decode cX5_turn 59 = .ok (.iastore, 1) := by decide +kernel
theorem dX5_turn_60 : decode cX5_turn 60 = .ok (.aload_n 0, 1) := by decide +kernel
theorem dX5_turn_61 : decode cX5_turn 61 = .ok (.invokevirtual 58, 3) := by decide +kernel
theorem dX5_turn_64 : decode cX5_turn 64 = .ok (.ireturn, 1) := by decide +kernel
set_option maxRecDepth 20000 in
theorem ggX5_clean_X5_isStation : GoodIn wsX5_clean wsX5_isStation := goodIn_r _ [5, 6, 7, 4, 8] (by decide +kernel) (by decide +kernel)
set_option maxRecDepth 20000 in
theorem gX5_clean_X5_isStation : GoodIn wsX5_clean (va_wsS RX5 54 yX5_isStation wsX5_isStation) := goodIn_app (goodIn_of _ (by decide +kernel)) ggX5_clean_X5_isStation
set_option maxRecDepth 20000 in
theorem ggX5_clean_X5_of : GoodIn wsX5_clean wsX5_of := goodIn_r _ [11] (by decide +kernel) (by decide +kernel)
set_option maxRecDepth 20000 in
theorem gX5_clean_X5_of : GoodIn wsX5_clean (va_wsS RX5 22 yX5_of wsX5_of) := goodIn_app (goodIn_of _ (by decide +kernel)) ggX5_clean_X5_of
set_option maxRecDepth 20000 in
theorem ggX5_clean_X5_know : GoodIn wsX5_clean wsX5_know := goodIn_r _ [15, 16, 17, 1, 18, 19, 20, 21, 22, 23, 24, 25, 26, 27] (by decide +kernel) (by decide +kernel)
set_option maxRecDepth 20000 in
theorem gX5_clean_X5_know : GoodIn wsX5_clean (wsV RX5 50 RX5 yX5_know wsX5_know) := goodIn_app (goodIn_of _ (by decide +kernel)) ggX5_clean_X5_know
theorem dX5_clean_0 : decode cX5_clean 0 = .ok (.iload_n 1, 1) := by decide +kernel
theorem dX5_clean_1 : decode cX5_clean 1 = .ok (.invokestatic 54, 3) := by decide +kernel
theorem dX5_clean_4 : decode cX5_clean 4 = .ok (.ifCond .ne 5, 3) := by decide +kernel
theorem dX5_clean_7 : decode cX5_clean 7 = .ok (.iconst (-1), 1) := by decide +kernel
theorem dX5_clean_8 : decode cX5_clean 8 = .ok (.ireturn, 1) := by decide +kernel
theorem dX5_clean_9 : decode cX5_clean 9 = .ok (.aload_n 0, 1) := by decide +kernel
theorem dX5_clean_10 : decode cX5_clean 10 = .ok (.getfield 7, 3) := by decide +kernel
theorem dX5_clean_13 : decode cX5_clean 13 = .ok (.iload_n 1, 1) := by decide +kernel
theorem dX5_clean_14 : decode cX5_clean 14 = .ok (.iconst 4, 1) := by decide +kernel
theorem dX5_clean_15 : decode cX5_clean 15 = .ok (.invokestatic 22, 3) := by decide +kernel
theorem dX5_clean_18 : decode cX5_clean 18 = .ok (.iaload, 1) := by decide +kernel
theorem dX5_clean_19 : decode cX5_clean 19 = .ok (.istore_n 2, 1) := by decide +kernel
theorem dX5_clean_20 : decode cX5_clean 20 = .ok (.iload_n 2, 1) := by decide +kernel
theorem dX5_clean_21 : decode cX5_clean 21 = .ok (.ifCond .ne 6, 3) := by decide +kernel
theorem dX5_clean_24 : decode cX5_clean 24 = .ok (.bipush (-5), 2) := by decide +kernel
theorem dX5_clean_26 : decode cX5_clean 26 = .ok (.ireturn, 1) := by decide +kernel
theorem dX5_clean_27 : decode cX5_clean 27 = .ok (.aload_n 0, 1) := by decide +kernel
theorem dX5_clean_28 : decode cX5_clean 28 = .ok (.invokevirtual 50, 3) := by decide +kernel
theorem dX5_clean_31 : decode cX5_clean 31 = .ok (.aload_n 0, 1) := by decide +kernel
theorem dX5_clean_32 : decode cX5_clean 32 = .ok (.getfield 7, 3) := by decide +kernel
theorem dX5_clean_35 : decode cX5_clean 35 = .ok (.iload_n 1, 1) := by decide +kernel
theorem dX5_clean_36 : decode cX5_clean 36 = .ok (.iconst 4, 1) := by decide +kernel
theorem dX5_clean_37 : decode cX5_clean 37 = .ok (.invokestatic 22, 3) := by decide +kernel
theorem dX5_clean_40 : decode cX5_clean 40 = .ok (.iconst 0, 1) := by decide +kernel
theorem dX5_clean_41 : decode cX5_clean 41 = .ok (.iastore, 1) := by decide +kernel
theorem dX5_clean_42 : decode cX5_clean 42 = .ok (.iload_n 2, 1) := by decide +kernel
theorem dX5_clean_43 : decode cX5_clean 43 = .ok (.ireturn, 1) := by decide +kernel
set_option maxRecDepth 20000 in
theorem ggX5_note_X5_of : GoodIn wsX5_note wsX5_of := goodIn_r _ [5] (by decide +kernel) (by decide +kernel)
set_option maxRecDepth 20000 in
theorem gX5_note_X5_of : GoodIn wsX5_note (va_wsS RX5 22 yX5_of wsX5_of) := goodIn_app (goodIn_of _ (by decide +kernel)) ggX5_note_X5_of
theorem dX5_note_0 : decode cX5_note 0 = .ok (.aload_n 0, 1) := by decide +kernel
theorem dX5_note_1 : decode cX5_note 1 = .ok (.getfield 7, 3) := by decide +kernel
theorem dX5_note_4 : decode cX5_note 4 = .ok (.iload_n 1, 1) := by decide +kernel
theorem dX5_note_5 : decode cX5_note 5 = .ok (.sipush 610, 3) := by decide +kernel
theorem dX5_note_8 : decode cX5_note 8 = .ok (.aload_n 0, 1) := by decide +kernel
theorem dX5_note_9 : decode cX5_note 9 = .ok (.getfield 7, 3) := by decide +kernel
theorem dX5_note_12 : decode cX5_note 12 = .ok (.iconst 0, 1) := by decide +kernel
theorem dX5_note_13 : decode cX5_note 13 = .ok (.iaload, 1) := by decide +kernel
theorem dX5_note_14 : decode cX5_note 14 = .ok (.iadd, 1) := by decide +kernel
theorem dX5_note_15 : decode cX5_note 15 = .ok (.invokestatic 22, 3) := by decide +kernel
theorem dX5_note_18 : decode cX5_note 18 = .ok (.iconst 1, 1) := by decide +kernel
theorem dX5_note_19 : decode cX5_note 19 = .ok (.iastore, 1) := by decide +kernel
theorem dX5_note_20 : decode cX5_note 20 = .ok (.aload_n 0, 1) := by decide +kernel
theorem dX5_note_21 : decode cX5_note 21 = .ok (.getfield 7, 3) := by decide +kernel
theorem dX5_note_24 : decode cX5_note 24 = .ok (.iload_n 1, 1) := by decide +kernel
theorem dX5_note_25 : decode cX5_note 25 = .ok (.sipush 489, 3) := by decide +kernel
theorem dX5_note_28 : decode cX5_note 28 = .ok (.aload_n 0, 1) := by decide +kernel
theorem dX5_note_29 : decode cX5_note 29 = .ok (.getfield 7, 3) := by decide +kernel
theorem dX5_note_32 : decode cX5_note 32 = .ok (.iconst 0, 1) := by decide +kernel
theorem dX5_note_33 : decode cX5_note 33 = .ok (.iaload, 1) := by decide +kernel
theorem dX5_note_34 : decode cX5_note 34 = .ok (.iadd, 1) := by decide +kernel
theorem dX5_note_35 : decode cX5_note 35 = .ok (.invokestatic 22, 3) := by decide +kernel
theorem dX5_note_38 : decode cX5_note 38 = .ok (.aload_n 0, 1) := by decide +kernel
theorem dX5_note_39 : decode cX5_note 39 = .ok (.getfield 7, 3) := by decide +kernel
theorem dX5_note_42 : decode cX5_note 42 = .ok (.iload_n 1, 1) := by decide +kernel
theorem dX5_note_43 : decode cX5_note 43 = .ok (.bipush 7, 2) := by decide +kernel
theorem dX5_note_45 : decode cX5_note 45 = .ok (.invokestatic 22, 3) := by decide +kernel
theorem dX5_note_48 : decode cX5_note 48 = .ok (.iaload, 1) := by decide +kernel
theorem dX5_note_49 : decode cX5_note 49 = .ok (.iastore, 1) := by decide +kernel
theorem dX5_note_50 : decode cX5_note 50 = .ok (.return_, 1) := by decide +kernel
set_option maxRecDepth 20000 in
theorem ggX5_level_X5_isStation : GoodIn wsX5_level wsX5_isStation := goodIn_r _ [5, 6, 7, 4, 8] (by decide +kernel) (by decide +kernel)
set_option maxRecDepth 20000 in
theorem gX5_level_X5_isStation : GoodIn wsX5_level (va_wsS RX5 54 yX5_isStation wsX5_isStation) := goodIn_app (goodIn_of _ (by decide +kernel)) ggX5_level_X5_isStation
set_option maxRecDepth 20000 in
theorem ggX5_level_X5_of : GoodIn wsX5_level wsX5_of := goodIn_r _ [11] (by decide +kernel) (by decide +kernel)
set_option maxRecDepth 20000 in
theorem gX5_level_X5_of : GoodIn wsX5_level (va_wsS RX5 22 yX5_of wsX5_of) := goodIn_app (goodIn_of _ (by decide +kernel)) ggX5_level_X5_of
set_option maxRecDepth 20000 in
theorem ggX5_level_X5_know : GoodIn wsX5_level wsX5_know := goodIn_r _ [15, 16, 17, 1, 22, 23, 24, 25, 26, 27, 28, 29, 30, 31] (by decide +kernel) (by decide +kernel)
set_option maxRecDepth 20000 in
theorem gX5_level_X5_know : GoodIn wsX5_level (wsV RX5 50 RX5 yX5_know wsX5_know) := goodIn_app (goodIn_of _ (by decide +kernel)) ggX5_level_X5_know
set_option maxRecDepth 20000 in
theorem ggX5_level_X5_note : GoodIn wsX5_level wsX5_note := goodIn_r _ [21, 1, 9, 10, 4, 11, 22, 23, 24, 25, 26, 27, 28, 29, 30, 31] (by decide +kernel) (by decide +kernel)
set_option maxRecDepth 20000 in
theorem gX5_level_X5_note : GoodIn wsX5_level (wsV RX5 62 RX5 yX5_note wsX5_note) := goodIn_app (goodIn_of _ (by decide +kernel)) ggX5_level_X5_note
theorem dX5_level_0 : decode cX5_level 0 = .ok (.iload_n 1, 1) := by decide +kernel
theorem dX5_level_1 : decode cX5_level 1 = .ok (.invokestatic 54, 3) := by decide +kernel
theorem dX5_level_4 : decode cX5_level 4 = .ok (.ifCond .ne 5, 3) := by decide +kernel
theorem dX5_level_7 : decode cX5_level 7 = .ok (.iconst (-1), 1) := by decide +kernel
theorem dX5_level_8 : decode cX5_level 8 = .ok (.ireturn, 1) := by decide +kernel
theorem dX5_level_9 : decode cX5_level 9 = .ok (.aload_n 0, 1) := by decide +kernel
theorem dX5_level_10 : decode cX5_level 10 = .ok (.getfield 7, 3) := by decide +kernel
theorem dX5_level_13 : decode cX5_level 13 = .ok (.iload_n 1, 1) := by decide +kernel
theorem dX5_level_14 : decode cX5_level 14 = .ok (.sipush 610, 3) := by decide +kernel
theorem dX5_level_17 : decode cX5_level 17 = .ok (.aload_n 0, 1) := by decide +kernel
theorem dX5_level_18 : decode cX5_level 18 = .ok (.getfield 7, 3) := by decide +kernel
theorem dX5_level_21 : decode cX5_level 21 = .ok (.iconst 0, 1) := by decide +kernel
theorem dX5_level_22 : decode cX5_level 22 = .ok (.iaload, 1) := by decide +kernel
theorem dX5_level_23 : decode cX5_level 23 = .ok (.iadd, 1) := by decide +kernel
theorem dX5_level_24 : decode cX5_level 24 = .ok (.invokestatic 22, 3) := by decide +kernel
theorem dX5_level_27 : decode cX5_level 27 = .ok (.iaload, 1) := by decide +kernel
theorem dX5_level_28 : decode cX5_level 28 = .ok (.iconst 1, 1) := by decide +kernel
theorem dX5_level_29 : decode cX5_level 29 = .ok (.if_icmp .ne 6, 3) := by decide +kernel
theorem dX5_level_32 : decode cX5_level 32 = .ok (.bipush (-5), 2) := by decide +kernel
theorem dX5_level_34 : decode cX5_level 34 = .ok (.ireturn, 1) := by decide +kernel
theorem dX5_level_35 : decode cX5_level 35 = .ok (.aload_n 0, 1) := by decide +kernel
theorem dX5_level_36 : decode cX5_level 36 = .ok (.invokevirtual 50, 3) := by decide +kernel
theorem dX5_level_39 : decode cX5_level 39 = .ok (.aload_n 0, 1) := by decide +kernel
theorem dX5_level_40 : decode cX5_level 40 = .ok (.iload_n 1, 1) := by decide +kernel
theorem dX5_level_41 : decode cX5_level 41 = .ok (.invokevirtual 62, 3) := by decide +kernel
theorem dX5_level_44 : decode cX5_level 44 = .ok (.aload_n 0, 1) := by decide +kernel
theorem dX5_level_45 : decode cX5_level 45 = .ok (.getfield 7, 3) := by decide +kernel
theorem dX5_level_48 : decode cX5_level 48 = .ok (.iload_n 1, 1) := by decide +kernel
theorem dX5_level_49 : decode cX5_level 49 = .ok (.bipush 7, 2) := by decide +kernel
theorem dX5_level_51 : decode cX5_level 51 = .ok (.invokestatic 22, 3) := by decide +kernel
theorem dX5_level_54 : decode cX5_level 54 = .ok (.iaload, 1) := by decide +kernel
theorem dX5_level_55 : decode cX5_level 55 = .ok (.ireturn, 1) := by decide +kernel
set_option maxRecDepth 20000 in
theorem ggX5_goBy_X5_of : GoodIn wsX5_goBy wsX5_of := goodIn_r _ [5] (by decide +kernel) (by decide +kernel)
set_option maxRecDepth 20000 in
theorem gX5_goBy_X5_of : GoodIn wsX5_goBy (va_wsS RX5 22 yX5_of wsX5_of) := goodIn_app (goodIn_of _ (by decide +kernel)) ggX5_goBy_X5_of
set_option maxRecDepth 20000 in
theorem ggX5_goBy_X5_outsideAt : GoodIn wsX5_goBy wsX5_outsideAt := goodIn_r _ [9, 1, 2, 3, 4, 5, 10, 11, 12, 13, 14, 15, 16, 17, 18, 19, 20, 21, 22, 23, 24, 25, 26, 27, 28, 29, 30] (by decide +kernel) (by decide +kernel)
set_option maxRecDepth 20000 in
theorem gX5_goBy_X5_outsideAt : GoodIn wsX5_goBy (wsV RX5 47 RX5 yX5_outsideAt wsX5_outsideAt) := goodIn_app (goodIn_of _ (by decide +kernel)) ggX5_goBy_X5_outsideAt
set_option maxRecDepth 20000 in
theorem ggX5_goBy_X5_divide : GoodIn wsX5_goBy wsX5_divide := goodIn_r _ [20] (by decide +kernel) (by decide +kernel)
set_option maxRecDepth 20000 in
theorem gX5_goBy_X5_divide : GoodIn wsX5_goBy (va_wsS RX5 44 yX5_divide wsX5_divide) := goodIn_app (goodIn_of _ (by decide +kernel)) ggX5_goBy_X5_divide
theorem dX5_goBy_0 : decode cX5_goBy 0 = .ok (.aload_n 0, 1) := by decide +kernel
theorem dX5_goBy_1 : decode cX5_goBy 1 = .ok (.getfield 7, 3) := by decide +kernel
theorem dX5_goBy_4 : decode cX5_goBy 4 = .ok (.iconst 0, 1) := by decide +kernel
theorem dX5_goBy_5 : decode cX5_goBy 5 = .ok (.iaload, 1) := by decide +kernel
theorem dX5_goBy_6 : decode cX5_goBy 6 = .ok (.istore_n 1, 1) := by decide +kernel
theorem dX5_goBy_7 : decode cX5_goBy 7 = .ok (.iconst 0, 1) := by decide +kernel
theorem dX5_goBy_8 : decode cX5_goBy 8 = .ok (.istore_n 2, 1) := by decide +kernel
theorem dX5_goBy_9 : decode cX5_goBy 9 = .ok (.iload_n 2, 1) := by decide +kernel
theorem dX5_goBy_10 : decode cX5_goBy 10 = .ok (.iconst 3, 1) := by decide +kernel
theorem dX5_goBy_11 : decode cX5_goBy 11 = .ok (.if_icmp .ge 225, 3) := by decide +kernel
theorem dX5_goBy_14 : decode cX5_goBy 14 = .ok (.aload_n 0, 1) := by decide +kernel
theorem dX5_goBy_15 : decode cX5_goBy 15 = .ok (.getfield 7, 3) := by decide +kernel
theorem dX5_goBy_18 : decode cX5_goBy 18 = .ok (.iload_n 2, 1) := by decide +kernel
theorem dX5_goBy_19 : decode cX5_goBy 19 = .ok (.iconst 3, 1) := by decide +kernel
theorem dX5_goBy_20 : decode cX5_goBy 20 = .ok (.invokestatic 22, 3) := by decide +kernel
theorem dX5_goBy_23 : decode cX5_goBy 23 = .ok (.dup2, 1) := by decide +kernel
theorem dX5_goBy_24 : decode cX5_goBy 24 = .ok (.iaload, 1) := by decide +kernel
theorem dX5_goBy_25 : decode cX5_goBy 25 = .ok (.aload_n 0, 1) := by decide +kernel
theorem dX5_goBy_26 : decode cX5_goBy 26 = .ok (.iload_n 2, 1) := by decide +kernel
theorem dX5_goBy_27 : decode cX5_goBy 27 = .ok (.iload_n 1, 1) := by decide +kernel
theorem dX5_goBy_28 : decode cX5_goBy 28 = .ok (.invokevirtual 47, 3) := by decide +kernel
theorem dX5_goBy_31 : decode cX5_goBy 31 = .ok (.aload_n 0, 1) := by decide +kernel
theorem dX5_goBy_32 : decode cX5_goBy 32 = .ok (.getfield 7, 3) := by decide +kernel
theorem dX5_goBy_35 : decode cX5_goBy 35 = .ok (.iload_n 2, 1) := by decide +kernel
theorem dX5_goBy_36 : decode cX5_goBy 36 = .ok (.iconst 3, 1) := by decide +kernel
theorem dX5_goBy_37 : decode cX5_goBy 37 = .ok (.invokestatic 22, 3) := by decide +kernel
theorem dX5_goBy_40 : decode cX5_goBy 40 = .ok (.iaload, 1) := by decide +kernel
theorem dX5_goBy_41 : decode cX5_goBy 41 = .ok (.isub, 1) := by decide +kernel
theorem dX5_goBy_42 : decode cX5_goBy 42 = .ok (.bipush 100, 2) := by decide +kernel
theorem dX5_goBy_44 : decode cX5_goBy 44 = .ok (.aload_n 0, 1) := by decide +kernel
theorem dX5_goBy_45 : decode cX5_goBy 45 = .ok (.getfield 7, 3) := by decide +kernel
theorem dX5_goBy_48 : decode cX5_goBy 48 = .ok (.iload_n 2, 1) := by decide +kernel
theorem dX5_goBy_49 : decode cX5_goBy 49 = .ok (.iconst 4, 1) := by decide +kernel
theorem dX5_goBy_50 : decode cX5_goBy 50 = .ok (.invokestatic 22, 3) := by decide +kernel
theorem dX5_goBy_53 : decode cX5_goBy 53 = .ok (.iaload, 1) := by decide +kernel
theorem dX5_goBy_54 : decode cX5_goBy 54 = .ok (.isub, 1) := by decide +kernel
theorem dX5_goBy_55 : decode cX5_goBy 55 = .ok (.imul, 1) := by decide +kernel
theorem dX5_goBy_56 : decode cX5_goBy 56 = .ok (.bipush 100, 2) := by decide +kernel
theorem dX5_goBy_58 : decode cX5_goBy 58 = .ok (.invokestatic 44, 3) := by decide +kernel
theorem dX5_goBy_61 : decode cX5_goBy 61 = .ok (.iadd, 1) := by decide +kernel
theorem dX5_goBy_62 : decode cX5_goBy 62 = .ok (.iastore, 1) := by decide +kernel
theorem dX5_goBy_63 : decode cX5_goBy 63 = .ok (.aload_n 0, 1) := by decide +kernel
theorem dX5_goBy_64 : decode cX5_goBy 64 = .ok (.getfield 7, 3) := by decide +kernel
theorem dX5_goBy_67 : decode cX5_goBy 67 = .ok (.iload_n 2, 1) := by decide +kernel
theorem dX5_goBy_68 : decode cX5_goBy 68 = .ok (.bipush 8, 2) := by decide +kernel
theorem dX5_goBy_70 : decode cX5_goBy 70 = .ok (.invokestatic 22, 3) := by decide +kernel
theorem dX5_goBy_73 : decode cX5_goBy 73 = .ok (.iaload, 1) := by decide +kernel
theorem dX5_goBy_74 : decode cX5_goBy 74 = .ok (.iconst 1, 1) := by decide +kernel
theorem dX5_goBy_75 : decode cX5_goBy 75 = .ok (.if_icmp .ne 53, 3) := by decide +kernel
theorem dX5_goBy_78 : decode cX5_goBy 78 = .ok (.aload_n 0, 1) := by decide +kernel
theorem dX5_goBy_79 : decode cX5_goBy 79 = .ok (.getfield 7, 3) := by decide +kernel
theorem dX5_goBy_82 : decode cX5_goBy 82 = .ok (.iload_n 2, 1) := by decide +kernel
theorem dX5_goBy_83 : decode cX5_goBy 83 = .ok (.sipush 129, 3) := by decide +kernel
theorem dX5_goBy_86 : decode cX5_goBy 86 = .ok (.iload_n 1, 1) := by decide +kernel
theorem dX5_goBy_87 : decode cX5_goBy 87 = .ok (.iadd, 1) := by decide +kernel
theorem dX5_goBy_88 : decode cX5_goBy 88 = .ok (.invokestatic 22, 3) := by decide +kernel
theorem dX5_goBy_91 : decode cX5_goBy 91 = .ok (.iconst 1, 1) := by decide +kernel
theorem dX5_goBy_92 : decode cX5_goBy 92 = .ok (.iastore, 1) := by decide +kernel
theorem dX5_goBy_93 : decode cX5_goBy 93 = .ok (.aload_n 0, 1) := by decide +kernel
theorem dX5_goBy_94 : decode cX5_goBy 94 = .ok (.getfield 7, 3) := by decide +kernel
theorem dX5_goBy_97 : decode cX5_goBy 97 = .ok (.iload_n 2, 1) := by decide +kernel
theorem dX5_goBy_98 : decode cX5_goBy 98 = .ok (.bipush 9, 2) := by decide +kernel
theorem dX5_goBy_100 : decode cX5_goBy 100 = .ok (.iload_n 1, 1) := by decide +kernel
theorem dX5_goBy_101 : decode cX5_goBy 101 = .ok (.iadd, 1) := by decide +kernel
theorem dX5_goBy_102 : decode cX5_goBy 102 = .ok (.invokestatic 22, 3) := by decide +kernel
theorem dX5_goBy_105 : decode cX5_goBy 105 = .ok (.aload_n 0, 1) := by decide +kernel
theorem dX5_goBy_106 : decode cX5_goBy 106 = .ok (.getfield 7, 3) := by decide +kernel
theorem dX5_goBy_109 : decode cX5_goBy 109 = .ok (.iload_n 2, 1) := by decide +kernel
theorem dX5_goBy_110 : decode cX5_goBy 110 = .ok (.iconst 3, 1) := by decide +kernel
theorem dX5_goBy_111 : decode cX5_goBy 111 = .ok (.invokestatic 22, 3) := by decide +kernel
theorem dX5_goBy_114 : decode cX5_goBy 114 = .ok (.iaload, 1) := by decide +kernel
theorem dX5_goBy_115 : decode cX5_goBy 115 = .ok (.aload_n 0, 1) := by decide +kernel
theorem dX5_goBy_116 : decode cX5_goBy 116 = .ok (.getfield 7, 3) := by decide +kernel
theorem dX5_goBy_119 : decode cX5_goBy 119 = .ok (.iload_n 2, 1) := by decide +kernel
theorem dX5_goBy_120 : decode cX5_goBy 120 = .ok (.bipush 7, 2) := by decide +kernel
theorem dX5_goBy_122 : decode cX5_goBy 122 = .ok (.invokestatic 22, 3) := by decide +kernel
theorem dX5_goBy_125 : decode cX5_goBy 125 = .ok (.iaload, 1) := by decide +kernel
theorem dX5_goBy_126 : decode cX5_goBy 126 = .ok (.iadd, 1) := by decide +kernel
theorem dX5_goBy_127 : decode cX5_goBy 127 = .ok (.iastore, 1) := by decide +kernel
theorem dX5_goBy_128 : decode cX5_goBy 128 = .ok (.aload_n 0, 1) := by decide +kernel
theorem dX5_goBy_129 : decode cX5_goBy 129 = .ok (.getfield 7, 3) := by decide +kernel
theorem dX5_goBy_132 : decode cX5_goBy 132 = .ok (.iload_n 2, 1) := by decide +kernel
theorem dX5_goBy_133 : decode cX5_goBy 133 = .ok (.iconst 5, 1) := by decide +kernel
theorem dX5_goBy_134 : decode cX5_goBy 134 = .ok (.invokestatic 22, 3) := by decide +kernel
theorem dX5_goBy_137 : decode cX5_goBy 137 = .ok (.iaload, 1) := by decide +kernel
theorem dX5_goBy_138 : decode cX5_goBy 138 = .ok (.istore_n 3, 1) := by decide +kernel
theorem dX5_goBy_139 : decode cX5_goBy 139 = .ok (.aload_n 0, 1) := by decide +kernel
theorem dX5_goBy_140 : decode cX5_goBy 140 = .ok (.getfield 7, 3) := by decide +kernel
theorem dX5_goBy_143 : decode cX5_goBy 143 = .ok (.iload_n 2, 1) := by decide +kernel
theorem dX5_goBy_144 : decode cX5_goBy 144 = .ok (.bipush 6, 2) := by decide +kernel
theorem dX5_goBy_146 : decode cX5_goBy 146 = .ok (.invokestatic 22, 3) := by decide +kernel
theorem dX5_goBy_149 : decode cX5_goBy 149 = .ok (.iaload, 1) := by decide +kernel
theorem dX5_goBy_150 : decode cX5_goBy 150 = .ok (.istore 4, 2) := by decide +kernel
theorem dX5_goBy_152 : decode cX5_goBy 152 = .ok (.aload_n 0, 1) := by decide +kernel
theorem dX5_goBy_153 : decode cX5_goBy 153 = .ok (.getfield 7, 3) := by decide +kernel
theorem dX5_goBy_156 : decode cX5_goBy 156 = .ok (.iload_n 2, 1) := by decide +kernel
theorem dX5_goBy_157 : decode cX5_goBy 157 = .ok (.iconst 4, 1) := by decide +kernel
theorem dX5_goBy_158 : decode cX5_goBy 158 = .ok (.invokestatic 22, 3) := by decide +kernel
theorem dX5_goBy_161 : decode cX5_goBy 161 = .ok (.dup2, 1) := by decide +kernel
theorem dX5_goBy_162 : decode cX5_goBy 162 = .ok (.iaload, 1) := by decide +kernel
theorem dX5_goBy_163 : decode cX5_goBy 163 = .ok (.iload_n 3, 1) := by decide +kernel
theorem dX5_goBy_164 : decode cX5_goBy 164 = .ok (.ifCond .le 30, 3) := by decide +kernel
theorem dX5_goBy_167 : decode cX5_goBy 167 = .ok (.iload_n 1, 1) := by decide +kernel
theorem dX5_goBy_168 : decode cX5_goBy 168 = .ok (.iconst 1, 1) := by decide +kernel
theorem dX5_goBy_169 : decode cX5_goBy 169 = .ok (.iadd, 1) := by decide +kernel
theorem dX5_goBy_170 : decode cX5_goBy 170 = .ok (.iload_n 3, 1) := by decide +kernel
theorem dX5_goBy_171 : decode cX5_goBy 171 = .ok (.irem, 1) := by decide +kernel
theorem dX5_goBy_172 : decode cX5_goBy 172 = .ok (.ifCond .ne 22, 3) := by decide +kernel
theorem dX5_goBy_175 : decode cX5_goBy 175 = .ok (.aload_n 0, 1) := by decide +kernel
theorem dX5_goBy_176 : decode cX5_goBy 176 = .ok (.getfield 7, 3) := by decide +kernel
theorem dX5_goBy_179 : decode cX5_goBy 179 = .ok (.iload_n 2, 1) := by decide +kernel
theorem dX5_goBy_180 : decode cX5_goBy 180 = .ok (.iconst 4, 1) := by decide +kernel
theorem dX5_goBy_181 : decode cX5_goBy 181 = .ok (.invokestatic 22, 3) := by decide +kernel
theorem dX5_goBy_184 : decode cX5_goBy 184 = .ok (.iaload, 1) := by decide +kernel
theorem dX5_goBy_185 : decode cX5_goBy 185 = .ok (.bipush 90, 2) := by decide +kernel
theorem dX5_goBy_187 : decode cX5_goBy 187 = .ok (.if_icmp .ge 7, 3) := by decide +kernel
theorem dX5_goBy_190 : decode cX5_goBy 190 = .ok (.iconst 1, 1) := by decide +kernel
theorem dX5_goBy_191 : decode cX5_goBy 191 = .ok (.goto 4, 3) := by decide +kernel
theorem dX5_goBy_194 : decode cX5_goBy 194 = .ok (.iconst 0, 1) := by decide +kernel
theorem dX5_goBy_195 : decode cX5_goBy 195 = .ok (.iadd, 1) := by decide +kernel
theorem dX5_goBy_196 : decode cX5_goBy 196 = .ok (.iastore, 1) := by decide +kernel
theorem dX5_goBy_197 : decode cX5_goBy 197 = .ok (.aload_n 0, 1) := by decide +kernel
theorem dX5_goBy_198 : decode cX5_goBy 198 = .ok (.getfield 7, 3) := by decide +kernel
theorem dX5_goBy_201 : decode cX5_goBy 201 = .ok (.iload_n 2, 1) := by decide +kernel
theorem dX5_goBy_202 : decode cX5_goBy 202 = .ok (.bipush 7, 2) := by decide +kernel
theorem dX5_goBy_204 : decode cX5_goBy 204 = .ok (.invokestatic 22, 3) := by decide +kernel
theorem dX5_goBy_207 : decode cX5_goBy 207 = .ok (.dup2, 1) := by decide +kernel
theorem dX5_goBy_208 : decode cX5_goBy 208 = .ok (.iaload, 1) := by decide +kernel
theorem dX5_goBy_209 : decode cX5_goBy 209 = .ok (.iload 4, 2) := by decide +kernel
theorem dX5_goBy_211 : decode cX5_goBy 211 = .ok (.ifCond .le 16, 3) := by decide +kernel
theorem dX5_goBy_214 : decode cX5_goBy 214 = .ok (.iload_n 1, 1) := by decide +kernel
theorem dX5_goBy_215 : decode cX5_goBy 215 = .ok (.iconst 1, 1) := by decide +kernel
theorem dX5_goBy_216 : decode cX5_goBy 216 = .ok (.iadd, 1) := by decide +kernel
theorem dX5_goBy_217 : decode cX5_goBy 217 = .ok (.iload 4, 2) := by decide +kernel
theorem dX5_goBy_219 : decode cX5_goBy 219 = .ok (.irem, 1) := by decide +kernel
end
section
theorem dX5_goBy_220 : decode cX5_goBy 220 = .ok (.ifCond .ne 7, 3) := by decide +kernel
theorem dX5_goBy_223 : decode cX5_goBy 223 = .ok (.iconst 1, 1) := by decide +kernel
theorem dX5_goBy_224 : decode cX5_goBy 224 = .ok (.goto 4, 3) := by decide +kernel
theorem dX5_goBy_227 : decode cX5_goBy 227 = .ok (.iconst 0, 1) := by decide +kernel
theorem dX5_goBy_228 : decode cX5_goBy 228 = .ok (.iadd, 1) := by decide +kernel
theorem dX5_goBy_229 : decode cX5_goBy 229 = .ok (.iastore, 1) := by decide +kernel
theorem dX5_goBy_230 : decode cX5_goBy 230 = .ok (.iinc 2 1, 3) := by decide +kernel
theorem dX5_goBy_233 : decode cX5_goBy 233 = .ok (.goto (-224), 3) := by decide +kernel
theorem dX5_goBy_236 : decode cX5_goBy 236 = .ok (.aload_n 0, 1) := by decide +kernel
theorem dX5_goBy_237 : decode cX5_goBy 237 = .ok (.getfield 7, 3) := by decide +kernel
theorem dX5_goBy_240 : decode cX5_goBy 240 = .ok (.iconst 0, 1) := by decide +kernel
theorem dX5_goBy_241 : decode cX5_goBy 241 = .ok (.dup2, 1) := by decide +kernel
theorem dX5_goBy_242 : decode cX5_goBy 242 = .ok (.iaload, 1) := by decide +kernel
theorem dX5_goBy_243 : decode cX5_goBy 243 = .ok (.iconst 1, 1) := by decide +kernel
theorem dX5_goBy_244 : decode cX5_goBy 244 = .ok (.iadd, 1) := by decide +kernel
theorem dX5_goBy_245 : decode cX5_goBy 245 = .ok (.iastore, 1) := by decide +kernel
theorem dX5_goBy_246 : decode cX5_goBy 246 = .ok (.return_, 1) := by decide +kernel
set_option maxRecDepth 20000 in
theorem ggX5_pass_X5_in : GoodIn wsX5_pass wsX5_in := goodIn_r _ [5] (by decide +kernel) (by decide +kernel)
set_option maxRecDepth 20000 in
theorem gX5_pass_X5_in : GoodIn wsX5_pass (va_wsS RX5 29 yX5_in wsX5_in) := goodIn_app (goodIn_of _ (by decide +kernel)) ggX5_pass_X5_in
set_option maxRecDepth 20000 in
theorem ggX5_pass_X5_know : GoodIn wsX5_pass wsX5_know := goodIn_r _ [9, 10, 11, 1, 34, 35, 36, 37, 38, 39, 40, 41, 42, 43] (by decide +kernel) (by decide +kernel)
set_option maxRecDepth 20000 in
theorem gX5_pass_X5_know : GoodIn wsX5_pass (wsV RX5 50 RX5 yX5_know wsX5_know) := goodIn_app (goodIn_of _ (by decide +kernel)) ggX5_pass_X5_know
set_option maxRecDepth 20000 in
theorem ggX5_pass_X5_goBy : GoodIn wsX5_pass wsX5_goBy := goodIn_r _ [15, 1, 16, 17, 4, 18, 19, 20, 21, 22, 23, 24, 25, 26, 27, 28, 29, 30, 31, 32, 33, 34, 35, 36, 37, 38, 39, 40, 41, 42, 43] (by decide +kernel) (by decide +kernel)
set_option maxRecDepth 20000 in
theorem gX5_pass_X5_goBy : GoodIn wsX5_pass (wsV RX5 66 RX5 yX5_goBy wsX5_goBy) := goodIn_app (goodIn_of _ (by decide +kernel)) ggX5_pass_X5_goBy
theorem dX5_pass_0 : decode cX5_pass 0 = .ok (.iload_n 1, 1) := by decide +kernel
theorem dX5_pass_1 : decode cX5_pass 1 = .ok (.iconst 1, 1) := by decide +kernel
theorem dX5_pass_2 : decode cX5_pass 2 = .ok (.bipush 120, 2) := by decide +kernel
theorem dX5_pass_4 : decode cX5_pass 4 = .ok (.invokestatic 29, 3) := by decide +kernel
theorem dX5_pass_7 : decode cX5_pass 7 = .ok (.ifCond .ne 6, 3) := by decide +kernel
theorem dX5_pass_10 : decode cX5_pass 10 = .ok (.bipush (-2), 2) := by decide +kernel
theorem dX5_pass_12 : decode cX5_pass 12 = .ok (.ireturn, 1) := by decide +kernel
theorem dX5_pass_13 : decode cX5_pass 13 = .ok (.aload_n 0, 1) := by decide +kernel
theorem dX5_pass_14 : decode cX5_pass 14 = .ok (.getfield 7, 3) := by decide +kernel
theorem dX5_pass_17 : decode cX5_pass 17 = .ok (.iconst 0, 1) := by decide +kernel
theorem dX5_pass_18 : decode cX5_pass 18 = .ok (.iaload, 1) := by decide +kernel
theorem dX5_pass_19 : decode cX5_pass 19 = .ok (.iload_n 1, 1) := by decide +kernel
theorem dX5_pass_20 : decode cX5_pass 20 = .ok (.iadd, 1) := by decide +kernel
theorem dX5_pass_21 : decode cX5_pass 21 = .ok (.bipush 120, 2) := by decide +kernel
theorem dX5_pass_23 : decode cX5_pass 23 = .ok (.if_icmp .le 6, 3) := by decide +kernel
theorem dX5_pass_26 : decode cX5_pass 26 = .ok (.bipush (-3), 2) := by decide +kernel
theorem dX5_pass_28 : decode cX5_pass 28 = .ok (.ireturn, 1) := by decide +kernel
theorem dX5_pass_29 : decode cX5_pass 29 = .ok (.aload_n 0, 1) := by decide +kernel
theorem dX5_pass_30 : decode cX5_pass 30 = .ok (.invokevirtual 50, 3) := by decide +kernel
theorem dX5_pass_33 : decode cX5_pass 33 = .ok (.iconst 0, 1) := by decide +kernel
theorem dX5_pass_34 : decode cX5_pass 34 = .ok (.istore_n 2, 1) := by decide +kernel
theorem dX5_pass_35 : decode cX5_pass 35 = .ok (.iload_n 2, 1) := by decide +kernel
theorem dX5_pass_36 : decode cX5_pass 36 = .ok (.iload_n 1, 1) := by decide +kernel
theorem dX5_pass_37 : decode cX5_pass 37 = .ok (.if_icmp .ge 13, 3) := by decide +kernel
theorem dX5_pass_40 : decode cX5_pass 40 = .ok (.aload_n 0, 1) := by decide +kernel
theorem dX5_pass_41 : decode cX5_pass 41 = .ok (.invokevirtual 66, 3) := by decide +kernel
theorem dX5_pass_44 : decode cX5_pass 44 = .ok (.iinc 2 1, 3) := by decide +kernel
theorem dX5_pass_47 : decode cX5_pass 47 = .ok (.goto (-12), 3) := by decide +kernel
theorem dX5_pass_50 : decode cX5_pass 50 = .ok (.aload_n 0, 1) := by decide +kernel
theorem dX5_pass_51 : decode cX5_pass 51 = .ok (.getfield 7, 3) := by decide +kernel
theorem dX5_pass_54 : decode cX5_pass 54 = .ok (.iconst 0, 1) := by decide +kernel
theorem dX5_pass_55 : decode cX5_pass 55 = .ok (.iaload, 1) := by decide +kernel
theorem dX5_pass_56 : decode cX5_pass 56 = .ok (.ireturn, 1) := by decide +kernel
set_option maxRecDepth 20000 in
theorem ggX5_sign_X5_in : GoodIn wsX5_sign wsX5_in := goodIn_r _ [8] (by decide +kernel) (by decide +kernel)
set_option maxRecDepth 20000 in
theorem gX5_sign_X5_in : GoodIn wsX5_sign (va_wsS RX5 29 yX5_in wsX5_in) := goodIn_app (goodIn_of _ (by decide +kernel)) ggX5_sign_X5_in
theorem dX5_sign_0 : decode cX5_sign 0 = .ok (.aload_n 0, 1) := by decide +kernel
theorem dX5_sign_1 : decode cX5_sign 1 = .ok (.getfield 69, 3) := by decide +kernel
theorem dX5_sign_4 : decode cX5_sign 4 = .ok (.aload_n 0, 1) := by decide +kernel
theorem dX5_sign_5 : decode cX5_sign 5 = .ok (.getfield 72, 3) := by decide +kernel
theorem dX5_sign_8 : decode cX5_sign 8 = .ok (.if_icmp .ge 15, 3) := by decide +kernel
theorem dX5_sign_11 : decode cX5_sign 11 = .ok (.aload_n 0, 1) := by decide +kernel
theorem dX5_sign_12 : decode cX5_sign 12 = .ok (.getfield 19, 3) := by decide +kernel
theorem dX5_sign_15 : decode cX5_sign 15 = .ok (.aload_n 0, 1) := by decide +kernel
theorem dX5_sign_16 : decode cX5_sign 16 = .ok (.getfield 69, 3) := by decide +kernel
theorem dX5_sign_19 : decode cX5_sign 19 = .ok (.iaload, 1) := by decide +kernel
theorem dX5_sign_20 : decode cX5_sign 20 = .ok (.goto 4, 3) := by decide +kernel
theorem dX5_sign_23 : decode cX5_sign 23 = .ok (.iconst 0, 1) := by decide +kernel
theorem dX5_sign_24 : decode cX5_sign 24 = .ok (.istore_n 3, 1) := by decide +kernel
theorem dX5_sign_25 : decode cX5_sign 25 = .ok (.aload_n 0, 1) := by decide +kernel
theorem dX5_sign_26 : decode cX5_sign 26 = .ok (.aload_n 0, 1) := by decide +kernel
theorem dX5_sign_27 : decode cX5_sign 27 = .ok (.getfield 75, 3) := by decide +kernel
theorem dX5_sign_30 : decode cX5_sign 30 = .ok (.ifCond .ne 12, 3) := by decide +kernel
theorem dX5_sign_33 : decode cX5_sign 33 = .ok (.iload_n 3, 1) := by decide +kernel
theorem dX5_sign_34 : decode cX5_sign 34 = .ok (.iload_n 1, 1) := by decide +kernel
theorem dX5_sign_35 : decode cX5_sign 35 = .ok (.iload_n 2, 1) := by decide +kernel
theorem dX5_sign_36 : decode cX5_sign 36 = .ok (.invokestatic 29, 3) := by decide +kernel
theorem dX5_sign_39 : decode cX5_sign 39 = .ok (.ifCond .ne 7, 3) := by decide +kernel
theorem dX5_sign_42 : decode cX5_sign 42 = .ok (.iconst 1, 1) := by decide +kernel
theorem dX5_sign_43 : decode cX5_sign 43 = .ok (.goto 4, 3) := by decide +kernel
theorem dX5_sign_46 : decode cX5_sign 46 = .ok (.iconst 0, 1) := by decide +kernel
theorem dX5_sign_47 : decode cX5_sign 47 = .ok (.putfield 75, 3) := by decide +kernel
theorem dX5_sign_50 : decode cX5_sign 50 = .ok (.aload_n 0, 1) := by decide +kernel
theorem dX5_sign_51 : decode cX5_sign 51 = .ok (.dup, 1) := by decide +kernel
theorem dX5_sign_52 : decode cX5_sign 52 = .ok (.getfield 69, 3) := by decide +kernel
theorem dX5_sign_55 : decode cX5_sign 55 = .ok (.aload_n 0, 1) := by decide +kernel
theorem dX5_sign_56 : decode cX5_sign 56 = .ok (.getfield 75, 3) := by decide +kernel
theorem dX5_sign_59 : decode cX5_sign 59 = .ok (.ifCond .eq 7, 3) := by decide +kernel
theorem dX5_sign_62 : decode cX5_sign 62 = .ok (.iconst 0, 1) := by decide +kernel
theorem dX5_sign_63 : decode cX5_sign 63 = .ok (.goto 4, 3) := by decide +kernel
theorem dX5_sign_66 : decode cX5_sign 66 = .ok (.iconst 1, 1) := by decide +kernel
theorem dX5_sign_67 : decode cX5_sign 67 = .ok (.iadd, 1) := by decide +kernel
theorem dX5_sign_68 : decode cX5_sign 68 = .ok (.putfield 69, 3) := by decide +kernel
theorem dX5_sign_71 : decode cX5_sign 71 = .ok (.iload_n 3, 1) := by decide +kernel
theorem dX5_sign_72 : decode cX5_sign 72 = .ok (.ireturn, 1) := by decide +kernel
set_option maxRecDepth 20000 in
theorem ggX5_order_X5_sign : GoodIn wsX5_order wsX5_sign := goodIn_r _ [9, 1, 2, 3, 4, 10, 11, 8, 12, 44, 45, 46, 47, 48, 49, 50, 51, 52, 53] (by decide +kernel) (by decide +kernel)
set_option maxRecDepth 20000 in
theorem gX5_order_X5_sign : GoodIn wsX5_order (wsV RX5 79 RX5 yX5_sign wsX5_sign) := goodIn_app (goodIn_of _ (by decide +kernel)) ggX5_order_X5_sign
set_option maxRecDepth 20000 in
theorem ggX5_order_X5_in : GoodIn wsX5_order wsX5_in := goodIn_r _ [12] (by decide +kernel) (by decide +kernel)
set_option maxRecDepth 20000 in
theorem gX5_order_X5_in : GoodIn wsX5_order (va_wsS RX5 29 yX5_in wsX5_in) := goodIn_app (goodIn_of _ (by decide +kernel)) ggX5_order_X5_in
set_option maxRecDepth 20000 in
theorem ggX5_order_X5_does : GoodIn wsX5_order wsX5_does := goodIn_r _ [16, 17, 18, 19, 20, 8, 21, 22, 23, 24, 25, 26, 27, 28, 29, 30, 31, 32, 33, 34, 35, 36, 37, 38, 39, 40, 41, 42, 43, 44, 45, 46, 47, 48, 49, 50, 51, 52, 53] (by decide +kernel) (by decide +kernel)
set_option maxRecDepth 20000 in
theorem gX5_order_X5_does : GoodIn wsX5_order (wsV RX5 82 RX5 yX5_does wsX5_does) := goodIn_app (goodIn_of _ (by decide +kernel)) ggX5_order_X5_does
theorem dX5_order_0 : decode cX5_order 0 = .ok (.aload_n 0, 1) := by decide +kernel
theorem dX5_order_1 : decode cX5_order 1 = .ok (.getfield 69, 3) := by decide +kernel
theorem dX5_order_4 : decode cX5_order 4 = .ok (.aload_n 0, 1) := by decide +kernel
theorem dX5_order_5 : decode cX5_order 5 = .ok (.getfield 72, 3) := by decide +kernel
theorem dX5_order_8 : decode cX5_order 8 = .ok (.if_icmp .ge 15, 3) := by decide +kernel
theorem dX5_order_11 : decode cX5_order 11 = .ok (.aload_n 0, 1) := by decide +kernel
theorem dX5_order_12 : decode cX5_order 12 = .ok (.getfield 19, 3) := by decide +kernel
theorem dX5_order_15 : decode cX5_order 15 = .ok (.aload_n 0, 1) := by decide +kernel
theorem dX5_order_16 : decode cX5_order 16 = .ok (.getfield 69, 3) := by decide +kernel
theorem dX5_order_19 : decode cX5_order 19 = .ok (.iaload, 1) := by decide +kernel
theorem dX5_order_20 : decode cX5_order 20 = .ok (.goto 4, 3) := by decide +kernel
theorem dX5_order_23 : decode cX5_order 23 = .ok (.iconst 0, 1) := by decide +kernel
theorem dX5_order_24 : decode cX5_order 24 = .ok (.istore_n 2, 1) := by decide +kernel
theorem dX5_order_25 : decode cX5_order 25 = .ok (.aload_n 0, 1) := by decide +kernel
theorem dX5_order_26 : decode cX5_order 26 = .ok (.aload_n 0, 1) := by decide +kernel
theorem dX5_order_27 : decode cX5_order 27 = .ok (.getfield 75, 3) := by decide +kernel
theorem dX5_order_30 : decode cX5_order 30 = .ok (.ifCond .ne 33, 3) := by decide +kernel
theorem dX5_order_33 : decode cX5_order 33 = .ok (.iload_n 2, 1) := by decide +kernel
theorem dX5_order_34 : decode cX5_order 34 = .ok (.bipush 112, 2) := by decide +kernel
theorem dX5_order_36 : decode cX5_order 36 = .ok (.if_icmp .eq 31, 3) := by decide +kernel
theorem dX5_order_39 : decode cX5_order 39 = .ok (.iload_n 2, 1) := by decide +kernel
theorem dX5_order_40 : decode cX5_order 40 = .ok (.bipush 120, 2) := by decide +kernel
theorem dX5_order_42 : decode cX5_order 42 = .ok (.if_icmp .eq 25, 3) := by decide +kernel
theorem dX5_order_45 : decode cX5_order 45 = .ok (.iload_n 2, 1) := by decide +kernel
theorem dX5_order_46 : decode cX5_order 46 = .ok (.bipush 111, 2) := by decide +kernel
theorem dX5_order_48 : decode cX5_order 48 = .ok (.if_icmp .eq 19, 3) := by decide +kernel
theorem dX5_order_51 : decode cX5_order 51 = .ok (.iload_n 2, 1) := by decide +kernel
theorem dX5_order_52 : decode cX5_order 52 = .ok (.bipush 99, 2) := by decide +kernel
theorem dX5_order_54 : decode cX5_order 54 = .ok (.if_icmp .eq 13, 3) := by decide +kernel
theorem dX5_order_57 : decode cX5_order 57 = .ok (.iload_n 2, 1) := by decide +kernel
theorem dX5_order_58 : decode cX5_order 58 = .ok (.bipush 108, 2) := by decide +kernel
theorem dX5_order_60 : decode cX5_order 60 = .ok (.if_icmp .eq 7, 3) := by decide +kernel
theorem dX5_order_63 : decode cX5_order 63 = .ok (.iconst 1, 1) := by decide +kernel
theorem dX5_order_64 : decode cX5_order 64 = .ok (.goto 4, 3) := by decide +kernel
theorem dX5_order_67 : decode cX5_order 67 = .ok (.iconst 0, 1) := by decide +kernel
theorem dX5_order_68 : decode cX5_order 68 = .ok (.putfield 75, 3) := by decide +kernel
theorem dX5_order_71 : decode cX5_order 71 = .ok (.aload_n 0, 1) := by decide +kernel
theorem dX5_order_72 : decode cX5_order 72 = .ok (.dup, 1) := by decide +kernel
theorem dX5_order_73 : decode cX5_order 73 = .ok (.getfield 69, 3) := by decide +kernel
theorem dX5_order_76 : decode cX5_order 76 = .ok (.aload_n 0, 1) := by decide +kernel
theorem dX5_order_77 : decode cX5_order 77 = .ok (.getfield 75, 3) := by decide +kernel
theorem dX5_order_80 : decode cX5_order 80 = .ok (.ifCond .eq 7, 3) := by decide +kernel
theorem dX5_order_83 : decode cX5_order 83 = .ok (.iconst 0, 1) := by decide +kernel
theorem dX5_order_84 : decode cX5_order 84 = .ok (.goto 4, 3) := by decide +kernel
theorem dX5_order_87 : decode cX5_order 87 = .ok (.iconst 1, 1) := by decide +kernel
theorem dX5_order_88 : decode cX5_order 88 = .ok (.iadd, 1) := by decide +kernel
theorem dX5_order_89 : decode cX5_order 89 = .ok (.putfield 69, 3) := by decide +kernel
theorem dX5_order_92 : decode cX5_order 92 = .ok (.aload_n 0, 1) := by decide +kernel
theorem dX5_order_93 : decode cX5_order 93 = .ok (.getfield 75, 3) := by decide +kernel
theorem dX5_order_96 : decode cX5_order 96 = .ok (.ifCond .eq 5, 3) := by decide +kernel
theorem dX5_order_99 : decode cX5_order 99 = .ok (.iconst 0, 1) := by decide +kernel
theorem dX5_order_100 : decode cX5_order 100 = .ok (.ireturn, 1) := by decide +kernel
theorem dX5_order_101 : decode cX5_order 101 = .ok (.iload_n 2, 1) := by decide +kernel
theorem dX5_order_102 : decode cX5_order 102 = .ok (.bipush 112, 2) := by decide +kernel
theorem dX5_order_104 : decode cX5_order 104 = .ok (.if_icmp .ne 17, 3) := by decide +kernel
theorem dX5_order_107 : decode cX5_order 107 = .ok (.aload_n 0, 1) := by decide +kernel
theorem dX5_order_108 : decode cX5_order 108 = .ok (.bipush 49, 2) := by decide +kernel
theorem dX5_order_110 : decode cX5_order 110 = .ok (.bipush 57, 2) := by decide +kernel
theorem dX5_order_112 : decode cX5_order 112 = .ok (.invokevirtual 79, 3) := by decide +kernel
theorem dX5_order_115 : decode cX5_order 115 = .ok (.bipush 48, 2) := by decide +kernel
theorem dX5_order_117 : decode cX5_order 117 = .ok (.isub, 1) := by decide +kernel
theorem dX5_order_118 : decode cX5_order 118 = .ok (.goto 14, 3) := by decide +kernel
theorem dX5_order_121 : decode cX5_order 121 = .ok (.aload_n 0, 1) := by decide +kernel
theorem dX5_order_122 : decode cX5_order 122 = .ok (.bipush 48, 2) := by decide +kernel
theorem dX5_order_124 : decode cX5_order 124 = .ok (.bipush 50, 2) := by decide +kernel
theorem dX5_order_126 : decode cX5_order 126 = .ok (.invokevirtual 79, 3) := by decide +kernel
theorem dX5_order_129 : decode cX5_order 129 = .ok (.bipush 48, 2) := by decide +kernel
theorem dX5_order_131 : decode cX5_order 131 = .ok (.isub, 1) := by decide +kernel
theorem dX5_order_132 : decode cX5_order 132 = .ok (.istore_n 3, 1) := by decide +kernel
theorem dX5_order_133 : decode cX5_order 133 = .ok (.iload_n 2, 1) := by decide +kernel
theorem dX5_order_134 : decode cX5_order 134 = .ok (.bipush 112, 2) := by decide +kernel
theorem dX5_order_136 : decode cX5_order 136 = .ok (.if_icmp .ne 57, 3) := by decide +kernel
theorem dX5_order_139 : decode cX5_order 139 = .ok (.aload_n 0, 1) := by decide +kernel
theorem dX5_order_140 : decode cX5_order 140 = .ok (.getfield 75, 3) := by decide +kernel
theorem dX5_order_143 : decode cX5_order 143 = .ok (.ifCond .ne 50, 3) := by decide +kernel
theorem dX5_order_146 : decode cX5_order 146 = .ok (.aload_n 0, 1) := by decide +kernel
theorem dX5_order_147 : decode cX5_order 147 = .ok (.getfield 69, 3) := by decide +kernel
theorem dX5_order_150 : decode cX5_order 150 = .ok (.aload_n 0, 1) := by decide +kernel
theorem dX5_order_151 : decode cX5_order 151 = .ok (.getfield 72, 3) := by decide +kernel
theorem dX5_order_154 : decode cX5_order 154 = .ok (.if_icmp .ge 39, 3) := by decide +kernel
theorem dX5_order_157 : decode cX5_order 157 = .ok (.aload_n 0, 1) := by decide +kernel
theorem dX5_order_158 : decode cX5_order 158 = .ok (.getfield 19, 3) := by decide +kernel
theorem dX5_order_161 : decode cX5_order 161 = .ok (.aload_n 0, 1) := by decide +kernel
theorem dX5_order_162 : decode cX5_order 162 = .ok (.getfield 69, 3) := by decide +kernel
theorem dX5_order_165 : decode cX5_order 165 = .ok (.iaload, 1) := by decide +kernel
theorem dX5_order_166 : decode cX5_order 166 = .ok (.bipush 48, 2) := by decide +kernel
theorem dX5_order_168 : decode cX5_order 168 = .ok (.bipush 57, 2) := by decide +kernel
theorem dX5_order_170 : decode cX5_order 170 = .ok (.invokestatic 29, 3) := by decide +kernel
theorem dX5_order_173 : decode cX5_order 173 = .ok (.ifCond .eq 20, 3) := by decide +kernel
theorem dX5_order_176 : decode cX5_order 176 = .ok (.bipush 10, 2) := by decide +kernel
theorem dX5_order_178 : decode cX5_order 178 = .ok (.iload_n 3, 1) := by decide +kernel
theorem dX5_order_179 : decode cX5_order 179 = .ok (.imul, 1) := by decide +kernel
theorem dX5_order_180 : decode cX5_order 180 = .ok (.aload_n 0, 1) := by decide +kernel
theorem dX5_order_181 : decode cX5_order 181 = .ok (.bipush 48, 2) := by decide +kernel
theorem dX5_order_183 : decode cX5_order 183 = .ok (.bipush 57, 2) := by decide +kernel
theorem dX5_order_185 : decode cX5_order 185 = .ok (.invokevirtual 79, 3) := by decide +kernel
theorem dX5_order_188 : decode cX5_order 188 = .ok (.iadd, 1) := by decide +kernel
theorem dX5_order_189 : decode cX5_order 189 = .ok (.bipush 48, 2) := by decide +kernel
theorem dX5_order_191 : decode cX5_order 191 = .ok (.isub, 1) := by decide +kernel
theorem dX5_order_192 : decode cX5_order 192 = .ok (.istore_n 3, 1) := by decide +kernel
theorem dX5_order_193 : decode cX5_order 193 = .ok (.iload_n 1, 1) := by decide +kernel
theorem dX5_order_194 : decode cX5_order 194 = .ok (.ifCond .eq 9, 3) := by decide +kernel
theorem dX5_order_197 : decode cX5_order 197 = .ok (.aload_n 0, 1) := by decide +kernel
theorem dX5_order_198 : decode cX5_order 198 = .ok (.iload_n 2, 1) := by decide +kernel
theorem dX5_order_199 : decode cX5_order 199 = .ok (.iload_n 3, 1) := by decide +kernel
theorem dX5_order_200 : decode cX5_order 200 = .ok (.invokevirtual 82, 3) := by decide +kernel
theorem dX5_order_203 : decode cX5_order 203 = .ok (.iload_n 2, 1) := by decide +kernel
theorem dX5_order_204 : decode cX5_order 204 = .ok (.bipush 112, 2) := by decide +kernel
theorem dX5_order_206 : decode cX5_order 206 = .ok (.if_icmp .ne 7, 3) := by decide +kernel
theorem dX5_order_209 : decode cX5_order 209 = .ok (.iload_n 3, 1) := by decide +kernel
theorem dX5_order_210 : decode cX5_order 210 = .ok (.goto 4, 3) := by decide +kernel
theorem dX5_order_213 : decode cX5_order 213 = .ok (.iconst 0, 1) := by decide +kernel
theorem dX5_order_214 : decode cX5_order 214 = .ok (.ireturn, 1) := by decide +kernel
set_option maxRecDepth 20000 in
theorem ggX5_does_X5_goBy : GoodIn wsX5_does wsX5_goBy := goodIn_r _ [6, 1, 7, 8, 5, 9, 10, 11, 12, 13, 14, 15, 16, 17, 18, 19, 20, 21, 22, 23, 24, 29, 30, 31, 32, 33, 34, 35, 36, 37, 38] (by decide +kernel) (by decide +kernel)
set_option maxRecDepth 20000 in
theorem gX5_does_X5_goBy : GoodIn wsX5_does (wsV RX5 66 RX5 yX5_goBy wsX5_goBy) := goodIn_app (goodIn_of _ (by decide +kernel)) ggX5_does_X5_goBy
set_option maxRecDepth 20000 in
theorem ggX5_does_X5_of : GoodIn wsX5_does wsX5_of := goodIn_r _ [9] (by decide +kernel) (by decide +kernel)
set_option maxRecDepth 20000 in
theorem gX5_does_X5_of : GoodIn wsX5_does (va_wsS RX5 22 yX5_of wsX5_of) := goodIn_app (goodIn_of _ (by decide +kernel)) ggX5_does_X5_of
set_option maxRecDepth 20000 in
theorem ggX5_does_X5_note : GoodIn wsX5_does wsX5_note := goodIn_r _ [28, 1, 7, 8, 5, 9, 29, 30, 31, 32, 33, 34, 35, 36, 37, 38] (by decide +kernel) (by decide +kernel)
set_option maxRecDepth 20000 in
theorem gX5_does_X5_note : GoodIn wsX5_does (wsV RX5 62 RX5 yX5_note wsX5_note) := goodIn_app (goodIn_of _ (by decide +kernel)) ggX5_does_X5_note
theorem dX5_does_0 : decode cX5_does 0 = .ok (.iload_n 1, 1) := by decide +kernel
theorem dX5_does_1 : decode cX5_does 1 = .ok (.lookupswitch 102 #[(99, 88), (111, 63), (112, 43), (120, 63)], 43) := by decide +kernel
theorem dX5_does_44 : decode cX5_does 44 = .ok (.iconst 0, 1) := by decide +kernel
theorem dX5_does_45 : decode cX5_does 45 = .ok (.istore_n 3, 1) := by decide +kernel
theorem dX5_does_46 : decode cX5_does 46 = .ok (.iload_n 3, 1) := by decide +kernel
theorem dX5_does_47 : decode cX5_does 47 = .ok (.iload_n 2, 1) := by decide +kernel
theorem dX5_does_48 : decode cX5_does 48 = .ok (.if_icmp .ge 13, 3) := by decide +kernel
theorem dX5_does_51 : decode cX5_does 51 = .ok (.aload_n 0, 1) := by decide +kernel
theorem dX5_does_52 : decode cX5_does 52 = .ok (.invokevirtual 66, 3) := by decide +kernel
theorem dX5_does_55 : decode cX5_does 55 = .ok (.iinc 3 1, 3) := by decide +kernel
theorem dX5_does_58 : decode cX5_does 58 = .ok (.goto (-12), 3) := by decide +kernel
theorem dX5_does_61 : decode cX5_does 61 = .ok (.goto 47, 3) := by decide +kernel
theorem dX5_does_64 : decode cX5_does 64 = .ok (.aload_n 0, 1) := by decide +kernel
theorem dX5_does_65 : decode cX5_does 65 = .ok (.getfield 7, 3) := by decide +kernel
theorem dX5_does_68 : decode cX5_does 68 = .ok (.iload_n 2, 1) := by decide +kernel
theorem dX5_does_69 : decode cX5_does 69 = .ok (.bipush 8, 2) := by decide +kernel
theorem dX5_does_71 : decode cX5_does 71 = .ok (.invokestatic 22, 3) := by decide +kernel
theorem dX5_does_74 : decode cX5_does 74 = .ok (.iload_n 1, 1) := by decide +kernel
theorem dX5_does_75 : decode cX5_does 75 = .ok (.bipush 111, 2) := by decide +kernel
theorem dX5_does_77 : decode cX5_does 77 = .ok (.if_icmp .ne 7, 3) := by decide +kernel
theorem dX5_does_80 : decode cX5_does 80 = .ok (.iconst 1, 1) := by decide +kernel
theorem dX5_does_81 : decode cX5_does 81 = .ok (.goto 4, 3) := by decide +kernel
theorem dX5_does_84 : decode cX5_does 84 = .ok (.iconst 0, 1) := by decide +kernel
theorem dX5_does_85 : decode cX5_does 85 = .ok (.iastore, 1) := by decide +kernel
theorem dX5_does_86 : decode cX5_does 86 = .ok (.goto 22, 3) := by decide +kernel
theorem dX5_does_89 : decode cX5_does 89 = .ok (.aload_n 0, 1) := by decide +kernel
theorem dX5_does_90 : decode cX5_does 90 = .ok (.getfield 7, 3) := by decide +kernel
theorem dX5_does_93 : decode cX5_does 93 = .ok (.iload_n 2, 1) := by decide +kernel
theorem dX5_does_94 : decode cX5_does 94 = .ok (.iconst 4, 1) := by decide +kernel
theorem dX5_does_95 : decode cX5_does 95 = .ok (.invokestatic 22, 3) := by decide +kernel
theorem dX5_does_98 : decode cX5_does 98 = .ok (.iconst 0, 1) := by decide +kernel
theorem dX5_does_99 : decode cX5_does 99 = .ok (.iastore, 1) := by decide +kernel
theorem dX5_does_100 : decode cX5_does 100 = .ok (.goto 8, 3) := by decide +kernel
theorem dX5_does_103 : decode cX5_does 103 = .ok (.aload_n 0, 1) := by decide +kernel
theorem dX5_does_104 : decode cX5_does 104 = .ok (.iload_n 2, 1) := by decide +kernel
theorem dX5_does_105 : decode cX5_does 105 = .ok (.invokevirtual 62, 3) := by decide +kernel
theorem dX5_does_108 : decode cX5_does 108 = .ok (.return_, 1) := by decide +kernel
set_option maxRecDepth 20000 in
theorem ggX5_go_X5_order : GoodIn wsX5_go wsX5_order := goodIn_r _ [9, 1, 4, 10, 2, 11, 12, 13, 8, 14, 15, 16, 17, 18, 19, 20, 21, 22, 23, 24, 25, 26, 27, 28, 29, 30, 31, 32, 33, 34, 35, 36, 37, 38, 39, 40, 41, 42, 43, 44, 45, 46, 47, 48, 49, 50, 51, 52, 53, 54, 55, 56, 57, 58] (by decide +kernel) (by decide +kernel)
set_option maxRecDepth 20000 in
theorem gX5_go_X5_order : GoodIn wsX5_go (wsV RX5 89 RX5 yX5_order wsX5_order) := goodIn_app (goodIn_of _ (by decide +kernel)) ggX5_go_X5_order
set_option maxRecDepth 20000 in
theorem ggX5_go_X5_sign : GoodIn wsX5_go wsX5_sign := goodIn_r _ [14, 1, 4, 10, 2, 15, 16, 8, 17, 49, 50, 51, 52, 53, 54, 55, 56, 57, 58] (by decide +kernel) (by decide +kernel)
set_option maxRecDepth 20000 in
theorem gX5_go_X5_sign : GoodIn wsX5_go (wsV RX5 79 RX5 yX5_sign wsX5_sign) := goodIn_app (goodIn_of _ (by decide +kernel)) ggX5_go_X5_sign
theorem dX5_go_0 : decode cX5_go 0 = .ok (.aload_n 0, 1) := by decide +kernel
theorem dX5_go_1 : decode cX5_go 1 = .ok (.iconst 0, 1) := by decide +kernel
theorem dX5_go_2 : decode cX5_go 2 = .ok (.putfield 69, 3) := by decide +kernel
theorem dX5_go_5 : decode cX5_go 5 = .ok (.aload_n 0, 1) := by decide +kernel
theorem dX5_go_6 : decode cX5_go 6 = .ok (.iconst 0, 1) := by decide +kernel
theorem dX5_go_7 : decode cX5_go 7 = .ok (.putfield 75, 3) := by decide +kernel
theorem dX5_go_10 : decode cX5_go 10 = .ok (.aload_n 0, 1) := by decide +kernel
theorem dX5_go_11 : decode cX5_go 11 = .ok (.iconst 0, 1) := by decide +kernel
theorem dX5_go_12 : decode cX5_go 12 = .ok (.putfield 86, 3) := by decide +kernel
theorem dX5_go_15 : decode cX5_go 15 = .ok (.iconst 0, 1) := by decide +kernel
theorem dX5_go_16 : decode cX5_go 16 = .ok (.istore_n 2, 1) := by decide +kernel
theorem dX5_go_17 : decode cX5_go 17 = .ok (.iconst 1, 1) := by decide +kernel
theorem dX5_go_18 : decode cX5_go 18 = .ok (.istore_n 3, 1) := by decide +kernel
theorem dX5_go_19 : decode cX5_go 19 = .ok (.iload_n 3, 1) := by decide +kernel
theorem dX5_go_20 : decode cX5_go 20 = .ok (.ifCond .eq 74, 3) := by decide +kernel
theorem dX5_go_23 : decode cX5_go 23 = .ok (.aload_n 0, 1) := by decide +kernel
theorem dX5_go_24 : decode cX5_go 24 = .ok (.dup, 1) := by decide +kernel
theorem dX5_go_25 : decode cX5_go 25 = .ok (.getfield 86, 3) := by decide +kernel
theorem dX5_go_28 : decode cX5_go 28 = .ok (.aload_n 0, 1) := by decide +kernel
theorem dX5_go_29 : decode cX5_go 29 = .ok (.iload_n 1, 1) := by decide +kernel
theorem dX5_go_30 : decode cX5_go 30 = .ok (.invokevirtual 89, 3) := by decide +kernel
theorem dX5_go_33 : decode cX5_go 33 = .ok (.iadd, 1) := by decide +kernel
theorem dX5_go_34 : decode cX5_go 34 = .ok (.putfield 86, 3) := by decide +kernel
theorem dX5_go_37 : decode cX5_go 37 = .ok (.iinc 2 1, 3) := by decide +kernel
theorem dX5_go_40 : decode cX5_go 40 = .ok (.aload_n 0, 1) := by decide +kernel
theorem dX5_go_41 : decode cX5_go 41 = .ok (.getfield 75, 3) := by decide +kernel
theorem dX5_go_44 : decode cX5_go 44 = .ok (.ifCond .ne 18, 3) := by decide +kernel
theorem dX5_go_47 : decode cX5_go 47 = .ok (.aload_n 0, 1) := by decide +kernel
theorem dX5_go_48 : decode cX5_go 48 = .ok (.getfield 69, 3) := by decide +kernel
theorem dX5_go_51 : decode cX5_go 51 = .ok (.aload_n 0, 1) := by decide +kernel
theorem dX5_go_52 : decode cX5_go 52 = .ok (.getfield 72, 3) := by decide +kernel
theorem dX5_go_55 : decode cX5_go 55 = .ok (.if_icmp .ge 7, 3) := by decide +kernel
theorem dX5_go_58 : decode cX5_go 58 = .ok (.iconst 1, 1) := by decide +kernel
theorem dX5_go_59 : decode cX5_go 59 = .ok (.goto 4, 3) := by decide +kernel
theorem dX5_go_62 : decode cX5_go 62 = .ok (.iconst 0, 1) := by decide +kernel
theorem dX5_go_63 : decode cX5_go 63 = .ok (.istore_n 3, 1) := by decide +kernel
theorem dX5_go_64 : decode cX5_go 64 = .ok (.iload_n 3, 1) := by decide +kernel
theorem dX5_go_65 : decode cX5_go 65 = .ok (.ifCond .eq (-46), 3) := by decide +kernel
theorem dX5_go_68 : decode cX5_go 68 = .ok (.aload_n 0, 1) := by decide +kernel
theorem dX5_go_69 : decode cX5_go 69 = .ok (.bipush 59, 2) := by decide +kernel
theorem dX5_go_71 : decode cX5_go 71 = .ok (.bipush 59, 2) := by decide +kernel
theorem dX5_go_73 : decode cX5_go 73 = .ok (.invokevirtual 79, 3) := by decide +kernel
theorem dX5_go_76 : decode cX5_go 76 = .ok (.istore 4, 2) := by decide +kernel
theorem dX5_go_78 : decode cX5_go 78 = .ok (.aload_n 0, 1) := by decide +kernel
theorem dX5_go_79 : decode cX5_go 79 = .ok (.getfield 75, 3) := by decide +kernel
theorem dX5_go_82 : decode cX5_go 82 = .ok (.ifCond .ne 7, 3) := by decide +kernel
theorem dX5_go_85 : decode cX5_go 85 = .ok (.iconst 1, 1) := by decide +kernel
theorem dX5_go_86 : decode cX5_go 86 = .ok (.goto 4, 3) := by decide +kernel
theorem dX5_go_89 : decode cX5_go 89 = .ok (.iconst 0, 1) := by decide +kernel
theorem dX5_go_90 : decode cX5_go 90 = .ok (.istore_n 3, 1) := by decide +kernel
theorem dX5_go_91 : decode cX5_go 91 = .ok (.goto (-72), 3) := by decide +kernel
theorem dX5_go_94 : decode cX5_go 94 = .ok (.iload_n 2, 1) := by decide +kernel
theorem dX5_go_95 : decode cX5_go 95 = .ok (.ireturn, 1) := by decide +kernel
set_option maxRecDepth 20000 in
theorem ggX5_follow_X5_go : GoodIn wsX5_follow wsX5_go := goodIn_r _ [9, 2, 1, 4, 10, 11, 12, 13, 8, 14, 15, 16, 17, 18, 19, 20, 21, 22, 23, 24, 25, 26, 3, 27, 28, 29, 30, 31, 32, 33, 34, 35, 36, 37, 38, 39, 40, 41, 42, 43, 44, 45, 46, 47, 48, 49, 50, 51, 52, 59, 60, 61, 62, 63, 64, 65, 66, 67, 68] (by decide +kernel) (by decide +kernel)
set_option maxRecDepth 20000 in
theorem gX5_follow_X5_go : GoodIn wsX5_follow (wsV RX5 93 RX5 yX5_go wsX5_go) := goodIn_app (goodIn_of _ (by decide +kernel)) ggX5_follow_X5_go
set_option maxRecDepth 20000 in
theorem ggX5_follow_X5_know : GoodIn wsX5_follow wsX5_know := goodIn_r _ [56, 57, 58, 3, 59, 60, 61, 62, 63, 64, 65, 66, 67, 68] (by decide +kernel) (by decide +kernel)
set_option maxRecDepth 20000 in
theorem gX5_follow_X5_know : GoodIn wsX5_follow (wsV RX5 50 RX5 yX5_know wsX5_know) := goodIn_app (goodIn_of _ (by decide +kernel)) ggX5_follow_X5_know
theorem dX5_follow_0 : decode cX5_follow 0 = .ok (.aload_n 0, 1) := by decide +kernel
theorem dX5_follow_1 : decode cX5_follow 1 = .ok (.iconst 0, 1) := by decide +kernel
theorem dX5_follow_2 : decode cX5_follow 2 = .ok (.invokevirtual 93, 3) := by decide +kernel
theorem dX5_follow_5 : decode cX5_follow 5 = .ok (.istore_n 1, 1) := by decide +kernel
theorem dX5_follow_6 : decode cX5_follow 6 = .ok (.aload_n 0, 1) := by decide +kernel
theorem dX5_follow_7 : decode cX5_follow 7 = .ok (.getfield 75, 3) := by decide +kernel
theorem dX5_follow_10 : decode cX5_follow 10 = .ok (.ifCond .eq 11, 3) := by decide +kernel
theorem dX5_follow_13 : decode cX5_follow 13 = .ok (.bipush (-100), 2) := by decide +kernel
theorem dX5_follow_15 : decode cX5_follow 15 = .ok (.aload_n 0, 1) := by decide +kernel
theorem dX5_follow_16 : decode cX5_follow 16 = .ok (.getfield 69, 3) := by decide +kernel
theorem dX5_follow_19 : decode cX5_follow 19 = .ok (.isub, 1) := by decide +kernel
theorem dX5_follow_20 : decode cX5_follow 20 = .ok (.ireturn, 1) := by decide +kernel
theorem dX5_follow_21 : decode cX5_follow 21 = .ok (.aload_n 0, 1) := by decide +kernel
theorem dX5_follow_22 : decode cX5_follow 22 = .ok (.getfield 7, 3) := by decide +kernel
theorem dX5_follow_25 : decode cX5_follow 25 = .ok (.iconst 0, 1) := by decide +kernel
theorem dX5_follow_26 : decode cX5_follow 26 = .ok (.iaload, 1) := by decide +kernel
theorem dX5_follow_27 : decode cX5_follow 27 = .ok (.aload_n 0, 1) := by decide +kernel
theorem dX5_follow_28 : decode cX5_follow 28 = .ok (.getfield 86, 3) := by decide +kernel
theorem dX5_follow_31 : decode cX5_follow 31 = .ok (.iadd, 1) := by decide +kernel
theorem dX5_follow_32 : decode cX5_follow 32 = .ok (.bipush 120, 2) := by decide +kernel
theorem dX5_follow_34 : decode cX5_follow 34 = .ok (.if_icmp .le 6, 3) := by decide +kernel
theorem dX5_follow_37 : decode cX5_follow 37 = .ok (.bipush (-3), 2) := by decide +kernel
theorem dX5_follow_39 : decode cX5_follow 39 = .ok (.ireturn, 1) := by decide +kernel
theorem dX5_follow_40 : decode cX5_follow 40 = .ok (.aload_n 0, 1) := by decide +kernel
theorem dX5_follow_41 : decode cX5_follow 41 = .ok (.invokevirtual 50, 3) := by decide +kernel
theorem dX5_follow_44 : decode cX5_follow 44 = .ok (.aload_n 0, 1) := by decide +kernel
theorem dX5_follow_45 : decode cX5_follow 45 = .ok (.iconst 1, 1) := by decide +kernel
theorem dX5_follow_46 : decode cX5_follow 46 = .ok (.invokevirtual 93, 3) := by decide +kernel
theorem dX5_follow_49 : decode cX5_follow 49 = .ok (.ireturn, 1) := by decide +kernel
theorem dX5_type_0 : decode cX5_type 0 = .ok (.aload_n 0, 1) := by decide +kernel
theorem dX5_type_1 : decode cX5_type 1 = .ok (.getfield 72, 3) := by decide +kernel
theorem dX5_type_4 : decode cX5_type 4 = .ok (.bipush 60, 2) := by decide +kernel
theorem dX5_type_6 : decode cX5_type 6 = .ok (.if_icmp .ne 6, 3) := by decide +kernel
theorem dX5_type_9 : decode cX5_type 9 = .ok (.bipush (-3), 2) := by decide +kernel
theorem dX5_type_11 : decode cX5_type 11 = .ok (.ireturn, 1) := by decide +kernel
theorem dX5_type_12 : decode cX5_type 12 = .ok (.aload_n 0, 1) := by decide +kernel
theorem dX5_type_13 : decode cX5_type 13 = .ok (.getfield 19, 3) := by decide +kernel
theorem dX5_type_16 : decode cX5_type 16 = .ok (.aload_n 0, 1) := by decide +kernel
theorem dX5_type_17 : decode cX5_type 17 = .ok (.getfield 72, 3) := by decide +kernel
theorem dX5_type_20 : decode cX5_type 20 = .ok (.iload_n 1, 1) := by decide +kernel
theorem dX5_type_21 : decode cX5_type 21 = .ok (.iastore, 1) := by decide +kernel
theorem dX5_type_22 : decode cX5_type 22 = .ok (.aload_n 0, 1) := by decide +kernel
theorem dX5_type_23 : decode cX5_type 23 = .ok (.dup, 1) := by decide +kernel
theorem dX5_type_24 : decode cX5_type 24 = .ok (.getfield 72, 3) := by decide +kernel
theorem dX5_type_27 : decode cX5_type 27 = .ok (.iconst 1, 1) := by decide +kernel
theorem dX5_type_28 : decode cX5_type 28 = .ok (.iadd, 1) := by decide +kernel
theorem dX5_type_29 : decode cX5_type 29 = .ok (.putfield 72, 3) := by decide +kernel
theorem dX5_type_32 : decode cX5_type 32 = .ok (.aload_n 0, 1) := by decide +kernel
theorem dX5_type_33 : decode cX5_type 33 = .ok (.getfield 72, 3) := by decide +kernel
theorem dX5_type_36 : decode cX5_type 36 = .ok (.ireturn, 1) := by decide +kernel
theorem dX5_clearText_0 : decode cX5_clearText 0 = .ok (.aload_n 0, 1) := by decide +kernel
theorem dX5_clearText_1 : decode cX5_clearText 1 = .ok (.getfield 72, 3) := by decide +kernel
theorem dX5_clearText_4 : decode cX5_clearText 4 = .ok (.istore_n 1, 1) := by decide +kernel
theorem dX5_clearText_5 : decode cX5_clearText 5 = .ok (.aload_n 0, 1) := by decide +kernel
theorem dX5_clearText_6 : decode cX5_clearText 6 = .ok (.iconst 0, 1) := by decide +kernel
theorem dX5_clearText_7 : decode cX5_clearText 7 = .ok (.putfield 72, 3) := by decide +kernel
theorem dX5_clearText_10 : decode cX5_clearText 10 = .ok (.iload_n 1, 1) := by decide +kernel
theorem dX5_clearText_11 : decode cX5_clearText 11 = .ok (.ireturn, 1) := by decide +kernel
set_option maxRecDepth 20000 in
theorem ggX5_isRead_X5_in : GoodIn wsX5_isRead wsX5_in := goodIn_r _ [5] (by decide +kernel) (by decide +kernel)
set_option maxRecDepth 20000 in
theorem gX5_isRead_X5_in : GoodIn wsX5_isRead (va_wsS RX5 29 yX5_in wsX5_in) := goodIn_app (goodIn_of _ (by decide +kernel)) ggX5_isRead_X5_in
set_option maxRecDepth 20000 in
theorem ggX5_isRead_X5_of : GoodIn wsX5_isRead wsX5_of := goodIn_r _ [8] (by decide +kernel) (by decide +kernel)
set_option maxRecDepth 20000 in
theorem gX5_isRead_X5_of : GoodIn wsX5_isRead (va_wsS RX5 22 yX5_of wsX5_of) := goodIn_app (goodIn_of _ (by decide +kernel)) ggX5_isRead_X5_of
theorem dX5_isRead_0 : decode cX5_isRead 0 = .ok (.iload_n 2, 1) := by decide +kernel
theorem dX5_isRead_1 : decode cX5_isRead 1 = .ok (.iconst 0, 1) := by decide +kernel
theorem dX5_isRead_2 : decode cX5_isRead 2 = .ok (.aload_n 0, 1) := by decide +kernel
theorem dX5_isRead_3 : decode cX5_isRead 3 = .ok (.getfield 7, 3) := by decide +kernel
theorem dX5_isRead_6 : decode cX5_isRead 6 = .ok (.iconst 0, 1) := by decide +kernel
theorem dX5_isRead_7 : decode cX5_isRead 7 = .ok (.iaload, 1) := by decide +kernel
theorem dX5_isRead_8 : decode cX5_isRead 8 = .ok (.iconst 1, 1) := by decide +kernel
theorem dX5_isRead_9 : decode cX5_isRead 9 = .ok (.isub, 1) := by decide +kernel
theorem dX5_isRead_10 : decode cX5_isRead 10 = .ok (.invokestatic 29, 3) := by decide +kernel
theorem dX5_isRead_13 : decode cX5_isRead 13 = .ok (.ifCond .eq 25, 3) := by decide +kernel
theorem dX5_isRead_16 : decode cX5_isRead 16 = .ok (.aload_n 0, 1) := by decide +kernel
theorem dX5_isRead_17 : decode cX5_isRead 17 = .ok (.getfield 7, 3) := by decide +kernel
theorem dX5_isRead_20 : decode cX5_isRead 20 = .ok (.iload_n 1, 1) := by decide +kernel
theorem dX5_isRead_21 : decode cX5_isRead 21 = .ok (.sipush 129, 3) := by decide +kernel
theorem dX5_isRead_24 : decode cX5_isRead 24 = .ok (.iload_n 2, 1) := by decide +kernel
theorem dX5_isRead_25 : decode cX5_isRead 25 = .ok (.iadd, 1) := by decide +kernel
theorem dX5_isRead_26 : decode cX5_isRead 26 = .ok (.invokestatic 22, 3) := by decide +kernel
theorem dX5_isRead_29 : decode cX5_isRead 29 = .ok (.iaload, 1) := by decide +kernel
theorem dX5_isRead_30 : decode cX5_isRead 30 = .ok (.iconst 1, 1) := by decide +kernel
theorem dX5_isRead_31 : decode cX5_isRead 31 = .ok (.if_icmp .ne 7, 3) := by decide +kernel
theorem dX5_isRead_34 : decode cX5_isRead 34 = .ok (.iconst 1, 1) := by decide +kernel
theorem dX5_isRead_35 : decode cX5_isRead 35 = .ok (.goto 4, 3) := by decide +kernel
theorem dX5_isRead_38 : decode cX5_isRead 38 = .ok (.iconst 0, 1) := by decide +kernel
theorem dX5_isRead_39 : decode cX5_isRead 39 = .ok (.ireturn, 1) := by decide +kernel
set_option maxRecDepth 20000 in
theorem ggX5_correction_X5_of : GoodIn wsX5_correction wsX5_of := goodIn_r _ [5] (by decide +kernel) (by decide +kernel)
set_option maxRecDepth 20000 in
theorem gX5_correction_X5_of : GoodIn wsX5_correction (va_wsS RX5 22 yX5_of wsX5_of) := goodIn_app (goodIn_of _ (by decide +kernel)) ggX5_correction_X5_of
set_option maxRecDepth 20000 in
theorem ggX5_correction_X5_divide : GoodIn wsX5_correction wsX5_divide := goodIn_r _ [8] (by decide +kernel) (by decide +kernel)
set_option maxRecDepth 20000 in
theorem gX5_correction_X5_divide : GoodIn wsX5_correction (va_wsS RX5 44 yX5_divide wsX5_divide) := goodIn_app (goodIn_of _ (by decide +kernel)) ggX5_correction_X5_divide
theorem dX5_correction_0 : decode cX5_correction 0 = .ok (.iload_n 2, 1) := by decide +kernel
theorem dX5_correction_1 : decode cX5_correction 1 = .ok (.istore_n 3, 1) := by decide +kernel
theorem dX5_correction_2 : decode cX5_correction 2 = .ok (.aload_n 0, 1) := by decide +kernel
theorem dX5_correction_3 : decode cX5_correction 3 = .ok (.getfield 7, 3) := by decide +kernel
theorem dX5_correction_6 : decode cX5_correction 6 = .ok (.iload_n 1, 1) := by decide +kernel
theorem dX5_correction_7 : decode cX5_correction 7 = .ok (.sipush 610, 3) := by decide +kernel
theorem dX5_correction_10 : decode cX5_correction 10 = .ok (.iload_n 3, 1) := by decide +kernel
theorem dX5_correction_11 : decode cX5_correction 11 = .ok (.iadd, 1) := by decide +kernel
theorem dX5_correction_12 : decode cX5_correction 12 = .ok (.invokestatic 22, 3) := by decide +kernel
theorem dX5_correction_15 : decode cX5_correction 15 = .ok (.iaload, 1) := by decide +kernel
theorem dX5_correction_16 : decode cX5_correction 16 = .ok (.ifCond .ne 9, 3) := by decide +kernel
theorem dX5_correction_19 : decode cX5_correction 19 = .ok (.iinc 3 (-1), 3) := by decide +kernel
theorem dX5_correction_22 : decode cX5_correction 22 = .ok (.goto (-20), 3) := by decide +kernel
theorem dX5_correction_25 : decode cX5_correction 25 = .ok (.iload_n 2, 1) := by decide +kernel
theorem dX5_correction_26 : decode cX5_correction 26 = .ok (.iconst 1, 1) := by decide +kernel
theorem dX5_correction_27 : decode cX5_correction 27 = .ok (.iadd, 1) := by decide +kernel
theorem dX5_correction_28 : decode cX5_correction 28 = .ok (.istore 4, 2) := by decide +kernel
theorem dX5_correction_30 : decode cX5_correction 30 = .ok (.iload 4, 2) := by decide +kernel
theorem dX5_correction_32 : decode cX5_correction 32 = .ok (.bipush 120, 2) := by decide +kernel
theorem dX5_correction_34 : decode cX5_correction 34 = .ok (.if_icmp .gt 27, 3) := by decide +kernel
theorem dX5_correction_37 : decode cX5_correction 37 = .ok (.aload_n 0, 1) := by decide +kernel
theorem dX5_correction_38 : decode cX5_correction 38 = .ok (.getfield 7, 3) := by decide +kernel
theorem dX5_correction_41 : decode cX5_correction 41 = .ok (.iload_n 1, 1) := by decide +kernel
theorem dX5_correction_42 : decode cX5_correction 42 = .ok (.sipush 610, 3) := by decide +kernel
theorem dX5_correction_45 : decode cX5_correction 45 = .ok (.iload 4, 2) := by decide +kernel
theorem dX5_correction_47 : decode cX5_correction 47 = .ok (.iadd, 1) := by decide +kernel
theorem dX5_correction_48 : decode cX5_correction 48 = .ok (.invokestatic 22, 3) := by decide +kernel
theorem dX5_correction_51 : decode cX5_correction 51 = .ok (.iaload, 1) := by decide +kernel
theorem dX5_correction_52 : decode cX5_correction 52 = .ok (.ifCond .ne 9, 3) := by decide +kernel
theorem dX5_correction_55 : decode cX5_correction 55 = .ok (.iinc 4 1, 3) := by decide +kernel
theorem dX5_correction_58 : decode cX5_correction 58 = .ok (.goto (-28), 3) := by decide +kernel
theorem dX5_correction_61 : decode cX5_correction 61 = .ok (.aload_n 0, 1) := by decide +kernel
theorem dX5_correction_62 : decode cX5_correction 62 = .ok (.getfield 7, 3) := by decide +kernel
theorem dX5_correction_65 : decode cX5_correction 65 = .ok (.iload_n 1, 1) := by decide +kernel
theorem dX5_correction_66 : decode cX5_correction 66 = .ok (.sipush 489, 3) := by decide +kernel
theorem dX5_correction_69 : decode cX5_correction 69 = .ok (.iload_n 3, 1) := by decide +kernel
theorem dX5_correction_70 : decode cX5_correction 70 = .ok (.iadd, 1) := by decide +kernel
theorem dX5_correction_71 : decode cX5_correction 71 = .ok (.invokestatic 22, 3) := by decide +kernel
theorem dX5_correction_74 : decode cX5_correction 74 = .ok (.iaload, 1) := by decide +kernel
theorem dX5_correction_75 : decode cX5_correction 75 = .ok (.istore 5, 2) := by decide +kernel
theorem dX5_correction_77 : decode cX5_correction 77 = .ok (.iload 4, 2) := by decide +kernel
theorem dX5_correction_79 : decode cX5_correction 79 = .ok (.bipush 120, 2) := by decide +kernel
theorem dX5_correction_81 : decode cX5_correction 81 = .ok (.if_icmp .le 8, 3) := by decide +kernel
theorem dX5_correction_84 : decode cX5_correction 84 = .ok (.iload 5, 2) := by decide +kernel
theorem dX5_correction_86 : decode cX5_correction 86 = .ok (.goto 35, 3) := by decide +kernel
theorem dX5_correction_89 : decode cX5_correction 89 = .ok (.iload 5, 2) := by decide +kernel
theorem dX5_correction_91 : decode cX5_correction 91 = .ok (.aload_n 0, 1) := by decide +kernel
theorem dX5_correction_92 : decode cX5_correction 92 = .ok (.getfield 7, 3) := by decide +kernel
theorem dX5_correction_95 : decode cX5_correction 95 = .ok (.iload_n 1, 1) := by decide +kernel
theorem dX5_correction_96 : decode cX5_correction 96 = .ok (.sipush 489, 3) := by decide +kernel
theorem dX5_correction_99 : decode cX5_correction 99 = .ok (.iload 4, 2) := by decide +kernel
theorem dX5_correction_101 : decode cX5_correction 101 = .ok (.iadd, 1) := by decide +kernel
theorem dX5_correction_102 : decode cX5_correction 102 = .ok (.invokestatic 22, 3) := by decide +kernel
theorem dX5_correction_105 : decode cX5_correction 105 = .ok (.iaload, 1) := by decide +kernel
theorem dX5_correction_106 : decode cX5_correction 106 = .ok (.iload 5, 2) := by decide +kernel
theorem dX5_correction_108 : decode cX5_correction 108 = .ok (.isub, 1) := by decide +kernel
theorem dX5_correction_109 : decode cX5_correction 109 = .ok (.iload_n 2, 1) := by decide +kernel
theorem dX5_correction_110 : decode cX5_correction 110 = .ok (.iload_n 3, 1) := by decide +kernel
theorem dX5_correction_111 : decode cX5_correction 111 = .ok (.isub, 1) := by decide +kernel
theorem dX5_correction_112 : decode cX5_correction 112 = .ok (.imul, 1) := by decide +kernel
theorem dX5_correction_113 : decode cX5_correction 113 = .ok (.iload 4, 2) := by decide +kernel
theorem dX5_correction_115 : decode cX5_correction 115 = .ok (.iload_n 3, 1) := by decide +kernel
theorem dX5_correction_116 : decode cX5_correction 116 = .ok (.isub, 1) := by decide +kernel
theorem dX5_correction_117 : decode cX5_correction 117 = .ok (.invokestatic 44, 3) := by decide +kernel
theorem dX5_correction_120 : decode cX5_correction 120 = .ok (.iadd, 1) := by decide +kernel
theorem dX5_correction_121 : decode cX5_correction 121 = .ok (.ireturn, 1) := by decide +kernel
set_option maxRecDepth 20000 in
theorem ggX5_corrected_X5_of : GoodIn wsX5_corrected wsX5_of := goodIn_r _ [5] (by decide +kernel) (by decide +kernel)
set_option maxRecDepth 20000 in
theorem gX5_corrected_X5_of : GoodIn wsX5_corrected (va_wsS RX5 22 yX5_of wsX5_of) := goodIn_app (goodIn_of _ (by decide +kernel)) ggX5_corrected_X5_of
set_option maxRecDepth 20000 in
theorem ggX5_corrected_X5_correction : GoodIn wsX5_corrected wsX5_correction := goodIn_r _ [9, 1, 2, 3, 4, 5, 10, 11, 12, 13, 14, 15, 16, 17, 18, 19, 20, 21, 22] (by decide +kernel) (by decide +kernel)
set_option maxRecDepth 20000 in
theorem gX5_corrected_X5_correction : GoodIn wsX5_corrected (wsV RX5 96 RX5 yX5_correction wsX5_correction) := goodIn_app (goodIn_of _ (by decide +kernel)) ggX5_corrected_X5_correction
theorem dX5_corrected_0 : decode cX5_corrected 0 = .ok (.aload_n 0, 1) := by decide +kernel
theorem dX5_corrected_1 : decode cX5_corrected 1 = .ok (.getfield 7, 3) := by decide +kernel
theorem dX5_corrected_4 : decode cX5_corrected 4 = .ok (.iload_n 1, 1) := by decide +kernel
theorem dX5_corrected_5 : decode cX5_corrected 5 = .ok (.bipush 9, 2) := by decide +kernel
theorem dX5_corrected_7 : decode cX5_corrected 7 = .ok (.iload_n 2, 1) := by decide +kernel
theorem dX5_corrected_8 : decode cX5_corrected 8 = .ok (.iadd, 1) := by decide +kernel
theorem dX5_corrected_9 : decode cX5_corrected 9 = .ok (.invokestatic 22, 3) := by decide +kernel
theorem dX5_corrected_12 : decode cX5_corrected 12 = .ok (.iaload, 1) := by decide +kernel
theorem dX5_corrected_13 : decode cX5_corrected 13 = .ok (.aload_n 0, 1) := by decide +kernel
theorem dX5_corrected_14 : decode cX5_corrected 14 = .ok (.iload_n 1, 1) := by decide +kernel
theorem dX5_corrected_15 : decode cX5_corrected 15 = .ok (.iload_n 2, 1) := by decide +kernel
theorem dX5_corrected_16 : decode cX5_corrected 16 = .ok (.invokevirtual 96, 3) := by decide +kernel
theorem dX5_corrected_19 : decode cX5_corrected 19 = .ok (.isub, 1) := by decide +kernel
theorem dX5_corrected_20 : decode cX5_corrected 20 = .ok (.ireturn, 1) := by decide +kernel
set_option maxRecDepth 20000 in
theorem ggX5_isBegin_X5_in : GoodIn wsX5_isBegin wsX5_in := goodIn_r _ [5] (by decide +kernel) (by decide +kernel)
set_option maxRecDepth 20000 in
theorem gX5_isBegin_X5_in : GoodIn wsX5_isBegin (va_wsS RX5 29 yX5_in wsX5_in) := goodIn_app (goodIn_of _ (by decide +kernel)) ggX5_isBegin_X5_in
set_option maxRecDepth 20000 in
theorem ggX5_isBegin_X5_isRead : GoodIn wsX5_isBegin wsX5_isRead := goodIn_r _ [9, 1, 2, 3, 4, 5, 10, 11, 12, 13, 14, 15, 16, 17, 18, 19, 20, 21, 22] (by decide +kernel) (by decide +kernel)
set_option maxRecDepth 20000 in
theorem gX5_isBegin_X5_isRead : GoodIn wsX5_isBegin (wsV RX5 99 RX5 yX5_isRead wsX5_isRead) := goodIn_app (goodIn_of _ (by decide +kernel)) ggX5_isBegin_X5_isRead
theorem dX5_isBegin_0 : decode cX5_isBegin 0 = .ok (.iload_n 2, 1) := by decide +kernel
theorem dX5_isBegin_1 : decode cX5_isBegin 1 = .ok (.iconst 0, 1) := by decide +kernel
theorem dX5_isBegin_2 : decode cX5_isBegin 2 = .ok (.aload_n 0, 1) := by decide +kernel
theorem dX5_isBegin_3 : decode cX5_isBegin 3 = .ok (.getfield 7, 3) := by decide +kernel
theorem dX5_isBegin_6 : decode cX5_isBegin 6 = .ok (.iconst 0, 1) := by decide +kernel
theorem dX5_isBegin_7 : decode cX5_isBegin 7 = .ok (.iaload, 1) := by decide +kernel
theorem dX5_isBegin_8 : decode cX5_isBegin 8 = .ok (.iconst 1, 1) := by decide +kernel
theorem dX5_isBegin_9 : decode cX5_isBegin 9 = .ok (.isub, 1) := by decide +kernel
theorem dX5_isBegin_10 : decode cX5_isBegin 10 = .ok (.invokestatic 29, 3) := by decide +kernel
theorem dX5_isBegin_13 : decode cX5_isBegin 13 = .ok (.ifCond .eq 31, 3) := by decide +kernel
theorem dX5_isBegin_16 : decode cX5_isBegin 16 = .ok (.aload_n 0, 1) := by decide +kernel
theorem dX5_isBegin_17 : decode cX5_isBegin 17 = .ok (.iload_n 1, 1) := by decide +kernel
theorem dX5_isBegin_18 : decode cX5_isBegin 18 = .ok (.iload_n 2, 1) := by decide +kernel
theorem dX5_isBegin_19 : decode cX5_isBegin 19 = .ok (.invokevirtual 99, 3) := by decide +kernel
theorem dX5_isBegin_22 : decode cX5_isBegin 22 = .ok (.ifCond .ne 22, 3) := by decide +kernel
theorem dX5_isBegin_25 : decode cX5_isBegin 25 = .ok (.iload_n 2, 1) := by decide +kernel
theorem dX5_isBegin_26 : decode cX5_isBegin 26 = .ok (.ifCond .eq 14, 3) := by decide +kernel
theorem dX5_isBegin_29 : decode cX5_isBegin 29 = .ok (.aload_n 0, 1) := by decide +kernel
theorem dX5_isBegin_30 : decode cX5_isBegin 30 = .ok (.iload_n 1, 1) := by decide +kernel
theorem dX5_isBegin_31 : decode cX5_isBegin 31 = .ok (.iload_n 2, 1) := by decide +kernel
theorem dX5_isBegin_32 : decode cX5_isBegin 32 = .ok (.iconst 1, 1) := by decide +kernel
theorem dX5_isBegin_33 : decode cX5_isBegin 33 = .ok (.isub, 1) := by decide +kernel
theorem dX5_isBegin_34 : decode cX5_isBegin 34 = .ok (.invokevirtual 99, 3) := by decide +kernel
theorem dX5_isBegin_37 : decode cX5_isBegin 37 = .ok (.ifCond .eq 7, 3) := by decide +kernel
theorem dX5_isBegin_40 : decode cX5_isBegin 40 = .ok (.iconst 1, 1) := by decide +kernel
theorem dX5_isBegin_41 : decode cX5_isBegin 41 = .ok (.goto 4, 3) := by decide +kernel
theorem dX5_isBegin_44 : decode cX5_isBegin 44 = .ok (.iconst 0, 1) := by decide +kernel
theorem dX5_isBegin_45 : decode cX5_isBegin 45 = .ok (.ireturn, 1) := by decide +kernel
set_option maxRecDepth 20000 in
theorem ggX5_gapsOf_X5_isBegin : GoodIn wsX5_gapsOf wsX5_isBegin := goodIn_r _ [6, 1, 7, 8, 5, 9, 10, 11, 12, 13, 14, 15, 16, 17, 18, 19, 20, 21, 22, 23, 24, 25, 26] (by decide +kernel) (by decide +kernel)
set_option maxRecDepth 20000 in
theorem gX5_gapsOf_X5_isBegin : GoodIn wsX5_gapsOf (wsV RX5 103 RX5 yX5_isBegin wsX5_isBegin) := goodIn_app (goodIn_of _ (by decide +kernel)) ggX5_gapsOf_X5_isBegin
theorem dX5_gapsOf_0 : decode cX5_gapsOf 0 = .ok (.iconst 0, 1) := by decide +kernel
theorem dX5_gapsOf_1 : decode cX5_gapsOf 1 = .ok (.istore_n 2, 1) := by decide +kernel
theorem dX5_gapsOf_2 : decode cX5_gapsOf 2 = .ok (.iconst 0, 1) := by decide +kernel
theorem dX5_gapsOf_3 : decode cX5_gapsOf 3 = .ok (.istore_n 3, 1) := by decide +kernel
theorem dX5_gapsOf_4 : decode cX5_gapsOf 4 = .ok (.iload_n 3, 1) := by decide +kernel
theorem dX5_gapsOf_5 : decode cX5_gapsOf 5 = .ok (.aload_n 0, 1) := by decide +kernel
theorem dX5_gapsOf_6 : decode cX5_gapsOf 6 = .ok (.getfield 7, 3) := by decide +kernel
theorem dX5_gapsOf_9 : decode cX5_gapsOf 9 = .ok (.iconst 0, 1) := by decide +kernel
theorem dX5_gapsOf_10 : decode cX5_gapsOf 10 = .ok (.iaload, 1) := by decide +kernel
theorem dX5_gapsOf_11 : decode cX5_gapsOf 11 = .ok (.if_icmp .ge 26, 3) := by decide +kernel
theorem dX5_gapsOf_14 : decode cX5_gapsOf 14 = .ok (.iload_n 2, 1) := by decide +kernel
theorem dX5_gapsOf_15 : decode cX5_gapsOf 15 = .ok (.aload_n 0, 1) := by decide +kernel
theorem dX5_gapsOf_16 : decode cX5_gapsOf 16 = .ok (.iload_n 1, 1) := by decide +kernel
theorem dX5_gapsOf_17 : decode cX5_gapsOf 17 = .ok (.iload_n 3, 1) := by decide +kernel
theorem dX5_gapsOf_18 : decode cX5_gapsOf 18 = .ok (.invokevirtual 103, 3) := by decide +kernel
theorem dX5_gapsOf_21 : decode cX5_gapsOf 21 = .ok (.ifCond .eq 7, 3) := by decide +kernel
theorem dX5_gapsOf_24 : decode cX5_gapsOf 24 = .ok (.iconst 1, 1) := by decide +kernel
theorem dX5_gapsOf_25 : decode cX5_gapsOf 25 = .ok (.goto 4, 3) := by decide +kernel
theorem dX5_gapsOf_28 : decode cX5_gapsOf 28 = .ok (.iconst 0, 1) := by decide +kernel
theorem dX5_gapsOf_29 : decode cX5_gapsOf 29 = .ok (.iadd, 1) := by decide +kernel
theorem dX5_gapsOf_30 : decode cX5_gapsOf 30 = .ok (.istore_n 2, 1) := by decide +kernel
theorem dX5_gapsOf_31 : decode cX5_gapsOf 31 = .ok (.iinc 3 1, 3) := by decide +kernel
theorem dX5_gapsOf_34 : decode cX5_gapsOf 34 = .ok (.goto (-30), 3) := by decide +kernel
theorem dX5_gapsOf_37 : decode cX5_gapsOf 37 = .ok (.iload_n 2, 1) := by decide +kernel
theorem dX5_gapsOf_38 : decode cX5_gapsOf 38 = .ok (.ireturn, 1) := by decide +kernel
set_option maxRecDepth 20000 in
theorem ggX5_beginOf_X5_isBegin : GoodIn wsX5_beginOf wsX5_isBegin := goodIn_r _ [5, 6, 7, 8, 4, 9, 10, 11, 12, 13, 14, 15, 16, 17, 18, 19, 20, 21, 22, 23, 24, 25, 26] (by decide +kernel) (by decide +kernel)
set_option maxRecDepth 20000 in
theorem gX5_beginOf_X5_isBegin : GoodIn wsX5_beginOf (wsV RX5 103 RX5 yX5_isBegin wsX5_isBegin) := goodIn_app (goodIn_of _ (by decide +kernel)) ggX5_beginOf_X5_isBegin
theorem dX5_beginOf_0 : decode cX5_beginOf 0 = .ok (.iconst (-1), 1) := by decide +kernel
theorem dX5_beginOf_1 : decode cX5_beginOf 1 = .ok (.istore_n 3, 1) := by decide +kernel
theorem dX5_beginOf_2 : decode cX5_beginOf 2 = .ok (.iconst 0, 1) := by decide +kernel
theorem dX5_beginOf_3 : decode cX5_beginOf 3 = .ok (.istore 4, 2) := by decide +kernel
theorem dX5_beginOf_5 : decode cX5_beginOf 5 = .ok (.iload 4, 2) := by decide +kernel
theorem dX5_beginOf_7 : decode cX5_beginOf 7 = .ok (.iload_n 2, 1) := by decide +kernel
theorem dX5_beginOf_8 : decode cX5_beginOf 8 = .ok (.if_icmp .gt 27, 3) := by decide +kernel
theorem dX5_beginOf_11 : decode cX5_beginOf 11 = .ok (.iinc 3 1, 3) := by decide +kernel
theorem dX5_beginOf_14 : decode cX5_beginOf 14 = .ok (.aload_n 0, 1) := by decide +kernel
theorem dX5_beginOf_15 : decode cX5_beginOf 15 = .ok (.iload_n 1, 1) := by decide +kernel
theorem dX5_beginOf_16 : decode cX5_beginOf 16 = .ok (.iload_n 3, 1) := by decide +kernel
theorem dX5_beginOf_17 : decode cX5_beginOf 17 = .ok (.invokevirtual 103, 3) := by decide +kernel
theorem dX5_beginOf_20 : decode cX5_beginOf 20 = .ok (.ifCond .ne 9, 3) := by decide +kernel
theorem dX5_beginOf_23 : decode cX5_beginOf 23 = .ok (.iinc 3 1, 3) := by decide +kernel
theorem dX5_beginOf_26 : decode cX5_beginOf 26 = .ok (.goto (-12), 3) := by decide +kernel
theorem dX5_beginOf_29 : decode cX5_beginOf 29 = .ok (.iinc 4 1, 3) := by decide +kernel
theorem dX5_beginOf_32 : decode cX5_beginOf 32 = .ok (.goto (-27), 3) := by decide +kernel
theorem dX5_beginOf_35 : decode cX5_beginOf 35 = .ok (.iload_n 3, 1) := by decide +kernel
theorem dX5_beginOf_36 : decode cX5_beginOf 36 = .ok (.ireturn, 1) := by decide +kernel
set_option maxRecDepth 20000 in
theorem ggX5_endOf_X5_isRead : GoodIn wsX5_endOf wsX5_isRead := goodIn_r _ [6, 1, 7, 8, 5, 9, 10, 11, 12, 13, 14, 15, 16, 17, 18, 19, 20, 21, 22] (by decide +kernel) (by decide +kernel)
set_option maxRecDepth 20000 in
theorem gX5_endOf_X5_isRead : GoodIn wsX5_endOf (wsV RX5 99 RX5 yX5_isRead wsX5_isRead) := goodIn_app (goodIn_of _ (by decide +kernel)) ggX5_endOf_X5_isRead
theorem dX5_endOf_0 : decode cX5_endOf 0 = .ok (.iload_n 2, 1) := by decide +kernel
theorem dX5_endOf_1 : decode cX5_endOf 1 = .ok (.istore_n 3, 1) := by decide +kernel
theorem dX5_endOf_2 : decode cX5_endOf 2 = .ok (.iload_n 3, 1) := by decide +kernel
theorem dX5_endOf_3 : decode cX5_endOf 3 = .ok (.iconst 1, 1) := by decide +kernel
theorem dX5_endOf_4 : decode cX5_endOf 4 = .ok (.iadd, 1) := by decide +kernel
theorem dX5_endOf_5 : decode cX5_endOf 5 = .ok (.aload_n 0, 1) := by decide +kernel
theorem dX5_endOf_6 : decode cX5_endOf 6 = .ok (.getfield 7, 3) := by decide +kernel
theorem dX5_endOf_9 : decode cX5_endOf 9 = .ok (.iconst 0, 1) := by decide +kernel
theorem dX5_endOf_10 : decode cX5_endOf 10 = .ok (.iaload, 1) := by decide +kernel
theorem dX5_endOf_11 : decode cX5_endOf 11 = .ok (.if_icmp .ge 20, 3) := by decide +kernel
theorem dX5_endOf_14 : decode cX5_endOf 14 = .ok (.aload_n 0, 1) := by decide +kernel
theorem dX5_endOf_15 : decode cX5_endOf 15 = .ok (.iload_n 1, 1) := by decide +kernel
theorem dX5_endOf_16 : decode cX5_endOf 16 = .ok (.iload_n 3, 1) := by decide +kernel
theorem dX5_endOf_17 : decode cX5_endOf 17 = .ok (.iconst 1, 1) := by decide +kernel
theorem dX5_endOf_18 : decode cX5_endOf 18 = .ok (.iadd, 1) := by decide +kernel
theorem dX5_endOf_19 : decode cX5_endOf 19 = .ok (.invokevirtual 99, 3) := by decide +kernel
theorem dX5_endOf_22 : decode cX5_endOf 22 = .ok (.ifCond .ne 9, 3) := by decide +kernel
theorem dX5_endOf_25 : decode cX5_endOf 25 = .ok (.iinc 3 1, 3) := by decide +kernel
theorem dX5_endOf_28 : decode cX5_endOf 28 = .ok (.goto (-26), 3) := by decide +kernel
theorem dX5_endOf_31 : decode cX5_endOf 31 = .ok (.iload_n 3, 1) := by decide +kernel
theorem dX5_endOf_32 : decode cX5_endOf 32 = .ok (.ireturn, 1) := by decide +kernel
set_option maxRecDepth 20000 in
theorem ggX5_isGap_X5_gapsOf : GoodIn wsX5_isGap wsX5_gapsOf := goodIn_r _ [5, 6, 7, 8, 9, 4, 10, 11, 12, 13, 14, 15, 16, 17, 18, 19, 20, 21, 22, 23, 24, 25, 26, 27, 28, 29, 30] (by decide +kernel) (by decide +kernel)
set_option maxRecDepth 20000 in
theorem gX5_isGap_X5_gapsOf : GoodIn wsX5_isGap (wsV RX5 106 RX5 yX5_gapsOf wsX5_gapsOf) := goodIn_app (goodIn_of _ (by decide +kernel)) ggX5_isGap_X5_gapsOf
set_option maxRecDepth 20000 in
theorem ggX5_isGap_X5_in : GoodIn wsX5_isGap wsX5_in := goodIn_r _ [13] (by decide +kernel) (by decide +kernel)
set_option maxRecDepth 20000 in
theorem gX5_isGap_X5_in : GoodIn wsX5_isGap (va_wsS RX5 29 yX5_in wsX5_in) := goodIn_app (goodIn_of _ (by decide +kernel)) ggX5_isGap_X5_in
theorem dX5_isGap_0 : decode cX5_isGap 0 = .ok (.iload_n 2, 1) := by decide +kernel
theorem dX5_isGap_1 : decode cX5_isGap 1 = .ok (.iconst 0, 1) := by decide +kernel
theorem dX5_isGap_2 : decode cX5_isGap 2 = .ok (.aload_n 0, 1) := by decide +kernel
theorem dX5_isGap_3 : decode cX5_isGap 3 = .ok (.iload_n 1, 1) := by decide +kernel
theorem dX5_isGap_4 : decode cX5_isGap 4 = .ok (.invokevirtual 106, 3) := by decide +kernel
theorem dX5_isGap_7 : decode cX5_isGap 7 = .ok (.iconst 1, 1) := by decide +kernel
theorem dX5_isGap_8 : decode cX5_isGap 8 = .ok (.isub, 1) := by decide +kernel
theorem dX5_isGap_9 : decode cX5_isGap 9 = .ok (.invokestatic 29, 3) := by decide +kernel
theorem dX5_isGap_12 : decode cX5_isGap 12 = .ok (.ireturn, 1) := by decide +kernel
set_option maxRecDepth 20000 in
theorem ggX5_isInner_X5_beginOf : GoodIn wsX5_isInner wsX5_beginOf := goodIn_r _ [6, 7, 8, 9, 5, 10, 1, 11, 12, 13, 14, 15, 16, 17, 18, 19, 20, 25, 26, 27, 28, 29, 30, 31, 32, 33, 34] (by decide +kernel) (by decide +kernel)
set_option maxRecDepth 20000 in
theorem gX5_isInner_X5_beginOf : GoodIn wsX5_isInner (wsV RX5 109 RX5 yX5_beginOf wsX5_beginOf) := goodIn_app (goodIn_of _ (by decide +kernel)) ggX5_isInner_X5_beginOf
set_option maxRecDepth 20000 in
theorem ggX5_isInner_X5_endOf : GoodIn wsX5_isInner wsX5_endOf := goodIn_r _ [24, 1, 14, 15, 16, 5, 17, 11, 12, 13, 18, 19, 20, 25, 26, 27, 28, 29, 30, 31, 32, 33, 34] (by decide +kernel) (by decide +kernel)
set_option maxRecDepth 20000 in
theorem gX5_isInner_X5_endOf : GoodIn wsX5_isInner (wsV RX5 112 RX5 yX5_endOf wsX5_endOf) := goodIn_app (goodIn_of _ (by decide +kernel)) ggX5_isInner_X5_endOf
theorem dX5_isInner_0 : decode cX5_isInner 0 = .ok (.aload_n 0, 1) := by decide +kernel
theorem dX5_isInner_1 : decode cX5_isInner 1 = .ok (.iload_n 1, 1) := by decide +kernel
theorem dX5_isInner_2 : decode cX5_isInner 2 = .ok (.iload_n 2, 1) := by decide +kernel
theorem dX5_isInner_3 : decode cX5_isInner 3 = .ok (.invokevirtual 109, 3) := by decide +kernel
theorem dX5_isInner_6 : decode cX5_isInner 6 = .ok (.ifCond .le 29, 3) := by decide +kernel
theorem dX5_isInner_9 : decode cX5_isInner 9 = .ok (.aload_n 0, 1) := by decide +kernel
theorem dX5_isInner_10 : decode cX5_isInner 10 = .ok (.iload_n 1, 1) := by decide +kernel
theorem dX5_isInner_11 : decode cX5_isInner 11 = .ok (.aload_n 0, 1) := by decide +kernel
theorem dX5_isInner_12 : decode cX5_isInner 12 = .ok (.iload_n 1, 1) := by decide +kernel
theorem dX5_isInner_13 : decode cX5_isInner 13 = .ok (.iload_n 2, 1) := by decide +kernel
theorem dX5_isInner_14 : decode cX5_isInner 14 = .ok (.invokevirtual 109, 3) := by decide +kernel
theorem dX5_isInner_17 : decode cX5_isInner 17 = .ok (.invokevirtual 112, 3) := by decide +kernel
theorem dX5_isInner_20 : decode cX5_isInner 20 = .ok (.aload_n 0, 1) := by decide +kernel
theorem dX5_isInner_21 : decode cX5_isInner 21 = .ok (.getfield 7, 3) := by decide +kernel
theorem dX5_isInner_24 : decode cX5_isInner 24 = .ok (.iconst 0, 1) := by decide +kernel
theorem dX5_isInner_25 : decode cX5_isInner 25 = .ok (.iaload, 1) := by decide +kernel
theorem dX5_isInner_26 : decode cX5_isInner 26 = .ok (.iconst 1, 1) := by decide +kernel
theorem dX5_isInner_27 : decode cX5_isInner 27 = .ok (.isub, 1) := by decide +kernel
theorem dX5_isInner_28 : decode cX5_isInner 28 = .ok (.if_icmp .ge 7, 3) := by decide +kernel
theorem dX5_isInner_31 : decode cX5_isInner 31 = .ok (.iconst 1, 1) := by decide +kernel
theorem dX5_isInner_32 : decode cX5_isInner 32 = .ok (.goto 4, 3) := by decide +kernel
theorem dX5_isInner_35 : decode cX5_isInner 35 = .ok (.iconst 0, 1) := by decide +kernel
theorem dX5_isInner_36 : decode cX5_isInner 36 = .ok (.ireturn, 1) := by decide +kernel
set_option maxRecDepth 20000 in
theorem ggX5_canMend_X5_beginOf : GoodIn wsX5_canMend wsX5_beginOf := goodIn_r _ [5, 6, 7, 8, 4, 9, 10, 11, 12, 13, 14, 15, 16, 17, 18, 19, 20, 25, 26, 27, 28, 29, 30, 31, 32, 33, 34] (by decide +kernel) (by decide +kernel)
set_option maxRecDepth 20000 in
theorem gX5_canMend_X5_beginOf : GoodIn wsX5_canMend (wsV RX5 109 RX5 yX5_beginOf wsX5_beginOf) := goodIn_app (goodIn_of _ (by decide +kernel)) ggX5_canMend_X5_beginOf
set_option maxRecDepth 20000 in
theorem ggX5_canMend_X5_endOf : GoodIn wsX5_canMend wsX5_endOf := goodIn_r _ [24, 10, 14, 15, 16, 4, 17, 11, 12, 13, 18, 19, 20, 25, 26, 27, 28, 29, 30, 31, 32, 33, 34] (by decide +kernel) (by decide +kernel)
set_option maxRecDepth 20000 in
theorem gX5_canMend_X5_endOf : GoodIn wsX5_canMend (wsV RX5 112 RX5 yX5_endOf wsX5_endOf) := goodIn_app (goodIn_of _ (by decide +kernel)) ggX5_canMend_X5_endOf
set_option maxRecDepth 20000 in
theorem ggX5_canMend_X5_isRead : GoodIn wsX5_canMend wsX5_isRead := goodIn_r _ [17, 10, 11, 12, 4, 13, 18, 19, 20, 25, 26, 27, 28, 29, 30, 31, 32, 33, 34] (by decide +kernel) (by decide +kernel)
set_option maxRecDepth 20000 in
theorem gX5_canMend_X5_isRead : GoodIn wsX5_canMend (wsV RX5 99 RX5 yX5_isRead wsX5_isRead) := goodIn_app (goodIn_of _ (by decide +kernel)) ggX5_canMend_X5_isRead
theorem dX5_canMend_0 : decode cX5_canMend 0 = .ok (.aload_n 0, 1) := by decide +kernel
theorem dX5_canMend_1 : decode cX5_canMend 1 = .ok (.iload_n 1, 1) := by decide +kernel
theorem dX5_canMend_2 : decode cX5_canMend 2 = .ok (.iload_n 2, 1) := by decide +kernel
theorem dX5_canMend_3 : decode cX5_canMend 3 = .ok (.invokevirtual 109, 3) := by decide +kernel
theorem dX5_canMend_6 : decode cX5_canMend 6 = .ok (.istore 5, 2) := by decide +kernel
theorem dX5_canMend_8 : decode cX5_canMend 8 = .ok (.aload_n 0, 1) := by decide +kernel
theorem dX5_canMend_9 : decode cX5_canMend 9 = .ok (.iload_n 1, 1) := by decide +kernel
theorem dX5_canMend_10 : decode cX5_canMend 10 = .ok (.iload 5, 2) := by decide +kernel
theorem dX5_canMend_12 : decode cX5_canMend 12 = .ok (.invokevirtual 112, 3) := by decide +kernel
theorem dX5_canMend_15 : decode cX5_canMend 15 = .ok (.istore 6, 2) := by decide +kernel
theorem dX5_canMend_17 : decode cX5_canMend 17 = .ok (.iconst 1, 1) := by decide +kernel
theorem dX5_canMend_18 : decode cX5_canMend 18 = .ok (.istore 7, 2) := by decide +kernel
theorem dX5_canMend_20 : decode cX5_canMend 20 = .ok (.iload 5, 2) := by decide +kernel
theorem dX5_canMend_22 : decode cX5_canMend 22 = .ok (.iconst 1, 1) := by decide +kernel
theorem dX5_canMend_23 : decode cX5_canMend 23 = .ok (.isub, 1) := by decide +kernel
theorem dX5_canMend_24 : decode cX5_canMend 24 = .ok (.istore 8, 2) := by decide +kernel
theorem dX5_canMend_26 : decode cX5_canMend 26 = .ok (.iload 8, 2) := by decide +kernel
theorem dX5_canMend_28 : decode cX5_canMend 28 = .ok (.iload 6, 2) := by decide +kernel
theorem dX5_canMend_30 : decode cX5_canMend 30 = .ok (.iconst 1, 1) := by decide +kernel
theorem dX5_canMend_31 : decode cX5_canMend 31 = .ok (.iadd, 1) := by decide +kernel
theorem dX5_canMend_32 : decode cX5_canMend 32 = .ok (.if_icmp .gt 34, 3) := by decide +kernel
theorem dX5_canMend_35 : decode cX5_canMend 35 = .ok (.iload 7, 2) := by decide +kernel
theorem dX5_canMend_37 : decode cX5_canMend 37 = .ok (.ifCond .eq 20, 3) := by decide +kernel
theorem dX5_canMend_40 : decode cX5_canMend 40 = .ok (.aload_n 0, 1) := by decide +kernel
theorem dX5_canMend_41 : decode cX5_canMend 41 = .ok (.iload_n 3, 1) := by decide +kernel
theorem dX5_canMend_42 : decode cX5_canMend 42 = .ok (.iload 8, 2) := by decide +kernel
theorem dX5_canMend_44 : decode cX5_canMend 44 = .ok (.iload 4, 2) := by decide +kernel
theorem dX5_canMend_46 : decode cX5_canMend 46 = .ok (.iadd, 1) := by decide +kernel
theorem dX5_canMend_47 : decode cX5_canMend 47 = .ok (.invokevirtual 99, 3) := by decide +kernel
theorem dX5_canMend_50 : decode cX5_canMend 50 = .ok (.ifCond .eq 7, 3) := by decide +kernel
theorem dX5_canMend_53 : decode cX5_canMend 53 = .ok (.iconst 1, 1) := by decide +kernel
theorem dX5_canMend_54 : decode cX5_canMend 54 = .ok (.goto 4, 3) := by decide +kernel
theorem dX5_canMend_57 : decode cX5_canMend 57 = .ok (.iconst 0, 1) := by decide +kernel
theorem dX5_canMend_58 : decode cX5_canMend 58 = .ok (.istore 7, 2) := by decide +kernel
theorem dX5_canMend_60 : decode cX5_canMend 60 = .ok (.iinc 8 1, 3) := by decide +kernel
theorem dX5_canMend_63 : decode cX5_canMend 63 = .ok (.goto (-37), 3) := by decide +kernel
theorem dX5_canMend_66 : decode cX5_canMend 66 = .ok (.iload 7, 2) := by decide +kernel
theorem dX5_canMend_68 : decode cX5_canMend 68 = .ok (.ireturn, 1) := by decide +kernel
set_option maxRecDepth 20000 in
theorem ggX5_mend_X5_isStation : GoodIn wsX5_mend wsX5_isStation := goodIn_r _ [5, 6, 7, 4, 8] (by decide +kernel) (by decide +kernel)
set_option maxRecDepth 20000 in
theorem gX5_mend_X5_isStation : GoodIn wsX5_mend (va_wsS RX5 54 yX5_isStation wsX5_isStation) := goodIn_app (goodIn_of _ (by decide +kernel)) ggX5_mend_X5_isStation
set_option maxRecDepth 20000 in
theorem ggX5_mend_X5_isGap : GoodIn wsX5_mend wsX5_isGap := goodIn_r _ [12, 13, 14, 15, 4, 16, 1, 17, 18, 19, 20, 6, 7, 8, 21, 22, 23, 24, 25, 26, 27, 61, 62, 63, 64, 65, 66, 67, 68, 69, 70] (by decide +kernel) (by decide +kernel)
set_option maxRecDepth 20000 in
theorem gX5_mend_X5_isGap : GoodIn wsX5_mend (wsV RX5 115 RX5 yX5_isGap wsX5_isGap) := goodIn_app (goodIn_of _ (by decide +kernel)) ggX5_mend_X5_isGap
set_option maxRecDepth 20000 in
theorem ggX5_mend_X5_in : GoodIn wsX5_mend wsX5_in := goodIn_r _ [8] (by decide +kernel) (by decide +kernel)
set_option maxRecDepth 20000 in
theorem gX5_mend_X5_in : GoodIn wsX5_mend (va_wsS RX5 29 yX5_in wsX5_in) := goodIn_app (goodIn_of _ (by decide +kernel)) ggX5_mend_X5_in
set_option maxRecDepth 20000 in
theorem ggX5_mend_X5_isInner : GoodIn wsX5_mend wsX5_isInner := goodIn_r _ [31, 1, 32, 33, 34, 4, 35, 17, 18, 19, 20, 6, 7, 8, 21, 22, 23, 24, 25, 26, 27, 36, 37, 38, 39, 61, 62, 63, 64, 65, 66, 67, 68, 69, 70] (by decide +kernel) (by decide +kernel)
set_option maxRecDepth 20000 in
theorem gX5_mend_X5_isInner : GoodIn wsX5_mend (wsV RX5 118 RX5 yX5_isInner wsX5_isInner) := goodIn_app (goodIn_of _ (by decide +kernel)) ggX5_mend_X5_isInner
set_option maxRecDepth 20000 in
theorem ggX5_mend_X5_canMend : GoodIn wsX5_mend wsX5_canMend := goodIn_r _ [43, 32, 33, 34, 4, 35, 17, 18, 19, 20, 1, 6, 7, 8, 21, 22, 23, 24, 25, 26, 27, 36, 37, 38, 39, 61, 62, 63, 64, 65, 66, 67, 68, 69, 70] (by decide +kernel) (by decide +kernel)
set_option maxRecDepth 20000 in
theorem gX5_mend_X5_canMend : GoodIn wsX5_mend (wsV RX5 121 RX5 yX5_canMend wsX5_canMend) := goodIn_app (goodIn_of _ (by decide +kernel)) ggX5_mend_X5_canMend
set_option maxRecDepth 20000 in
theorem ggX5_mend_X5_know : GoodIn wsX5_mend wsX5_know := goodIn_r _ [47, 48, 49, 1, 61, 62, 63, 64, 65, 66, 67, 68, 69, 70] (by decide +kernel) (by decide +kernel)
set_option maxRecDepth 20000 in
theorem gX5_mend_X5_know : GoodIn wsX5_mend (wsV RX5 50 RX5 yX5_know wsX5_know) := goodIn_app (goodIn_of _ (by decide +kernel)) ggX5_mend_X5_know
set_option maxRecDepth 20000 in
theorem ggX5_mend_X5_beginOf : GoodIn wsX5_mend wsX5_beginOf := goodIn_r _ [35, 17, 18, 19, 4, 20, 1, 6, 7, 8, 21, 22, 23, 24, 25, 26, 27, 61, 62, 63, 64, 65, 66, 67, 68, 69, 70] (by decide +kernel) (by decide +kernel)
set_option maxRecDepth 20000 in
theorem gX5_mend_X5_beginOf : GoodIn wsX5_mend (wsV RX5 109 RX5 yX5_beginOf wsX5_beginOf) := goodIn_app (goodIn_of _ (by decide +kernel)) ggX5_mend_X5_beginOf
set_option maxRecDepth 20000 in
theorem ggX5_mend_X5_endOf : GoodIn wsX5_mend wsX5_endOf := goodIn_r _ [39, 1, 21, 22, 23, 4, 24, 6, 7, 8, 25, 26, 27, 61, 62, 63, 64, 65, 66, 67, 68, 69, 70] (by decide +kernel) (by decide +kernel)
set_option maxRecDepth 20000 in
theorem gX5_mend_X5_endOf : GoodIn wsX5_mend (wsV RX5 112 RX5 yX5_endOf wsX5_endOf) := goodIn_app (goodIn_of _ (by decide +kernel)) ggX5_mend_X5_endOf
set_option maxRecDepth 20000 in
theorem ggX5_mend_X5_corrected : GoodIn wsX5_mend wsX5_corrected := goodIn_r _ [53, 1, 25, 26, 4, 27, 54, 55, 56, 57, 58, 59, 60, 61, 62, 63, 64, 65, 66, 67, 68, 69, 70] (by decide +kernel) (by decide +kernel)
set_option maxRecDepth 20000 in
theorem gX5_mend_X5_corrected : GoodIn wsX5_mend (wsV RX5 125 RX5 yX5_corrected wsX5_corrected) := goodIn_app (goodIn_of _ (by decide +kernel)) ggX5_mend_X5_corrected
set_option maxRecDepth 20000 in
theorem ggX5_mend_X5_of : GoodIn wsX5_mend wsX5_of := goodIn_r _ [27] (by decide +kernel) (by decide +kernel)
set_option maxRecDepth 20000 in
theorem gX5_mend_X5_of : GoodIn wsX5_mend (va_wsS RX5 22 yX5_of wsX5_of) := goodIn_app (goodIn_of _ (by decide +kernel)) ggX5_mend_X5_of
set_option maxRecDepth 20000 in
theorem ggX5_mend_X5_divide : GoodIn wsX5_mend wsX5_divide := goodIn_r _ [60] (by decide +kernel) (by decide +kernel)
set_option maxRecDepth 20000 in
theorem gX5_mend_X5_divide : GoodIn wsX5_mend (va_wsS RX5 44 yX5_divide wsX5_divide) := goodIn_app (goodIn_of _ (by decide +kernel)) ggX5_mend_X5_divide
theorem dX5_mend_0 : decode cX5_mend 0 = .ok (.iload_n 1, 1) := by decide +kernel
theorem dX5_mend_1 : decode cX5_mend 1 = .ok (.invokestatic 54, 3) := by decide +kernel
theorem dX5_mend_4 : decode cX5_mend 4 = .ok (.ifCond .eq 19, 3) := by decide +kernel
theorem dX5_mend_7 : decode cX5_mend 7 = .ok (.aload_n 0, 1) := by decide +kernel
theorem dX5_mend_8 : decode cX5_mend 8 = .ok (.iload_n 1, 1) := by decide +kernel
theorem dX5_mend_9 : decode cX5_mend 9 = .ok (.iload_n 2, 1) := by decide +kernel
theorem dX5_mend_10 : decode cX5_mend 10 = .ok (.invokevirtual 115, 3) := by decide +kernel
theorem dX5_mend_13 : decode cX5_mend 13 = .ok (.ifCond .eq 10, 3) := by decide +kernel
theorem dX5_mend_16 : decode cX5_mend 16 = .ok (.iload_n 3, 1) := by decide +kernel
theorem dX5_mend_17 : decode cX5_mend 17 = .ok (.invokestatic 54, 3) := by decide +kernel
theorem dX5_mend_20 : decode cX5_mend 20 = .ok (.ifCond .ne 5, 3) := by decide +kernel
end
section
theorem dX5_mend_23 : decode cX5_mend 23 = .ok (.iconst (-1), 1) := by decide +kernel
theorem dX5_mend_24 : decode cX5_mend 24 = .ok (.ireturn, 1) := by decide +kernel
theorem dX5_mend_25 : decode cX5_mend 25 = .ok (.iload 4, 2) := by decide +kernel
theorem dX5_mend_27 : decode cX5_mend 27 = .ok (.bipush (-12), 2) := by decide +kernel
theorem dX5_mend_29 : decode cX5_mend 29 = .ok (.bipush 12, 2) := by decide +kernel
theorem dX5_mend_31 : decode cX5_mend 31 = .ok (.invokestatic 29, 3) := by decide +kernel
theorem dX5_mend_34 : decode cX5_mend 34 = .ok (.ifCond .eq 8, 3) := by decide +kernel
theorem dX5_mend_37 : decode cX5_mend 37 = .ok (.iload_n 3, 1) := by decide +kernel
theorem dX5_mend_38 : decode cX5_mend 38 = .ok (.iload_n 1, 1) := by decide +kernel
theorem dX5_mend_39 : decode cX5_mend 39 = .ok (.if_icmp .ne 6, 3) := by decide +kernel
theorem dX5_mend_42 : decode cX5_mend 42 = .ok (.bipush (-2), 2) := by decide +kernel
theorem dX5_mend_44 : decode cX5_mend 44 = .ok (.ireturn, 1) := by decide +kernel
theorem dX5_mend_45 : decode cX5_mend 45 = .ok (.aload_n 0, 1) := by decide +kernel
theorem dX5_mend_46 : decode cX5_mend 46 = .ok (.iload_n 1, 1) := by decide +kernel
theorem dX5_mend_47 : decode cX5_mend 47 = .ok (.iload_n 2, 1) := by decide +kernel
theorem dX5_mend_48 : decode cX5_mend 48 = .ok (.invokevirtual 118, 3) := by decide +kernel
theorem dX5_mend_51 : decode cX5_mend 51 = .ok (.ifCond .eq 15, 3) := by decide +kernel
theorem dX5_mend_54 : decode cX5_mend 54 = .ok (.aload_n 0, 1) := by decide +kernel
theorem dX5_mend_55 : decode cX5_mend 55 = .ok (.iload_n 1, 1) := by decide +kernel
theorem dX5_mend_56 : decode cX5_mend 56 = .ok (.iload_n 2, 1) := by decide +kernel
theorem dX5_mend_57 : decode cX5_mend 57 = .ok (.iload_n 3, 1) := by decide +kernel
theorem dX5_mend_58 : decode cX5_mend 58 = .ok (.iload 4, 2) := by decide +kernel
theorem dX5_mend_60 : decode cX5_mend 60 = .ok (.invokevirtual 121, 3) := by decide +kernel
theorem dX5_mend_63 : decode cX5_mend 63 = .ok (.ifCond .ne 6, 3) := by decide +kernel
theorem dX5_mend_66 : decode cX5_mend 66 = .ok (.bipush (-4), 2) := by decide +kernel
theorem dX5_mend_68 : decode cX5_mend 68 = .ok (.ireturn, 1) := by decide +kernel
theorem dX5_mend_69 : decode cX5_mend 69 = .ok (.aload_n 0, 1) := by decide +kernel
theorem dX5_mend_70 : decode cX5_mend 70 = .ok (.invokevirtual 50, 3) := by decide +kernel
theorem dX5_mend_73 : decode cX5_mend 73 = .ok (.aload_n 0, 1) := by decide +kernel
theorem dX5_mend_74 : decode cX5_mend 74 = .ok (.iload_n 1, 1) := by decide +kernel
theorem dX5_mend_75 : decode cX5_mend 75 = .ok (.iload_n 2, 1) := by decide +kernel
theorem dX5_mend_76 : decode cX5_mend 76 = .ok (.invokevirtual 109, 3) := by decide +kernel
theorem dX5_mend_79 : decode cX5_mend 79 = .ok (.iconst 1, 1) := by decide +kernel
theorem dX5_mend_80 : decode cX5_mend 80 = .ok (.isub, 1) := by decide +kernel
theorem dX5_mend_81 : decode cX5_mend 81 = .ok (.istore 5, 2) := by decide +kernel
theorem dX5_mend_83 : decode cX5_mend 83 = .ok (.aload_n 0, 1) := by decide +kernel
theorem dX5_mend_84 : decode cX5_mend 84 = .ok (.iload_n 1, 1) := by decide +kernel
theorem dX5_mend_85 : decode cX5_mend 85 = .ok (.iload 5, 2) := by decide +kernel
theorem dX5_mend_87 : decode cX5_mend 87 = .ok (.iconst 1, 1) := by decide +kernel
theorem dX5_mend_88 : decode cX5_mend 88 = .ok (.iadd, 1) := by decide +kernel
theorem dX5_mend_89 : decode cX5_mend 89 = .ok (.invokevirtual 112, 3) := by decide +kernel
theorem dX5_mend_92 : decode cX5_mend 92 = .ok (.iconst 1, 1) := by decide +kernel
theorem dX5_mend_93 : decode cX5_mend 93 = .ok (.iadd, 1) := by decide +kernel
theorem dX5_mend_94 : decode cX5_mend 94 = .ok (.istore 6, 2) := by decide +kernel
theorem dX5_mend_96 : decode cX5_mend 96 = .ok (.aload_n 0, 1) := by decide +kernel
theorem dX5_mend_97 : decode cX5_mend 97 = .ok (.iload_n 1, 1) := by decide +kernel
theorem dX5_mend_98 : decode cX5_mend 98 = .ok (.iload 5, 2) := by decide +kernel
theorem dX5_mend_100 : decode cX5_mend 100 = .ok (.invokevirtual 125, 3) := by decide +kernel
theorem dX5_mend_103 : decode cX5_mend 103 = .ok (.aload_n 0, 1) := by decide +kernel
theorem dX5_mend_104 : decode cX5_mend 104 = .ok (.iload_n 3, 1) := by decide +kernel
theorem dX5_mend_105 : decode cX5_mend 105 = .ok (.iload 5, 2) := by decide +kernel
theorem dX5_mend_107 : decode cX5_mend 107 = .ok (.iload 4, 2) := by decide +kernel
theorem dX5_mend_109 : decode cX5_mend 109 = .ok (.iadd, 1) := by decide +kernel
theorem dX5_mend_110 : decode cX5_mend 110 = .ok (.invokevirtual 125, 3) := by decide +kernel
theorem dX5_mend_113 : decode cX5_mend 113 = .ok (.isub, 1) := by decide +kernel
theorem dX5_mend_114 : decode cX5_mend 114 = .ok (.istore 7, 2) := by decide +kernel
theorem dX5_mend_116 : decode cX5_mend 116 = .ok (.aload_n 0, 1) := by decide +kernel
theorem dX5_mend_117 : decode cX5_mend 117 = .ok (.iload_n 1, 1) := by decide +kernel
theorem dX5_mend_118 : decode cX5_mend 118 = .ok (.iload 6, 2) := by decide +kernel
theorem dX5_mend_120 : decode cX5_mend 120 = .ok (.invokevirtual 125, 3) := by decide +kernel
theorem dX5_mend_123 : decode cX5_mend 123 = .ok (.aload_n 0, 1) := by decide +kernel
theorem dX5_mend_124 : decode cX5_mend 124 = .ok (.iload_n 3, 1) := by decide +kernel
theorem dX5_mend_125 : decode cX5_mend 125 = .ok (.iload 6, 2) := by decide +kernel
theorem dX5_mend_127 : decode cX5_mend 127 = .ok (.iload 4, 2) := by decide +kernel
theorem dX5_mend_129 : decode cX5_mend 129 = .ok (.iadd, 1) := by decide +kernel
theorem dX5_mend_130 : decode cX5_mend 130 = .ok (.invokevirtual 125, 3) := by decide +kernel
theorem dX5_mend_133 : decode cX5_mend 133 = .ok (.isub, 1) := by decide +kernel
theorem dX5_mend_134 : decode cX5_mend 134 = .ok (.istore 8, 2) := by decide +kernel
theorem dX5_mend_136 : decode cX5_mend 136 = .ok (.iload 5, 2) := by decide +kernel
theorem dX5_mend_138 : decode cX5_mend 138 = .ok (.iconst 1, 1) := by decide +kernel
theorem dX5_mend_139 : decode cX5_mend 139 = .ok (.iadd, 1) := by decide +kernel
theorem dX5_mend_140 : decode cX5_mend 140 = .ok (.istore 9, 2) := by decide +kernel
theorem dX5_mend_142 : decode cX5_mend 142 = .ok (.iload 9, 2) := by decide +kernel
theorem dX5_mend_144 : decode cX5_mend 144 = .ok (.iload 6, 2) := by decide +kernel
theorem dX5_mend_146 : decode cX5_mend 146 = .ok (.if_icmp .ge 73, 3) := by decide +kernel
theorem dX5_mend_149 : decode cX5_mend 149 = .ok (.aload_n 0, 1) := by decide +kernel
theorem dX5_mend_150 : decode cX5_mend 150 = .ok (.getfield 7, 3) := by decide +kernel
theorem dX5_mend_153 : decode cX5_mend 153 = .ok (.iload_n 1, 1) := by decide +kernel
theorem dX5_mend_154 : decode cX5_mend 154 = .ok (.sipush 369, 3) := by decide +kernel
theorem dX5_mend_157 : decode cX5_mend 157 = .ok (.iload 9, 2) := by decide +kernel
theorem dX5_mend_159 : decode cX5_mend 159 = .ok (.iadd, 1) := by decide +kernel
theorem dX5_mend_160 : decode cX5_mend 160 = .ok (.invokestatic 22, 3) := by decide +kernel
theorem dX5_mend_163 : decode cX5_mend 163 = .ok (.iconst 1, 1) := by decide +kernel
theorem dX5_mend_164 : decode cX5_mend 164 = .ok (.iastore, 1) := by decide +kernel
theorem dX5_mend_165 : decode cX5_mend 165 = .ok (.aload_n 0, 1) := by decide +kernel
theorem dX5_mend_166 : decode cX5_mend 166 = .ok (.getfield 7, 3) := by decide +kernel
theorem dX5_mend_169 : decode cX5_mend 169 = .ok (.iload_n 1, 1) := by decide +kernel
theorem dX5_mend_170 : decode cX5_mend 170 = .ok (.sipush 249, 3) := by decide +kernel
theorem dX5_mend_173 : decode cX5_mend 173 = .ok (.iload 9, 2) := by decide +kernel
theorem dX5_mend_175 : decode cX5_mend 175 = .ok (.iadd, 1) := by decide +kernel
theorem dX5_mend_176 : decode cX5_mend 176 = .ok (.invokestatic 22, 3) := by decide +kernel
theorem dX5_mend_179 : decode cX5_mend 179 = .ok (.aload_n 0, 1) := by decide +kernel
theorem dX5_mend_180 : decode cX5_mend 180 = .ok (.iload_n 3, 1) := by decide +kernel
theorem dX5_mend_181 : decode cX5_mend 181 = .ok (.iload 9, 2) := by decide +kernel
theorem dX5_mend_183 : decode cX5_mend 183 = .ok (.iload 4, 2) := by decide +kernel
theorem dX5_mend_185 : decode cX5_mend 185 = .ok (.iadd, 1) := by decide +kernel
theorem dX5_mend_186 : decode cX5_mend 186 = .ok (.invokevirtual 125, 3) := by decide +kernel
theorem dX5_mend_189 : decode cX5_mend 189 = .ok (.iload 7, 2) := by decide +kernel
theorem dX5_mend_191 : decode cX5_mend 191 = .ok (.iadd, 1) := by decide +kernel
theorem dX5_mend_192 : decode cX5_mend 192 = .ok (.iload 8, 2) := by decide +kernel
theorem dX5_mend_194 : decode cX5_mend 194 = .ok (.iload 7, 2) := by decide +kernel
theorem dX5_mend_196 : decode cX5_mend 196 = .ok (.isub, 1) := by decide +kernel
theorem dX5_mend_197 : decode cX5_mend 197 = .ok (.iload 9, 2) := by decide +kernel
theorem dX5_mend_199 : decode cX5_mend 199 = .ok (.iload 5, 2) := by decide +kernel
theorem dX5_mend_201 : decode cX5_mend 201 = .ok (.isub, 1) := by decide +kernel
theorem dX5_mend_202 : decode cX5_mend 202 = .ok (.imul, 1) := by decide +kernel
theorem dX5_mend_203 : decode cX5_mend 203 = .ok (.iload 6, 2) := by decide +kernel
theorem dX5_mend_205 : decode cX5_mend 205 = .ok (.iload 5, 2) := by decide +kernel
theorem dX5_mend_207 : decode cX5_mend 207 = .ok (.isub, 1) := by decide +kernel
theorem dX5_mend_208 : decode cX5_mend 208 = .ok (.invokestatic 44, 3) := by decide +kernel
theorem dX5_mend_211 : decode cX5_mend 211 = .ok (.iadd, 1) := by decide +kernel
theorem dX5_mend_212 : decode cX5_mend 212 = .ok (.iastore, 1) := by decide +kernel
theorem dX5_mend_213 : decode cX5_mend 213 = .ok (.iinc 9 1, 3) := by decide +kernel
theorem dX5_mend_216 : decode cX5_mend 216 = .ok (.goto (-74), 3) := by decide +kernel
theorem dX5_mend_219 : decode cX5_mend 219 = .ok (.iload 6, 2) := by decide +kernel
theorem dX5_mend_221 : decode cX5_mend 221 = .ok (.iload 5, 2) := by decide +kernel
theorem dX5_mend_223 : decode cX5_mend 223 = .ok (.isub, 1) := by decide +kernel
theorem dX5_mend_224 : decode cX5_mend 224 = .ok (.iconst 1, 1) := by decide +kernel
theorem dX5_mend_225 : decode cX5_mend 225 = .ok (.isub, 1) := by decide +kernel
theorem dX5_mend_226 : decode cX5_mend 226 = .ok (.ireturn, 1) := by decide +kernel
set_option maxRecDepth 20000 in
theorem ggX5_sum_X5_of : GoodIn wsX5_sum wsX5_of := goodIn_r _ [5] (by decide +kernel) (by decide +kernel)
set_option maxRecDepth 20000 in
theorem gX5_sum_X5_of : GoodIn wsX5_sum (va_wsS RX5 22 yX5_of wsX5_of) := goodIn_app (goodIn_of _ (by decide +kernel)) ggX5_sum_X5_of
theorem dX5_sum_0 : decode cX5_sum 0 = .ok (.iconst 0, 1) := by decide +kernel
theorem dX5_sum_1 : decode cX5_sum 1 = .ok (.istore_n 3, 1) := by decide +kernel
theorem dX5_sum_2 : decode cX5_sum 2 = .ok (.iconst 0, 1) := by decide +kernel
theorem dX5_sum_3 : decode cX5_sum 3 = .ok (.istore 4, 2) := by decide +kernel
theorem dX5_sum_5 : decode cX5_sum 5 = .ok (.iload 4, 2) := by decide +kernel
theorem dX5_sum_7 : decode cX5_sum 7 = .ok (.aload_n 0, 1) := by decide +kernel
theorem dX5_sum_8 : decode cX5_sum 8 = .ok (.getfield 7, 3) := by decide +kernel
theorem dX5_sum_11 : decode cX5_sum 11 = .ok (.iconst 0, 1) := by decide +kernel
theorem dX5_sum_12 : decode cX5_sum 12 = .ok (.iaload, 1) := by decide +kernel
theorem dX5_sum_13 : decode cX5_sum 13 = .ok (.if_icmp .ge 25, 3) := by decide +kernel
theorem dX5_sum_16 : decode cX5_sum 16 = .ok (.iload_n 3, 1) := by decide +kernel
theorem dX5_sum_17 : decode cX5_sum 17 = .ok (.aload_n 0, 1) := by decide +kernel
theorem dX5_sum_18 : decode cX5_sum 18 = .ok (.getfield 7, 3) := by decide +kernel
theorem dX5_sum_21 : decode cX5_sum 21 = .ok (.iload_n 1, 1) := by decide +kernel
theorem dX5_sum_22 : decode cX5_sum 22 = .ok (.iload_n 2, 1) := by decide +kernel
theorem dX5_sum_23 : decode cX5_sum 23 = .ok (.iload 4, 2) := by decide +kernel
theorem dX5_sum_25 : decode cX5_sum 25 = .ok (.iadd, 1) := by decide +kernel
theorem dX5_sum_26 : decode cX5_sum 26 = .ok (.invokestatic 22, 3) := by decide +kernel
theorem dX5_sum_29 : decode cX5_sum 29 = .ok (.iaload, 1) := by decide +kernel
theorem dX5_sum_30 : decode cX5_sum 30 = .ok (.iadd, 1) := by decide +kernel
theorem dX5_sum_31 : decode cX5_sum 31 = .ok (.istore_n 3, 1) := by decide +kernel
theorem dX5_sum_32 : decode cX5_sum 32 = .ok (.iinc 4 1, 3) := by decide +kernel
theorem dX5_sum_35 : decode cX5_sum 35 = .ok (.goto (-30), 3) := by decide +kernel
theorem dX5_sum_38 : decode cX5_sum 38 = .ok (.iload_n 3, 1) := by decide +kernel
theorem dX5_sum_39 : decode cX5_sum 39 = .ok (.ireturn, 1) := by decide +kernel
set_option maxRecDepth 20000 in
theorem ggX5_forget_X5_isStation : GoodIn wsX5_forget wsX5_isStation := goodIn_r _ [5, 6, 7, 4, 8] (by decide +kernel) (by decide +kernel)
set_option maxRecDepth 20000 in
theorem gX5_forget_X5_isStation : GoodIn wsX5_forget (va_wsS RX5 54 yX5_isStation wsX5_isStation) := goodIn_app (goodIn_of _ (by decide +kernel)) ggX5_forget_X5_isStation
set_option maxRecDepth 20000 in
theorem ggX5_forget_X5_sum : GoodIn wsX5_forget wsX5_sum := goodIn_r _ [12, 1, 13, 14, 4, 15, 22, 23, 24, 25, 26, 27, 28, 29, 30, 31] (by decide +kernel) (by decide +kernel)
set_option maxRecDepth 20000 in
theorem gX5_forget_X5_sum : GoodIn wsX5_forget (wsV RX5 128 RX5 yX5_sum wsX5_sum) := goodIn_app (goodIn_of _ (by decide +kernel)) ggX5_forget_X5_sum
set_option maxRecDepth 20000 in
theorem ggX5_forget_X5_know : GoodIn wsX5_forget wsX5_know := goodIn_r _ [19, 20, 21, 1, 22, 23, 24, 25, 26, 27, 28, 29, 30, 31] (by decide +kernel) (by decide +kernel)
set_option maxRecDepth 20000 in
theorem gX5_forget_X5_know : GoodIn wsX5_forget (wsV RX5 50 RX5 yX5_know wsX5_know) := goodIn_app (goodIn_of _ (by decide +kernel)) ggX5_forget_X5_know
set_option maxRecDepth 20000 in
theorem ggX5_forget_X5_of : GoodIn wsX5_forget wsX5_of := goodIn_r _ [15] (by decide +kernel) (by decide +kernel)
set_option maxRecDepth 20000 in
theorem gX5_forget_X5_of : GoodIn wsX5_forget (va_wsS RX5 22 yX5_of wsX5_of) := goodIn_app (goodIn_of _ (by decide +kernel)) ggX5_forget_X5_of
theorem dX5_forget_0 : decode cX5_forget 0 = .ok (.iload_n 1, 1) := by decide +kernel
theorem dX5_forget_1 : decode cX5_forget 1 = .ok (.invokestatic 54, 3) := by decide +kernel
theorem dX5_forget_4 : decode cX5_forget 4 = .ok (.ifCond .ne 5, 3) := by decide +kernel
theorem dX5_forget_7 : decode cX5_forget 7 = .ok (.iconst (-1), 1) := by decide +kernel
theorem dX5_forget_8 : decode cX5_forget 8 = .ok (.ireturn, 1) := by decide +kernel
theorem dX5_forget_9 : decode cX5_forget 9 = .ok (.aload_n 0, 1) := by decide +kernel
theorem dX5_forget_10 : decode cX5_forget 10 = .ok (.iload_n 1, 1) := by decide +kernel
theorem dX5_forget_11 : decode cX5_forget 11 = .ok (.sipush 369, 3) := by decide +kernel
theorem dX5_forget_14 : decode cX5_forget 14 = .ok (.invokevirtual 128, 3) := by decide +kernel
theorem dX5_forget_17 : decode cX5_forget 17 = .ok (.istore_n 2, 1) := by decide +kernel
theorem dX5_forget_18 : decode cX5_forget 18 = .ok (.iload_n 2, 1) := by decide +kernel
theorem dX5_forget_19 : decode cX5_forget 19 = .ok (.ifCond .ne 6, 3) := by decide +kernel
theorem dX5_forget_22 : decode cX5_forget 22 = .ok (.bipush (-5), 2) := by decide +kernel
theorem dX5_forget_24 : decode cX5_forget 24 = .ok (.ireturn, 1) := by decide +kernel
theorem dX5_forget_25 : decode cX5_forget 25 = .ok (.aload_n 0, 1) := by decide +kernel
theorem dX5_forget_26 : decode cX5_forget 26 = .ok (.invokevirtual 50, 3) := by decide +kernel
theorem dX5_forget_29 : decode cX5_forget 29 = .ok (.iconst 0, 1) := by decide +kernel
theorem dX5_forget_30 : decode cX5_forget 30 = .ok (.istore_n 3, 1) := by decide +kernel
theorem dX5_forget_31 : decode cX5_forget 31 = .ok (.iload_n 3, 1) := by decide +kernel
theorem dX5_forget_32 : decode cX5_forget 32 = .ok (.bipush 120, 2) := by decide +kernel
theorem dX5_forget_34 : decode cX5_forget 34 = .ok (.if_icmp .ge 39, 3) := by decide +kernel
theorem dX5_forget_37 : decode cX5_forget 37 = .ok (.aload_n 0, 1) := by decide +kernel
theorem dX5_forget_38 : decode cX5_forget 38 = .ok (.getfield 7, 3) := by decide +kernel
theorem dX5_forget_41 : decode cX5_forget 41 = .ok (.iload_n 1, 1) := by decide +kernel
theorem dX5_forget_42 : decode cX5_forget 42 = .ok (.sipush 369, 3) := by decide +kernel
theorem dX5_forget_45 : decode cX5_forget 45 = .ok (.iload_n 3, 1) := by decide +kernel
theorem dX5_forget_46 : decode cX5_forget 46 = .ok (.iadd, 1) := by decide +kernel
theorem dX5_forget_47 : decode cX5_forget 47 = .ok (.invokestatic 22, 3) := by decide +kernel
theorem dX5_forget_50 : decode cX5_forget 50 = .ok (.iconst 0, 1) := by decide +kernel
theorem dX5_forget_51 : decode cX5_forget 51 = .ok (.iastore, 1) := by decide +kernel
theorem dX5_forget_52 : decode cX5_forget 52 = .ok (.aload_n 0, 1) := by decide +kernel
theorem dX5_forget_53 : decode cX5_forget 53 = .ok (.getfield 7, 3) := by decide +kernel
theorem dX5_forget_56 : decode cX5_forget 56 = .ok (.iload_n 1, 1) := by decide +kernel
theorem dX5_forget_57 : decode cX5_forget 57 = .ok (.sipush 249, 3) := by decide +kernel
theorem dX5_forget_60 : decode cX5_forget 60 = .ok (.iload_n 3, 1) := by decide +kernel
theorem dX5_forget_61 : decode cX5_forget 61 = .ok (.iadd, 1) := by decide +kernel
theorem dX5_forget_62 : decode cX5_forget 62 = .ok (.invokestatic 22, 3) := by decide +kernel
theorem dX5_forget_65 : decode cX5_forget 65 = .ok (.iconst 0, 1) := by decide +kernel
theorem dX5_forget_66 : decode cX5_forget 66 = .ok (.iastore, 1) := by decide +kernel
theorem dX5_forget_67 : decode cX5_forget 67 = .ok (.iinc 3 1, 3) := by decide +kernel
theorem dX5_forget_70 : decode cX5_forget 70 = .ok (.goto (-39), 3) := by decide +kernel
theorem dX5_forget_73 : decode cX5_forget 73 = .ok (.iload_n 2, 1) := by decide +kernel
theorem dX5_forget_74 : decode cX5_forget 74 = .ok (.ireturn, 1) := by decide +kernel
theorem dX5_undo_0 : decode cX5_undo 0 = .ok (.aload_n 0, 1) := by decide +kernel
theorem dX5_undo_1 : decode cX5_undo 1 = .ok (.getfield 33, 3) := by decide +kernel
theorem dX5_undo_4 : decode cX5_undo 4 = .ok (.ifCond .ne 6, 3) := by decide +kernel
theorem dX5_undo_7 : decode cX5_undo 7 = .ok (.bipush (-5), 2) := by decide +kernel
theorem dX5_undo_9 : decode cX5_undo 9 = .ok (.ireturn, 1) := by decide +kernel
theorem dX5_undo_10 : decode cX5_undo 10 = .ok (.aload_n 0, 1) := by decide +kernel
theorem dX5_undo_11 : decode cX5_undo 11 = .ok (.dup, 1) := by decide +kernel
theorem dX5_undo_12 : decode cX5_undo 12 = .ok (.getfield 33, 3) := by decide +kernel
theorem dX5_undo_15 : decode cX5_undo 15 = .ok (.iconst 1, 1) := by decide +kernel
theorem dX5_undo_16 : decode cX5_undo 16 = .ok (.isub, 1) := by decide +kernel
theorem dX5_undo_17 : decode cX5_undo 17 = .ok (.putfield 33, 3) := by decide +kernel
theorem dX5_undo_20 : decode cX5_undo 20 = .ok (.iconst 0, 1) := by decide +kernel
theorem dX5_undo_21 : decode cX5_undo 21 = .ok (.istore_n 1, 1) := by decide +kernel
theorem dX5_undo_22 : decode cX5_undo 22 = .ok (.iload_n 1, 1) := by decide +kernel
theorem dX5_undo_23 : decode cX5_undo 23 = .ok (.sipush 2203, 3) := by decide +kernel
theorem dX5_undo_26 : decode cX5_undo 26 = .ok (.if_icmp .ge 30, 3) := by decide +kernel
theorem dX5_undo_29 : decode cX5_undo 29 = .ok (.aload_n 0, 1) := by decide +kernel
theorem dX5_undo_30 : decode cX5_undo 30 = .ok (.getfield 7, 3) := by decide +kernel
theorem dX5_undo_33 : decode cX5_undo 33 = .ok (.iload_n 1, 1) := by decide +kernel
theorem dX5_undo_34 : decode cX5_undo 34 = .ok (.aload_n 0, 1) := by decide +kernel
theorem dX5_undo_35 : decode cX5_undo 35 = .ok (.getfield 13, 3) := by decide +kernel
theorem dX5_undo_38 : decode cX5_undo 38 = .ok (.sipush 2203, 3) := by decide +kernel
theorem dX5_undo_41 : decode cX5_undo 41 = .ok (.aload_n 0, 1) := by decide +kernel
theorem dX5_undo_42 : decode cX5_undo 42 = .ok (.getfield 33, 3) := by decide +kernel
theorem dX5_undo_45 : decode cX5_undo 45 = .ok (.imul, 1) := by decide +kernel
theorem dX5_undo_46 : decode cX5_undo 46 = .ok (.iload_n 1, 1) := by decide +kernel
theorem dX5_undo_47 : decode cX5_undo 47 = .ok (.iadd, 1) := by decide +kernel
theorem dX5_undo_48 : decode cX5_undo 48 = .ok (.iaload, 1) := by decide +kernel
theorem dX5_undo_49 : decode cX5_undo 49 = .ok (.iastore, 1) := by decide +kernel
theorem dX5_undo_50 : decode cX5_undo 50 = .ok (.iinc 1 1, 3) := by decide +kernel
theorem dX5_undo_53 : decode cX5_undo 53 = .ok (.goto (-31), 3) := by decide +kernel
theorem dX5_undo_56 : decode cX5_undo 56 = .ok (.aload_n 0, 1) := by decide +kernel
theorem dX5_undo_57 : decode cX5_undo 57 = .ok (.getfield 33, 3) := by decide +kernel
theorem dX5_undo_60 : decode cX5_undo 60 = .ok (.ireturn, 1) := by decide +kernel
theorem dX5_keep_0 : decode cX5_keep 0 = .ok (.iconst 0, 1) := by decide +kernel
theorem dX5_keep_1 : decode cX5_keep 1 = .ok (.istore_n 1, 1) := by decide +kernel
theorem dX5_keep_2 : decode cX5_keep 2 = .ok (.iload_n 1, 1) := by decide +kernel
theorem dX5_keep_3 : decode cX5_keep 3 = .ok (.sipush 2203, 3) := by decide +kernel
theorem dX5_keep_6 : decode cX5_keep 6 = .ok (.if_icmp .ge 21, 3) := by decide +kernel
theorem dX5_keep_9 : decode cX5_keep 9 = .ok (.aload_n 0, 1) := by decide +kernel
theorem dX5_keep_10 : decode cX5_keep 10 = .ok (.getfield 16, 3) := by decide +kernel
theorem dX5_keep_13 : decode cX5_keep 13 = .ok (.iload_n 1, 1) := by decide +kernel
theorem dX5_keep_14 : decode cX5_keep 14 = .ok (.aload_n 0, 1) := by decide +kernel
theorem dX5_keep_15 : decode cX5_keep 15 = .ok (.getfield 7, 3) := by decide +kernel
theorem dX5_keep_18 : decode cX5_keep 18 = .ok (.iload_n 1, 1) := by decide +kernel
theorem dX5_keep_19 : decode cX5_keep 19 = .ok (.iaload, 1) := by decide +kernel
theorem dX5_keep_20 : decode cX5_keep 20 = .ok (.iastore, 1) := by decide +kernel
theorem dX5_keep_21 : decode cX5_keep 21 = .ok (.iinc 1 1, 3) := by decide +kernel
theorem dX5_keep_24 : decode cX5_keep 24 = .ok (.goto (-22), 3) := by decide +kernel
theorem dX5_keep_27 : decode cX5_keep 27 = .ok (.aload_n 0, 1) := by decide +kernel
theorem dX5_keep_28 : decode cX5_keep 28 = .ok (.iconst 1, 1) := by decide +kernel
theorem dX5_keep_29 : decode cX5_keep 29 = .ok (.putfield 131, 3) := by decide +kernel
theorem dX5_keep_32 : decode cX5_keep 32 = .ok (.aload_n 0, 1) := by decide +kernel
theorem dX5_keep_33 : decode cX5_keep 33 = .ok (.getfield 7, 3) := by decide +kernel
theorem dX5_keep_36 : decode cX5_keep 36 = .ok (.iconst 0, 1) := by decide +kernel
theorem dX5_keep_37 : decode cX5_keep 37 = .ok (.iaload, 1) := by decide +kernel
theorem dX5_keep_38 : decode cX5_keep 38 = .ok (.ireturn, 1) := by decide +kernel
set_option maxRecDepth 20000 in
theorem ggX5_restore_X5_know : GoodIn wsX5_restore wsX5_know := goodIn_r _ [8, 9, 10, 2, 11, 12, 13, 14, 15, 16, 17, 18, 19, 20] (by decide +kernel) (by decide +kernel)
set_option maxRecDepth 20000 in
theorem gX5_restore_X5_know : GoodIn wsX5_restore (wsV RX5 50 RX5 yX5_know wsX5_know) := goodIn_app (goodIn_of _ (by decide +kernel)) ggX5_restore_X5_know
theorem dX5_restore_0 : decode cX5_restore 0 = .ok (.aload_n 0, 1) := by decide +kernel
theorem dX5_restore_1 : decode cX5_restore 1 = .ok (.getfield 131, 3) := by decide +kernel
theorem dX5_restore_4 : decode cX5_restore 4 = .ok (.ifCond .ne 6, 3) := by decide +kernel
theorem dX5_restore_7 : decode cX5_restore 7 = .ok (.bipush (-5), 2) := by decide +kernel
theorem dX5_restore_9 : decode cX5_restore 9 = .ok (.ireturn, 1) := by decide +kernel
theorem dX5_restore_10 : decode cX5_restore 10 = .ok (.aload_n 0, 1) := by decide +kernel
theorem dX5_restore_11 : decode cX5_restore 11 = .ok (.invokevirtual 50, 3) := by decide +kernel
theorem dX5_restore_14 : decode cX5_restore 14 = .ok (.iconst 0, 1) := by decide +kernel
theorem dX5_restore_15 : decode cX5_restore 15 = .ok (.istore_n 1, 1) := by decide +kernel
theorem dX5_restore_16 : decode cX5_restore 16 = .ok (.iload_n 1, 1) := by decide +kernel
theorem dX5_restore_17 : decode cX5_restore 17 = .ok (.sipush 2203, 3) := by decide +kernel
theorem dX5_restore_20 : decode cX5_restore 20 = .ok (.if_icmp .ge 21, 3) := by decide +kernel
theorem dX5_restore_23 : decode cX5_restore 23 = .ok (.aload_n 0, 1) := by decide +kernel
theorem dX5_restore_24 : decode cX5_restore 24 = .ok (.getfield 7, 3) := by decide +kernel
theorem dX5_restore_27 : decode cX5_restore 27 = .ok (.iload_n 1, 1) := by decide +kernel
theorem dX5_restore_28 : decode cX5_restore 28 = .ok (.aload_n 0, 1) := by decide +kernel
theorem dX5_restore_29 : decode cX5_restore 29 = .ok (.getfield 16, 3) := by decide +kernel
theorem dX5_restore_32 : decode cX5_restore 32 = .ok (.iload_n 1, 1) := by decide +kernel
theorem dX5_restore_33 : decode cX5_restore 33 = .ok (.iaload, 1) := by decide +kernel
theorem dX5_restore_34 : decode cX5_restore 34 = .ok (.iastore, 1) := by decide +kernel
theorem dX5_restore_35 : decode cX5_restore 35 = .ok (.iinc 1 1, 3) := by decide +kernel
theorem dX5_restore_38 : decode cX5_restore 38 = .ok (.goto (-22), 3) := by decide +kernel
theorem dX5_restore_41 : decode cX5_restore 41 = .ok (.aload_n 0, 1) := by decide +kernel
theorem dX5_restore_42 : decode cX5_restore 42 = .ok (.getfield 7, 3) := by decide +kernel
theorem dX5_restore_45 : decode cX5_restore 45 = .ok (.iconst 0, 1) := by decide +kernel
theorem dX5_restore_46 : decode cX5_restore 46 = .ok (.iaload, 1) := by decide +kernel
theorem dX5_restore_47 : decode cX5_restore 47 = .ok (.ireturn, 1) := by decide +kernel
set_option maxRecDepth 20000 in
theorem ggX5_sea_X5_in : GoodIn wsX5_sea wsX5_in := goodIn_r _ [5] (by decide +kernel) (by decide +kernel)
set_option maxRecDepth 20000 in
theorem gX5_sea_X5_in : GoodIn wsX5_sea (va_wsS RX5 29 yX5_in wsX5_in) := goodIn_app (goodIn_of _ (by decide +kernel)) ggX5_sea_X5_in
set_option maxRecDepth 20000 in
theorem ggX5_sea_X5_seaAt : GoodIn wsX5_sea wsX5_seaAt := goodIn_r _ [9, 10, 11, 12, 4, 13, 14, 15, 16, 17, 18, 19, 20, 21, 22, 23, 24] (by decide +kernel) (by decide +kernel)
set_option maxRecDepth 20000 in
theorem gX5_sea_X5_seaAt : GoodIn wsX5_sea (wsV RX5 40 RX5 yX5_seaAt wsX5_seaAt) := goodIn_app (goodIn_of _ (by decide +kernel)) ggX5_sea_X5_seaAt
theorem dX5_sea_0 : decode cX5_sea 0 = .ok (.iload_n 1, 1) := by decide +kernel
theorem dX5_sea_1 : decode cX5_sea 1 = .ok (.bipush (-24), 2) := by decide +kernel
theorem dX5_sea_3 : decode cX5_sea 3 = .ok (.sipush 200, 3) := by decide +kernel
theorem dX5_sea_6 : decode cX5_sea 6 = .ok (.invokestatic 29, 3) := by decide +kernel
theorem dX5_sea_9 : decode cX5_sea 9 = .ok (.ifCond .eq 14, 3) := by decide +kernel
theorem dX5_sea_12 : decode cX5_sea 12 = .ok (.aload_n 0, 1) := by decide +kernel
theorem dX5_sea_13 : decode cX5_sea 13 = .ok (.iload_n 1, 1) := by decide +kernel
theorem dX5_sea_14 : decode cX5_sea 14 = .ok (.invokevirtual 40, 3) := by decide +kernel
theorem dX5_sea_17 : decode cX5_sea 17 = .ok (.ldc 53, 2) := by decide +kernel
theorem dX5_sea_19 : decode cX5_sea 19 = .ok (.iadd, 1) := by decide +kernel
theorem dX5_sea_20 : decode cX5_sea 20 = .ok (.goto 5, 3) := by decide +kernel
theorem dX5_sea_23 : decode cX5_sea 23 = .ok (.bipush (-2), 2) := by decide +kernel
theorem dX5_sea_25 : decode cX5_sea 25 = .ok (.ireturn, 1) := by decide +kernel
set_option maxRecDepth 20000 in
theorem ggX5_outside_X5_isStation : GoodIn wsX5_outside wsX5_isStation := goodIn_r _ [5, 6, 7, 4, 8] (by decide +kernel) (by decide +kernel)
set_option maxRecDepth 20000 in
theorem gX5_outside_X5_isStation : GoodIn wsX5_outside (va_wsS RX5 54 yX5_isStation wsX5_isStation) := goodIn_app (goodIn_of _ (by decide +kernel)) ggX5_outside_X5_isStation
set_option maxRecDepth 20000 in
theorem ggX5_outside_X5_in : GoodIn wsX5_outside wsX5_in := goodIn_r _ [8] (by decide +kernel) (by decide +kernel)
set_option maxRecDepth 20000 in
theorem gX5_outside_X5_in : GoodIn wsX5_outside (va_wsS RX5 29 yX5_in wsX5_in) := goodIn_app (goodIn_of _ (by decide +kernel)) ggX5_outside_X5_in
set_option maxRecDepth 20000 in
theorem ggX5_outside_X5_outsideAt : GoodIn wsX5_outside wsX5_outsideAt := goodIn_r _ [12, 13, 14, 15, 4, 16, 17, 18, 19, 20, 21, 22, 23, 24, 25, 26, 27, 28, 29, 30, 31, 32, 33, 34, 35, 36, 37] (by decide +kernel) (by decide +kernel)
set_option maxRecDepth 20000 in
theorem gX5_outside_X5_outsideAt : GoodIn wsX5_outside (wsV RX5 47 RX5 yX5_outsideAt wsX5_outsideAt) := goodIn_app (goodIn_of _ (by decide +kernel)) ggX5_outside_X5_outsideAt
theorem dX5_outside_0 : decode cX5_outside 0 = .ok (.iload_n 1, 1) := by decide +kernel
theorem dX5_outside_1 : decode cX5_outside 1 = .ok (.invokestatic 54, 3) := by decide +kernel
theorem dX5_outside_4 : decode cX5_outside 4 = .ok (.ifCond .ne 5, 3) := by decide +kernel
theorem dX5_outside_7 : decode cX5_outside 7 = .ok (.iconst (-1), 1) := by decide +kernel
theorem dX5_outside_8 : decode cX5_outside 8 = .ok (.ireturn, 1) := by decide +kernel
theorem dX5_outside_9 : decode cX5_outside 9 = .ok (.iload_n 2, 1) := by decide +kernel
theorem dX5_outside_10 : decode cX5_outside 10 = .ok (.iconst 0, 1) := by decide +kernel
theorem dX5_outside_11 : decode cX5_outside 11 = .ok (.sipush 200, 3) := by decide +kernel
theorem dX5_outside_14 : decode cX5_outside 14 = .ok (.invokestatic 29, 3) := by decide +kernel
theorem dX5_outside_17 : decode cX5_outside 17 = .ok (.ifCond .eq 15, 3) := by decide +kernel
theorem dX5_outside_20 : decode cX5_outside 20 = .ok (.aload_n 0, 1) := by decide +kernel
theorem dX5_outside_21 : decode cX5_outside 21 = .ok (.iload_n 1, 1) := by decide +kernel
theorem dX5_outside_22 : decode cX5_outside 22 = .ok (.iload_n 2, 1) := by decide +kernel
theorem dX5_outside_23 : decode cX5_outside 23 = .ok (.invokevirtual 47, 3) := by decide +kernel
theorem dX5_outside_26 : decode cX5_outside 26 = .ok (.ldc 53, 2) := by decide +kernel
theorem dX5_outside_28 : decode cX5_outside 28 = .ok (.iadd, 1) := by decide +kernel
theorem dX5_outside_29 : decode cX5_outside 29 = .ok (.goto 5, 3) := by decide +kernel
theorem dX5_outside_32 : decode cX5_outside 32 = .ok (.bipush (-2), 2) := by decide +kernel
theorem dX5_outside_34 : decode cX5_outside 34 = .ok (.ireturn, 1) := by decide +kernel
set_option maxRecDepth 20000 in
theorem ggX5_station_X5_isStation : GoodIn wsX5_station wsX5_isStation := goodIn_r _ [6, 7, 8, 5, 9] (by decide +kernel) (by decide +kernel)
set_option maxRecDepth 20000 in
theorem gX5_station_X5_isStation : GoodIn wsX5_station (va_wsS RX5 54 yX5_isStation wsX5_isStation) := goodIn_app (goodIn_of _ (by decide +kernel)) ggX5_station_X5_isStation
set_option maxRecDepth 20000 in
theorem ggX5_station_X5_of : GoodIn wsX5_station wsX5_of := goodIn_r _ [12] (by decide +kernel) (by decide +kernel)
set_option maxRecDepth 20000 in
theorem gX5_station_X5_of : GoodIn wsX5_station (va_wsS RX5 22 yX5_of wsX5_of) := goodIn_app (goodIn_of _ (by decide +kernel)) ggX5_station_X5_of
set_option maxRecDepth 20000 in
theorem ggX5_station_X5_sum : GoodIn wsX5_station wsX5_sum := goodIn_r _ [16, 1, 10, 11, 5, 12, 29, 30, 31, 32, 33, 34, 35, 36, 37, 38] (by decide +kernel) (by decide +kernel)
set_option maxRecDepth 20000 in
theorem gX5_station_X5_sum : GoodIn wsX5_station (wsV RX5 128 RX5 yX5_sum wsX5_sum) := goodIn_app (goodIn_of _ (by decide +kernel)) ggX5_station_X5_sum
set_option maxRecDepth 20000 in
theorem ggX5_station_X5_gapsOf : GoodIn wsX5_station wsX5_gapsOf := goodIn_r _ [20, 1, 21, 22, 23, 5, 24, 7, 8, 9, 25, 26, 27, 28, 10, 11, 12, 29, 30, 31, 32, 33, 34, 35, 36, 37, 38] (by decide +kernel) (by decide +kernel)
set_option maxRecDepth 20000 in
theorem gX5_station_X5_gapsOf : GoodIn wsX5_station (wsV RX5 106 RX5 yX5_gapsOf wsX5_gapsOf) := goodIn_app (goodIn_of _ (by decide +kernel)) ggX5_station_X5_gapsOf
theorem dX5_station_0 : decode cX5_station 0 = .ok (.iload_n 1, 1) := by decide +kernel
theorem dX5_station_1 : decode cX5_station 1 = .ok (.invokestatic 54, 3) := by decide +kernel
theorem dX5_station_4 : decode cX5_station 4 = .ok (.ifCond .ne 5, 3) := by decide +kernel
theorem dX5_station_7 : decode cX5_station 7 = .ok (.iconst (-1), 1) := by decide +kernel
theorem dX5_station_8 : decode cX5_station 8 = .ok (.ireturn, 1) := by decide +kernel
theorem dX5_station_9 : decode cX5_station 9 = .ok (.iload_n 2, 1) := by decide +kernel
theorem dX5_station_10 : decode cX5_station 10 = .ok (.tableswitch 144 0 12 #[80, 80, 66, 66, 80, 80, 80, 80, 80, 91, 100, 106, 115], 66) := by decide +kernel
theorem dX5_station_76 : decode cX5_station 76 = .ok (.aload_n 0, 1) := by decide +kernel
theorem dX5_station_77 : decode cX5_station 77 = .ok (.getfield 7, 3) := by decide +kernel
theorem dX5_station_80 : decode cX5_station 80 = .ok (.iload_n 1, 1) := by decide +kernel
theorem dX5_station_81 : decode cX5_station 81 = .ok (.iload_n 2, 1) := by decide +kernel
theorem dX5_station_82 : decode cX5_station 82 = .ok (.invokestatic 22, 3) := by decide +kernel
theorem dX5_station_85 : decode cX5_station 85 = .ok (.iaload, 1) := by decide +kernel
theorem dX5_station_86 : decode cX5_station 86 = .ok (.ldc 53, 2) := by decide +kernel
theorem dX5_station_88 : decode cX5_station 88 = .ok (.iadd, 1) := by decide +kernel
theorem dX5_station_89 : decode cX5_station 89 = .ok (.ireturn, 1) := by decide +kernel
theorem dX5_station_90 : decode cX5_station 90 = .ok (.aload_n 0, 1) := by decide +kernel
theorem dX5_station_91 : decode cX5_station 91 = .ok (.getfield 7, 3) := by decide +kernel
theorem dX5_station_94 : decode cX5_station 94 = .ok (.iload_n 1, 1) := by decide +kernel
theorem dX5_station_95 : decode cX5_station 95 = .ok (.iload_n 2, 1) := by decide +kernel
theorem dX5_station_96 : decode cX5_station 96 = .ok (.invokestatic 22, 3) := by decide +kernel
theorem dX5_station_99 : decode cX5_station 99 = .ok (.iaload, 1) := by decide +kernel
theorem dX5_station_100 : decode cX5_station 100 = .ok (.ireturn, 1) := by decide +kernel
theorem dX5_station_101 : decode cX5_station 101 = .ok (.aload_n 0, 1) := by decide +kernel
theorem dX5_station_102 : decode cX5_station 102 = .ok (.iload_n 1, 1) := by decide +kernel
theorem dX5_station_103 : decode cX5_station 103 = .ok (.sipush 129, 3) := by decide +kernel
theorem dX5_station_106 : decode cX5_station 106 = .ok (.invokevirtual 128, 3) := by decide +kernel
theorem dX5_station_109 : decode cX5_station 109 = .ok (.ireturn, 1) := by decide +kernel
theorem dX5_station_110 : decode cX5_station 110 = .ok (.aload_n 0, 1) := by decide +kernel
theorem dX5_station_111 : decode cX5_station 111 = .ok (.iload_n 1, 1) := by decide +kernel
theorem dX5_station_112 : decode cX5_station 112 = .ok (.invokevirtual 106, 3) := by decide +kernel
theorem dX5_station_115 : decode cX5_station 115 = .ok (.ireturn, 1) := by decide +kernel
theorem dX5_station_116 : decode cX5_station 116 = .ok (.aload_n 0, 1) := by decide +kernel
theorem dX5_station_117 : decode cX5_station 117 = .ok (.iload_n 1, 1) := by decide +kernel
theorem dX5_station_118 : decode cX5_station 118 = .ok (.sipush 369, 3) := by decide +kernel
theorem dX5_station_121 : decode cX5_station 121 = .ok (.invokevirtual 128, 3) := by decide +kernel
theorem dX5_station_124 : decode cX5_station 124 = .ok (.ireturn, 1) := by decide +kernel
theorem dX5_station_125 : decode cX5_station 125 = .ok (.aload_n 0, 1) := by decide +kernel
theorem dX5_station_126 : decode cX5_station 126 = .ok (.iload_n 1, 1) := by decide +kernel
theorem dX5_station_127 : decode cX5_station 127 = .ok (.sipush 610, 3) := by decide +kernel
theorem dX5_station_130 : decode cX5_station 130 = .ok (.invokevirtual 128, 3) := by decide +kernel
theorem dX5_station_133 : decode cX5_station 133 = .ok (.aload_n 0, 1) := by decide +kernel
theorem dX5_station_134 : decode cX5_station 134 = .ok (.getfield 7, 3) := by decide +kernel
theorem dX5_station_137 : decode cX5_station 137 = .ok (.iload_n 1, 1) := by decide +kernel
theorem dX5_station_138 : decode cX5_station 138 = .ok (.sipush 610, 3) := by decide +kernel
theorem dX5_station_141 : decode cX5_station 141 = .ok (.aload_n 0, 1) := by decide +kernel
theorem dX5_station_142 : decode cX5_station 142 = .ok (.getfield 7, 3) := by decide +kernel
theorem dX5_station_145 : decode cX5_station 145 = .ok (.iconst 0, 1) := by decide +kernel
theorem dX5_station_146 : decode cX5_station 146 = .ok (.iaload, 1) := by decide +kernel
theorem dX5_station_147 : decode cX5_station 147 = .ok (.iadd, 1) := by decide +kernel
theorem dX5_station_148 : decode cX5_station 148 = .ok (.invokestatic 22, 3) := by decide +kernel
theorem dX5_station_151 : decode cX5_station 151 = .ok (.iaload, 1) := by decide +kernel
theorem dX5_station_152 : decode cX5_station 152 = .ok (.iadd, 1) := by decide +kernel
theorem dX5_station_153 : decode cX5_station 153 = .ok (.ireturn, 1) := by decide +kernel
theorem dX5_station_154 : decode cX5_station 154 = .ok (.bipush (-2), 2) := by decide +kernel
theorem dX5_station_156 : decode cX5_station 156 = .ok (.ireturn, 1) := by decide +kernel
set_option maxRecDepth 20000 in
theorem ggX5_hour_X5_isStation : GoodIn wsX5_hour wsX5_isStation := goodIn_r _ [6, 7, 8, 5, 9] (by decide +kernel) (by decide +kernel)
set_option maxRecDepth 20000 in
theorem gX5_hour_X5_isStation : GoodIn wsX5_hour (va_wsS RX5 54 yX5_isStation wsX5_isStation) := goodIn_app (goodIn_of _ (by decide +kernel)) ggX5_hour_X5_isStation
set_option maxRecDepth 20000 in
theorem ggX5_hour_X5_in : GoodIn wsX5_hour wsX5_in := goodIn_r _ [9] (by decide +kernel) (by decide +kernel)
set_option maxRecDepth 20000 in
theorem gX5_hour_X5_in : GoodIn wsX5_hour (va_wsS RX5 29 yX5_in wsX5_in) := goodIn_app (goodIn_of _ (by decide +kernel)) ggX5_hour_X5_in
set_option maxRecDepth 20000 in
theorem ggX5_hour_X5_isRead : GoodIn wsX5_hour wsX5_isRead := goodIn_r _ [13, 1, 7, 8, 5, 9, 14, 15, 16, 28, 29, 30, 31, 32, 33, 34, 35, 36, 37] (by decide +kernel) (by decide +kernel)
set_option maxRecDepth 20000 in
theorem gX5_hour_X5_isRead : GoodIn wsX5_hour (wsV RX5 99 RX5 yX5_isRead wsX5_isRead) := goodIn_app (goodIn_of _ (by decide +kernel)) ggX5_hour_X5_isRead
set_option maxRecDepth 20000 in
theorem ggX5_hour_X5_of : GoodIn wsX5_hour wsX5_of := goodIn_r _ [16] (by decide +kernel) (by decide +kernel)
set_option maxRecDepth 20000 in
theorem gX5_hour_X5_of : GoodIn wsX5_hour (va_wsS RX5 22 yX5_of wsX5_of) := goodIn_app (goodIn_of _ (by decide +kernel)) ggX5_hour_X5_of
set_option maxRecDepth 20000 in
theorem ggX5_hour_X5_corrected : GoodIn wsX5_hour wsX5_corrected := goodIn_r _ [20, 1, 14, 15, 5, 16, 21, 22, 23, 24, 25, 26, 27, 28, 29, 30, 31, 32, 33, 34, 35, 36, 37] (by decide +kernel) (by decide +kernel)
set_option maxRecDepth 20000 in
theorem gX5_hour_X5_corrected : GoodIn wsX5_hour (wsV RX5 125 RX5 yX5_corrected wsX5_corrected) := goodIn_app (goodIn_of _ (by decide +kernel)) ggX5_hour_X5_corrected
set_option maxRecDepth 20000 in
theorem ggX5_hour_X5_correction : GoodIn wsX5_hour wsX5_correction := goodIn_r _ [24, 1, 14, 15, 5, 16, 25, 26, 27, 28, 29, 30, 31, 32, 33, 34, 35, 36, 37] (by decide +kernel) (by decide +kernel)
set_option maxRecDepth 20000 in
theorem gX5_hour_X5_correction : GoodIn wsX5_hour (wsV RX5 96 RX5 yX5_correction wsX5_correction) := goodIn_app (goodIn_of _ (by decide +kernel)) ggX5_hour_X5_correction
theorem dX5_hour_0 : decode cX5_hour 0 = .ok (.iload_n 1, 1) := by decide +kernel
theorem dX5_hour_1 : decode cX5_hour 1 = .ok (.invokestatic 54, 3) := by decide +kernel
theorem dX5_hour_4 : decode cX5_hour 4 = .ok (.ifCond .ne 5, 3) := by decide +kernel
theorem dX5_hour_7 : decode cX5_hour 7 = .ok (.iconst (-1), 1) := by decide +kernel
theorem dX5_hour_8 : decode cX5_hour 8 = .ok (.ireturn, 1) := by decide +kernel
theorem dX5_hour_9 : decode cX5_hour 9 = .ok (.iload_n 2, 1) := by decide +kernel
theorem dX5_hour_10 : decode cX5_hour 10 = .ok (.ifCond .lt 12, 3) := by decide +kernel
theorem dX5_hour_13 : decode cX5_hour 13 = .ok (.iload_n 3, 1) := by decide +kernel
theorem dX5_hour_14 : decode cX5_hour 14 = .ok (.iconst 0, 1) := by decide +kernel
theorem dX5_hour_15 : decode cX5_hour 15 = .ok (.iconst 4, 1) := by decide +kernel
theorem dX5_hour_16 : decode cX5_hour 16 = .ok (.invokestatic 29, 3) := by decide +kernel
theorem dX5_hour_19 : decode cX5_hour 19 = .ok (.ifCond .ne 6, 3) := by decide +kernel
theorem dX5_hour_22 : decode cX5_hour 22 = .ok (.bipush (-2), 2) := by decide +kernel
theorem dX5_hour_24 : decode cX5_hour 24 = .ok (.ireturn, 1) := by decide +kernel
theorem dX5_hour_25 : decode cX5_hour 25 = .ok (.iload_n 2, 1) := by decide +kernel
theorem dX5_hour_26 : decode cX5_hour 26 = .ok (.aload_n 0, 1) := by decide +kernel
theorem dX5_hour_27 : decode cX5_hour 27 = .ok (.getfield 7, 3) := by decide +kernel
theorem dX5_hour_30 : decode cX5_hour 30 = .ok (.iconst 0, 1) := by decide +kernel
theorem dX5_hour_31 : decode cX5_hour 31 = .ok (.iaload, 1) := by decide +kernel
theorem dX5_hour_32 : decode cX5_hour 32 = .ok (.if_icmp .lt 6, 3) := by decide +kernel
theorem dX5_hour_35 : decode cX5_hour 35 = .ok (.bipush (-5), 2) := by decide +kernel
theorem dX5_hour_37 : decode cX5_hour 37 = .ok (.ireturn, 1) := by decide +kernel
theorem dX5_hour_38 : decode cX5_hour 38 = .ok (.aload_n 0, 1) := by decide +kernel
theorem dX5_hour_39 : decode cX5_hour 39 = .ok (.iload_n 1, 1) := by decide +kernel
theorem dX5_hour_40 : decode cX5_hour 40 = .ok (.iload_n 2, 1) := by decide +kernel
theorem dX5_hour_41 : decode cX5_hour 41 = .ok (.invokevirtual 99, 3) := by decide +kernel
theorem dX5_hour_44 : decode cX5_hour 44 = .ok (.istore 4, 2) := by decide +kernel
theorem dX5_hour_46 : decode cX5_hour 46 = .ok (.aload_n 0, 1) := by decide +kernel
theorem dX5_hour_47 : decode cX5_hour 47 = .ok (.getfield 7, 3) := by decide +kernel
theorem dX5_hour_50 : decode cX5_hour 50 = .ok (.iload_n 1, 1) := by decide +kernel
theorem dX5_hour_51 : decode cX5_hour 51 = .ok (.sipush 369, 3) := by decide +kernel
theorem dX5_hour_54 : decode cX5_hour 54 = .ok (.iload_n 2, 1) := by decide +kernel
theorem dX5_hour_55 : decode cX5_hour 55 = .ok (.iadd, 1) := by decide +kernel
theorem dX5_hour_56 : decode cX5_hour 56 = .ok (.invokestatic 22, 3) := by decide +kernel
theorem dX5_hour_59 : decode cX5_hour 59 = .ok (.iaload, 1) := by decide +kernel
theorem dX5_hour_60 : decode cX5_hour 60 = .ok (.iconst 1, 1) := by decide +kernel
theorem dX5_hour_61 : decode cX5_hour 61 = .ok (.if_icmp .ne 7, 3) := by decide +kernel
theorem dX5_hour_64 : decode cX5_hour 64 = .ok (.iconst 1, 1) := by decide +kernel
theorem dX5_hour_65 : decode cX5_hour 65 = .ok (.goto 4, 3) := by decide +kernel
theorem dX5_hour_68 : decode cX5_hour 68 = .ok (.iconst 0, 1) := by decide +kernel
theorem dX5_hour_69 : decode cX5_hour 69 = .ok (.istore 5, 2) := by decide +kernel
theorem dX5_hour_71 : decode cX5_hour 71 = .ok (.iload_n 3, 1) := by decide +kernel
theorem dX5_hour_72 : decode cX5_hour 72 = .ok (.tableswitch 114 0 3 #[32, 59, 79, 107], 32) := by decide +kernel
theorem dX5_hour_104 : decode cX5_hour 104 = .ok (.iload 4, 2) := by decide +kernel
theorem dX5_hour_106 : decode cX5_hour 106 = .ok (.ifCond .eq 22, 3) := by decide +kernel
theorem dX5_hour_109 : decode cX5_hour 109 = .ok (.aload_n 0, 1) := by decide +kernel
theorem dX5_hour_110 : decode cX5_hour 110 = .ok (.getfield 7, 3) := by decide +kernel
theorem dX5_hour_113 : decode cX5_hour 113 = .ok (.iload_n 1, 1) := by decide +kernel
theorem dX5_hour_114 : decode cX5_hour 114 = .ok (.bipush 9, 2) := by decide +kernel
theorem dX5_hour_116 : decode cX5_hour 116 = .ok (.iload_n 2, 1) := by decide +kernel
theorem dX5_hour_117 : decode cX5_hour 117 = .ok (.iadd, 1) := by decide +kernel
theorem dX5_hour_118 : decode cX5_hour 118 = .ok (.invokestatic 22, 3) := by decide +kernel
theorem dX5_hour_121 : decode cX5_hour 121 = .ok (.iaload, 1) := by decide +kernel
theorem dX5_hour_122 : decode cX5_hour 122 = .ok (.ldc 53, 2) := by decide +kernel
theorem dX5_hour_124 : decode cX5_hour 124 = .ok (.iadd, 1) := by decide +kernel
theorem dX5_hour_125 : decode cX5_hour 125 = .ok (.goto 5, 3) := by decide +kernel
theorem dX5_hour_128 : decode cX5_hour 128 = .ok (.bipush (-5), 2) := by decide +kernel
theorem dX5_hour_130 : decode cX5_hour 130 = .ok (.ireturn, 1) := by decide +kernel
theorem dX5_hour_131 : decode cX5_hour 131 = .ok (.iload 4, 2) := by decide +kernel
theorem dX5_hour_133 : decode cX5_hour 133 = .ok (.ifCond .eq 15, 3) := by decide +kernel
theorem dX5_hour_136 : decode cX5_hour 136 = .ok (.aload_n 0, 1) := by decide +kernel
theorem dX5_hour_137 : decode cX5_hour 137 = .ok (.iload_n 1, 1) := by decide +kernel
theorem dX5_hour_138 : decode cX5_hour 138 = .ok (.iload_n 2, 1) := by decide +kernel
theorem dX5_hour_139 : decode cX5_hour 139 = .ok (.invokevirtual 125, 3) := by decide +kernel
theorem dX5_hour_142 : decode cX5_hour 142 = .ok (.ldc 53, 2) := by decide +kernel
theorem dX5_hour_144 : decode cX5_hour 144 = .ok (.iadd, 1) := by decide +kernel
theorem dX5_hour_145 : decode cX5_hour 145 = .ok (.goto 5, 3) := by decide +kernel
theorem dX5_hour_148 : decode cX5_hour 148 = .ok (.bipush (-5), 2) := by decide +kernel
theorem dX5_hour_150 : decode cX5_hour 150 = .ok (.ireturn, 1) := by decide +kernel
theorem dX5_hour_151 : decode cX5_hour 151 = .ok (.iload 5, 2) := by decide +kernel
theorem dX5_hour_153 : decode cX5_hour 153 = .ok (.ifCond .eq 23, 3) := by decide +kernel
theorem dX5_hour_156 : decode cX5_hour 156 = .ok (.aload_n 0, 1) := by decide +kernel
theorem dX5_hour_157 : decode cX5_hour 157 = .ok (.getfield 7, 3) := by decide +kernel
theorem dX5_hour_160 : decode cX5_hour 160 = .ok (.iload_n 1, 1) := by decide +kernel
theorem dX5_hour_161 : decode cX5_hour 161 = .ok (.sipush 249, 3) := by decide +kernel
theorem dX5_hour_164 : decode cX5_hour 164 = .ok (.iload_n 2, 1) := by decide +kernel
theorem dX5_hour_165 : decode cX5_hour 165 = .ok (.iadd, 1) := by decide +kernel
theorem dX5_hour_166 : decode cX5_hour 166 = .ok (.invokestatic 22, 3) := by decide +kernel
theorem dX5_hour_169 : decode cX5_hour 169 = .ok (.iaload, 1) := by decide +kernel
theorem dX5_hour_170 : decode cX5_hour 170 = .ok (.ldc 53, 2) := by decide +kernel
theorem dX5_hour_172 : decode cX5_hour 172 = .ok (.iadd, 1) := by decide +kernel
theorem dX5_hour_173 : decode cX5_hour 173 = .ok (.goto 5, 3) := by decide +kernel
theorem dX5_hour_176 : decode cX5_hour 176 = .ok (.bipush (-5), 2) := by decide +kernel
theorem dX5_hour_178 : decode cX5_hour 178 = .ok (.ireturn, 1) := by decide +kernel
theorem dX5_hour_179 : decode cX5_hour 179 = .ok (.aload_n 0, 1) := by decide +kernel
theorem dX5_hour_180 : decode cX5_hour 180 = .ok (.iload_n 1, 1) := by decide +kernel
theorem dX5_hour_181 : decode cX5_hour 181 = .ok (.iload_n 2, 1) := by decide +kernel
theorem dX5_hour_182 : decode cX5_hour 182 = .ok (.invokevirtual 96, 3) := by decide +kernel
theorem dX5_hour_185 : decode cX5_hour 185 = .ok (.ireturn, 1) := by decide +kernel
theorem dX5_hour_186 : decode cX5_hour 186 = .ok (.iload 4, 2) := by decide +kernel
theorem dX5_hour_188 : decode cX5_hour 188 = .ok (.ifCond .eq 7, 3) := by decide +kernel
theorem dX5_hour_191 : decode cX5_hour 191 = .ok (.iconst 0, 1) := by decide +kernel
theorem dX5_hour_192 : decode cX5_hour 192 = .ok (.goto 13, 3) := by decide +kernel
theorem dX5_hour_195 : decode cX5_hour 195 = .ok (.iload 5, 2) := by decide +kernel
theorem dX5_hour_197 : decode cX5_hour 197 = .ok (.ifCond .eq 7, 3) := by decide +kernel
theorem dX5_hour_200 : decode cX5_hour 200 = .ok (.iconst 2, 1) := by decide +kernel
theorem dX5_hour_201 : decode cX5_hour 201 = .ok (.goto 4, 3) := by decide +kernel
theorem dX5_hour_204 : decode cX5_hour 204 = .ok (.iconst 1, 1) := by decide +kernel
theorem dX5_hour_205 : decode cX5_hour 205 = .ok (.ireturn, 1) := by decide +kernel
set_option maxRecDepth 20000 in
theorem ggX5_gap_X5_isStation : GoodIn wsX5_gap wsX5_isStation := goodIn_r _ [5, 6, 7, 4, 8] (by decide +kernel) (by decide +kernel)
set_option maxRecDepth 20000 in
theorem gX5_gap_X5_isStation : GoodIn wsX5_gap (va_wsS RX5 54 yX5_isStation wsX5_isStation) := goodIn_app (goodIn_of _ (by decide +kernel)) ggX5_gap_X5_isStation
set_option maxRecDepth 20000 in
theorem ggX5_gap_X5_isGap : GoodIn wsX5_gap wsX5_isGap := goodIn_r _ [12, 13, 14, 15, 4, 16, 1, 17, 18, 19, 20, 6, 7, 8, 21, 22, 23, 24, 25, 26, 27, 40, 41, 42, 43, 44, 45, 46, 47, 48, 49] (by decide +kernel) (by decide +kernel)
set_option maxRecDepth 20000 in
theorem gX5_gap_X5_isGap : GoodIn wsX5_gap (wsV RX5 115 RX5 yX5_isGap wsX5_isGap) := goodIn_app (goodIn_of _ (by decide +kernel)) ggX5_gap_X5_isGap
set_option maxRecDepth 20000 in
theorem ggX5_gap_X5_beginOf : GoodIn wsX5_gap wsX5_beginOf := goodIn_r _ [31, 17, 18, 19, 4, 20, 1, 6, 7, 8, 21, 22, 23, 24, 25, 26, 27, 40, 41, 42, 43, 44, 45, 46, 47, 48, 49] (by decide +kernel) (by decide +kernel)
set_option maxRecDepth 20000 in
theorem gX5_gap_X5_beginOf : GoodIn wsX5_gap (wsV RX5 109 RX5 yX5_beginOf wsX5_beginOf) := goodIn_app (goodIn_of _ (by decide +kernel)) ggX5_gap_X5_beginOf
set_option maxRecDepth 20000 in
theorem ggX5_gap_X5_endOf : GoodIn wsX5_gap wsX5_endOf := goodIn_r _ [35, 1, 21, 22, 23, 4, 24, 6, 7, 8, 25, 26, 27, 40, 41, 42, 43, 44, 45, 46, 47, 48, 49] (by decide +kernel) (by decide +kernel)
set_option maxRecDepth 20000 in
theorem gX5_gap_X5_endOf : GoodIn wsX5_gap (wsV RX5 112 RX5 yX5_endOf wsX5_endOf) := goodIn_app (goodIn_of _ (by decide +kernel)) ggX5_gap_X5_endOf
set_option maxRecDepth 20000 in
theorem ggX5_gap_X5_isInner : GoodIn wsX5_gap wsX5_isInner := goodIn_r _ [39, 1, 28, 29, 30, 4, 31, 17, 18, 19, 20, 6, 7, 8, 21, 22, 23, 24, 25, 26, 27, 32, 33, 34, 35, 40, 41, 42, 43, 44, 45, 46, 47, 48, 49] (by decide +kernel) (by decide +kernel)
set_option maxRecDepth 20000 in
theorem gX5_gap_X5_isInner : GoodIn wsX5_gap (wsV RX5 118 RX5 yX5_isInner wsX5_isInner) := goodIn_app (goodIn_of _ (by decide +kernel)) ggX5_gap_X5_isInner
set_option maxRecDepth 20000 in
theorem ggX5_gap_X5_of : GoodIn wsX5_gap wsX5_of := goodIn_r _ [27] (by decide +kernel) (by decide +kernel)
set_option maxRecDepth 20000 in
theorem gX5_gap_X5_of : GoodIn wsX5_gap (va_wsS RX5 22 yX5_of wsX5_of) := goodIn_app (goodIn_of _ (by decide +kernel)) ggX5_gap_X5_of
theorem dX5_gap_0 : decode cX5_gap 0 = .ok (.iload_n 1, 1) := by decide +kernel
theorem dX5_gap_1 : decode cX5_gap 1 = .ok (.invokestatic 54, 3) := by decide +kernel
theorem dX5_gap_4 : decode cX5_gap 4 = .ok (.ifCond .eq 12, 3) := by decide +kernel
theorem dX5_gap_7 : decode cX5_gap 7 = .ok (.aload_n 0, 1) := by decide +kernel
theorem dX5_gap_8 : decode cX5_gap 8 = .ok (.iload_n 1, 1) := by decide +kernel
theorem dX5_gap_9 : decode cX5_gap 9 = .ok (.iload_n 2, 1) := by decide +kernel
theorem dX5_gap_10 : decode cX5_gap 10 = .ok (.invokevirtual 115, 3) := by decide +kernel
theorem dX5_gap_13 : decode cX5_gap 13 = .ok (.ifCond .ne 5, 3) := by decide +kernel
theorem dX5_gap_16 : decode cX5_gap 16 = .ok (.iconst (-1), 1) := by decide +kernel
theorem dX5_gap_17 : decode cX5_gap 17 = .ok (.ireturn, 1) := by decide +kernel
theorem dX5_gap_18 : decode cX5_gap 18 = .ok (.aload_n 0, 1) := by decide +kernel
theorem dX5_gap_19 : decode cX5_gap 19 = .ok (.iload_n 1, 1) := by decide +kernel
theorem dX5_gap_20 : decode cX5_gap 20 = .ok (.iload_n 2, 1) := by decide +kernel
theorem dX5_gap_21 : decode cX5_gap 21 = .ok (.invokevirtual 109, 3) := by decide +kernel
theorem dX5_gap_24 : decode cX5_gap 24 = .ok (.istore 4, 2) := by decide +kernel
theorem dX5_gap_26 : decode cX5_gap 26 = .ok (.aload_n 0, 1) := by decide +kernel
theorem dX5_gap_27 : decode cX5_gap 27 = .ok (.iload_n 1, 1) := by decide +kernel
theorem dX5_gap_28 : decode cX5_gap 28 = .ok (.iload 4, 2) := by decide +kernel
theorem dX5_gap_30 : decode cX5_gap 30 = .ok (.invokevirtual 112, 3) := by decide +kernel
theorem dX5_gap_33 : decode cX5_gap 33 = .ok (.istore 5, 2) := by decide +kernel
theorem dX5_gap_35 : decode cX5_gap 35 = .ok (.iload_n 3, 1) := by decide +kernel
theorem dX5_gap_36 : decode cX5_gap 36 = .ok (.tableswitch 96 0 3 #[32, 35, 38, 53], 32) := by decide +kernel
theorem dX5_gap_68 : decode cX5_gap 68 = .ok (.iload 4, 2) := by decide +kernel
theorem dX5_gap_70 : decode cX5_gap 70 = .ok (.ireturn, 1) := by decide +kernel
theorem dX5_gap_71 : decode cX5_gap 71 = .ok (.iload 5, 2) := by decide +kernel
theorem dX5_gap_73 : decode cX5_gap 73 = .ok (.ireturn, 1) := by decide +kernel
theorem dX5_gap_74 : decode cX5_gap 74 = .ok (.aload_n 0, 1) := by decide +kernel
theorem dX5_gap_75 : decode cX5_gap 75 = .ok (.iload_n 1, 1) := by decide +kernel
theorem dX5_gap_76 : decode cX5_gap 76 = .ok (.iload_n 2, 1) := by decide +kernel
theorem dX5_gap_77 : decode cX5_gap 77 = .ok (.invokevirtual 118, 3) := by decide +kernel
theorem dX5_gap_80 : decode cX5_gap 80 = .ok (.ifCond .eq 7, 3) := by decide +kernel
theorem dX5_gap_83 : decode cX5_gap 83 = .ok (.iconst 1, 1) := by decide +kernel
theorem dX5_gap_84 : decode cX5_gap 84 = .ok (.goto 4, 3) := by decide +kernel
theorem dX5_gap_87 : decode cX5_gap 87 = .ok (.iconst 0, 1) := by decide +kernel
theorem dX5_gap_88 : decode cX5_gap 88 = .ok (.ireturn, 1) := by decide +kernel
theorem dX5_gap_89 : decode cX5_gap 89 = .ok (.iconst 0, 1) := by decide +kernel
theorem dX5_gap_90 : decode cX5_gap 90 = .ok (.istore 6, 2) := by decide +kernel
theorem dX5_gap_92 : decode cX5_gap 92 = .ok (.iload 4, 2) := by decide +kernel
theorem dX5_gap_94 : decode cX5_gap 94 = .ok (.istore 7, 2) := by decide +kernel
theorem dX5_gap_96 : decode cX5_gap 96 = .ok (.iload 7, 2) := by decide +kernel
theorem dX5_gap_98 : decode cX5_gap 98 = .ok (.iload 5, 2) := by decide +kernel
theorem dX5_gap_100 : decode cX5_gap 100 = .ok (.if_icmp .gt 29, 3) := by decide +kernel
theorem dX5_gap_103 : decode cX5_gap 103 = .ok (.iload 6, 2) := by decide +kernel
theorem dX5_gap_105 : decode cX5_gap 105 = .ok (.aload_n 0, 1) := by decide +kernel
theorem dX5_gap_106 : decode cX5_gap 106 = .ok (.getfield 7, 3) := by decide +kernel
theorem dX5_gap_109 : decode cX5_gap 109 = .ok (.iload_n 1, 1) := by decide +kernel
theorem dX5_gap_110 : decode cX5_gap 110 = .ok (.sipush 369, 3) := by decide +kernel
theorem dX5_gap_113 : decode cX5_gap 113 = .ok (.iload 7, 2) := by decide +kernel
theorem dX5_gap_115 : decode cX5_gap 115 = .ok (.iadd, 1) := by decide +kernel
theorem dX5_gap_116 : decode cX5_gap 116 = .ok (.invokestatic 22, 3) := by decide +kernel
theorem dX5_gap_119 : decode cX5_gap 119 = .ok (.iaload, 1) := by decide +kernel
theorem dX5_gap_120 : decode cX5_gap 120 = .ok (.iadd, 1) := by decide +kernel
theorem dX5_gap_121 : decode cX5_gap 121 = .ok (.istore 6, 2) := by decide +kernel
theorem dX5_gap_123 : decode cX5_gap 123 = .ok (.iinc 7 1, 3) := by decide +kernel
theorem dX5_gap_126 : decode cX5_gap 126 = .ok (.goto (-30), 3) := by decide +kernel
theorem dX5_gap_129 : decode cX5_gap 129 = .ok (.iload 6, 2) := by decide +kernel
theorem dX5_gap_131 : decode cX5_gap 131 = .ok (.ireturn, 1) := by decide +kernel
theorem dX5_gap_132 : decode cX5_gap 132 = .ok (.bipush (-2), 2) := by decide +kernel
theorem dX5_gap_134 : decode cX5_gap 134 = .ok (.ireturn, 1) := by decide +kernel
set_option maxRecDepth 20000 in
theorem ggX5_areRead_X5_isRead : GoodIn wsX5_areRead wsX5_isRead := goodIn_r _ [5, 6, 7, 8, 4, 9, 10, 11, 12, 13, 14, 15, 16, 17, 18, 19, 20, 21, 22] (by decide +kernel) (by decide +kernel)
set_option maxRecDepth 20000 in
theorem gX5_areRead_X5_isRead : GoodIn wsX5_areRead (wsV RX5 99 RX5 yX5_isRead wsX5_isRead) := goodIn_app (goodIn_of _ (by decide +kernel)) ggX5_areRead_X5_isRead
theorem dX5_areRead_0 : decode cX5_areRead 0 = .ok (.aload_n 0, 1) := by decide +kernel
theorem dX5_areRead_1 : decode cX5_areRead 1 = .ok (.iload_n 1, 1) := by decide +kernel
theorem dX5_areRead_2 : decode cX5_areRead 2 = .ok (.iload_n 2, 1) := by decide +kernel
theorem dX5_areRead_3 : decode cX5_areRead 3 = .ok (.invokevirtual 99, 3) := by decide +kernel
theorem dX5_areRead_6 : decode cX5_areRead 6 = .ok (.ifCond .eq 18, 3) := by decide +kernel
theorem dX5_areRead_9 : decode cX5_areRead 9 = .ok (.aload_n 0, 1) := by decide +kernel
theorem dX5_areRead_10 : decode cX5_areRead 10 = .ok (.iload_n 1, 1) := by decide +kernel
theorem dX5_areRead_11 : decode cX5_areRead 11 = .ok (.iload_n 2, 1) := by decide +kernel
theorem dX5_areRead_12 : decode cX5_areRead 12 = .ok (.iconst 1, 1) := by decide +kernel
theorem dX5_areRead_13 : decode cX5_areRead 13 = .ok (.isub, 1) := by decide +kernel
theorem dX5_areRead_14 : decode cX5_areRead 14 = .ok (.invokevirtual 99, 3) := by decide +kernel
theorem dX5_areRead_17 : decode cX5_areRead 17 = .ok (.ifCond .eq 7, 3) := by decide +kernel
theorem dX5_areRead_20 : decode cX5_areRead 20 = .ok (.iconst 1, 1) := by decide +kernel
theorem dX5_areRead_21 : decode cX5_areRead 21 = .ok (.goto 4, 3) := by decide +kernel
theorem dX5_areRead_24 : decode cX5_areRead 24 = .ok (.iconst 0, 1) := by decide +kernel
theorem dX5_areRead_25 : decode cX5_areRead 25 = .ok (.ireturn, 1) := by decide +kernel
set_option maxRecDepth 20000 in
theorem ggX5_misfitOf_X5_beginOf : GoodIn wsX5_misfitOf wsX5_beginOf := goodIn_r _ [5, 6, 7, 8, 4, 9, 10, 11, 12, 13, 14, 15, 16, 17, 18, 19, 20, 43, 44, 45, 46, 47, 48, 49, 50, 51, 52] (by decide +kernel) (by decide +kernel)
set_option maxRecDepth 20000 in
theorem gX5_misfitOf_X5_beginOf : GoodIn wsX5_misfitOf (wsV RX5 109 RX5 yX5_beginOf wsX5_beginOf) := goodIn_app (goodIn_of _ (by decide +kernel)) ggX5_misfitOf_X5_beginOf
set_option maxRecDepth 20000 in
theorem ggX5_misfitOf_X5_endOf : GoodIn wsX5_misfitOf wsX5_endOf := goodIn_r _ [24, 10, 14, 15, 16, 4, 17, 11, 12, 13, 18, 19, 20, 43, 44, 45, 46, 47, 48, 49, 50, 51, 52] (by decide +kernel) (by decide +kernel)
set_option maxRecDepth 20000 in
theorem gX5_misfitOf_X5_endOf : GoodIn wsX5_misfitOf (wsV RX5 112 RX5 yX5_endOf wsX5_endOf) := goodIn_app (goodIn_of _ (by decide +kernel)) ggX5_misfitOf_X5_endOf
set_option maxRecDepth 20000 in
theorem ggX5_misfitOf_X5_areRead : GoodIn wsX5_misfitOf wsX5_areRead := goodIn_r _ [28, 14, 15, 16, 4, 17, 10, 11, 12, 13, 18, 19, 20, 43, 44, 45, 46, 47, 48, 49, 50, 51, 52] (by decide +kernel) (by decide +kernel)
set_option maxRecDepth 20000 in
theorem gX5_misfitOf_X5_areRead : GoodIn wsX5_misfitOf (wsV RX5 134 RX5 yX5_areRead wsX5_areRead) := goodIn_app (goodIn_of _ (by decide +kernel)) ggX5_misfitOf_X5_areRead
set_option maxRecDepth 20000 in
theorem ggX5_misfitOf_X5_corrected : GoodIn wsX5_misfitOf wsX5_corrected := goodIn_r _ [32, 10, 18, 19, 4, 20, 33, 34, 35, 36, 37, 38, 39, 43, 44, 45, 46, 47, 48, 49, 50, 51, 52] (by decide +kernel) (by decide +kernel)
set_option maxRecDepth 20000 in
theorem gX5_misfitOf_X5_corrected : GoodIn wsX5_misfitOf (wsV RX5 125 RX5 yX5_corrected wsX5_corrected) := goodIn_app (goodIn_of _ (by decide +kernel)) ggX5_misfitOf_X5_corrected
set_option maxRecDepth 20000 in
theorem ggX5_misfitOf_X5_size : GoodIn wsX5_misfitOf wsX5_size := goodIn_r _ [42] (by decide +kernel) (by decide +kernel)
set_option maxRecDepth 20000 in
theorem gX5_misfitOf_X5_size : GoodIn wsX5_misfitOf (va_wsS RX5 137 yX5_size wsX5_size) := goodIn_app (goodIn_of _ (by decide +kernel)) ggX5_misfitOf_X5_size
theorem dX5_misfitOf_0 : decode cX5_misfitOf 0 = .ok (.aload_n 0, 1) := by decide +kernel
theorem dX5_misfitOf_1 : decode cX5_misfitOf 1 = .ok (.iload_n 1, 1) := by decide +kernel
theorem dX5_misfitOf_2 : decode cX5_misfitOf 2 = .ok (.iload_n 2, 1) := by decide +kernel
theorem dX5_misfitOf_3 : decode cX5_misfitOf 3 = .ok (.invokevirtual 109, 3) := by decide +kernel
theorem dX5_misfitOf_6 : decode cX5_misfitOf 6 = .ok (.iconst 1, 1) := by decide +kernel
theorem dX5_misfitOf_7 : decode cX5_misfitOf 7 = .ok (.isub, 1) := by decide +kernel
theorem dX5_misfitOf_8 : decode cX5_misfitOf 8 = .ok (.istore 5, 2) := by decide +kernel
theorem dX5_misfitOf_10 : decode cX5_misfitOf 10 = .ok (.aload_n 0, 1) := by decide +kernel
theorem dX5_misfitOf_11 : decode cX5_misfitOf 11 = .ok (.iload_n 1, 1) := by decide +kernel
theorem dX5_misfitOf_12 : decode cX5_misfitOf 12 = .ok (.iload 5, 2) := by decide +kernel
theorem dX5_misfitOf_14 : decode cX5_misfitOf 14 = .ok (.iconst 1, 1) := by decide +kernel
theorem dX5_misfitOf_15 : decode cX5_misfitOf 15 = .ok (.iadd, 1) := by decide +kernel
theorem dX5_misfitOf_16 : decode cX5_misfitOf 16 = .ok (.invokevirtual 112, 3) := by decide +kernel
theorem dX5_misfitOf_19 : decode cX5_misfitOf 19 = .ok (.iconst 1, 1) := by decide +kernel
theorem dX5_misfitOf_20 : decode cX5_misfitOf 20 = .ok (.iadd, 1) := by decide +kernel
theorem dX5_misfitOf_21 : decode cX5_misfitOf 21 = .ok (.istore 6, 2) := by decide +kernel
theorem dX5_misfitOf_23 : decode cX5_misfitOf 23 = .ok (.iconst 0, 1) := by decide +kernel
theorem dX5_misfitOf_24 : decode cX5_misfitOf 24 = .ok (.istore 7, 2) := by decide +kernel
theorem dX5_misfitOf_26 : decode cX5_misfitOf 26 = .ok (.iload 5, 2) := by decide +kernel
theorem dX5_misfitOf_28 : decode cX5_misfitOf 28 = .ok (.bipush 11, 2) := by decide +kernel
theorem dX5_misfitOf_30 : decode cX5_misfitOf 30 = .ok (.isub, 1) := by decide +kernel
theorem dX5_misfitOf_31 : decode cX5_misfitOf 31 = .ok (.istore 8, 2) := by decide +kernel
theorem dX5_misfitOf_33 : decode cX5_misfitOf 33 = .ok (.iload 8, 2) := by decide +kernel
theorem dX5_misfitOf_35 : decode cX5_misfitOf 35 = .ok (.iload 6, 2) := by decide +kernel
theorem dX5_misfitOf_37 : decode cX5_misfitOf 37 = .ok (.bipush 12, 2) := by decide +kernel
theorem dX5_misfitOf_39 : decode cX5_misfitOf 39 = .ok (.iadd, 1) := by decide +kernel
theorem dX5_misfitOf_40 : decode cX5_misfitOf 40 = .ok (.if_icmp .gt 99, 3) := by decide +kernel
theorem dX5_misfitOf_43 : decode cX5_misfitOf 43 = .ok (.iload 8, 2) := by decide +kernel
theorem dX5_misfitOf_45 : decode cX5_misfitOf 45 = .ok (.iload 5, 2) := by decide +kernel
theorem dX5_misfitOf_47 : decode cX5_misfitOf 47 = .ok (.if_icmp .le 10, 3) := by decide +kernel
theorem dX5_misfitOf_50 : decode cX5_misfitOf 50 = .ok (.iload 8, 2) := by decide +kernel
theorem dX5_misfitOf_52 : decode cX5_misfitOf 52 = .ok (.iload 6, 2) := by decide +kernel
theorem dX5_misfitOf_54 : decode cX5_misfitOf 54 = .ok (.if_icmp .le 79, 3) := by decide +kernel
theorem dX5_misfitOf_57 : decode cX5_misfitOf 57 = .ok (.aload_n 0, 1) := by decide +kernel
theorem dX5_misfitOf_58 : decode cX5_misfitOf 58 = .ok (.iload_n 1, 1) := by decide +kernel
theorem dX5_misfitOf_59 : decode cX5_misfitOf 59 = .ok (.iload 8, 2) := by decide +kernel
theorem dX5_misfitOf_61 : decode cX5_misfitOf 61 = .ok (.invokevirtual 134, 3) := by decide +kernel
theorem dX5_misfitOf_64 : decode cX5_misfitOf 64 = .ok (.ifCond .eq 69, 3) := by decide +kernel
theorem dX5_misfitOf_67 : decode cX5_misfitOf 67 = .ok (.aload_n 0, 1) := by decide +kernel
theorem dX5_misfitOf_68 : decode cX5_misfitOf 68 = .ok (.iload_n 3, 1) := by decide +kernel
theorem dX5_misfitOf_69 : decode cX5_misfitOf 69 = .ok (.iload 8, 2) := by decide +kernel
theorem dX5_misfitOf_71 : decode cX5_misfitOf 71 = .ok (.iload 4, 2) := by decide +kernel
theorem dX5_misfitOf_73 : decode cX5_misfitOf 73 = .ok (.iadd, 1) := by decide +kernel
theorem dX5_misfitOf_74 : decode cX5_misfitOf 74 = .ok (.invokevirtual 134, 3) := by decide +kernel
theorem dX5_misfitOf_77 : decode cX5_misfitOf 77 = .ok (.ifCond .eq 56, 3) := by decide +kernel
theorem dX5_misfitOf_80 : decode cX5_misfitOf 80 = .ok (.aload_n 0, 1) := by decide +kernel
theorem dX5_misfitOf_81 : decode cX5_misfitOf 81 = .ok (.iload_n 1, 1) := by decide +kernel
theorem dX5_misfitOf_82 : decode cX5_misfitOf 82 = .ok (.iload 8, 2) := by decide +kernel
theorem dX5_misfitOf_84 : decode cX5_misfitOf 84 = .ok (.invokevirtual 125, 3) := by decide +kernel
theorem dX5_misfitOf_87 : decode cX5_misfitOf 87 = .ok (.aload_n 0, 1) := by decide +kernel
theorem dX5_misfitOf_88 : decode cX5_misfitOf 88 = .ok (.iload_n 1, 1) := by decide +kernel
theorem dX5_misfitOf_89 : decode cX5_misfitOf 89 = .ok (.iload 8, 2) := by decide +kernel
theorem dX5_misfitOf_91 : decode cX5_misfitOf 91 = .ok (.iconst 1, 1) := by decide +kernel
theorem dX5_misfitOf_92 : decode cX5_misfitOf 92 = .ok (.isub, 1) := by decide +kernel
theorem dX5_misfitOf_93 : decode cX5_misfitOf 93 = .ok (.invokevirtual 125, 3) := by decide +kernel
theorem dX5_misfitOf_96 : decode cX5_misfitOf 96 = .ok (.isub, 1) := by decide +kernel
theorem dX5_misfitOf_97 : decode cX5_misfitOf 97 = .ok (.istore 9, 2) := by decide +kernel
theorem dX5_misfitOf_99 : decode cX5_misfitOf 99 = .ok (.iload 7, 2) := by decide +kernel
theorem dX5_misfitOf_101 : decode cX5_misfitOf 101 = .ok (.iload 9, 2) := by decide +kernel
theorem dX5_misfitOf_103 : decode cX5_misfitOf 103 = .ok (.aload_n 0, 1) := by decide +kernel
theorem dX5_misfitOf_104 : decode cX5_misfitOf 104 = .ok (.iload_n 3, 1) := by decide +kernel
theorem dX5_misfitOf_105 : decode cX5_misfitOf 105 = .ok (.iload 8, 2) := by decide +kernel
theorem dX5_misfitOf_107 : decode cX5_misfitOf 107 = .ok (.iload 4, 2) := by decide +kernel
theorem dX5_misfitOf_109 : decode cX5_misfitOf 109 = .ok (.iadd, 1) := by decide +kernel
theorem dX5_misfitOf_110 : decode cX5_misfitOf 110 = .ok (.invokevirtual 125, 3) := by decide +kernel
theorem dX5_misfitOf_113 : decode cX5_misfitOf 113 = .ok (.isub, 1) := by decide +kernel
theorem dX5_misfitOf_114 : decode cX5_misfitOf 114 = .ok (.aload_n 0, 1) := by decide +kernel
theorem dX5_misfitOf_115 : decode cX5_misfitOf 115 = .ok (.iload_n 3, 1) := by decide +kernel
theorem dX5_misfitOf_116 : decode cX5_misfitOf 116 = .ok (.iload 8, 2) := by decide +kernel
theorem dX5_misfitOf_118 : decode cX5_misfitOf 118 = .ok (.iload 4, 2) := by decide +kernel
theorem dX5_misfitOf_120 : decode cX5_misfitOf 120 = .ok (.iadd, 1) := by decide +kernel
theorem dX5_misfitOf_121 : decode cX5_misfitOf 121 = .ok (.iconst 1, 1) := by decide +kernel
theorem dX5_misfitOf_122 : decode cX5_misfitOf 122 = .ok (.isub, 1) := by decide +kernel
theorem dX5_misfitOf_123 : decode cX5_misfitOf 123 = .ok (.invokevirtual 125, 3) := by decide +kernel
theorem dX5_misfitOf_126 : decode cX5_misfitOf 126 = .ok (.iadd, 1) := by decide +kernel
theorem dX5_misfitOf_127 : decode cX5_misfitOf 127 = .ok (.invokestatic 137, 3) := by decide +kernel
theorem dX5_misfitOf_130 : decode cX5_misfitOf 130 = .ok (.iadd, 1) := by decide +kernel
theorem dX5_misfitOf_131 : decode cX5_misfitOf 131 = .ok (.istore 7, 2) := by decide +kernel
theorem dX5_misfitOf_133 : decode cX5_misfitOf 133 = .ok (.iinc 8 1, 3) := by decide +kernel
theorem dX5_misfitOf_136 : decode cX5_misfitOf 136 = .ok (.goto (-103), 3) := by decide +kernel
theorem dX5_misfitOf_139 : decode cX5_misfitOf 139 = .ok (.iload 7, 2) := by decide +kernel
theorem dX5_misfitOf_141 : decode cX5_misfitOf 141 = .ok (.ireturn, 1) := by decide +kernel
set_option maxRecDepth 20000 in
theorem ggX5_misfit_X5_isStation : GoodIn wsX5_misfit wsX5_isStation := goodIn_r _ [4, 5, 6, 3, 7] (by decide +kernel) (by decide +kernel)
set_option maxRecDepth 20000 in
theorem gX5_misfit_X5_isStation : GoodIn wsX5_misfit (va_wsS RX5 54 yX5_isStation wsX5_isStation) := goodIn_app (goodIn_of _ (by decide +kernel)) ggX5_misfit_X5_isStation
set_option maxRecDepth 20000 in
theorem ggX5_misfit_X5_isGap : GoodIn wsX5_misfit wsX5_isGap := goodIn_r _ [11, 12, 13, 14, 3, 15, 16, 17, 18, 19, 20, 5, 6, 7, 21, 22, 23, 24, 25, 26, 27, 66, 67, 68, 69, 70, 71, 72, 73, 74, 75] (by decide +kernel) (by decide +kernel)
set_option maxRecDepth 20000 in
theorem gX5_misfit_X5_isGap : GoodIn wsX5_misfit (wsV RX5 115 RX5 yX5_isGap wsX5_isGap) := goodIn_app (goodIn_of _ (by decide +kernel)) ggX5_misfit_X5_isGap
set_option maxRecDepth 20000 in
theorem ggX5_misfit_X5_in : GoodIn wsX5_misfit wsX5_in := goodIn_r _ [7] (by decide +kernel) (by decide +kernel)
set_option maxRecDepth 20000 in
theorem gX5_misfit_X5_in : GoodIn wsX5_misfit (va_wsS RX5 29 yX5_in wsX5_in) := goodIn_app (goodIn_of _ (by decide +kernel)) ggX5_misfit_X5_in
set_option maxRecDepth 20000 in
theorem ggX5_misfit_X5_isInner : GoodIn wsX5_misfit wsX5_isInner := goodIn_r _ [31, 16, 32, 33, 34, 3, 35, 17, 18, 19, 20, 5, 6, 7, 21, 22, 23, 24, 25, 26, 27, 36, 37, 38, 39, 66, 67, 68, 69, 70, 71, 72, 73, 74, 75] (by decide +kernel) (by decide +kernel)
set_option maxRecDepth 20000 in
theorem gX5_misfit_X5_isInner : GoodIn wsX5_misfit (wsV RX5 118 RX5 yX5_isInner wsX5_isInner) := goodIn_app (goodIn_of _ (by decide +kernel)) ggX5_misfit_X5_isInner
set_option maxRecDepth 20000 in
theorem ggX5_misfit_X5_canMend : GoodIn wsX5_misfit wsX5_canMend := goodIn_r _ [43, 32, 33, 34, 3, 35, 17, 18, 19, 20, 16, 5, 6, 7, 21, 22, 23, 24, 25, 26, 27, 36, 37, 38, 39, 66, 67, 68, 69, 70, 71, 72, 73, 74, 75] (by decide +kernel) (by decide +kernel)
set_option maxRecDepth 20000 in
theorem gX5_misfit_X5_canMend : GoodIn wsX5_misfit (wsV RX5 121 RX5 yX5_canMend wsX5_canMend) := goodIn_app (goodIn_of _ (by decide +kernel)) ggX5_misfit_X5_canMend
set_option maxRecDepth 20000 in
theorem ggX5_misfit_X5_misfitOf : GoodIn wsX5_misfit wsX5_misfitOf := goodIn_r _ [47, 32, 33, 34, 3, 35, 17, 18, 19, 20, 16, 5, 6, 7, 21, 22, 23, 24, 25, 26, 27, 36, 37, 38, 39, 48, 49, 50, 51, 52, 53, 54, 55, 56, 57, 58, 59, 60, 61, 62, 63, 64, 65, 66, 67, 68, 69, 70, 71, 72, 73, 74, 75] (by decide +kernel) (by decide +kernel)
set_option maxRecDepth 20000 in
theorem gX5_misfit_X5_misfitOf : GoodIn wsX5_misfit (wsV RX5 140 RX5 yX5_misfitOf wsX5_misfitOf) := goodIn_app (goodIn_of _ (by decide +kernel)) ggX5_misfit_X5_misfitOf
theorem dX5_misfit_0 : decode cX5_misfit 0 = .ok (.iload_n 1, 1) := by decide +kernel
theorem dX5_misfit_1 : decode cX5_misfit 1 = .ok (.invokestatic 54, 3) := by decide +kernel
theorem dX5_misfit_4 : decode cX5_misfit 4 = .ok (.ifCond .eq 19, 3) := by decide +kernel
theorem dX5_misfit_7 : decode cX5_misfit 7 = .ok (.aload_n 0, 1) := by decide +kernel
theorem dX5_misfit_8 : decode cX5_misfit 8 = .ok (.iload_n 1, 1) := by decide +kernel
theorem dX5_misfit_9 : decode cX5_misfit 9 = .ok (.iload_n 2, 1) := by decide +kernel
theorem dX5_misfit_10 : decode cX5_misfit 10 = .ok (.invokevirtual 115, 3) := by decide +kernel
theorem dX5_misfit_13 : decode cX5_misfit 13 = .ok (.ifCond .eq 10, 3) := by decide +kernel
theorem dX5_misfit_16 : decode cX5_misfit 16 = .ok (.iload_n 3, 1) := by decide +kernel
theorem dX5_misfit_17 : decode cX5_misfit 17 = .ok (.invokestatic 54, 3) := by decide +kernel
theorem dX5_misfit_20 : decode cX5_misfit 20 = .ok (.ifCond .ne 5, 3) := by decide +kernel
theorem dX5_misfit_23 : decode cX5_misfit 23 = .ok (.iconst (-1), 1) := by decide +kernel
theorem dX5_misfit_24 : decode cX5_misfit 24 = .ok (.ireturn, 1) := by decide +kernel
theorem dX5_misfit_25 : decode cX5_misfit 25 = .ok (.iload 4, 2) := by decide +kernel
theorem dX5_misfit_27 : decode cX5_misfit 27 = .ok (.bipush (-12), 2) := by decide +kernel
theorem dX5_misfit_29 : decode cX5_misfit 29 = .ok (.bipush 12, 2) := by decide +kernel
theorem dX5_misfit_31 : decode cX5_misfit 31 = .ok (.invokestatic 29, 3) := by decide +kernel
theorem dX5_misfit_34 : decode cX5_misfit 34 = .ok (.ifCond .eq 8, 3) := by decide +kernel
theorem dX5_misfit_37 : decode cX5_misfit 37 = .ok (.iload_n 3, 1) := by decide +kernel
theorem dX5_misfit_38 : decode cX5_misfit 38 = .ok (.iload_n 1, 1) := by decide +kernel
theorem dX5_misfit_39 : decode cX5_misfit 39 = .ok (.if_icmp .ne 6, 3) := by decide +kernel
theorem dX5_misfit_42 : decode cX5_misfit 42 = .ok (.bipush (-2), 2) := by decide +kernel
theorem dX5_misfit_44 : decode cX5_misfit 44 = .ok (.ireturn, 1) := by decide +kernel
theorem dX5_misfit_45 : decode cX5_misfit 45 = .ok (.aload_n 0, 1) := by decide +kernel
theorem dX5_misfit_46 : decode cX5_misfit 46 = .ok (.iload_n 1, 1) := by decide +kernel
theorem dX5_misfit_47 : decode cX5_misfit 47 = .ok (.iload_n 2, 1) := by decide +kernel
theorem dX5_misfit_48 : decode cX5_misfit 48 = .ok (.invokevirtual 118, 3) := by decide +kernel
theorem dX5_misfit_51 : decode cX5_misfit 51 = .ok (.ifCond .ne 6, 3) := by decide +kernel
end
section
theorem dX5_misfit_54 : decode cX5_misfit 54 = .ok (.bipush (-4), 2) := by decide +kernel
theorem dX5_misfit_56 : decode cX5_misfit 56 = .ok (.ireturn, 1) := by decide +kernel
theorem dX5_misfit_57 : decode cX5_misfit 57 = .ok (.aload_n 0, 1) := by decide +kernel
theorem dX5_misfit_58 : decode cX5_misfit 58 = .ok (.iload_n 1, 1) := by decide +kernel
theorem dX5_misfit_59 : decode cX5_misfit 59 = .ok (.iload_n 2, 1) := by decide +kernel
theorem dX5_misfit_60 : decode cX5_misfit 60 = .ok (.iload_n 3, 1) := by decide +kernel
theorem dX5_misfit_61 : decode cX5_misfit 61 = .ok (.iload 4, 2) := by decide +kernel
theorem dX5_misfit_63 : decode cX5_misfit 63 = .ok (.invokevirtual 121, 3) := by decide +kernel
theorem dX5_misfit_66 : decode cX5_misfit 66 = .ok (.ifCond .eq 15, 3) := by decide +kernel
theorem dX5_misfit_69 : decode cX5_misfit 69 = .ok (.aload_n 0, 1) := by decide +kernel
theorem dX5_misfit_70 : decode cX5_misfit 70 = .ok (.iload_n 1, 1) := by decide +kernel
theorem dX5_misfit_71 : decode cX5_misfit 71 = .ok (.iload_n 2, 1) := by decide +kernel
theorem dX5_misfit_72 : decode cX5_misfit 72 = .ok (.iload_n 3, 1) := by decide +kernel
theorem dX5_misfit_73 : decode cX5_misfit 73 = .ok (.iload 4, 2) := by decide +kernel
theorem dX5_misfit_75 : decode cX5_misfit 75 = .ok (.invokevirtual 140, 3) := by decide +kernel
theorem dX5_misfit_78 : decode cX5_misfit 78 = .ok (.goto 5, 3) := by decide +kernel
theorem dX5_misfit_81 : decode cX5_misfit 81 = .ok (.bipush (-5), 2) := by decide +kernel
theorem dX5_misfit_83 : decode cX5_misfit 83 = .ok (.ireturn, 1) := by decide +kernel
set_option maxRecDepth 20000 in
theorem ggX5_bestPhase_X5_isStation : GoodIn wsX5_bestPhase wsX5_isStation := goodIn_r _ [4, 5, 6, 3, 7] (by decide +kernel) (by decide +kernel)
set_option maxRecDepth 20000 in
theorem gX5_bestPhase_X5_isStation : GoodIn wsX5_bestPhase (va_wsS RX5 54 yX5_isStation wsX5_isStation) := goodIn_app (goodIn_of _ (by decide +kernel)) ggX5_bestPhase_X5_isStation
set_option maxRecDepth 20000 in
theorem ggX5_bestPhase_X5_isGap : GoodIn wsX5_bestPhase wsX5_isGap := goodIn_r _ [11, 12, 13, 14, 3, 15, 16, 17, 18, 19, 20, 5, 6, 7, 21, 22, 23, 24, 25, 26, 27, 66, 67, 68, 69, 70, 71, 72, 73, 74, 75] (by decide +kernel) (by decide +kernel)
set_option maxRecDepth 20000 in
theorem gX5_bestPhase_X5_isGap : GoodIn wsX5_bestPhase (wsV RX5 115 RX5 yX5_isGap wsX5_isGap) := goodIn_app (goodIn_of _ (by decide +kernel)) ggX5_bestPhase_X5_isGap
set_option maxRecDepth 20000 in
theorem ggX5_bestPhase_X5_isInner : GoodIn wsX5_bestPhase wsX5_isInner := goodIn_r _ [31, 16, 32, 33, 34, 3, 35, 17, 18, 19, 20, 5, 6, 7, 21, 22, 23, 24, 25, 26, 27, 36, 37, 38, 39, 66, 67, 68, 69, 70, 71, 72, 73, 74, 75] (by decide +kernel) (by decide +kernel)
set_option maxRecDepth 20000 in
theorem gX5_bestPhase_X5_isInner : GoodIn wsX5_bestPhase (wsV RX5 118 RX5 yX5_isInner wsX5_isInner) := goodIn_app (goodIn_of _ (by decide +kernel)) ggX5_bestPhase_X5_isInner
set_option maxRecDepth 20000 in
theorem ggX5_bestPhase_X5_canMend : GoodIn wsX5_bestPhase wsX5_canMend := goodIn_r _ [43, 32, 33, 34, 3, 35, 17, 18, 19, 20, 16, 5, 6, 7, 21, 22, 23, 24, 25, 26, 27, 36, 37, 38, 39, 66, 67, 68, 69, 70, 71, 72, 73, 74, 75] (by decide +kernel) (by decide +kernel)
set_option maxRecDepth 20000 in
theorem gX5_bestPhase_X5_canMend : GoodIn wsX5_bestPhase (wsV RX5 121 RX5 yX5_canMend wsX5_canMend) := goodIn_app (goodIn_of _ (by decide +kernel)) ggX5_bestPhase_X5_canMend
set_option maxRecDepth 20000 in
theorem ggX5_bestPhase_X5_misfitOf : GoodIn wsX5_bestPhase wsX5_misfitOf := goodIn_r _ [47, 32, 33, 34, 3, 35, 17, 18, 19, 20, 16, 5, 6, 7, 21, 22, 23, 24, 25, 26, 27, 36, 37, 38, 39, 48, 49, 50, 51, 52, 53, 54, 55, 56, 57, 58, 59, 60, 61, 62, 63, 64, 65, 66, 67, 68, 69, 70, 71, 72, 73, 74, 75] (by decide +kernel) (by decide +kernel)
set_option maxRecDepth 20000 in
theorem gX5_bestPhase_X5_misfitOf : GoodIn wsX5_bestPhase (wsV RX5 140 RX5 yX5_misfitOf wsX5_misfitOf) := goodIn_app (goodIn_of _ (by decide +kernel)) ggX5_bestPhase_X5_misfitOf
theorem dX5_bestPhase_0 : decode cX5_bestPhase 0 = .ok (.iload_n 1, 1) := by decide +kernel
theorem dX5_bestPhase_1 : decode cX5_bestPhase 1 = .ok (.invokestatic 54, 3) := by decide +kernel
theorem dX5_bestPhase_4 : decode cX5_bestPhase 4 = .ok (.ifCond .eq 19, 3) := by decide +kernel
theorem dX5_bestPhase_7 : decode cX5_bestPhase 7 = .ok (.aload_n 0, 1) := by decide +kernel
theorem dX5_bestPhase_8 : decode cX5_bestPhase 8 = .ok (.iload_n 1, 1) := by decide +kernel
theorem dX5_bestPhase_9 : decode cX5_bestPhase 9 = .ok (.iload_n 2, 1) := by decide +kernel
theorem dX5_bestPhase_10 : decode cX5_bestPhase 10 = .ok (.invokevirtual 115, 3) := by decide +kernel
theorem dX5_bestPhase_13 : decode cX5_bestPhase 13 = .ok (.ifCond .eq 10, 3) := by decide +kernel
theorem dX5_bestPhase_16 : decode cX5_bestPhase 16 = .ok (.iload_n 3, 1) := by decide +kernel
theorem dX5_bestPhase_17 : decode cX5_bestPhase 17 = .ok (.invokestatic 54, 3) := by decide +kernel
theorem dX5_bestPhase_20 : decode cX5_bestPhase 20 = .ok (.ifCond .ne 5, 3) := by decide +kernel
theorem dX5_bestPhase_23 : decode cX5_bestPhase 23 = .ok (.iconst (-1), 1) := by decide +kernel
theorem dX5_bestPhase_24 : decode cX5_bestPhase 24 = .ok (.ireturn, 1) := by decide +kernel
theorem dX5_bestPhase_25 : decode cX5_bestPhase 25 = .ok (.iload_n 3, 1) := by decide +kernel
theorem dX5_bestPhase_26 : decode cX5_bestPhase 26 = .ok (.iload_n 1, 1) := by decide +kernel
theorem dX5_bestPhase_27 : decode cX5_bestPhase 27 = .ok (.if_icmp .ne 6, 3) := by decide +kernel
theorem dX5_bestPhase_30 : decode cX5_bestPhase 30 = .ok (.bipush (-2), 2) := by decide +kernel
theorem dX5_bestPhase_32 : decode cX5_bestPhase 32 = .ok (.ireturn, 1) := by decide +kernel
theorem dX5_bestPhase_33 : decode cX5_bestPhase 33 = .ok (.aload_n 0, 1) := by decide +kernel
theorem dX5_bestPhase_34 : decode cX5_bestPhase 34 = .ok (.iload_n 1, 1) := by decide +kernel
theorem dX5_bestPhase_35 : decode cX5_bestPhase 35 = .ok (.iload_n 2, 1) := by decide +kernel
theorem dX5_bestPhase_36 : decode cX5_bestPhase 36 = .ok (.invokevirtual 118, 3) := by decide +kernel
theorem dX5_bestPhase_39 : decode cX5_bestPhase 39 = .ok (.ifCond .ne 6, 3) := by decide +kernel
theorem dX5_bestPhase_42 : decode cX5_bestPhase 42 = .ok (.bipush (-4), 2) := by decide +kernel
theorem dX5_bestPhase_44 : decode cX5_bestPhase 44 = .ok (.ireturn, 1) := by decide +kernel
theorem dX5_bestPhase_45 : decode cX5_bestPhase 45 = .ok (.bipush (-5), 2) := by decide +kernel
theorem dX5_bestPhase_47 : decode cX5_bestPhase 47 = .ok (.istore 4, 2) := by decide +kernel
theorem dX5_bestPhase_49 : decode cX5_bestPhase 49 = .ok (.iconst 0, 1) := by decide +kernel
theorem dX5_bestPhase_50 : decode cX5_bestPhase 50 = .ok (.istore 5, 2) := by decide +kernel
theorem dX5_bestPhase_52 : decode cX5_bestPhase 52 = .ok (.iconst 0, 1) := by decide +kernel
theorem dX5_bestPhase_53 : decode cX5_bestPhase 53 = .ok (.istore 6, 2) := by decide +kernel
theorem dX5_bestPhase_55 : decode cX5_bestPhase 55 = .ok (.iload 6, 2) := by decide +kernel
theorem dX5_bestPhase_57 : decode cX5_bestPhase 57 = .ok (.bipush 24, 2) := by decide +kernel
theorem dX5_bestPhase_59 : decode cX5_bestPhase 59 = .ok (.if_icmp .gt 108, 3) := by decide +kernel
theorem dX5_bestPhase_62 : decode cX5_bestPhase 62 = .ok (.iload 6, 2) := by decide +kernel
theorem dX5_bestPhase_64 : decode cX5_bestPhase 64 = .ok (.iconst 2, 1) := by decide +kernel
theorem dX5_bestPhase_65 : decode cX5_bestPhase 65 = .ok (.irem, 1) := by decide +kernel
theorem dX5_bestPhase_66 : decode cX5_bestPhase 66 = .ok (.iconst 1, 1) := by decide +kernel
theorem dX5_bestPhase_67 : decode cX5_bestPhase 67 = .ok (.if_icmp .ne 13, 3) := by decide +kernel
theorem dX5_bestPhase_70 : decode cX5_bestPhase 70 = .ok (.iload 6, 2) := by decide +kernel
theorem dX5_bestPhase_72 : decode cX5_bestPhase 72 = .ok (.iconst 1, 1) := by decide +kernel
theorem dX5_bestPhase_73 : decode cX5_bestPhase 73 = .ok (.iadd, 1) := by decide +kernel
theorem dX5_bestPhase_74 : decode cX5_bestPhase 74 = .ok (.ineg, 1) := by decide +kernel
theorem dX5_bestPhase_75 : decode cX5_bestPhase 75 = .ok (.iconst 2, 1) := by decide +kernel
theorem dX5_bestPhase_76 : decode cX5_bestPhase 76 = .ok (.idiv, 1) := by decide +kernel
theorem dX5_bestPhase_77 : decode cX5_bestPhase 77 = .ok (.goto 7, 3) := by decide +kernel
theorem dX5_bestPhase_80 : decode cX5_bestPhase 80 = .ok (.iload 6, 2) := by decide +kernel
theorem dX5_bestPhase_82 : decode cX5_bestPhase 82 = .ok (.iconst 2, 1) := by decide +kernel
theorem dX5_bestPhase_83 : decode cX5_bestPhase 83 = .ok (.idiv, 1) := by decide +kernel
theorem dX5_bestPhase_84 : decode cX5_bestPhase 84 = .ok (.istore 7, 2) := by decide +kernel
theorem dX5_bestPhase_86 : decode cX5_bestPhase 86 = .ok (.aload_n 0, 1) := by decide +kernel
theorem dX5_bestPhase_87 : decode cX5_bestPhase 87 = .ok (.iload_n 1, 1) := by decide +kernel
theorem dX5_bestPhase_88 : decode cX5_bestPhase 88 = .ok (.iload_n 2, 1) := by decide +kernel
theorem dX5_bestPhase_89 : decode cX5_bestPhase 89 = .ok (.iload_n 3, 1) := by decide +kernel
theorem dX5_bestPhase_90 : decode cX5_bestPhase 90 = .ok (.iload 7, 2) := by decide +kernel
theorem dX5_bestPhase_92 : decode cX5_bestPhase 92 = .ok (.invokevirtual 121, 3) := by decide +kernel
theorem dX5_bestPhase_95 : decode cX5_bestPhase 95 = .ok (.ifCond .eq 66, 3) := by decide +kernel
theorem dX5_bestPhase_98 : decode cX5_bestPhase 98 = .ok (.aload_n 0, 1) := by decide +kernel
theorem dX5_bestPhase_99 : decode cX5_bestPhase 99 = .ok (.iload_n 1, 1) := by decide +kernel
theorem dX5_bestPhase_100 : decode cX5_bestPhase 100 = .ok (.iload_n 2, 1) := by decide +kernel
theorem dX5_bestPhase_101 : decode cX5_bestPhase 101 = .ok (.iload_n 3, 1) := by decide +kernel
theorem dX5_bestPhase_102 : decode cX5_bestPhase 102 = .ok (.iload 7, 2) := by decide +kernel
theorem dX5_bestPhase_104 : decode cX5_bestPhase 104 = .ok (.invokevirtual 140, 3) := by decide +kernel
theorem dX5_bestPhase_107 : decode cX5_bestPhase 107 = .ok (.istore 8, 2) := by decide +kernel
theorem dX5_bestPhase_109 : decode cX5_bestPhase 109 = .ok (.iload 4, 2) := by decide +kernel
theorem dX5_bestPhase_111 : decode cX5_bestPhase 111 = .ok (.bipush (-5), 2) := by decide +kernel
theorem dX5_bestPhase_113 : decode cX5_bestPhase 113 = .ok (.if_icmp .eq 10, 3) := by decide +kernel
theorem dX5_bestPhase_116 : decode cX5_bestPhase 116 = .ok (.iload 8, 2) := by decide +kernel
theorem dX5_bestPhase_118 : decode cX5_bestPhase 118 = .ok (.iload 5, 2) := by decide +kernel
theorem dX5_bestPhase_120 : decode cX5_bestPhase 120 = .ok (.if_icmp .ge 7, 3) := by decide +kernel
theorem dX5_bestPhase_123 : decode cX5_bestPhase 123 = .ok (.iconst 1, 1) := by decide +kernel
theorem dX5_bestPhase_124 : decode cX5_bestPhase 124 = .ok (.goto 4, 3) := by decide +kernel
theorem dX5_bestPhase_127 : decode cX5_bestPhase 127 = .ok (.iconst 0, 1) := by decide +kernel
theorem dX5_bestPhase_128 : decode cX5_bestPhase 128 = .ok (.istore 9, 2) := by decide +kernel
theorem dX5_bestPhase_130 : decode cX5_bestPhase 130 = .ok (.iload 9, 2) := by decide +kernel
theorem dX5_bestPhase_132 : decode cX5_bestPhase 132 = .ok (.ifCond .eq 11, 3) := by decide +kernel
theorem dX5_bestPhase_135 : decode cX5_bestPhase 135 = .ok (.iload 7, 2) := by decide +kernel
theorem dX5_bestPhase_137 : decode cX5_bestPhase 137 = .ok (.bipush 100, 2) := by decide +kernel
theorem dX5_bestPhase_139 : decode cX5_bestPhase 139 = .ok (.iadd, 1) := by decide +kernel
theorem dX5_bestPhase_140 : decode cX5_bestPhase 140 = .ok (.goto 5, 3) := by decide +kernel
theorem dX5_bestPhase_143 : decode cX5_bestPhase 143 = .ok (.iload 4, 2) := by decide +kernel
theorem dX5_bestPhase_145 : decode cX5_bestPhase 145 = .ok (.istore 4, 2) := by decide +kernel
theorem dX5_bestPhase_147 : decode cX5_bestPhase 147 = .ok (.iload 9, 2) := by decide +kernel
theorem dX5_bestPhase_149 : decode cX5_bestPhase 149 = .ok (.ifCond .eq 8, 3) := by decide +kernel
theorem dX5_bestPhase_152 : decode cX5_bestPhase 152 = .ok (.iload 8, 2) := by decide +kernel
theorem dX5_bestPhase_154 : decode cX5_bestPhase 154 = .ok (.goto 5, 3) := by decide +kernel
theorem dX5_bestPhase_157 : decode cX5_bestPhase 157 = .ok (.iload 5, 2) := by decide +kernel
theorem dX5_bestPhase_159 : decode cX5_bestPhase 159 = .ok (.istore 5, 2) := by decide +kernel
theorem dX5_bestPhase_161 : decode cX5_bestPhase 161 = .ok (.iinc 6 1, 3) := by decide +kernel
theorem dX5_bestPhase_164 : decode cX5_bestPhase 164 = .ok (.goto (-109), 3) := by decide +kernel
theorem dX5_bestPhase_167 : decode cX5_bestPhase 167 = .ok (.iload 4, 2) := by decide +kernel
theorem dX5_bestPhase_169 : decode cX5_bestPhase 169 = .ok (.ireturn, 1) := by decide +kernel
set_option maxRecDepth 20000 in
theorem ggX5_isThere_X5_in : GoodIn wsX5_isThere wsX5_in := goodIn_r _ [5] (by decide +kernel) (by decide +kernel)
set_option maxRecDepth 20000 in
theorem gX5_isThere_X5_in : GoodIn wsX5_isThere (va_wsS RX5 29 yX5_in wsX5_in) := goodIn_app (goodIn_of _ (by decide +kernel)) ggX5_isThere_X5_in
set_option maxRecDepth 20000 in
theorem ggX5_isThere_X5_isRead : GoodIn wsX5_isThere wsX5_isRead := goodIn_r _ [9, 1, 2, 3, 4, 5, 10, 11, 12, 13, 14, 15, 16, 17, 18, 19, 20, 21, 22] (by decide +kernel) (by decide +kernel)
set_option maxRecDepth 20000 in
theorem gX5_isThere_X5_isRead : GoodIn wsX5_isThere (wsV RX5 99 RX5 yX5_isRead wsX5_isRead) := goodIn_app (goodIn_of _ (by decide +kernel)) ggX5_isThere_X5_isRead
set_option maxRecDepth 20000 in
theorem ggX5_isThere_X5_of : GoodIn wsX5_isThere wsX5_of := goodIn_r _ [12] (by decide +kernel) (by decide +kernel)
set_option maxRecDepth 20000 in
theorem gX5_isThere_X5_of : GoodIn wsX5_isThere (va_wsS RX5 22 yX5_of wsX5_of) := goodIn_app (goodIn_of _ (by decide +kernel)) ggX5_isThere_X5_of
theorem dX5_isThere_0 : decode cX5_isThere 0 = .ok (.iload_n 2, 1) := by decide +kernel
theorem dX5_isThere_1 : decode cX5_isThere 1 = .ok (.iconst 0, 1) := by decide +kernel
theorem dX5_isThere_2 : decode cX5_isThere 2 = .ok (.aload_n 0, 1) := by decide +kernel
theorem dX5_isThere_3 : decode cX5_isThere 3 = .ok (.getfield 7, 3) := by decide +kernel
theorem dX5_isThere_6 : decode cX5_isThere 6 = .ok (.iconst 0, 1) := by decide +kernel
theorem dX5_isThere_7 : decode cX5_isThere 7 = .ok (.iaload, 1) := by decide +kernel
theorem dX5_isThere_8 : decode cX5_isThere 8 = .ok (.iconst 1, 1) := by decide +kernel
theorem dX5_isThere_9 : decode cX5_isThere 9 = .ok (.isub, 1) := by decide +kernel
theorem dX5_isThere_10 : decode cX5_isThere 10 = .ok (.invokestatic 29, 3) := by decide +kernel
theorem dX5_isThere_13 : decode cX5_isThere 13 = .ok (.ifCond .eq 34, 3) := by decide +kernel
theorem dX5_isThere_16 : decode cX5_isThere 16 = .ok (.aload_n 0, 1) := by decide +kernel
theorem dX5_isThere_17 : decode cX5_isThere 17 = .ok (.iload_n 1, 1) := by decide +kernel
theorem dX5_isThere_18 : decode cX5_isThere 18 = .ok (.iload_n 2, 1) := by decide +kernel
theorem dX5_isThere_19 : decode cX5_isThere 19 = .ok (.invokevirtual 99, 3) := by decide +kernel
theorem dX5_isThere_22 : decode cX5_isThere 22 = .ok (.ifCond .ne 21, 3) := by decide +kernel
theorem dX5_isThere_25 : decode cX5_isThere 25 = .ok (.aload_n 0, 1) := by decide +kernel
theorem dX5_isThere_26 : decode cX5_isThere 26 = .ok (.getfield 7, 3) := by decide +kernel
theorem dX5_isThere_29 : decode cX5_isThere 29 = .ok (.iload_n 1, 1) := by decide +kernel
theorem dX5_isThere_30 : decode cX5_isThere 30 = .ok (.sipush 369, 3) := by decide +kernel
theorem dX5_isThere_33 : decode cX5_isThere 33 = .ok (.iload_n 2, 1) := by decide +kernel
theorem dX5_isThere_34 : decode cX5_isThere 34 = .ok (.iadd, 1) := by decide +kernel
theorem dX5_isThere_35 : decode cX5_isThere 35 = .ok (.invokestatic 22, 3) := by decide +kernel
theorem dX5_isThere_38 : decode cX5_isThere 38 = .ok (.iaload, 1) := by decide +kernel
theorem dX5_isThere_39 : decode cX5_isThere 39 = .ok (.iconst 1, 1) := by decide +kernel
theorem dX5_isThere_40 : decode cX5_isThere 40 = .ok (.if_icmp .ne 7, 3) := by decide +kernel
theorem dX5_isThere_43 : decode cX5_isThere 43 = .ok (.iconst 1, 1) := by decide +kernel
theorem dX5_isThere_44 : decode cX5_isThere 44 = .ok (.goto 4, 3) := by decide +kernel
theorem dX5_isThere_47 : decode cX5_isThere 47 = .ok (.iconst 0, 1) := by decide +kernel
theorem dX5_isThere_48 : decode cX5_isThere 48 = .ok (.ireturn, 1) := by decide +kernel
set_option maxRecDepth 20000 in
theorem ggX5_valueOf_X5_isRead : GoodIn wsX5_valueOf wsX5_isRead := goodIn_r _ [6, 1, 7, 8, 5, 9, 10, 11, 12, 24, 25, 26, 27, 28, 29, 30, 31, 32, 33] (by decide +kernel) (by decide +kernel)
set_option maxRecDepth 20000 in
theorem gX5_valueOf_X5_isRead : GoodIn wsX5_valueOf (wsV RX5 99 RX5 yX5_isRead wsX5_isRead) := goodIn_app (goodIn_of _ (by decide +kernel)) ggX5_valueOf_X5_isRead
set_option maxRecDepth 20000 in
theorem ggX5_valueOf_X5_corrected : GoodIn wsX5_valueOf wsX5_corrected := goodIn_r _ [16, 1, 10, 11, 5, 12, 17, 18, 19, 20, 21, 22, 23, 24, 25, 26, 27, 28, 29, 30, 31, 32, 33] (by decide +kernel) (by decide +kernel)
set_option maxRecDepth 20000 in
theorem gX5_valueOf_X5_corrected : GoodIn wsX5_valueOf (wsV RX5 125 RX5 yX5_corrected wsX5_corrected) := goodIn_app (goodIn_of _ (by decide +kernel)) ggX5_valueOf_X5_corrected
set_option maxRecDepth 20000 in
theorem ggX5_valueOf_X5_of : GoodIn wsX5_valueOf wsX5_of := goodIn_r _ [12] (by decide +kernel) (by decide +kernel)
set_option maxRecDepth 20000 in
theorem gX5_valueOf_X5_of : GoodIn wsX5_valueOf (va_wsS RX5 22 yX5_of wsX5_of) := goodIn_app (goodIn_of _ (by decide +kernel)) ggX5_valueOf_X5_of
theorem dX5_valueOf_0 : decode cX5_valueOf 0 = .ok (.aload_n 0, 1) := by decide +kernel
theorem dX5_valueOf_1 : decode cX5_valueOf 1 = .ok (.iload_n 1, 1) := by decide +kernel
theorem dX5_valueOf_2 : decode cX5_valueOf 2 = .ok (.iload_n 2, 1) := by decide +kernel
theorem dX5_valueOf_3 : decode cX5_valueOf 3 = .ok (.invokevirtual 99, 3) := by decide +kernel
theorem dX5_valueOf_6 : decode cX5_valueOf 6 = .ok (.ifCond .eq 12, 3) := by decide +kernel
theorem dX5_valueOf_9 : decode cX5_valueOf 9 = .ok (.aload_n 0, 1) := by decide +kernel
theorem dX5_valueOf_10 : decode cX5_valueOf 10 = .ok (.iload_n 1, 1) := by decide +kernel
theorem dX5_valueOf_11 : decode cX5_valueOf 11 = .ok (.iload_n 2, 1) := by decide +kernel
theorem dX5_valueOf_12 : decode cX5_valueOf 12 = .ok (.invokevirtual 125, 3) := by decide +kernel
theorem dX5_valueOf_15 : decode cX5_valueOf 15 = .ok (.goto 17, 3) := by decide +kernel
theorem dX5_valueOf_18 : decode cX5_valueOf 18 = .ok (.aload_n 0, 1) := by decide +kernel
theorem dX5_valueOf_19 : decode cX5_valueOf 19 = .ok (.getfield 7, 3) := by decide +kernel
theorem dX5_valueOf_22 : decode cX5_valueOf 22 = .ok (.iload_n 1, 1) := by decide +kernel
theorem dX5_valueOf_23 : decode cX5_valueOf 23 = .ok (.sipush 249, 3) := by decide +kernel
theorem dX5_valueOf_26 : decode cX5_valueOf 26 = .ok (.iload_n 2, 1) := by decide +kernel
theorem dX5_valueOf_27 : decode cX5_valueOf 27 = .ok (.iadd, 1) := by decide +kernel
theorem dX5_valueOf_28 : decode cX5_valueOf 28 = .ok (.invokestatic 22, 3) := by decide +kernel
theorem dX5_valueOf_31 : decode cX5_valueOf 31 = .ok (.iaload, 1) := by decide +kernel
theorem dX5_valueOf_32 : decode cX5_valueOf 32 = .ok (.ireturn, 1) := by decide +kernel
set_option maxRecDepth 20000 in
theorem ggX5_high_X5_isStation : GoodIn wsX5_high wsX5_isStation := goodIn_r _ [5, 6, 7, 4, 8] (by decide +kernel) (by decide +kernel)
set_option maxRecDepth 20000 in
theorem gX5_high_X5_isStation : GoodIn wsX5_high (va_wsS RX5 54 yX5_isStation wsX5_isStation) := goodIn_app (goodIn_of _ (by decide +kernel)) ggX5_high_X5_isStation
set_option maxRecDepth 20000 in
theorem ggX5_high_X5_isThere : GoodIn wsX5_high wsX5_isThere := goodIn_r _ [12, 1, 6, 7, 4, 8, 13, 14, 15, 16, 17, 18, 19, 35, 36, 37, 38, 39, 40, 41, 42, 43, 44] (by decide +kernel) (by decide +kernel)
set_option maxRecDepth 20000 in
theorem gX5_high_X5_isThere : GoodIn wsX5_high (wsV RX5 144 RX5 yX5_isThere wsX5_isThere) := goodIn_app (goodIn_of _ (by decide +kernel)) ggX5_high_X5_isThere
set_option maxRecDepth 20000 in
theorem ggX5_high_X5_valueOf : GoodIn wsX5_high wsX5_valueOf := goodIn_r _ [23, 1, 13, 14, 15, 4, 16, 6, 7, 8, 17, 18, 19, 24, 25, 26, 27, 28, 29, 30, 31, 32, 33, 34, 35, 36, 37, 38, 39, 40, 41, 42, 43, 44] (by decide +kernel) (by decide +kernel)
set_option maxRecDepth 20000 in
theorem gX5_high_X5_valueOf : GoodIn wsX5_high (wsV RX5 147 RX5 yX5_valueOf wsX5_valueOf) := goodIn_app (goodIn_of _ (by decide +kernel)) ggX5_high_X5_valueOf
theorem dX5_high_0 : decode cX5_high 0 = .ok (.iload_n 1, 1) := by decide +kernel
theorem dX5_high_1 : decode cX5_high 1 = .ok (.invokestatic 54, 3) := by decide +kernel
theorem dX5_high_4 : decode cX5_high 4 = .ok (.ifCond .ne 5, 3) := by decide +kernel
theorem dX5_high_7 : decode cX5_high 7 = .ok (.iconst (-1), 1) := by decide +kernel
theorem dX5_high_8 : decode cX5_high 8 = .ok (.ireturn, 1) := by decide +kernel
theorem dX5_high_9 : decode cX5_high 9 = .ok (.iload_n 2, 1) := by decide +kernel
theorem dX5_high_10 : decode cX5_high 10 = .ok (.ifCond .ge 6, 3) := by decide +kernel
theorem dX5_high_13 : decode cX5_high 13 = .ok (.bipush (-2), 2) := by decide +kernel
theorem dX5_high_15 : decode cX5_high 15 = .ok (.ireturn, 1) := by decide +kernel
theorem dX5_high_16 : decode cX5_high 16 = .ok (.iconst 0, 1) := by decide +kernel
theorem dX5_high_17 : decode cX5_high 17 = .ok (.istore_n 3, 1) := by decide +kernel
theorem dX5_high_18 : decode cX5_high 18 = .ok (.iconst 1, 1) := by decide +kernel
theorem dX5_high_19 : decode cX5_high 19 = .ok (.istore 4, 2) := by decide +kernel
theorem dX5_high_21 : decode cX5_high 21 = .ok (.iload 4, 2) := by decide +kernel
theorem dX5_high_23 : decode cX5_high 23 = .ok (.iconst 1, 1) := by decide +kernel
theorem dX5_high_24 : decode cX5_high 24 = .ok (.iadd, 1) := by decide +kernel
theorem dX5_high_25 : decode cX5_high 25 = .ok (.aload_n 0, 1) := by decide +kernel
theorem dX5_high_26 : decode cX5_high 26 = .ok (.getfield 7, 3) := by decide +kernel
theorem dX5_high_29 : decode cX5_high 29 = .ok (.iconst 0, 1) := by decide +kernel
theorem dX5_high_30 : decode cX5_high 30 = .ok (.iaload, 1) := by decide +kernel
theorem dX5_high_31 : decode cX5_high 31 = .ok (.if_icmp .ge 104, 3) := by decide +kernel
theorem dX5_high_34 : decode cX5_high 34 = .ok (.aload_n 0, 1) := by decide +kernel
theorem dX5_high_35 : decode cX5_high 35 = .ok (.iload_n 1, 1) := by decide +kernel
theorem dX5_high_36 : decode cX5_high 36 = .ok (.iload 4, 2) := by decide +kernel
theorem dX5_high_38 : decode cX5_high 38 = .ok (.iconst 1, 1) := by decide +kernel
theorem dX5_high_39 : decode cX5_high 39 = .ok (.isub, 1) := by decide +kernel
theorem dX5_high_40 : decode cX5_high 40 = .ok (.invokevirtual 144, 3) := by decide +kernel
theorem dX5_high_43 : decode cX5_high 43 = .ok (.ifCond .eq 29, 3) := by decide +kernel
theorem dX5_high_46 : decode cX5_high 46 = .ok (.aload_n 0, 1) := by decide +kernel
theorem dX5_high_47 : decode cX5_high 47 = .ok (.iload_n 1, 1) := by decide +kernel
theorem dX5_high_48 : decode cX5_high 48 = .ok (.iload 4, 2) := by decide +kernel
theorem dX5_high_50 : decode cX5_high 50 = .ok (.invokevirtual 144, 3) := by decide +kernel
theorem dX5_high_53 : decode cX5_high 53 = .ok (.ifCond .eq 19, 3) := by decide +kernel
theorem dX5_high_56 : decode cX5_high 56 = .ok (.aload_n 0, 1) := by decide +kernel
theorem dX5_high_57 : decode cX5_high 57 = .ok (.iload_n 1, 1) := by decide +kernel
theorem dX5_high_58 : decode cX5_high 58 = .ok (.iload 4, 2) := by decide +kernel
theorem dX5_high_60 : decode cX5_high 60 = .ok (.iconst 1, 1) := by decide +kernel
theorem dX5_high_61 : decode cX5_high 61 = .ok (.iadd, 1) := by decide +kernel
theorem dX5_high_62 : decode cX5_high 62 = .ok (.invokevirtual 144, 3) := by decide +kernel
theorem dX5_high_65 : decode cX5_high 65 = .ok (.ifCond .eq 7, 3) := by decide +kernel
theorem dX5_high_68 : decode cX5_high 68 = .ok (.iconst 1, 1) := by decide +kernel
theorem dX5_high_69 : decode cX5_high 69 = .ok (.goto 4, 3) := by decide +kernel
theorem dX5_high_72 : decode cX5_high 72 = .ok (.iconst 0, 1) := by decide +kernel
theorem dX5_high_73 : decode cX5_high 73 = .ok (.istore 5, 2) := by decide +kernel
theorem dX5_high_75 : decode cX5_high 75 = .ok (.iload 5, 2) := by decide +kernel
theorem dX5_high_77 : decode cX5_high 77 = .ok (.ifCond .eq 52, 3) := by decide +kernel
theorem dX5_high_80 : decode cX5_high 80 = .ok (.aload_n 0, 1) := by decide +kernel
theorem dX5_high_81 : decode cX5_high 81 = .ok (.iload_n 1, 1) := by decide +kernel
theorem dX5_high_82 : decode cX5_high 82 = .ok (.iload 4, 2) := by decide +kernel
theorem dX5_high_84 : decode cX5_high 84 = .ok (.invokevirtual 147, 3) := by decide +kernel
theorem dX5_high_87 : decode cX5_high 87 = .ok (.aload_n 0, 1) := by decide +kernel
theorem dX5_high_88 : decode cX5_high 88 = .ok (.iload_n 1, 1) := by decide +kernel
theorem dX5_high_89 : decode cX5_high 89 = .ok (.iload 4, 2) := by decide +kernel
theorem dX5_high_91 : decode cX5_high 91 = .ok (.iconst 1, 1) := by decide +kernel
theorem dX5_high_92 : decode cX5_high 92 = .ok (.isub, 1) := by decide +kernel
theorem dX5_high_93 : decode cX5_high 93 = .ok (.invokevirtual 147, 3) := by decide +kernel
theorem dX5_high_96 : decode cX5_high 96 = .ok (.if_icmp .le 33, 3) := by decide +kernel
theorem dX5_high_99 : decode cX5_high 99 = .ok (.aload_n 0, 1) := by decide +kernel
theorem dX5_high_100 : decode cX5_high 100 = .ok (.iload_n 1, 1) := by decide +kernel
theorem dX5_high_101 : decode cX5_high 101 = .ok (.iload 4, 2) := by decide +kernel
theorem dX5_high_103 : decode cX5_high 103 = .ok (.invokevirtual 147, 3) := by decide +kernel
theorem dX5_high_106 : decode cX5_high 106 = .ok (.aload_n 0, 1) := by decide +kernel
theorem dX5_high_107 : decode cX5_high 107 = .ok (.iload_n 1, 1) := by decide +kernel
theorem dX5_high_108 : decode cX5_high 108 = .ok (.iload 4, 2) := by decide +kernel
theorem dX5_high_110 : decode cX5_high 110 = .ok (.iconst 1, 1) := by decide +kernel
theorem dX5_high_111 : decode cX5_high 111 = .ok (.iadd, 1) := by decide +kernel
theorem dX5_high_112 : decode cX5_high 112 = .ok (.invokevirtual 147, 3) := by decide +kernel
theorem dX5_high_115 : decode cX5_high 115 = .ok (.if_icmp .le 14, 3) := by decide +kernel
theorem dX5_high_118 : decode cX5_high 118 = .ok (.iload_n 3, 1) := by decide +kernel
theorem dX5_high_119 : decode cX5_high 119 = .ok (.iload_n 2, 1) := by decide +kernel
theorem dX5_high_120 : decode cX5_high 120 = .ok (.if_icmp .ne 6, 3) := by decide +kernel
theorem dX5_high_123 : decode cX5_high 123 = .ok (.iload 4, 2) := by decide +kernel
theorem dX5_high_125 : decode cX5_high 125 = .ok (.ireturn, 1) := by decide +kernel
theorem dX5_high_126 : decode cX5_high 126 = .ok (.iinc 3 1, 3) := by decide +kernel
theorem dX5_high_129 : decode cX5_high 129 = .ok (.iinc 4 1, 3) := by decide +kernel
theorem dX5_high_132 : decode cX5_high 132 = .ok (.goto (-111), 3) := by decide +kernel
theorem dX5_high_135 : decode cX5_high 135 = .ok (.bipush (-5), 2) := by decide +kernel
theorem dX5_high_137 : decode cX5_high 137 = .ok (.ireturn, 1) := by decide +kernel
set_option maxRecDepth 20000 in
theorem ggX5_sumOfAll_X5_sum : GoodIn wsX5_sumOfAll wsX5_sum := goodIn_r _ [5, 6, 7, 8, 4, 9, 10, 11, 12, 13, 14, 15, 16, 17, 18, 19] (by decide +kernel) (by decide +kernel)
set_option maxRecDepth 20000 in
theorem gX5_sumOfAll_X5_sum : GoodIn wsX5_sumOfAll (wsV RX5 128 RX5 yX5_sum wsX5_sum) := goodIn_app (goodIn_of _ (by decide +kernel)) ggX5_sumOfAll_X5_sum
theorem dX5_sumOfAll_0 : decode cX5_sumOfAll 0 = .ok (.aload_n 0, 1) := by decide +kernel
theorem dX5_sumOfAll_1 : decode cX5_sumOfAll 1 = .ok (.iconst 0, 1) := by decide +kernel
theorem dX5_sumOfAll_2 : decode cX5_sumOfAll 2 = .ok (.iload_n 1, 1) := by decide +kernel
theorem dX5_sumOfAll_3 : decode cX5_sumOfAll 3 = .ok (.invokevirtual 128, 3) := by decide +kernel
theorem dX5_sumOfAll_6 : decode cX5_sumOfAll 6 = .ok (.aload_n 0, 1) := by decide +kernel
theorem dX5_sumOfAll_7 : decode cX5_sumOfAll 7 = .ok (.iconst 1, 1) := by decide +kernel
theorem dX5_sumOfAll_8 : decode cX5_sumOfAll 8 = .ok (.iload_n 1, 1) := by decide +kernel
theorem dX5_sumOfAll_9 : decode cX5_sumOfAll 9 = .ok (.invokevirtual 128, 3) := by decide +kernel
theorem dX5_sumOfAll_12 : decode cX5_sumOfAll 12 = .ok (.iadd, 1) := by decide +kernel
theorem dX5_sumOfAll_13 : decode cX5_sumOfAll 13 = .ok (.aload_n 0, 1) := by decide +kernel
theorem dX5_sumOfAll_14 : decode cX5_sumOfAll 14 = .ok (.iconst 2, 1) := by decide +kernel
theorem dX5_sumOfAll_15 : decode cX5_sumOfAll 15 = .ok (.iload_n 1, 1) := by decide +kernel
theorem dX5_sumOfAll_16 : decode cX5_sumOfAll 16 = .ok (.invokevirtual 128, 3) := by decide +kernel
theorem dX5_sumOfAll_19 : decode cX5_sumOfAll 19 = .ok (.iadd, 1) := by decide +kernel
theorem dX5_sumOfAll_20 : decode cX5_sumOfAll 20 = .ok (.ireturn, 1) := by decide +kernel
set_option maxRecDepth 20000 in
theorem ggX5_count_X5_manyOn : GoodIn wsX5_count wsX5_manyOn := goodIn_r _ [8, 1, 9, 10, 7, 11, 20, 21, 22, 23, 24, 25, 26, 27, 28, 29] (by decide +kernel) (by decide +kernel)
set_option maxRecDepth 20000 in
theorem gX5_count_X5_manyOn : GoodIn wsX5_count (wsV RX5 58 RX5 yX5_manyOn wsX5_manyOn) := goodIn_app (goodIn_of _ (by decide +kernel)) ggX5_count_X5_manyOn
set_option maxRecDepth 20000 in
theorem ggX5_count_X5_sumOfAll : GoodIn wsX5_count wsX5_sumOfAll := goodIn_r _ [15, 16, 17, 18, 7, 19, 1, 9, 10, 11, 20, 21, 22, 23, 24, 25, 26, 27, 28, 29] (by decide +kernel) (by decide +kernel)
set_option maxRecDepth 20000 in
theorem gX5_count_X5_sumOfAll : GoodIn wsX5_count (wsV RX5 150 RX5 yX5_sumOfAll wsX5_sumOfAll) := goodIn_app (goodIn_of _ (by decide +kernel)) ggX5_count_X5_sumOfAll
theorem dX5_count_0 : decode cX5_count 0 = .ok (.iload_n 1, 1) := by decide +kernel
theorem dX5_count_1 : decode cX5_count 1 = .ok (.tableswitch 98 0 6 #[43, 50, 55, 63, 80, 88, 93], 43) := by decide +kernel
theorem dX5_count_44 : decode cX5_count 44 = .ok (.aload_n 0, 1) := by decide +kernel
theorem dX5_count_45 : decode cX5_count 45 = .ok (.getfield 7, 3) := by decide +kernel
theorem dX5_count_48 : decode cX5_count 48 = .ok (.iconst 0, 1) := by decide +kernel
theorem dX5_count_49 : decode cX5_count 49 = .ok (.iaload, 1) := by decide +kernel
theorem dX5_count_50 : decode cX5_count 50 = .ok (.ireturn, 1) := by decide +kernel
theorem dX5_count_51 : decode cX5_count 51 = .ok (.aload_n 0, 1) := by decide +kernel
theorem dX5_count_52 : decode cX5_count 52 = .ok (.invokevirtual 58, 3) := by decide +kernel
theorem dX5_count_55 : decode cX5_count 55 = .ok (.ireturn, 1) := by decide +kernel
theorem dX5_count_56 : decode cX5_count 56 = .ok (.aload_n 0, 1) := by decide +kernel
theorem dX5_count_57 : decode cX5_count 57 = .ok (.sipush 129, 3) := by decide +kernel
theorem dX5_count_60 : decode cX5_count 60 = .ok (.invokevirtual 150, 3) := by decide +kernel
theorem dX5_count_63 : decode cX5_count 63 = .ok (.ireturn, 1) := by decide +kernel
theorem dX5_count_64 : decode cX5_count 64 = .ok (.iconst 3, 1) := by decide +kernel
theorem dX5_count_65 : decode cX5_count 65 = .ok (.aload_n 0, 1) := by decide +kernel
theorem dX5_count_66 : decode cX5_count 66 = .ok (.getfield 7, 3) := by decide +kernel
theorem dX5_count_69 : decode cX5_count 69 = .ok (.iconst 0, 1) := by decide +kernel
theorem dX5_count_70 : decode cX5_count 70 = .ok (.iaload, 1) := by decide +kernel
theorem dX5_count_71 : decode cX5_count 71 = .ok (.imul, 1) := by decide +kernel
theorem dX5_count_72 : decode cX5_count 72 = .ok (.aload_n 0, 1) := by decide +kernel
theorem dX5_count_73 : decode cX5_count 73 = .ok (.sipush 129, 3) := by decide +kernel
theorem dX5_count_76 : decode cX5_count 76 = .ok (.invokevirtual 150, 3) := by decide +kernel
theorem dX5_count_79 : decode cX5_count 79 = .ok (.isub, 1) := by decide +kernel
theorem dX5_count_80 : decode cX5_count 80 = .ok (.ireturn, 1) := by decide +kernel
theorem dX5_count_81 : decode cX5_count 81 = .ok (.aload_n 0, 1) := by decide +kernel
theorem dX5_count_82 : decode cX5_count 82 = .ok (.sipush 369, 3) := by decide +kernel
theorem dX5_count_85 : decode cX5_count 85 = .ok (.invokevirtual 150, 3) := by decide +kernel
theorem dX5_count_88 : decode cX5_count 88 = .ok (.ireturn, 1) := by decide +kernel
theorem dX5_count_89 : decode cX5_count 89 = .ok (.aload_n 0, 1) := by decide +kernel
theorem dX5_count_90 : decode cX5_count 90 = .ok (.getfield 33, 3) := by decide +kernel
theorem dX5_count_93 : decode cX5_count 93 = .ok (.ireturn, 1) := by decide +kernel
theorem dX5_count_94 : decode cX5_count 94 = .ok (.aload_n 0, 1) := by decide +kernel
theorem dX5_count_95 : decode cX5_count 95 = .ok (.getfield 72, 3) := by decide +kernel
theorem dX5_count_98 : decode cX5_count 98 = .ok (.ireturn, 1) := by decide +kernel
theorem dX5_count_99 : decode cX5_count 99 = .ok (.bipush (-2), 2) := by decide +kernel
theorem dX5_count_101 : decode cX5_count 101 = .ok (.ireturn, 1) := by decide +kernel
theorem dJ9_floorDiv_7cf53_0 : decode cJ9_floorDiv_7cf53 0 = .ok (.iload_n 0, 1) := by decide +kernel
theorem dJ9_floorDiv_7cf53_1 : decode cJ9_floorDiv_7cf53 1 = .ok (.iload_n 1, 1) := by decide +kernel
theorem dJ9_floorDiv_7cf53_2 : decode cJ9_floorDiv_7cf53 2 = .ok (.idiv, 1) := by decide +kernel
theorem dJ9_floorDiv_7cf53_3 : decode cJ9_floorDiv_7cf53 3 = .ok (.istore_n 2, 1) := by decide +kernel
theorem dJ9_floorDiv_7cf53_4 : decode cJ9_floorDiv_7cf53 4 = .ok (.iload_n 0, 1) := by decide +kernel
theorem dJ9_floorDiv_7cf53_5 : decode cJ9_floorDiv_7cf53 5 = .ok (.iload_n 1, 1) := by decide +kernel
theorem dJ9_floorDiv_7cf53_6 : decode cJ9_floorDiv_7cf53 6 = .ok (.ixor, 1) := by decide +kernel
theorem dJ9_floorDiv_7cf53_7 : decode cJ9_floorDiv_7cf53 7 = .ok (.ifCond .ge 14, 3) := by decide +kernel
theorem dJ9_floorDiv_7cf53_10 : decode cJ9_floorDiv_7cf53 10 = .ok (.iload_n 2, 1) := by decide +kernel
theorem dJ9_floorDiv_7cf53_11 : decode cJ9_floorDiv_7cf53 11 = .ok (.iload_n 1, 1) := by decide +kernel
theorem dJ9_floorDiv_7cf53_12 : decode cJ9_floorDiv_7cf53 12 = .ok (.imul, 1) := by decide +kernel
theorem dJ9_floorDiv_7cf53_13 : decode cJ9_floorDiv_7cf53 13 = .ok (.iload_n 0, 1) := by decide +kernel
theorem dJ9_floorDiv_7cf53_14 : decode cJ9_floorDiv_7cf53 14 = .ok (.if_icmp .eq 7, 3) := by decide +kernel
theorem dJ9_floorDiv_7cf53_17 : decode cJ9_floorDiv_7cf53 17 = .ok (.iload_n 2, 1) := by decide +kernel
theorem dJ9_floorDiv_7cf53_18 : decode cJ9_floorDiv_7cf53 18 = .ok (.iconst 1, 1) := by decide +kernel
theorem dJ9_floorDiv_7cf53_19 : decode cJ9_floorDiv_7cf53 19 = .ok (.isub, 1) := by decide +kernel
theorem dJ9_floorDiv_7cf53_20 : decode cJ9_floorDiv_7cf53 20 = .ok (.ireturn, 1) := by decide +kernel
theorem dJ9_floorDiv_7cf53_21 : decode cJ9_floorDiv_7cf53 21 = .ok (.iload_n 2, 1) := by decide +kernel
theorem dJ9_floorDiv_7cf53_22 : decode cJ9_floorDiv_7cf53 22 = .ok (.ireturn, 1) := by decide +kernel
theorem dJ9_floorMod_7cf53_0 : decode cJ9_floorMod_7cf53 0 = .ok (.iload_n 0, 1) := by decide +kernel
theorem dJ9_floorMod_7cf53_1 : decode cJ9_floorMod_7cf53 1 = .ok (.iload_n 1, 1) := by decide +kernel
theorem dJ9_floorMod_7cf53_2 : decode cJ9_floorMod_7cf53 2 = .ok (.irem, 1) := by decide +kernel
theorem dJ9_floorMod_7cf53_3 : decode cJ9_floorMod_7cf53 3 = .ok (.istore_n 2, 1) := by decide +kernel
theorem dJ9_floorMod_7cf53_4 : decode cJ9_floorMod_7cf53 4 = .ok (.iload_n 0, 1) := by decide +kernel
theorem dJ9_floorMod_7cf53_5 : decode cJ9_floorMod_7cf53 5 = .ok (.iload_n 1, 1) := by decide +kernel
theorem dJ9_floorMod_7cf53_6 : decode cJ9_floorMod_7cf53 6 = .ok (.ixor, 1) := by decide +kernel
theorem dJ9_floorMod_7cf53_7 : decode cJ9_floorMod_7cf53 7 = .ok (.ifCond .ge 11, 3) := by decide +kernel
theorem dJ9_floorMod_7cf53_10 : decode cJ9_floorMod_7cf53 10 = .ok (.iload_n 2, 1) := by decide +kernel
theorem dJ9_floorMod_7cf53_11 : decode cJ9_floorMod_7cf53 11 = .ok (.ifCond .eq 7, 3) := by decide +kernel
theorem dJ9_floorMod_7cf53_14 : decode cJ9_floorMod_7cf53 14 = .ok (.iload_n 2, 1) := by decide +kernel
theorem dJ9_floorMod_7cf53_15 : decode cJ9_floorMod_7cf53 15 = .ok (.iload_n 1, 1) := by decide +kernel
theorem dJ9_floorMod_7cf53_16 : decode cJ9_floorMod_7cf53 16 = .ok (.iadd, 1) := by decide +kernel
theorem dJ9_floorMod_7cf53_17 : decode cJ9_floorMod_7cf53 17 = .ok (.ireturn, 1) := by decide +kernel
theorem dJ9_floorMod_7cf53_18 : decode cJ9_floorMod_7cf53 18 = .ok (.iload_n 2, 1) := by decide +kernel
theorem dJ9_floorMod_7cf53_19 : decode cJ9_floorMod_7cf53 19 = .ok (.ireturn, 1) := by decide +kernel
theorem dJ9_abs_0f7a4_0 : decode cJ9_abs_0f7a4 0 = .ok (.iload_n 0, 1) := by decide +kernel
theorem dJ9_abs_0f7a4_1 : decode cJ9_abs_0f7a4 1 = .ok (.ifCond .ge 8, 3) := by decide +kernel
theorem dJ9_abs_0f7a4_4 : decode cJ9_abs_0f7a4 4 = .ok (.iload_n 0, 1) := by decide +kernel
theorem dJ9_abs_0f7a4_5 : decode cJ9_abs_0f7a4 5 = .ok (.ineg, 1) := by decide +kernel
theorem dJ9_abs_0f7a4_6 : decode cJ9_abs_0f7a4 6 = .ok (.goto 4, 3) := by decide +kernel
theorem dJ9_abs_0f7a4_9 : decode cJ9_abs_0f7a4 9 = .ok (.iload_n 0, 1) := by decide +kernel
theorem dJ9_abs_0f7a4_10 : decode cJ9_abs_0f7a4 10 = .ok (.ireturn, 1) := by decide +kernel
theorem dJ9_max_7cf53_0 : decode cJ9_max_7cf53 0 = .ok (.iload_n 0, 1) := by decide +kernel
theorem dJ9_max_7cf53_1 : decode cJ9_max_7cf53 1 = .ok (.iload_n 1, 1) := by decide +kernel
theorem dJ9_max_7cf53_2 : decode cJ9_max_7cf53 2 = .ok (.if_icmp .lt 7, 3) := by decide +kernel
theorem dJ9_max_7cf53_5 : decode cJ9_max_7cf53 5 = .ok (.iload_n 0, 1) := by decide +kernel
theorem dJ9_max_7cf53_6 : decode cJ9_max_7cf53 6 = .ok (.goto 4, 3) := by decide +kernel
theorem dJ9_max_7cf53_9 : decode cJ9_max_7cf53 9 = .ok (.iload_n 1, 1) := by decide +kernel
theorem dJ9_max_7cf53_10 : decode cJ9_max_7cf53 10 = .ok (.ireturn, 1) := by decide +kernel
theorem dJ7_fill_53178_0 : decode cJ7_fill_53178 0 = .ok (.iconst 0, 1) := by decide +kernel
theorem dJ7_fill_53178_1 : decode cJ7_fill_53178 1 = .ok (.istore_n 2, 1) := by decide +kernel
theorem dJ7_fill_53178_2 : decode cJ7_fill_53178 2 = .ok (.aload_n 0, 1) := by decide +kernel
theorem dJ7_fill_53178_3 : decode cJ7_fill_53178 3 = .ok (.arraylength, 1) := by decide +kernel
theorem dJ7_fill_53178_4 : decode cJ7_fill_53178 4 = .ok (.istore_n 3, 1) := by decide +kernel
theorem dJ7_fill_53178_5 : decode cJ7_fill_53178 5 = .ok (.iload_n 2, 1) := by decide +kernel
theorem dJ7_fill_53178_6 : decode cJ7_fill_53178 6 = .ok (.iload_n 3, 1) := by decide +kernel
theorem dJ7_fill_53178_7 : decode cJ7_fill_53178 7 = .ok (.if_icmp .ge 13, 3) := by decide +kernel
theorem dJ7_fill_53178_10 : decode cJ7_fill_53178 10 = .ok (.aload_n 0, 1) := by decide +kernel
theorem dJ7_fill_53178_11 : decode cJ7_fill_53178 11 = .ok (.iload_n 2, 1) := by decide +kernel
theorem dJ7_fill_53178_12 : decode cJ7_fill_53178 12 = .ok (.iload_n 1, 1) := by decide +kernel
theorem dJ7_fill_53178_13 : decode cJ7_fill_53178 13 = .ok (.iastore, 1) := by decide +kernel
theorem dJ7_fill_53178_14 : decode cJ7_fill_53178 14 = .ok (.iinc 2 1, 3) := by decide +kernel
theorem dJ7_fill_53178_17 : decode cJ7_fill_53178 17 = .ok (.goto (-12), 3) := by decide +kernel
theorem dJ7_fill_53178_20 : decode cJ7_fill_53178 20 = .ok (.return_, 1) := by decide +kernel
set_option maxRecDepth 20000 in
theorem ggL_law_X4_init : GoodIn wsL_law wsX4_init := goodIn_r _ [8, 9, 10, 11, 12, 13, 14, 15, 16, 17, 18, 19, 20, 21, 22, 23, 24, 25, 26, 27, 28, 29, 30, 31, 32, 33, 34, 35, 36, 37, 38, 39, 40, 41, 42, 43, 44, 45, 46, 47, 48, 49, 50, 51, 52, 53, 54, 55, 56, 57, 58, 59, 60, 61, 62, 63, 64, 65, 66, 67, 68, 69, 70, 71, 72, 73, 74, 75, 76, 77, 78, 79, 80, 81, 82, 83, 84, 85, 86, 87, 88, 89, 90, 91, 92, 93, 94, 95, 96, 97, 98, 99, 723, 724, 725, 707, 708, 709, 710, 711, 712, 726, 727, 728, 729, 730, 731, 732, 733, 734, 735, 736, 737, 738, 739, 740, 741, 742, 743, 744, 745] (by decide +kernel) (by decide +kernel)
set_option maxRecDepth 20000 in
theorem gL_law_X4_init : GoodIn wsL_law (wsX4_init) := ggL_law_X4_init
set_option maxRecDepth 20000 in
theorem ggL_law_X5_init : GoodIn wsL_law wsX5_init := goodIn_r _ [102, 103, 10, 11, 51, 104, 105, 106, 107, 108, 109, 5, 110, 111, 112, 113, 114, 115, 116, 117, 118, 119, 120, 121, 122, 123, 124, 125, 126, 127, 128, 129, 713, 714, 715, 716, 717, 718, 719, 720, 721, 722] (by decide +kernel) (by decide +kernel)
set_option maxRecDepth 20000 in
theorem gL_law_X5_init : GoodIn wsL_law (wsX5_init) := ggL_law_X5_init
set_option maxRecDepth 20000 in
theorem ggL_law_X4_setWave : GoodIn wsL_law wsX4_setWave := goodIn_r _ [133, 15, 134, 135, 136, 137, 138, 2, 139, 140, 141, 142, 29, 143, 42, 43, 44, 144, 145, 146, 147, 148, 17, 149, 150, 151, 152, 153, 154, 155, 14, 156, 157, 27, 158, 159, 160, 31, 161, 39, 40, 41, 162, 163, 164, 33, 165, 59, 60, 61, 166, 167, 168, 169, 170, 49, 50, 171, 172, 52, 173, 174, 175, 176, 53, 54, 55, 56, 57, 58, 177, 178, 179, 180, 181, 66, 67, 68, 69, 70, 71, 72, 73, 74, 75, 76, 77, 78, 79, 80, 81, 82, 83, 84, 85, 86, 87, 88, 89, 90, 91, 92, 93, 182, 707, 708, 709, 710, 711, 712, 723, 724, 725, 728, 729, 730, 731, 732, 733, 734, 735, 736, 737, 738, 739, 740, 741, 742, 743, 744, 745] (by decide +kernel) (by decide +kernel)
set_option maxRecDepth 20000 in
theorem gL_law_X4_setWave : GoodIn wsL_law (wsV RL 13 RX4 yX4_setWave wsX4_setWave) := goodIn_app (goodIn_of _ (by decide +kernel)) ggL_law_X4_setWave
set_option maxRecDepth 20000 in
theorem ggL_law_X5_setWave : GoodIn wsL_law wsX5_setWave := goodIn_r _ [186, 104, 187, 188, 189, 5, 190, 191, 192, 193, 194, 195, 105, 111, 112, 113, 114, 108, 109, 110, 115, 116, 117, 118, 119, 120, 121, 122, 123, 124, 125, 126, 127, 128, 129, 713, 714, 715, 716, 717, 718, 719, 720, 721, 722] (by decide +kernel) (by decide +kernel)
set_option maxRecDepth 20000 in
theorem gL_law_X5_setWave : GoodIn wsL_law (wsV RL 17 RX5 yX5_setWave wsX5_setWave) := goodIn_app (goodIn_of _ (by decide +kernel)) ggL_law_X5_setWave
set_option maxRecDepth 20000 in
theorem ggL_law_X4_setStation : GoodIn wsL_law wsX4_setStation := goodIn_r _ [199, 15, 134, 200, 201, 136, 202, 203, 2, 204, 137, 138, 139, 205, 206, 207, 33, 208, 59, 60, 61, 144, 145, 146, 147, 148, 17, 149, 150, 151, 152, 153, 154, 155, 14, 156, 157, 27, 158, 159, 160, 31, 161, 39, 40, 29, 41, 42, 43, 44, 162, 163, 164, 165, 166, 167, 168, 169, 170, 49, 50, 171, 172, 52, 173, 174, 175, 176, 53, 54, 55, 56, 57, 58, 209, 210, 67, 68, 69, 70, 71, 72, 73, 74, 75, 76, 77, 78, 79, 80, 81, 82, 83, 84, 85, 86, 87, 88, 89, 90, 91, 92, 93, 707, 708, 709, 710, 711, 712, 723, 724, 725, 731, 732, 733, 734, 735, 736, 737, 738, 739, 740, 741, 742, 743, 744, 745, 728, 729, 730] (by decide +kernel) (by decide +kernel)
set_option maxRecDepth 20000 in
theorem gL_law_X4_setStation : GoodIn wsL_law (wsV RL 18 RX4 yX4_setStation wsX4_setStation) := goodIn_app (goodIn_of _ (by decide +kernel)) ggL_law_X4_setStation
set_option maxRecDepth 20000 in
theorem ggL_law_X5_setStation : GoodIn wsL_law wsX5_setStation := goodIn_r _ [214, 104, 187, 215, 216, 5, 217, 188, 189, 190, 108, 109, 110, 191, 192, 193, 194, 195, 105, 115, 116, 117, 118, 119, 120, 121, 122, 123, 124, 125, 126, 127, 128, 129, 713, 714, 715, 716, 717, 718, 719, 720, 721, 722] (by decide +kernel) (by decide +kernel)
set_option maxRecDepth 20000 in
theorem gL_law_X5_setStation : GoodIn wsL_law (wsV RL 21 RX5 yX5_setStation wsX5_setStation) := goodIn_app (goodIn_of _ (by decide +kernel)) ggL_law_X5_setStation
set_option maxRecDepth 20000 in
theorem ggL_law_X4_setRate : GoodIn wsL_law wsX4_setRate := goodIn_r _ [221, 15, 200, 222, 223, 202, 203, 2, 204, 137, 138, 139, 144, 145, 146, 147, 148, 17, 149, 150, 151, 152, 153, 154, 155, 14, 156, 157, 27, 158, 159, 160, 31, 161, 39, 40, 29, 41, 42, 43, 44, 162, 163, 164, 33, 165, 59, 60, 61, 166, 167, 168, 169, 170, 49, 50, 171, 172, 52, 173, 174, 175, 176, 53, 54, 55, 56, 57, 58, 707, 708, 709, 710, 711, 712, 723, 724, 725, 731, 732, 733, 734, 735, 736, 737, 738, 739, 740, 741, 742, 743, 744, 745, 728, 729, 730] (by decide +kernel) (by decide +kernel)
set_option maxRecDepth 20000 in
theorem gL_law_X4_setRate : GoodIn wsL_law (wsV RL 22 RX4 yX4_setRate wsX4_setRate) := goodIn_app (goodIn_of _ (by decide +kernel)) ggL_law_X4_setRate
set_option maxRecDepth 20000 in
theorem ggL_law_X5_setRate : GoodIn wsL_law wsX5_setRate := goodIn_r _ [227, 104, 215, 216, 5, 217, 188, 189, 190, 108, 109, 110, 191, 192, 193, 194, 195, 105, 713, 714, 715, 716, 717, 718, 719, 720, 721, 722] (by decide +kernel) (by decide +kernel)
set_option maxRecDepth 20000 in
theorem gL_law_X5_setRate : GoodIn wsL_law (wsV RL 26 RX5 yX5_setRate wsX5_setRate) := goodIn_app (goodIn_of _ (by decide +kernel)) ggL_law_X5_setRate
set_option maxRecDepth 20000 in
theorem ggL_law_X4_turn : GoodIn wsL_law wsX4_turn := goodIn_r _ [231, 15, 200, 232, 202, 203, 2, 204, 144, 145, 146, 147, 148, 17, 149, 150, 151, 152, 153, 154, 155, 14, 156, 157, 27, 158, 159, 160, 31, 161, 39, 40, 29, 41, 42, 43, 44, 162, 163, 164, 33, 165, 59, 60, 61, 166, 167, 168, 169, 170, 49, 50, 171, 172, 52, 173, 174, 175, 176, 53, 54, 55, 56, 57, 58, 233, 234, 235, 236, 237, 707, 708, 709, 710, 711, 712, 723, 724, 725, 731, 732, 733, 734, 735, 736, 737, 738, 739, 740, 741, 742, 743, 744, 745, 728, 729, 730] (by decide +kernel) (by decide +kernel)
set_option maxRecDepth 20000 in
theorem gL_law_X4_turn : GoodIn wsL_law (wsV RL 27 RX4 yX4_turn wsX4_turn) := goodIn_app (goodIn_of _ (by decide +kernel)) ggL_law_X4_turn
set_option maxRecDepth 20000 in
theorem ggL_law_X5_turn : GoodIn wsL_law wsX5_turn := goodIn_r _ [241, 104, 215, 216, 5, 217, 188, 189, 190, 108, 109, 110, 191, 192, 193, 194, 195, 105, 242, 243, 244, 245, 713, 714, 715, 716, 717, 718, 719, 720, 721, 722] (by decide +kernel) (by decide +kernel)
set_option maxRecDepth 20000 in
theorem gL_law_X5_turn : GoodIn wsL_law (wsV RL 31 RX5 yX5_turn wsX5_turn) := goodIn_app (goodIn_of _ (by decide +kernel)) ggL_law_X5_turn
set_option maxRecDepth 20000 in
theorem ggL_law_X4_clean : GoodIn wsL_law wsX4_clean := goodIn_r _ [249, 15, 200, 250, 202, 203, 2, 204, 144, 145, 146, 147, 148, 17, 149, 150, 151, 152, 153, 154, 155, 14, 156, 157, 27, 158, 159, 160, 31, 161, 39, 40, 29, 41, 42, 43, 44, 162, 163, 164, 33, 165, 59, 60, 61, 166, 167, 168, 169, 170, 49, 50, 171, 172, 52, 173, 174, 175, 176, 53, 54, 55, 56, 57, 58, 707, 708, 709, 710, 711, 712, 723, 724, 725, 731, 732, 733, 734, 735, 736, 737, 738, 739, 740, 741, 742, 743, 744, 745, 728, 729, 730] (by decide +kernel) (by decide +kernel)
set_option maxRecDepth 20000 in
theorem gL_law_X4_clean : GoodIn wsL_law (wsV RL 32 RX4 yX4_clean wsX4_clean) := goodIn_app (goodIn_of _ (by decide +kernel)) ggL_law_X4_clean
set_option maxRecDepth 20000 in
theorem ggL_law_X5_clean : GoodIn wsL_law wsX5_clean := goodIn_r _ [254, 104, 215, 216, 5, 217, 188, 189, 190, 108, 109, 110, 191, 192, 193, 194, 195, 105, 713, 714, 715, 716, 717, 718, 719, 720, 721, 722] (by decide +kernel) (by decide +kernel)
set_option maxRecDepth 20000 in
theorem gL_law_X5_clean : GoodIn wsL_law (wsV RL 36 RX5 yX5_clean wsX5_clean) := goodIn_app (goodIn_of _ (by decide +kernel)) ggL_law_X5_clean
set_option maxRecDepth 20000 in
theorem ggL_law_X4_level : GoodIn wsL_law wsX4_level := goodIn_r _ [258, 15, 200, 134, 259, 202, 203, 2, 204, 260, 261, 262, 33, 263, 172, 144, 145, 146, 147, 148, 17, 149, 150, 151, 152, 153, 154, 155, 14, 156, 157, 27, 158, 159, 160, 31, 161, 39, 40, 29, 41, 42, 43, 44, 162, 163, 164, 165, 59, 60, 61, 166, 167, 168, 169, 170, 49, 50, 171, 52, 173, 174, 175, 176, 53, 54, 55, 56, 57, 58, 264, 265, 266, 267, 268, 269, 270, 271, 272, 273, 274, 275, 91, 88, 92, 707, 708, 709, 710, 711, 712, 723, 724, 725, 731, 732, 733, 734, 735, 736, 737, 738, 739, 740, 741, 742, 743, 744, 745, 728, 729, 730] (by decide +kernel) (by decide +kernel)
set_option maxRecDepth 20000 in
theorem gL_law_X4_level : GoodIn wsL_law (wsV RL 37 RX4 yX4_level wsX4_level) := goodIn_app (goodIn_of _ (by decide +kernel)) ggL_law_X4_level
set_option maxRecDepth 20000 in
theorem ggL_law_X5_level : GoodIn wsL_law wsX5_level := goodIn_r _ [279, 104, 215, 216, 5, 217, 188, 189, 190, 108, 109, 110, 191, 192, 193, 194, 195, 105, 280, 281, 282, 283, 713, 714, 715, 716, 717, 718, 719, 720, 721, 722] (by decide +kernel) (by decide +kernel)
set_option maxRecDepth 20000 in
theorem gL_law_X5_level : GoodIn wsL_law (wsV RL 40 RX5 yX5_level wsX5_level) := goodIn_app (goodIn_of _ (by decide +kernel)) ggL_law_X5_level
set_option maxRecDepth 20000 in
theorem ggL_law_X4_pass : GoodIn wsL_law wsX4_pass := goodIn_r _ [287, 15, 134, 137, 138, 2, 139, 144, 145, 146, 147, 148, 17, 149, 150, 151, 152, 153, 154, 155, 14, 156, 157, 27, 158, 159, 160, 31, 161, 39, 40, 29, 41, 42, 43, 44, 162, 163, 164, 33, 165, 59, 60, 61, 166, 167, 168, 169, 170, 49, 50, 171, 172, 52, 173, 174, 175, 176, 53, 54, 55, 56, 57, 58, 288, 289, 290, 291, 71, 72, 73, 74, 75, 76, 77, 78, 79, 80, 81, 82, 83, 84, 85, 86, 87, 88, 89, 90, 91, 92, 93, 292, 293, 294, 295, 296, 297, 298, 299, 707, 708, 709, 710, 711, 712, 723, 724, 725, 728, 729, 730, 731, 732, 733, 734, 735, 736, 737, 738, 739, 740, 741, 742, 743, 744, 745] (by decide +kernel) (by decide +kernel)
set_option maxRecDepth 20000 in
theorem gL_law_X4_pass : GoodIn wsL_law (wsV RL 41 RX4 yX4_pass wsX4_pass) := goodIn_app (goodIn_of _ (by decide +kernel)) ggL_law_X4_pass
set_option maxRecDepth 20000 in
theorem ggL_law_X5_pass : GoodIn wsL_law wsX5_pass := goodIn_r _ [303, 104, 188, 189, 5, 190, 191, 192, 193, 194, 195, 105, 304, 305, 306, 307, 108, 109, 110, 115, 116, 117, 118, 119, 120, 121, 122, 123, 124, 125, 126, 127, 128, 129, 713, 714, 715, 716, 717, 718, 719, 720, 721, 722] (by decide +kernel) (by decide +kernel)
set_option maxRecDepth 20000 in
theorem gL_law_X5_pass : GoodIn wsL_law (wsV RL 44 RX5 yX5_pass wsX5_pass) := goodIn_app (goodIn_of _ (by decide +kernel)) ggL_law_X5_pass
set_option maxRecDepth 20000 in
theorem ggL_law_X4_follow : GoodIn wsL_law wsX4_follow := goodIn_r _ [311, 21, 15, 134, 312, 313, 314, 315, 20, 316, 317, 318, 319, 320, 321, 99, 322, 323, 324, 325, 326, 327, 328, 329, 330, 138, 2, 139, 331, 332, 333, 334, 335, 336, 337, 338, 339, 340, 341, 342, 343, 344, 144, 145, 146, 147, 148, 17, 149, 150, 151, 152, 153, 154, 155, 14, 156, 157, 27, 158, 159, 160, 31, 161, 39, 40, 29, 41, 42, 43, 44, 162, 163, 164, 33, 165, 59, 60, 61, 166, 167, 168, 169, 170, 49, 50, 171, 172, 52, 173, 174, 175, 176, 53, 54, 55, 56, 57, 58, 345, 346, 347, 348, 349, 350, 351, 352, 353, 354, 355, 289, 290, 291, 71, 72, 73, 74, 75, 76, 77, 78, 79, 80, 81, 82, 83, 84, 85, 86, 87, 88, 89, 90, 91, 92, 93, 292, 293, 294, 295, 296, 297, 298, 299, 203, 204, 356, 357, 358, 359, 237, 360, 361, 265, 266, 267, 268, 269, 270, 271, 272, 261, 262, 263, 273, 274, 275, 707, 708, 709, 710, 711, 712, 723, 724, 725, 726, 727, 728, 729, 730, 731, 732, 733, 734, 735, 736, 737, 738, 739, 740, 741, 742, 743, 744, 745] (by decide +kernel) (by decide +kernel)
set_option maxRecDepth 20000 in
theorem gL_law_X4_follow : GoodIn wsL_law (wsV RL 45 RX4 yX4_follow wsX4_follow) := goodIn_app (goodIn_of _ (by decide +kernel)) ggL_law_X4_follow
set_option maxRecDepth 20000 in
theorem ggL_law_X5_follow : GoodIn wsL_law wsX5_follow := goodIn_r _ [365, 366, 367, 104, 368, 369, 370, 371, 5, 372, 373, 374, 375, 376, 377, 107, 378, 379, 380, 381, 188, 189, 190, 382, 383, 384, 385, 304, 305, 306, 307, 108, 109, 110, 115, 116, 117, 118, 119, 120, 121, 122, 123, 124, 125, 126, 127, 128, 129, 280, 281, 282, 283, 191, 192, 193, 194, 195, 105, 713, 714, 715, 716, 717, 718, 719, 720, 721, 722] (by decide +kernel) (by decide +kernel)
set_option maxRecDepth 20000 in
theorem gL_law_X5_follow : GoodIn wsL_law (wsV RL 49 RX5 yX5_follow wsX5_follow) := goodIn_app (goodIn_of _ (by decide +kernel)) ggL_law_X5_follow
set_option maxRecDepth 20000 in
theorem ggL_law_X4_mend : GoodIn wsL_law wsX4_mend := goodIn_r _ [389, 15, 200, 390, 391, 392, 2, 393, 202, 203, 204, 394, 395, 396, 33, 397, 398, 399, 400, 401, 402, 403, 404, 405, 406, 407, 408, 409, 410, 411, 412, 413, 52, 137, 138, 139, 414, 415, 416, 417, 418, 419, 420, 421, 422, 423, 424, 425, 426, 427, 428, 429, 430, 431, 144, 145, 146, 147, 148, 17, 149, 150, 151, 152, 153, 154, 155, 14, 156, 157, 27, 158, 159, 160, 31, 161, 39, 40, 29, 41, 42, 43, 44, 162, 163, 164, 165, 59, 60, 61, 166, 167, 168, 169, 170, 49, 50, 171, 172, 173, 174, 175, 176, 53, 54, 55, 56, 57, 58, 432, 433, 434, 435, 268, 269, 270, 271, 436, 437, 438, 439, 440, 441, 442, 443, 444, 445, 446, 447, 273, 274, 275, 91, 88, 92, 707, 708, 709, 710, 711, 712, 723, 724, 725, 731, 732, 733, 734, 735, 736, 737, 738, 739, 740, 741, 742, 743, 744, 745, 728, 729, 730] (by decide +kernel) (by decide +kernel)
set_option maxRecDepth 20000 in
theorem gL_law_X4_mend : GoodIn wsL_law (wsV RL 50 RX4 yX4_mend wsX4_mend) := goodIn_app (goodIn_of _ (by decide +kernel)) ggL_law_X4_mend
set_option maxRecDepth 20000 in
theorem ggL_law_X5_mend : GoodIn wsL_law wsX5_mend := goodIn_r _ [451, 104, 215, 216, 5, 217, 188, 189, 190, 452, 453, 454, 455, 456, 457, 458, 459, 460, 461, 462, 463, 464, 465, 466, 467, 108, 109, 110, 468, 469, 470, 471, 472, 473, 474, 475, 476, 477, 478, 479, 480, 481, 482, 483, 191, 192, 193, 194, 195, 105, 484, 485, 486, 487, 488, 489, 490, 491, 127, 128, 129, 713, 714, 715, 716, 717, 718, 719, 720, 721, 722] (by decide +kernel) (by decide +kernel)
set_option maxRecDepth 20000 in
theorem gL_law_X5_mend : GoodIn wsL_law (wsV RL 53 RX5 yX5_mend wsX5_mend) := goodIn_app (goodIn_of _ (by decide +kernel)) ggL_law_X5_mend
set_option maxRecDepth 20000 in
theorem ggL_law_X4_forget : GoodIn wsL_law wsX4_forget := goodIn_r _ [495, 15, 200, 202, 203, 2, 204, 496, 497, 498, 33, 499, 52, 144, 145, 146, 147, 148, 17, 149, 150, 151, 152, 153, 154, 155, 14, 156, 157, 27, 158, 159, 160, 31, 161, 39, 40, 29, 41, 42, 43, 44, 162, 163, 164, 165, 59, 60, 61, 166, 167, 168, 169, 170, 49, 50, 171, 172, 173, 174, 175, 176, 53, 54, 55, 56, 57, 58, 500, 501, 502, 503, 707, 708, 709, 710, 711, 712, 723, 724, 725, 731, 732, 733, 734, 735, 736, 737, 738, 739, 740, 741, 742, 743, 744, 745, 728, 729, 730] (by decide +kernel) (by decide +kernel)
set_option maxRecDepth 20000 in
theorem gL_law_X4_forget : GoodIn wsL_law (wsV RL 54 RX4 yX4_forget wsX4_forget) := goodIn_app (goodIn_of _ (by decide +kernel)) ggL_law_X4_forget
set_option maxRecDepth 20000 in
theorem ggL_law_X5_forget : GoodIn wsL_law wsX5_forget := goodIn_r _ [507, 104, 215, 216, 5, 217, 188, 189, 190, 508, 509, 510, 511, 108, 109, 110, 191, 192, 193, 194, 195, 105, 713, 714, 715, 716, 717, 718, 719, 720, 721, 722] (by decide +kernel) (by decide +kernel)
set_option maxRecDepth 20000 in
theorem gL_law_X5_forget : GoodIn wsL_law (wsV RL 57 RX5 yX5_forget wsX5_forget) := goodIn_app (goodIn_of _ (by decide +kernel)) ggL_law_X5_forget
set_option maxRecDepth 20000 in
theorem ggL_law_X4_type : GoodIn wsL_law wsX4_type := goodIn_r _ [515, 21, 312, 516, 517, 518, 20, 519, 317, 99, 707, 708, 709, 710, 711, 712, 726, 727] (by decide +kernel) (by decide +kernel)
set_option maxRecDepth 20000 in
theorem gL_law_X4_type : GoodIn wsL_law (wsV RL 58 RX4 yX4_type wsX4_type) := goodIn_app (goodIn_of _ (by decide +kernel)) ggL_law_X4_type
set_option maxRecDepth 20000 in
theorem ggL_law_X5_type : GoodIn wsL_law wsX5_type := goodIn_r _ [523, 373, 107, 713, 714, 715, 716, 717, 718, 719, 720, 721, 722] (by decide +kernel) (by decide +kernel)
set_option maxRecDepth 20000 in
theorem gL_law_X5_type : GoodIn wsL_law (wsV RL 62 RX5 yX5_type wsX5_type) := goodIn_app (goodIn_of _ (by decide +kernel)) ggL_law_X5_type
set_option maxRecDepth 20000 in
theorem ggL_law_X4_clearText : GoodIn wsL_law wsX4_clearText := goodIn_r _ [527, 21, 312, 707, 708, 709, 710, 711, 712, 726, 727] (by decide +kernel) (by decide +kernel)
set_option maxRecDepth 20000 in
theorem gL_law_X4_clearText : GoodIn wsL_law (wsV RL 63 RX4 yX4_clearText wsX4_clearText) := goodIn_app (goodIn_of _ (by decide +kernel)) ggL_law_X4_clearText
set_option maxRecDepth 20000 in
theorem ggL_law_X5_clearText : GoodIn wsL_law wsX5_clearText := goodIn_r _ [531, 373, 713, 714, 715, 716, 717, 718, 719, 720, 721, 722] (by decide +kernel) (by decide +kernel)
set_option maxRecDepth 20000 in
theorem gL_law_X5_clearText : GoodIn wsL_law (wsV RL 66 RX5 yX5_clearText wsX5_clearText) := goodIn_app (goodIn_of _ (by decide +kernel)) ggL_law_X5_clearText
set_option maxRecDepth 20000 in
theorem ggL_law_X4_undo : GoodIn wsL_law wsX4_undo := goodIn_r _ [535, 148, 17, 15, 153, 154, 155, 14, 156, 157, 27, 158, 159, 160, 31, 161, 39, 40, 29, 41, 42, 43, 44, 162, 163, 164, 33, 165, 59, 60, 61, 166, 167, 168, 169, 170, 49, 50, 171, 172, 52, 173, 174, 175, 176, 53, 54, 55, 56, 57, 58, 707, 708, 709, 710, 711, 712, 723, 724, 725, 728, 729, 730, 731, 732, 733, 734, 735, 736, 737, 738, 739, 740, 741, 742, 743, 744, 745] (by decide +kernel) (by decide +kernel)
set_option maxRecDepth 20000 in
theorem gL_law_X4_undo : GoodIn wsL_law (wsV RL 67 RX4 yX4_undo wsX4_undo) := goodIn_app (goodIn_of _ (by decide +kernel)) ggL_law_X4_undo
set_option maxRecDepth 20000 in
theorem ggL_law_X5_undo : GoodIn wsL_law wsX5_undo := goodIn_r _ [539, 195, 104, 105, 713, 714, 715, 716, 717, 718, 719, 720, 721, 722] (by decide +kernel) (by decide +kernel)
set_option maxRecDepth 20000 in
theorem gL_law_X5_undo : GoodIn wsL_law (wsV RL 70 RX5 yX5_undo wsX5_undo) := goodIn_app (goodIn_of _ (by decide +kernel)) ggL_law_X5_undo
set_option maxRecDepth 20000 in
theorem ggL_law_X4_keep : GoodIn wsL_law wsX4_keep := goodIn_r _ [543, 16, 15, 544, 134, 153, 154, 155, 14, 156, 157, 27, 158, 159, 160, 31, 161, 39, 40, 29, 41, 42, 43, 44, 162, 163, 164, 33, 165, 59, 60, 61, 166, 167, 168, 169, 170, 49, 50, 171, 172, 52, 173, 174, 175, 176, 53, 54, 55, 56, 57, 58, 707, 708, 709, 710, 711, 712, 723, 724, 725, 728, 729, 730, 731, 732, 733, 734, 735, 736, 737, 738, 739, 740, 741, 742, 743, 744, 745] (by decide +kernel) (by decide +kernel)
set_option maxRecDepth 20000 in
theorem gL_law_X4_keep : GoodIn wsL_law (wsV RL 71 RX4 yX4_keep wsX4_keep) := goodIn_app (goodIn_of _ (by decide +kernel)) ggL_law_X4_keep
set_option maxRecDepth 20000 in
theorem ggL_law_X5_keep : GoodIn wsL_law wsX5_keep := goodIn_r _ [548, 106, 104, 549, 713, 714, 715, 716, 717, 718, 719, 720, 721, 722] (by decide +kernel) (by decide +kernel)
set_option maxRecDepth 20000 in
theorem gL_law_X5_keep : GoodIn wsL_law (wsV RL 74 RX5 yX5_keep wsX5_keep) := goodIn_app (goodIn_of _ (by decide +kernel)) ggL_law_X5_keep
set_option maxRecDepth 20000 in
theorem ggL_law_X4_restore : GoodIn wsL_law wsX4_restore := goodIn_r _ [553, 544, 15, 16, 134, 144, 145, 146, 2, 147, 148, 17, 149, 150, 151, 152, 153, 154, 155, 14, 156, 157, 27, 158, 159, 160, 31, 161, 39, 40, 29, 41, 42, 43, 44, 162, 163, 164, 33, 165, 59, 60, 61, 166, 167, 168, 169, 170, 49, 50, 171, 172, 52, 173, 174, 175, 176, 53, 54, 55, 56, 57, 58, 707, 708, 709, 710, 711, 712, 723, 724, 725, 728, 729, 730, 731, 732, 733, 734, 735, 736, 737, 738, 739, 740, 741, 742, 743, 744, 745] (by decide +kernel) (by decide +kernel)
set_option maxRecDepth 20000 in
theorem gL_law_X4_restore : GoodIn wsL_law (wsV RL 75 RX4 yX4_restore wsX4_restore) := goodIn_app (goodIn_of _ (by decide +kernel)) ggL_law_X4_restore
set_option maxRecDepth 20000 in
theorem ggL_law_X5_restore : GoodIn wsL_law wsX5_restore := goodIn_r _ [557, 549, 104, 106, 191, 192, 193, 5, 194, 195, 105, 713, 714, 715, 716, 717, 718, 719, 720, 721, 722] (by decide +kernel) (by decide +kernel)
set_option maxRecDepth 20000 in
theorem gL_law_X5_restore : GoodIn wsL_law (wsV RL 78 RX5 yX5_restore wsX5_restore) := goodIn_app (goodIn_of _ (by decide +kernel)) ggL_law_X5_restore
set_option maxRecDepth 20000 in
theorem ggL_law_X4_sea : GoodIn wsL_law wsX4_sea := goodIn_r _ [561, 15, 136, 137, 138, 2, 139, 182, 79, 80, 14, 81, 27, 82, 83, 84, 29, 85, 43, 44, 42, 86, 87, 88, 89, 90, 91, 92, 707, 708, 709, 710, 711, 712, 723, 724, 725, 728, 729, 730] (by decide +kernel) (by decide +kernel)
set_option maxRecDepth 20000 in
theorem gL_law_X4_sea : GoodIn wsL_law (wsV RL 79 RX4 yX4_sea wsX4_sea) := goodIn_app (goodIn_of _ (by decide +kernel)) ggL_law_X4_sea
set_option maxRecDepth 20000 in
theorem ggL_law_X5_sea : GoodIn wsL_law wsX5_sea := goodIn_r _ [565, 187, 188, 189, 5, 190, 119, 120, 121, 122, 123, 124, 125, 126, 104, 713, 714, 715, 716, 717, 718, 719, 720, 721, 722] (by decide +kernel) (by decide +kernel)
set_option maxRecDepth 20000 in
theorem gL_law_X5_sea : GoodIn wsL_law (wsV RL 82 RX5 yX5_sea wsX5_sea) := goodIn_app (goodIn_of _ (by decide +kernel)) ggL_law_X5_sea
set_option maxRecDepth 20000 in
theorem ggL_law_X4_outside : GoodIn wsL_law wsX4_outside := goodIn_r _ [569, 15, 200, 136, 202, 203, 2, 204, 137, 138, 139, 570, 72, 73, 14, 74, 75, 76, 77, 78, 79, 80, 81, 27, 82, 83, 84, 29, 85, 43, 44, 42, 86, 87, 88, 89, 90, 91, 92, 93, 707, 708, 709, 710, 711, 712, 723, 724, 725, 731, 732, 733, 734, 735, 736, 737, 738, 739, 740, 741, 742, 743, 744, 745, 728, 729, 730] (by decide +kernel) (by decide +kernel)
set_option maxRecDepth 20000 in
theorem gL_law_X4_outside : GoodIn wsL_law (wsV RL 83 RX4 yX4_outside wsX4_outside) := goodIn_app (goodIn_of _ (by decide +kernel)) ggL_law_X4_outside
set_option maxRecDepth 20000 in
theorem ggL_law_X5_outside : GoodIn wsL_law wsX5_outside := goodIn_r _ [574, 187, 215, 216, 5, 217, 188, 189, 190, 115, 116, 117, 118, 104, 108, 109, 110, 119, 120, 121, 122, 123, 124, 125, 126, 127, 128, 129, 713, 714, 715, 716, 717, 718, 719, 720, 721, 722] (by decide +kernel) (by decide +kernel)
set_option maxRecDepth 20000 in
theorem gL_law_X5_outside : GoodIn wsL_law (wsV RL 87 RX5 yX5_outside wsX5_outside) := goodIn_app (goodIn_of _ (by decide +kernel)) ggL_law_X5_outside
set_option maxRecDepth 20000 in
theorem ggL_law_X4_station : GoodIn wsL_law wsX4_station := goodIn_r _ [578, 15, 200, 579, 580, 581, 136, 201, 250, 223, 222, 259, 232, 582, 202, 203, 2, 204, 496, 497, 498, 33, 499, 52, 583, 584, 585, 586, 402, 403, 404, 405, 406, 407, 408, 409, 410, 411, 412, 413, 707, 708, 709, 710, 711, 712, 723, 724, 725, 731, 732, 733, 734, 735, 736, 737, 738, 739, 740, 741, 742, 743, 744, 745] (by decide +kernel) (by decide +kernel)
set_option maxRecDepth 20000 in
theorem gL_law_X4_station : GoodIn wsL_law (wsV RL 88 RX4 yX4_station wsX4_station) := goodIn_app (goodIn_of _ (by decide +kernel)) ggL_law_X4_station
set_option maxRecDepth 20000 in
theorem ggL_law_X5_station : GoodIn wsL_law wsX5_station := goodIn_r _ [590, 104, 187, 215, 216, 5, 217, 188, 189, 190, 108, 109, 110, 508, 509, 510, 511, 456, 457, 458, 459, 460, 461, 462, 463, 464, 465, 466, 467, 713, 714, 715, 716, 717, 718, 719, 720, 721, 722] (by decide +kernel) (by decide +kernel)
set_option maxRecDepth 20000 in
theorem gL_law_X5_station : GoodIn wsL_law (wsV RL 91 RX5 yX5_station wsX5_station) := goodIn_app (goodIn_of _ (by decide +kernel)) ggL_law_X5_station
set_option maxRecDepth 20000 in
theorem ggL_law_X4_hour : GoodIn wsL_law wsX4_hour := goodIn_r _ [594, 15, 134, 200, 136, 202, 203, 2, 204, 137, 138, 139, 595, 411, 412, 33, 413, 52, 596, 441, 442, 443, 53, 597, 437, 438, 439, 440, 444, 445, 446, 447, 54, 598, 599, 600, 601, 410, 436, 602, 707, 708, 709, 710, 711, 712, 723, 724, 725, 731, 732, 733, 734, 735, 736, 737, 738, 739, 740, 741, 742, 743, 744, 745] (by decide +kernel) (by decide +kernel)
set_option maxRecDepth 20000 in
theorem gL_law_X4_hour : GoodIn wsL_law (wsV RL 92 RX4 yX4_hour wsX4_hour) := goodIn_app (goodIn_of _ (by decide +kernel)) ggL_law_X4_hour
set_option maxRecDepth 20000 in
theorem ggL_law_X5_hour : GoodIn wsL_law wsX5_hour := goodIn_r _ [606, 104, 187, 215, 216, 5, 217, 188, 189, 190, 464, 465, 466, 467, 108, 109, 110, 484, 485, 486, 487, 488, 489, 490, 491, 127, 128, 129, 713, 714, 715, 716, 717, 718, 719, 720, 721, 722] (by decide +kernel) (by decide +kernel)
set_option maxRecDepth 20000 in
theorem gL_law_X5_hour : GoodIn wsL_law (wsV RL 96 RX5 yX5_hour wsX5_hour) := goodIn_app (goodIn_of _ (by decide +kernel)) ggL_law_X5_hour
set_option maxRecDepth 20000 in
theorem ggL_law_X4_gap : GoodIn wsL_law wsX4_gap := goodIn_r _ [610, 15, 200, 202, 203, 2, 204, 394, 395, 396, 33, 397, 398, 399, 400, 401, 402, 403, 404, 405, 406, 407, 408, 409, 410, 411, 412, 413, 52, 426, 427, 423, 424, 425, 414, 415, 416, 417, 418, 419, 420, 421, 422, 611, 612, 613, 614, 707, 708, 709, 710, 711, 712, 723, 724, 725, 731, 732, 733, 734, 735, 736, 737, 738, 739, 740, 741, 742, 743, 744, 745] (by decide +kernel) (by decide +kernel)
set_option maxRecDepth 20000 in
theorem gL_law_X4_gap : GoodIn wsL_law (wsV RL 97 RX4 yX4_gap wsX4_gap) := goodIn_app (goodIn_of _ (by decide +kernel)) ggL_law_X4_gap
set_option maxRecDepth 20000 in
theorem ggL_law_X5_gap : GoodIn wsL_law wsX5_gap := goodIn_r _ [618, 104, 215, 216, 5, 217, 188, 189, 190, 452, 453, 454, 455, 456, 457, 458, 459, 460, 461, 462, 463, 464, 465, 466, 467, 108, 109, 110, 472, 473, 474, 475, 476, 477, 478, 479, 468, 469, 470, 471, 713, 714, 715, 716, 717, 718, 719, 720, 721, 722] (by decide +kernel) (by decide +kernel)
set_option maxRecDepth 20000 in
theorem gL_law_X5_gap : GoodIn wsL_law (wsV RL 100 RX5 yX5_gap wsX5_gap) := goodIn_app (goodIn_of _ (by decide +kernel)) ggL_law_X5_gap
set_option maxRecDepth 20000 in
theorem ggL_law_X4_misfit : GoodIn wsL_law wsX4_misfit := goodIn_r _ [622, 15, 200, 390, 391, 392, 2, 393, 202, 203, 204, 394, 395, 396, 33, 397, 398, 399, 400, 401, 402, 403, 404, 405, 406, 407, 408, 409, 410, 411, 412, 413, 52, 137, 138, 139, 414, 415, 416, 417, 418, 419, 420, 421, 422, 423, 424, 425, 426, 427, 428, 429, 430, 431, 623, 624, 625, 626, 627, 628, 629, 630, 631, 632, 270, 633, 634, 635, 636, 637, 638, 436, 437, 438, 439, 440, 441, 442, 443, 53, 444, 445, 446, 447, 54, 707, 708, 709, 710, 711, 712, 723, 724, 725, 731, 732, 733, 734, 735, 736, 737, 738, 739, 740, 741, 742, 743, 744, 745] (by decide +kernel) (by decide +kernel)
set_option maxRecDepth 20000 in
theorem gL_law_X4_misfit : GoodIn wsL_law (wsV RL 101 RX4 yX4_misfit wsX4_misfit) := goodIn_app (goodIn_of _ (by decide +kernel)) ggL_law_X4_misfit
set_option maxRecDepth 20000 in
theorem ggL_law_X5_misfit : GoodIn wsL_law wsX5_misfit := goodIn_r _ [642, 215, 216, 5, 217, 188, 189, 190, 452, 453, 454, 455, 456, 457, 458, 459, 104, 460, 461, 462, 463, 464, 465, 466, 467, 108, 109, 110, 468, 469, 470, 471, 472, 473, 474, 475, 476, 477, 478, 479, 480, 481, 482, 483, 643, 644, 645, 646, 647, 648, 649, 650, 484, 485, 486, 487, 488, 489, 490, 491, 127, 128, 129, 651, 652, 653, 713, 714, 715, 716, 717, 718, 719, 720, 721, 722] (by decide +kernel) (by decide +kernel)
set_option maxRecDepth 20000 in
theorem gL_law_X5_misfit : GoodIn wsL_law (wsV RL 104 RX5 yX5_misfit wsX5_misfit) := goodIn_app (goodIn_of _ (by decide +kernel)) ggL_law_X5_misfit
set_option maxRecDepth 20000 in
theorem ggL_law_X4_bestPhase : GoodIn wsL_law wsX4_bestPhase := goodIn_r _ [657, 15, 200, 390, 391, 392, 2, 393, 202, 203, 204, 394, 395, 396, 33, 397, 398, 399, 400, 401, 402, 403, 404, 405, 406, 407, 408, 409, 410, 411, 412, 413, 52, 137, 138, 139, 414, 415, 416, 417, 418, 419, 420, 421, 422, 423, 424, 425, 426, 427, 658, 659, 660, 428, 429, 430, 431, 623, 624, 625, 626, 627, 628, 629, 630, 631, 632, 270, 633, 634, 635, 636, 637, 638, 436, 437, 438, 439, 440, 441, 442, 443, 53, 444, 445, 446, 447, 54, 707, 708, 709, 710, 711, 712, 723, 724, 725, 731, 732, 733, 734, 735, 736, 737, 738, 739, 740, 741, 742, 743, 744, 745] (by decide +kernel) (by decide +kernel)
set_option maxRecDepth 20000 in
theorem gL_law_X4_bestPhase : GoodIn wsL_law (wsV RL 105 RX4 yX4_bestPhase wsX4_bestPhase) := goodIn_app (goodIn_of _ (by decide +kernel)) ggL_law_X4_bestPhase
set_option maxRecDepth 20000 in
theorem ggL_law_X5_bestPhase : GoodIn wsL_law wsX5_bestPhase := goodIn_r _ [664, 215, 216, 5, 217, 188, 189, 190, 452, 453, 454, 455, 456, 457, 458, 459, 104, 460, 461, 462, 463, 464, 465, 466, 467, 108, 109, 110, 468, 469, 470, 471, 472, 473, 474, 475, 476, 477, 478, 479, 480, 481, 482, 483, 643, 644, 645, 646, 647, 648, 649, 650, 484, 485, 486, 487, 488, 489, 490, 491, 127, 128, 129, 651, 652, 653, 713, 714, 715, 716, 717, 718, 719, 720, 721, 722] (by decide +kernel) (by decide +kernel)
set_option maxRecDepth 20000 in
theorem gL_law_X5_bestPhase : GoodIn wsL_law (wsV RL 108 RX5 yX5_bestPhase wsX5_bestPhase) := goodIn_app (goodIn_of _ (by decide +kernel)) ggL_law_X5_bestPhase
set_option maxRecDepth 20000 in
theorem ggL_law_X4_high : GoodIn wsL_law wsX4_high := goodIn_r _ [668, 15, 200, 202, 203, 2, 204, 669, 670, 671, 33, 672, 673, 674, 675, 676, 410, 411, 412, 413, 52, 677, 599, 600, 601, 440, 441, 442, 443, 53, 436, 437, 438, 439, 444, 445, 446, 447, 54, 707, 708, 709, 710, 711, 712, 723, 724, 725, 731, 732, 733, 734, 735, 736, 737, 738, 739, 740, 741, 742, 743, 744, 745] (by decide +kernel) (by decide +kernel)
set_option maxRecDepth 20000 in
theorem gL_law_X4_high : GoodIn wsL_law (wsV RL 109 RX4 yX4_high wsX4_high) := goodIn_app (goodIn_of _ (by decide +kernel)) ggL_law_X4_high
set_option maxRecDepth 20000 in
theorem ggL_law_X5_high : GoodIn wsL_law wsX5_high := goodIn_r _ [681, 104, 215, 216, 5, 217, 188, 189, 190, 682, 683, 684, 685, 464, 465, 466, 467, 108, 109, 110, 686, 687, 688, 689, 484, 485, 486, 487, 488, 489, 490, 491, 127, 128, 129, 713, 714, 715, 716, 717, 718, 719, 720, 721, 722] (by decide +kernel) (by decide +kernel)
set_option maxRecDepth 20000 in
theorem gL_law_X5_high : GoodIn wsL_law (wsV RL 112 RX5 yX5_high wsX5_high) := goodIn_app (goodIn_of _ (by decide +kernel)) ggL_law_X5_high
set_option maxRecDepth 20000 in
theorem ggL_law_X4_count : GoodIn wsL_law wsX4_count := goodIn_r _ [693, 15, 134, 148, 21, 312, 233, 234, 235, 14, 236, 31, 237, 694, 695, 696, 697, 698, 497, 498, 33, 499, 52, 707, 708, 709, 710, 711, 712, 723, 724, 725, 726, 727, 731, 732, 733, 734, 735, 736, 737, 738, 739, 740, 741, 742, 743, 744, 745] (by decide +kernel) (by decide +kernel)
set_option maxRecDepth 20000 in
theorem gL_law_X4_count : GoodIn wsL_law (wsV RL 113 RX4 yX4_count wsX4_count) := goodIn_app (goodIn_of _ (by decide +kernel)) ggL_law_X4_count
set_option maxRecDepth 20000 in
theorem ggL_law_X5_count : GoodIn wsL_law wsX5_count := goodIn_r _ [702, 104, 195, 373, 242, 243, 244, 5, 245, 108, 109, 110, 703, 704, 705, 706, 508, 509, 510, 511, 713, 714, 715, 716, 717, 718, 719, 720, 721, 722] (by decide +kernel) (by decide +kernel)
set_option maxRecDepth 20000 in
theorem gL_law_X5_count : GoodIn wsL_law (wsV RL 116 RX5 yX5_count wsX5_count) := goodIn_app (goodIn_of _ (by decide +kernel)) ggL_law_X5_count
theorem dL_law_0 : decode cL_law 0 = .ok (.new 7, 3) := by decide +kernel
theorem dL_law_3 : decode cL_law 3 = .ok (.dup, 1) := by decide +kernel
theorem dL_law_4 : decode cL_law 4 = .ok (.invokespecial 9, 3) := by decide +kernel
theorem dL_law_7 : decode cL_law 7 = .ok (.astore_n 1, 1) := by decide +kernel
theorem dL_law_8 : decode cL_law 8 = .ok (.new 10, 3) := by decide +kernel
theorem dL_law_11 : decode cL_law 11 = .ok (.dup, 1) := by decide +kernel
theorem dL_law_12 : decode cL_law 12 = .ok (.invokespecial 12, 3) := by decide +kernel
theorem dL_law_15 : decode cL_law 15 = .ok (.astore_n 2, 1) := by decide +kernel
theorem dL_law_16 : decode cL_law 16 = .ok (.iconst 0, 1) := by decide +kernel
theorem dL_law_17 : decode cL_law 17 = .ok (.istore_n 3, 1) := by decide +kernel
theorem dL_law_18 : decode cL_law 18 = .ok (.iload_n 3, 1) := by decide +kernel
theorem dL_law_19 : decode cL_law 19 = .ok (.aload_n 0, 1) := by decide +kernel
theorem dL_law_20 : decode cL_law 20 = .ok (.arraylength, 1) := by decide +kernel
theorem dL_law_21 : decode cL_law 21 = .ok (.iconst 5, 1) := by decide +kernel
theorem dL_law_22 : decode cL_law 22 = .ok (.isub, 1) := by decide +kernel
theorem dL_law_23 : decode cL_law 23 = .ok (.if_icmp .gt 903, 3) := by decide +kernel
theorem dL_law_26 : decode cL_law 26 = .ok (.aload_n 0, 1) := by decide +kernel
theorem dL_law_27 : decode cL_law 27 = .ok (.iload_n 3, 1) := by decide +kernel
theorem dL_law_28 : decode cL_law 28 = .ok (.iaload, 1) := by decide +kernel
theorem dL_law_29 : decode cL_law 29 = .ok (.bipush 31, 2) := by decide +kernel
theorem dL_law_31 : decode cL_law 31 = .ok (.iand, 1) := by decide +kernel
theorem dL_law_32 : decode cL_law 32 = .ok (.tableswitch 888 0 23 #[112, 165, 218, 277, 326, 349, 372, 395, 408, 461, 484, 509, 522, 535, 548, 561, 584, 617, 650, 693, 736, 789, 832, 865], 112) := by decide +kernel
theorem dL_law_144 : decode cL_law 144 = .ok (.aload_n 1, 1) := by decide +kernel
theorem dL_law_145 : decode cL_law 145 = .ok (.aload_n 0, 1) := by decide +kernel
theorem dL_law_146 : decode cL_law 146 = .ok (.iload_n 3, 1) := by decide +kernel
theorem dL_law_147 : decode cL_law 147 = .ok (.iconst 1, 1) := by decide +kernel
theorem dL_law_148 : decode cL_law 148 = .ok (.iadd, 1) := by decide +kernel
theorem dL_law_149 : decode cL_law 149 = .ok (.iaload, 1) := by decide +kernel
theorem dL_law_150 : decode cL_law 150 = .ok (.aload_n 0, 1) := by decide +kernel
theorem dL_law_151 : decode cL_law 151 = .ok (.iload_n 3, 1) := by decide +kernel
theorem dL_law_152 : decode cL_law 152 = .ok (.iconst 2, 1) := by decide +kernel
theorem dL_law_153 : decode cL_law 153 = .ok (.iadd, 1) := by decide +kernel
theorem dL_law_154 : decode cL_law 154 = .ok (.iaload, 1) := by decide +kernel
theorem dL_law_155 : decode cL_law 155 = .ok (.aload_n 0, 1) := by decide +kernel
theorem dL_law_156 : decode cL_law 156 = .ok (.iload_n 3, 1) := by decide +kernel
theorem dL_law_157 : decode cL_law 157 = .ok (.iconst 3, 1) := by decide +kernel
theorem dL_law_158 : decode cL_law 158 = .ok (.iadd, 1) := by decide +kernel
theorem dL_law_159 : decode cL_law 159 = .ok (.iaload, 1) := by decide +kernel
theorem dL_law_160 : decode cL_law 160 = .ok (.aload_n 0, 1) := by decide +kernel
theorem dL_law_161 : decode cL_law 161 = .ok (.iload_n 3, 1) := by decide +kernel
theorem dL_law_162 : decode cL_law 162 = .ok (.iconst 4, 1) := by decide +kernel
theorem dL_law_163 : decode cL_law 163 = .ok (.iadd, 1) := by decide +kernel
theorem dL_law_164 : decode cL_law 164 = .ok (.iaload, 1) := by decide +kernel
theorem dL_law_165 : decode cL_law 165 = .ok (.invokevirtual 13, 3) := by decide +kernel
theorem dL_law_168 : decode cL_law 168 = .ok (.aload_n 2, 1) := by decide +kernel
theorem dL_law_169 : decode cL_law 169 = .ok (.aload_n 0, 1) := by decide +kernel
theorem dL_law_170 : decode cL_law 170 = .ok (.iload_n 3, 1) := by decide +kernel
theorem dL_law_171 : decode cL_law 171 = .ok (.iconst 1, 1) := by decide +kernel
theorem dL_law_172 : decode cL_law 172 = .ok (.iadd, 1) := by decide +kernel
theorem dL_law_173 : decode cL_law 173 = .ok (.iaload, 1) := by decide +kernel
theorem dL_law_174 : decode cL_law 174 = .ok (.aload_n 0, 1) := by decide +kernel
theorem dL_law_175 : decode cL_law 175 = .ok (.iload_n 3, 1) := by decide +kernel
theorem dL_law_176 : decode cL_law 176 = .ok (.iconst 2, 1) := by decide +kernel
theorem dL_law_177 : decode cL_law 177 = .ok (.iadd, 1) := by decide +kernel
theorem dL_law_178 : decode cL_law 178 = .ok (.iaload, 1) := by decide +kernel
theorem dL_law_179 : decode cL_law 179 = .ok (.aload_n 0, 1) := by decide +kernel
theorem dL_law_180 : decode cL_law 180 = .ok (.iload_n 3, 1) := by decide +kernel
theorem dL_law_181 : decode cL_law 181 = .ok (.iconst 3, 1) := by decide +kernel
theorem dL_law_182 : decode cL_law 182 = .ok (.iadd, 1) := by decide +kernel
theorem dL_law_183 : decode cL_law 183 = .ok (.iaload, 1) := by decide +kernel
theorem dL_law_184 : decode cL_law 184 = .ok (.aload_n 0, 1) := by decide +kernel
theorem dL_law_185 : decode cL_law 185 = .ok (.iload_n 3, 1) := by decide +kernel
theorem dL_law_186 : decode cL_law 186 = .ok (.iconst 4, 1) := by decide +kernel
theorem dL_law_187 : decode cL_law 187 = .ok (.iadd, 1) := by decide +kernel
theorem dL_law_188 : decode cL_law 188 = .ok (.iaload, 1) := by decide +kernel
theorem dL_law_189 : decode cL_law 189 = .ok (.invokevirtual 17, 3) := by decide +kernel
theorem dL_law_192 : decode cL_law 192 = .ok (.if_icmp .eq 728, 3) := by decide +kernel
theorem dL_law_195 : decode cL_law 195 = .ok (.iconst 0, 1) := by decide +kernel
theorem dL_law_196 : decode cL_law 196 = .ok (.ireturn, 1) := by decide +kernel
theorem dL_law_197 : decode cL_law 197 = .ok (.aload_n 1, 1) := by decide +kernel
theorem dL_law_198 : decode cL_law 198 = .ok (.aload_n 0, 1) := by decide +kernel
theorem dL_law_199 : decode cL_law 199 = .ok (.iload_n 3, 1) := by decide +kernel
theorem dL_law_200 : decode cL_law 200 = .ok (.iconst 1, 1) := by decide +kernel
theorem dL_law_201 : decode cL_law 201 = .ok (.iadd, 1) := by decide +kernel
theorem dL_law_202 : decode cL_law 202 = .ok (.iaload, 1) := by decide +kernel
theorem dL_law_203 : decode cL_law 203 = .ok (.aload_n 0, 1) := by decide +kernel
theorem dL_law_204 : decode cL_law 204 = .ok (.iload_n 3, 1) := by decide +kernel
theorem dL_law_205 : decode cL_law 205 = .ok (.iconst 2, 1) := by decide +kernel
theorem dL_law_206 : decode cL_law 206 = .ok (.iadd, 1) := by decide +kernel
theorem dL_law_207 : decode cL_law 207 = .ok (.iaload, 1) := by decide +kernel
theorem dL_law_208 : decode cL_law 208 = .ok (.aload_n 0, 1) := by decide +kernel
theorem dL_law_209 : decode cL_law 209 = .ok (.iload_n 3, 1) := by decide +kernel
theorem dL_law_210 : decode cL_law 210 = .ok (.iconst 3, 1) := by decide +kernel
theorem dL_law_211 : decode cL_law 211 = .ok (.iadd, 1) := by decide +kernel
theorem dL_law_212 : decode cL_law 212 = .ok (.iaload, 1) := by decide +kernel
theorem dL_law_213 : decode cL_law 213 = .ok (.aload_n 0, 1) := by decide +kernel
theorem dL_law_214 : decode cL_law 214 = .ok (.iload_n 3, 1) := by decide +kernel
theorem dL_law_215 : decode cL_law 215 = .ok (.iconst 4, 1) := by decide +kernel
theorem dL_law_216 : decode cL_law 216 = .ok (.iadd, 1) := by decide +kernel
theorem dL_law_217 : decode cL_law 217 = .ok (.iaload, 1) := by decide +kernel
theorem dL_law_218 : decode cL_law 218 = .ok (.invokevirtual 18, 3) := by decide +kernel
theorem dL_law_221 : decode cL_law 221 = .ok (.aload_n 2, 1) := by decide +kernel
theorem dL_law_222 : decode cL_law 222 = .ok (.aload_n 0, 1) := by decide +kernel
theorem dL_law_223 : decode cL_law 223 = .ok (.iload_n 3, 1) := by decide +kernel
theorem dL_law_224 : decode cL_law 224 = .ok (.iconst 1, 1) := by decide +kernel
theorem dL_law_225 : decode cL_law 225 = .ok (.iadd, 1) := by decide +kernel
theorem dL_law_226 : decode cL_law 226 = .ok (.iaload, 1) := by decide +kernel
theorem dL_law_227 : decode cL_law 227 = .ok (.aload_n 0, 1) := by decide +kernel
theorem dL_law_228 : decode cL_law 228 = .ok (.iload_n 3, 1) := by decide +kernel
theorem dL_law_229 : decode cL_law 229 = .ok (.iconst 2, 1) := by decide +kernel
theorem dL_law_230 : decode cL_law 230 = .ok (.iadd, 1) := by decide +kernel
theorem dL_law_231 : decode cL_law 231 = .ok (.iaload, 1) := by decide +kernel
theorem dL_law_232 : decode cL_law 232 = .ok (.aload_n 0, 1) := by decide +kernel
theorem dL_law_233 : decode cL_law 233 = .ok (.iload_n 3, 1) := by decide +kernel
theorem dL_law_234 : decode cL_law 234 = .ok (.iconst 3, 1) := by decide +kernel
theorem dL_law_235 : decode cL_law 235 = .ok (.iadd, 1) := by decide +kernel
theorem dL_law_236 : decode cL_law 236 = .ok (.iaload, 1) := by decide +kernel
theorem dL_law_237 : decode cL_law 237 = .ok (.aload_n 0, 1) := by decide +kernel
theorem dL_law_238 : decode cL_law 238 = .ok (.iload_n 3, 1) := by decide +kernel
theorem dL_law_239 : decode cL_law 239 = .ok (.iconst 4, 1) := by decide +kernel
theorem dL_law_240 : decode cL_law 240 = .ok (.iadd, 1) := by decide +kernel
theorem dL_law_241 : decode cL_law 241 = .ok (.iaload, 1) := by decide +kernel
theorem dL_law_242 : decode cL_law 242 = .ok (.invokevirtual 21, 3) := by decide +kernel
theorem dL_law_245 : decode cL_law 245 = .ok (.if_icmp .eq 675, 3) := by decide +kernel
theorem dL_law_248 : decode cL_law 248 = .ok (.iconst 0, 1) := by decide +kernel
theorem dL_law_249 : decode cL_law 249 = .ok (.ireturn, 1) := by decide +kernel
theorem dL_law_250 : decode cL_law 250 = .ok (.aload_n 1, 1) := by decide +kernel
theorem dL_law_251 : decode cL_law 251 = .ok (.aload_n 0, 1) := by decide +kernel
theorem dL_law_252 : decode cL_law 252 = .ok (.iload_n 3, 1) := by decide +kernel
theorem dL_law_253 : decode cL_law 253 = .ok (.iconst 1, 1) := by decide +kernel
theorem dL_law_254 : decode cL_law 254 = .ok (.iadd, 1) := by decide +kernel
theorem dL_law_255 : decode cL_law 255 = .ok (.iaload, 1) := by decide +kernel
theorem dL_law_256 : decode cL_law 256 = .ok (.aload_n 0, 1) := by decide +kernel
theorem dL_law_257 : decode cL_law 257 = .ok (.iload_n 3, 1) := by decide +kernel
theorem dL_law_258 : decode cL_law 258 = .ok (.iconst 2, 1) := by decide +kernel
theorem dL_law_259 : decode cL_law 259 = .ok (.iadd, 1) := by decide +kernel
theorem dL_law_260 : decode cL_law 260 = .ok (.iaload, 1) := by decide +kernel
theorem dL_law_261 : decode cL_law 261 = .ok (.ifCond .eq 7, 3) := by decide +kernel
theorem dL_law_264 : decode cL_law 264 = .ok (.iconst 1, 1) := by decide +kernel
theorem dL_law_265 : decode cL_law 265 = .ok (.goto 4, 3) := by decide +kernel
theorem dL_law_268 : decode cL_law 268 = .ok (.iconst 0, 1) := by decide +kernel
theorem dL_law_269 : decode cL_law 269 = .ok (.aload_n 0, 1) := by decide +kernel
theorem dL_law_270 : decode cL_law 270 = .ok (.iload_n 3, 1) := by decide +kernel
theorem dL_law_271 : decode cL_law 271 = .ok (.iconst 3, 1) := by decide +kernel
theorem dL_law_272 : decode cL_law 272 = .ok (.iadd, 1) := by decide +kernel
theorem dL_law_273 : decode cL_law 273 = .ok (.iaload, 1) := by decide +kernel
theorem dL_law_274 : decode cL_law 274 = .ok (.invokevirtual 22, 3) := by decide +kernel
theorem dL_law_277 : decode cL_law 277 = .ok (.aload_n 2, 1) := by decide +kernel
theorem dL_law_278 : decode cL_law 278 = .ok (.aload_n 0, 1) := by decide +kernel
theorem dL_law_279 : decode cL_law 279 = .ok (.iload_n 3, 1) := by decide +kernel
theorem dL_law_280 : decode cL_law 280 = .ok (.iconst 1, 1) := by decide +kernel
theorem dL_law_281 : decode cL_law 281 = .ok (.iadd, 1) := by decide +kernel
theorem dL_law_282 : decode cL_law 282 = .ok (.iaload, 1) := by decide +kernel
theorem dL_law_283 : decode cL_law 283 = .ok (.aload_n 0, 1) := by decide +kernel
theorem dL_law_284 : decode cL_law 284 = .ok (.iload_n 3, 1) := by decide +kernel
theorem dL_law_285 : decode cL_law 285 = .ok (.iconst 2, 1) := by decide +kernel
theorem dL_law_286 : decode cL_law 286 = .ok (.iadd, 1) := by decide +kernel
theorem dL_law_287 : decode cL_law 287 = .ok (.iaload, 1) := by decide +kernel
theorem dL_law_288 : decode cL_law 288 = .ok (.ifCond .eq 7, 3) := by decide +kernel
theorem dL_law_291 : decode cL_law 291 = .ok (.iconst 1, 1) := by decide +kernel
theorem dL_law_292 : decode cL_law 292 = .ok (.goto 4, 3) := by decide +kernel
theorem dL_law_295 : decode cL_law 295 = .ok (.iconst 0, 1) := by decide +kernel
theorem dL_law_296 : decode cL_law 296 = .ok (.aload_n 0, 1) := by decide +kernel
theorem dL_law_297 : decode cL_law 297 = .ok (.iload_n 3, 1) := by decide +kernel
theorem dL_law_298 : decode cL_law 298 = .ok (.iconst 3, 1) := by decide +kernel
theorem dL_law_299 : decode cL_law 299 = .ok (.iadd, 1) := by decide +kernel
theorem dL_law_300 : decode cL_law 300 = .ok (.iaload, 1) := by decide +kernel
theorem dL_law_301 : decode cL_law 301 = .ok (.invokevirtual 26, 3) := by decide +kernel
theorem dL_law_304 : decode cL_law 304 = .ok (.if_icmp .eq 616, 3) := by decide +kernel
theorem dL_law_307 : decode cL_law 307 = .ok (.iconst 0, 1) := by decide +kernel
theorem dL_law_308 : decode cL_law 308 = .ok (.ireturn, 1) := by decide +kernel
theorem dL_law_309 : decode cL_law 309 = .ok (.aload_n 1, 1) := by decide +kernel
theorem dL_law_310 : decode cL_law 310 = .ok (.aload_n 0, 1) := by decide +kernel
theorem dL_law_311 : decode cL_law 311 = .ok (.iload_n 3, 1) := by decide +kernel
theorem dL_law_312 : decode cL_law 312 = .ok (.iconst 1, 1) := by decide +kernel
theorem dL_law_313 : decode cL_law 313 = .ok (.iadd, 1) := by decide +kernel
theorem dL_law_314 : decode cL_law 314 = .ok (.iaload, 1) := by decide +kernel
theorem dL_law_315 : decode cL_law 315 = .ok (.aload_n 0, 1) := by decide +kernel
theorem dL_law_316 : decode cL_law 316 = .ok (.iload_n 3, 1) := by decide +kernel
theorem dL_law_317 : decode cL_law 317 = .ok (.iconst 2, 1) := by decide +kernel
theorem dL_law_318 : decode cL_law 318 = .ok (.iadd, 1) := by decide +kernel
theorem dL_law_319 : decode cL_law 319 = .ok (.iaload, 1) := by decide +kernel
theorem dL_law_320 : decode cL_law 320 = .ok (.ifCond .eq 7, 3) := by decide +kernel
theorem dL_law_323 : decode cL_law 323 = .ok (.iconst 1, 1) := by decide +kernel
theorem dL_law_324 : decode cL_law 324 = .ok (.goto 4, 3) := by decide +kernel
theorem dL_law_327 : decode cL_law 327 = .ok (.iconst 0, 1) := by decide +kernel
theorem dL_law_328 : decode cL_law 328 = .ok (.invokevirtual 27, 3) := by decide +kernel
theorem dL_law_331 : decode cL_law 331 = .ok (.aload_n 2, 1) := by decide +kernel
theorem dL_law_332 : decode cL_law 332 = .ok (.aload_n 0, 1) := by decide +kernel
theorem dL_law_333 : decode cL_law 333 = .ok (.iload_n 3, 1) := by decide +kernel
end
section
theorem dL_law_334 : decode cL_law 334 = .ok (.iconst 1, 1) := by decide +kernel
theorem dL_law_335 : decode cL_law 335 = .ok (.iadd, 1) := by decide +kernel
theorem dL_law_336 : decode cL_law 336 = .ok (.iaload, 1) := by decide +kernel
theorem dL_law_337 : decode cL_law 337 = .ok (.aload_n 0, 1) := by decide +kernel
theorem dL_law_338 : decode cL_law 338 = .ok (.iload_n 3, 1) := by decide +kernel
theorem dL_law_339 : decode cL_law 339 = .ok (.iconst 2, 1) := by decide +kernel
theorem dL_law_340 : decode cL_law 340 = .ok (.iadd, 1) := by decide +kernel
theorem dL_law_341 : decode cL_law 341 = .ok (.iaload, 1) := by decide +kernel
theorem dL_law_342 : decode cL_law 342 = .ok (.ifCond .eq 7, 3) := by decide +kernel
theorem dL_law_345 : decode cL_law 345 = .ok (.iconst 1, 1) := by decide +kernel
theorem dL_law_346 : decode cL_law 346 = .ok (.goto 4, 3) := by decide +kernel
theorem dL_law_349 : decode cL_law 349 = .ok (.iconst 0, 1) := by decide +kernel
theorem dL_law_350 : decode cL_law 350 = .ok (.invokevirtual 31, 3) := by decide +kernel
theorem dL_law_353 : decode cL_law 353 = .ok (.if_icmp .eq 567, 3) := by decide +kernel
theorem dL_law_356 : decode cL_law 356 = .ok (.iconst 0, 1) := by decide +kernel
theorem dL_law_357 : decode cL_law 357 = .ok (.ireturn, 1) := by decide +kernel
theorem dL_law_358 : decode cL_law 358 = .ok (.aload_n 1, 1) := by decide +kernel
theorem dL_law_359 : decode cL_law 359 = .ok (.aload_n 0, 1) := by decide +kernel
theorem dL_law_360 : decode cL_law 360 = .ok (.iload_n 3, 1) := by decide +kernel
theorem dL_law_361 : decode cL_law 361 = .ok (.iconst 1, 1) := by decide +kernel
theorem dL_law_362 : decode cL_law 362 = .ok (.iadd, 1) := by decide +kernel
theorem dL_law_363 : decode cL_law 363 = .ok (.iaload, 1) := by decide +kernel
theorem dL_law_364 : decode cL_law 364 = .ok (.invokevirtual 32, 3) := by decide +kernel
theorem dL_law_367 : decode cL_law 367 = .ok (.aload_n 2, 1) := by decide +kernel
theorem dL_law_368 : decode cL_law 368 = .ok (.aload_n 0, 1) := by decide +kernel
theorem dL_law_369 : decode cL_law 369 = .ok (.iload_n 3, 1) := by decide +kernel
theorem dL_law_370 : decode cL_law 370 = .ok (.iconst 1, 1) := by decide +kernel
theorem dL_law_371 : decode cL_law 371 = .ok (.iadd, 1) := by decide +kernel
theorem dL_law_372 : decode cL_law 372 = .ok (.iaload, 1) := by decide +kernel
theorem dL_law_373 : decode cL_law 373 = .ok (.invokevirtual 36, 3) := by decide +kernel
theorem dL_law_376 : decode cL_law 376 = .ok (.if_icmp .eq 544, 3) := by decide +kernel
theorem dL_law_379 : decode cL_law 379 = .ok (.iconst 0, 1) := by decide +kernel
theorem dL_law_380 : decode cL_law 380 = .ok (.ireturn, 1) := by decide +kernel
theorem dL_law_381 : decode cL_law 381 = .ok (.aload_n 1, 1) := by decide +kernel
theorem dL_law_382 : decode cL_law 382 = .ok (.aload_n 0, 1) := by decide +kernel
theorem dL_law_383 : decode cL_law 383 = .ok (.iload_n 3, 1) := by decide +kernel
theorem dL_law_384 : decode cL_law 384 = .ok (.iconst 1, 1) := by decide +kernel
theorem dL_law_385 : decode cL_law 385 = .ok (.iadd, 1) := by decide +kernel
theorem dL_law_386 : decode cL_law 386 = .ok (.iaload, 1) := by decide +kernel
theorem dL_law_387 : decode cL_law 387 = .ok (.invokevirtual 37, 3) := by decide +kernel
theorem dL_law_390 : decode cL_law 390 = .ok (.aload_n 2, 1) := by decide +kernel
theorem dL_law_391 : decode cL_law 391 = .ok (.aload_n 0, 1) := by decide +kernel
theorem dL_law_392 : decode cL_law 392 = .ok (.iload_n 3, 1) := by decide +kernel
theorem dL_law_393 : decode cL_law 393 = .ok (.iconst 1, 1) := by decide +kernel
theorem dL_law_394 : decode cL_law 394 = .ok (.iadd, 1) := by decide +kernel
theorem dL_law_395 : decode cL_law 395 = .ok (.iaload, 1) := by decide +kernel
theorem dL_law_396 : decode cL_law 396 = .ok (.invokevirtual 40, 3) := by decide +kernel
theorem dL_law_399 : decode cL_law 399 = .ok (.if_icmp .eq 521, 3) := by decide +kernel
theorem dL_law_402 : decode cL_law 402 = .ok (.iconst 0, 1) := by decide +kernel
theorem dL_law_403 : decode cL_law 403 = .ok (.ireturn, 1) := by decide +kernel
theorem dL_law_404 : decode cL_law 404 = .ok (.aload_n 1, 1) := by decide +kernel
theorem dL_law_405 : decode cL_law 405 = .ok (.aload_n 0, 1) := by decide +kernel
theorem dL_law_406 : decode cL_law 406 = .ok (.iload_n 3, 1) := by decide +kernel
theorem dL_law_407 : decode cL_law 407 = .ok (.iconst 1, 1) := by decide +kernel
theorem dL_law_408 : decode cL_law 408 = .ok (.iadd, 1) := by decide +kernel
theorem dL_law_409 : decode cL_law 409 = .ok (.iaload, 1) := by decide +kernel
theorem dL_law_410 : decode cL_law 410 = .ok (.invokevirtual 41, 3) := by decide +kernel
theorem dL_law_413 : decode cL_law 413 = .ok (.aload_n 2, 1) := by decide +kernel
theorem dL_law_414 : decode cL_law 414 = .ok (.aload_n 0, 1) := by decide +kernel
theorem dL_law_415 : decode cL_law 415 = .ok (.iload_n 3, 1) := by decide +kernel
theorem dL_law_416 : decode cL_law 416 = .ok (.iconst 1, 1) := by decide +kernel
theorem dL_law_417 : decode cL_law 417 = .ok (.iadd, 1) := by decide +kernel
theorem dL_law_418 : decode cL_law 418 = .ok (.iaload, 1) := by decide +kernel
theorem dL_law_419 : decode cL_law 419 = .ok (.invokevirtual 44, 3) := by decide +kernel
theorem dL_law_422 : decode cL_law 422 = .ok (.if_icmp .eq 498, 3) := by decide +kernel
theorem dL_law_425 : decode cL_law 425 = .ok (.iconst 0, 1) := by decide +kernel
theorem dL_law_426 : decode cL_law 426 = .ok (.ireturn, 1) := by decide +kernel
theorem dL_law_427 : decode cL_law 427 = .ok (.aload_n 1, 1) := by decide +kernel
theorem dL_law_428 : decode cL_law 428 = .ok (.invokevirtual 45, 3) := by decide +kernel
theorem dL_law_431 : decode cL_law 431 = .ok (.aload_n 2, 1) := by decide +kernel
theorem dL_law_432 : decode cL_law 432 = .ok (.invokevirtual 49, 3) := by decide +kernel
theorem dL_law_435 : decode cL_law 435 = .ok (.if_icmp .eq 485, 3) := by decide +kernel
theorem dL_law_438 : decode cL_law 438 = .ok (.iconst 0, 1) := by decide +kernel
theorem dL_law_439 : decode cL_law 439 = .ok (.ireturn, 1) := by decide +kernel
theorem dL_law_440 : decode cL_law 440 = .ok (.aload_n 1, 1) := by decide +kernel
theorem dL_law_441 : decode cL_law 441 = .ok (.aload_n 0, 1) := by decide +kernel
theorem dL_law_442 : decode cL_law 442 = .ok (.iload_n 3, 1) := by decide +kernel
theorem dL_law_443 : decode cL_law 443 = .ok (.iconst 1, 1) := by decide +kernel
theorem dL_law_444 : decode cL_law 444 = .ok (.iadd, 1) := by decide +kernel
theorem dL_law_445 : decode cL_law 445 = .ok (.iaload, 1) := by decide +kernel
theorem dL_law_446 : decode cL_law 446 = .ok (.aload_n 0, 1) := by decide +kernel
theorem dL_law_447 : decode cL_law 447 = .ok (.iload_n 3, 1) := by decide +kernel
theorem dL_law_448 : decode cL_law 448 = .ok (.iconst 2, 1) := by decide +kernel
theorem dL_law_449 : decode cL_law 449 = .ok (.iadd, 1) := by decide +kernel
theorem dL_law_450 : decode cL_law 450 = .ok (.iaload, 1) := by decide +kernel
theorem dL_law_451 : decode cL_law 451 = .ok (.aload_n 0, 1) := by decide +kernel
theorem dL_law_452 : decode cL_law 452 = .ok (.iload_n 3, 1) := by decide +kernel
theorem dL_law_453 : decode cL_law 453 = .ok (.iconst 3, 1) := by decide +kernel
theorem dL_law_454 : decode cL_law 454 = .ok (.iadd, 1) := by decide +kernel
theorem dL_law_455 : decode cL_law 455 = .ok (.iaload, 1) := by decide +kernel
theorem dL_law_456 : decode cL_law 456 = .ok (.aload_n 0, 1) := by decide +kernel
theorem dL_law_457 : decode cL_law 457 = .ok (.iload_n 3, 1) := by decide +kernel
theorem dL_law_458 : decode cL_law 458 = .ok (.iconst 4, 1) := by decide +kernel
theorem dL_law_459 : decode cL_law 459 = .ok (.iadd, 1) := by decide +kernel
theorem dL_law_460 : decode cL_law 460 = .ok (.iaload, 1) := by decide +kernel
theorem dL_law_461 : decode cL_law 461 = .ok (.invokevirtual 50, 3) := by decide +kernel
theorem dL_law_464 : decode cL_law 464 = .ok (.aload_n 2, 1) := by decide +kernel
theorem dL_law_465 : decode cL_law 465 = .ok (.aload_n 0, 1) := by decide +kernel
theorem dL_law_466 : decode cL_law 466 = .ok (.iload_n 3, 1) := by decide +kernel
theorem dL_law_467 : decode cL_law 467 = .ok (.iconst 1, 1) := by decide +kernel
theorem dL_law_468 : decode cL_law 468 = .ok (.iadd, 1) := by decide +kernel
theorem dL_law_469 : decode cL_law 469 = .ok (.iaload, 1) := by decide +kernel
theorem dL_law_470 : decode cL_law 470 = .ok (.aload_n 0, 1) := by decide +kernel
theorem dL_law_471 : decode cL_law 471 = .ok (.iload_n 3, 1) := by decide +kernel
theorem dL_law_472 : decode cL_law 472 = .ok (.iconst 2, 1) := by decide +kernel
theorem dL_law_473 : decode cL_law 473 = .ok (.iadd, 1) := by decide +kernel
theorem dL_law_474 : decode cL_law 474 = .ok (.iaload, 1) := by decide +kernel
theorem dL_law_475 : decode cL_law 475 = .ok (.aload_n 0, 1) := by decide +kernel
theorem dL_law_476 : decode cL_law 476 = .ok (.iload_n 3, 1) := by decide +kernel
theorem dL_law_477 : decode cL_law 477 = .ok (.iconst 3, 1) := by decide +kernel
theorem dL_law_478 : decode cL_law 478 = .ok (.iadd, 1) := by decide +kernel
theorem dL_law_479 : decode cL_law 479 = .ok (.iaload, 1) := by decide +kernel
theorem dL_law_480 : decode cL_law 480 = .ok (.aload_n 0, 1) := by decide +kernel
theorem dL_law_481 : decode cL_law 481 = .ok (.iload_n 3, 1) := by decide +kernel
theorem dL_law_482 : decode cL_law 482 = .ok (.iconst 4, 1) := by decide +kernel
theorem dL_law_483 : decode cL_law 483 = .ok (.iadd, 1) := by decide +kernel
theorem dL_law_484 : decode cL_law 484 = .ok (.iaload, 1) := by decide +kernel
theorem dL_law_485 : decode cL_law 485 = .ok (.invokevirtual 53, 3) := by decide +kernel
theorem dL_law_488 : decode cL_law 488 = .ok (.if_icmp .eq 432, 3) := by decide +kernel
theorem dL_law_491 : decode cL_law 491 = .ok (.iconst 0, 1) := by decide +kernel
theorem dL_law_492 : decode cL_law 492 = .ok (.ireturn, 1) := by decide +kernel
theorem dL_law_493 : decode cL_law 493 = .ok (.aload_n 1, 1) := by decide +kernel
theorem dL_law_494 : decode cL_law 494 = .ok (.aload_n 0, 1) := by decide +kernel
theorem dL_law_495 : decode cL_law 495 = .ok (.iload_n 3, 1) := by decide +kernel
theorem dL_law_496 : decode cL_law 496 = .ok (.iconst 1, 1) := by decide +kernel
theorem dL_law_497 : decode cL_law 497 = .ok (.iadd, 1) := by decide +kernel
theorem dL_law_498 : decode cL_law 498 = .ok (.iaload, 1) := by decide +kernel
theorem dL_law_499 : decode cL_law 499 = .ok (.invokevirtual 54, 3) := by decide +kernel
theorem dL_law_502 : decode cL_law 502 = .ok (.aload_n 2, 1) := by decide +kernel
theorem dL_law_503 : decode cL_law 503 = .ok (.aload_n 0, 1) := by decide +kernel
theorem dL_law_504 : decode cL_law 504 = .ok (.iload_n 3, 1) := by decide +kernel
theorem dL_law_505 : decode cL_law 505 = .ok (.iconst 1, 1) := by decide +kernel
theorem dL_law_506 : decode cL_law 506 = .ok (.iadd, 1) := by decide +kernel
theorem dL_law_507 : decode cL_law 507 = .ok (.iaload, 1) := by decide +kernel
theorem dL_law_508 : decode cL_law 508 = .ok (.invokevirtual 57, 3) := by decide +kernel
theorem dL_law_511 : decode cL_law 511 = .ok (.if_icmp .eq 409, 3) := by decide +kernel
theorem dL_law_514 : decode cL_law 514 = .ok (.iconst 0, 1) := by decide +kernel
theorem dL_law_515 : decode cL_law 515 = .ok (.ireturn, 1) := by decide +kernel
theorem dL_law_516 : decode cL_law 516 = .ok (.aload_n 1, 1) := by decide +kernel
theorem dL_law_517 : decode cL_law 517 = .ok (.aload_n 0, 1) := by decide +kernel
theorem dL_law_518 : decode cL_law 518 = .ok (.iload_n 3, 1) := by decide +kernel
theorem dL_law_519 : decode cL_law 519 = .ok (.iconst 1, 1) := by decide +kernel
theorem dL_law_520 : decode cL_law 520 = .ok (.iadd, 1) := by decide +kernel
theorem dL_law_521 : decode cL_law 521 = .ok (.iaload, 1) := by decide +kernel
theorem dL_law_522 : decode cL_law 522 = .ok (.i2c, 1) := by decide +kernel
theorem dL_law_523 : decode cL_law 523 = .ok (.invokevirtual 58, 3) := by decide +kernel
theorem dL_law_526 : decode cL_law 526 = .ok (.aload_n 2, 1) := by decide +kernel
theorem dL_law_527 : decode cL_law 527 = .ok (.aload_n 0, 1) := by decide +kernel
theorem dL_law_528 : decode cL_law 528 = .ok (.iload_n 3, 1) := by decide +kernel
theorem dL_law_529 : decode cL_law 529 = .ok (.iconst 1, 1) := by decide +kernel
theorem dL_law_530 : decode cL_law 530 = .ok (.iadd, 1) := by decide +kernel
theorem dL_law_531 : decode cL_law 531 = .ok (.iaload, 1) := by decide +kernel
theorem dL_law_532 : decode cL_law 532 = .ok (.i2c, 1) := by decide +kernel
theorem dL_law_533 : decode cL_law 533 = .ok (.invokevirtual 62, 3) := by decide +kernel
theorem dL_law_536 : decode cL_law 536 = .ok (.if_icmp .eq 384, 3) := by decide +kernel
theorem dL_law_539 : decode cL_law 539 = .ok (.iconst 0, 1) := by decide +kernel
theorem dL_law_540 : decode cL_law 540 = .ok (.ireturn, 1) := by decide +kernel
theorem dL_law_541 : decode cL_law 541 = .ok (.aload_n 1, 1) := by decide +kernel
theorem dL_law_542 : decode cL_law 542 = .ok (.invokevirtual 63, 3) := by decide +kernel
theorem dL_law_545 : decode cL_law 545 = .ok (.aload_n 2, 1) := by decide +kernel
theorem dL_law_546 : decode cL_law 546 = .ok (.invokevirtual 66, 3) := by decide +kernel
theorem dL_law_549 : decode cL_law 549 = .ok (.if_icmp .eq 371, 3) := by decide +kernel
theorem dL_law_552 : decode cL_law 552 = .ok (.iconst 0, 1) := by decide +kernel
theorem dL_law_553 : decode cL_law 553 = .ok (.ireturn, 1) := by decide +kernel
theorem dL_law_554 : decode cL_law 554 = .ok (.aload_n 1, 1) := by decide +kernel
theorem dL_law_555 : decode cL_law 555 = .ok (.invokevirtual 67, 3) := by decide +kernel
theorem dL_law_558 : decode cL_law 558 = .ok (.aload_n 2, 1) := by decide +kernel
theorem dL_law_559 : decode cL_law 559 = .ok (.invokevirtual 70, 3) := by decide +kernel
theorem dL_law_562 : decode cL_law 562 = .ok (.if_icmp .eq 358, 3) := by decide +kernel
theorem dL_law_565 : decode cL_law 565 = .ok (.iconst 0, 1) := by decide +kernel
theorem dL_law_566 : decode cL_law 566 = .ok (.ireturn, 1) := by decide +kernel
theorem dL_law_567 : decode cL_law 567 = .ok (.aload_n 1, 1) := by decide +kernel
theorem dL_law_568 : decode cL_law 568 = .ok (.invokevirtual 71, 3) := by decide +kernel
theorem dL_law_571 : decode cL_law 571 = .ok (.aload_n 2, 1) := by decide +kernel
theorem dL_law_572 : decode cL_law 572 = .ok (.invokevirtual 74, 3) := by decide +kernel
theorem dL_law_575 : decode cL_law 575 = .ok (.if_icmp .eq 345, 3) := by decide +kernel
theorem dL_law_578 : decode cL_law 578 = .ok (.iconst 0, 1) := by decide +kernel
theorem dL_law_579 : decode cL_law 579 = .ok (.ireturn, 1) := by decide +kernel
theorem dL_law_580 : decode cL_law 580 = .ok (.aload_n 1, 1) := by decide +kernel
theorem dL_law_581 : decode cL_law 581 = .ok (.invokevirtual 75, 3) := by decide +kernel
theorem dL_law_584 : decode cL_law 584 = .ok (.aload_n 2, 1) := by decide +kernel
theorem dL_law_585 : decode cL_law 585 = .ok (.invokevirtual 78, 3) := by decide +kernel
theorem dL_law_588 : decode cL_law 588 = .ok (.if_icmp .eq 332, 3) := by decide +kernel
theorem dL_law_591 : decode cL_law 591 = .ok (.iconst 0, 1) := by decide +kernel
theorem dL_law_592 : decode cL_law 592 = .ok (.ireturn, 1) := by decide +kernel
theorem dL_law_593 : decode cL_law 593 = .ok (.aload_n 1, 1) := by decide +kernel
theorem dL_law_594 : decode cL_law 594 = .ok (.aload_n 0, 1) := by decide +kernel
theorem dL_law_595 : decode cL_law 595 = .ok (.iload_n 3, 1) := by decide +kernel
theorem dL_law_596 : decode cL_law 596 = .ok (.iconst 1, 1) := by decide +kernel
theorem dL_law_597 : decode cL_law 597 = .ok (.iadd, 1) := by decide +kernel
theorem dL_law_598 : decode cL_law 598 = .ok (.iaload, 1) := by decide +kernel
theorem dL_law_599 : decode cL_law 599 = .ok (.invokevirtual 79, 3) := by decide +kernel
theorem dL_law_602 : decode cL_law 602 = .ok (.aload_n 2, 1) := by decide +kernel
theorem dL_law_603 : decode cL_law 603 = .ok (.aload_n 0, 1) := by decide +kernel
theorem dL_law_604 : decode cL_law 604 = .ok (.iload_n 3, 1) := by decide +kernel
theorem dL_law_605 : decode cL_law 605 = .ok (.iconst 1, 1) := by decide +kernel
theorem dL_law_606 : decode cL_law 606 = .ok (.iadd, 1) := by decide +kernel
theorem dL_law_607 : decode cL_law 607 = .ok (.iaload, 1) := by decide +kernel
theorem dL_law_608 : decode cL_law 608 = .ok (.invokevirtual 82, 3) := by decide +kernel
theorem dL_law_611 : decode cL_law 611 = .ok (.if_icmp .eq 309, 3) := by decide +kernel
theorem dL_law_614 : decode cL_law 614 = .ok (.iconst 0, 1) := by decide +kernel
theorem dL_law_615 : decode cL_law 615 = .ok (.ireturn, 1) := by decide +kernel
theorem dL_law_616 : decode cL_law 616 = .ok (.aload_n 1, 1) := by decide +kernel
theorem dL_law_617 : decode cL_law 617 = .ok (.aload_n 0, 1) := by decide +kernel
theorem dL_law_618 : decode cL_law 618 = .ok (.iload_n 3, 1) := by decide +kernel
theorem dL_law_619 : decode cL_law 619 = .ok (.iconst 1, 1) := by decide +kernel
theorem dL_law_620 : decode cL_law 620 = .ok (.iadd, 1) := by decide +kernel
theorem dL_law_621 : decode cL_law 621 = .ok (.iaload, 1) := by decide +kernel
theorem dL_law_622 : decode cL_law 622 = .ok (.aload_n 0, 1) := by decide +kernel
theorem dL_law_623 : decode cL_law 623 = .ok (.iload_n 3, 1) := by decide +kernel
theorem dL_law_624 : decode cL_law 624 = .ok (.iconst 2, 1) := by decide +kernel
theorem dL_law_625 : decode cL_law 625 = .ok (.iadd, 1) := by decide +kernel
theorem dL_law_626 : decode cL_law 626 = .ok (.iaload, 1) := by decide +kernel
theorem dL_law_627 : decode cL_law 627 = .ok (.invokevirtual 83, 3) := by decide +kernel
theorem dL_law_630 : decode cL_law 630 = .ok (.aload_n 2, 1) := by decide +kernel
theorem dL_law_631 : decode cL_law 631 = .ok (.aload_n 0, 1) := by decide +kernel
theorem dL_law_632 : decode cL_law 632 = .ok (.iload_n 3, 1) := by decide +kernel
theorem dL_law_633 : decode cL_law 633 = .ok (.iconst 1, 1) := by decide +kernel
theorem dL_law_634 : decode cL_law 634 = .ok (.iadd, 1) := by decide +kernel
theorem dL_law_635 : decode cL_law 635 = .ok (.iaload, 1) := by decide +kernel
theorem dL_law_636 : decode cL_law 636 = .ok (.aload_n 0, 1) := by decide +kernel
theorem dL_law_637 : decode cL_law 637 = .ok (.iload_n 3, 1) := by decide +kernel
theorem dL_law_638 : decode cL_law 638 = .ok (.iconst 2, 1) := by decide +kernel
theorem dL_law_639 : decode cL_law 639 = .ok (.iadd, 1) := by decide +kernel
theorem dL_law_640 : decode cL_law 640 = .ok (.iaload, 1) := by decide +kernel
theorem dL_law_641 : decode cL_law 641 = .ok (.invokevirtual 87, 3) := by decide +kernel
theorem dL_law_644 : decode cL_law 644 = .ok (.if_icmp .eq 276, 3) := by decide +kernel
theorem dL_law_647 : decode cL_law 647 = .ok (.iconst 0, 1) := by decide +kernel
theorem dL_law_648 : decode cL_law 648 = .ok (.ireturn, 1) := by decide +kernel
theorem dL_law_649 : decode cL_law 649 = .ok (.aload_n 1, 1) := by decide +kernel
theorem dL_law_650 : decode cL_law 650 = .ok (.aload_n 0, 1) := by decide +kernel
theorem dL_law_651 : decode cL_law 651 = .ok (.iload_n 3, 1) := by decide +kernel
theorem dL_law_652 : decode cL_law 652 = .ok (.iconst 1, 1) := by decide +kernel
theorem dL_law_653 : decode cL_law 653 = .ok (.iadd, 1) := by decide +kernel
theorem dL_law_654 : decode cL_law 654 = .ok (.iaload, 1) := by decide +kernel
theorem dL_law_655 : decode cL_law 655 = .ok (.aload_n 0, 1) := by decide +kernel
theorem dL_law_656 : decode cL_law 656 = .ok (.iload_n 3, 1) := by decide +kernel
theorem dL_law_657 : decode cL_law 657 = .ok (.iconst 2, 1) := by decide +kernel
theorem dL_law_658 : decode cL_law 658 = .ok (.iadd, 1) := by decide +kernel
theorem dL_law_659 : decode cL_law 659 = .ok (.iaload, 1) := by decide +kernel
theorem dL_law_660 : decode cL_law 660 = .ok (.invokevirtual 88, 3) := by decide +kernel
theorem dL_law_663 : decode cL_law 663 = .ok (.aload_n 2, 1) := by decide +kernel
theorem dL_law_664 : decode cL_law 664 = .ok (.aload_n 0, 1) := by decide +kernel
theorem dL_law_665 : decode cL_law 665 = .ok (.iload_n 3, 1) := by decide +kernel
theorem dL_law_666 : decode cL_law 666 = .ok (.iconst 1, 1) := by decide +kernel
theorem dL_law_667 : decode cL_law 667 = .ok (.iadd, 1) := by decide +kernel
theorem dL_law_668 : decode cL_law 668 = .ok (.iaload, 1) := by decide +kernel
theorem dL_law_669 : decode cL_law 669 = .ok (.aload_n 0, 1) := by decide +kernel
theorem dL_law_670 : decode cL_law 670 = .ok (.iload_n 3, 1) := by decide +kernel
theorem dL_law_671 : decode cL_law 671 = .ok (.iconst 2, 1) := by decide +kernel
theorem dL_law_672 : decode cL_law 672 = .ok (.iadd, 1) := by decide +kernel
theorem dL_law_673 : decode cL_law 673 = .ok (.iaload, 1) := by decide +kernel
theorem dL_law_674 : decode cL_law 674 = .ok (.invokevirtual 91, 3) := by decide +kernel
theorem dL_law_677 : decode cL_law 677 = .ok (.if_icmp .eq 243, 3) := by decide +kernel
theorem dL_law_680 : decode cL_law 680 = .ok (.iconst 0, 1) := by decide +kernel
theorem dL_law_681 : decode cL_law 681 = .ok (.ireturn, 1) := by decide +kernel
theorem dL_law_682 : decode cL_law 682 = .ok (.aload_n 1, 1) := by decide +kernel
theorem dL_law_683 : decode cL_law 683 = .ok (.aload_n 0, 1) := by decide +kernel
theorem dL_law_684 : decode cL_law 684 = .ok (.iload_n 3, 1) := by decide +kernel
theorem dL_law_685 : decode cL_law 685 = .ok (.iconst 1, 1) := by decide +kernel
theorem dL_law_686 : decode cL_law 686 = .ok (.iadd, 1) := by decide +kernel
theorem dL_law_687 : decode cL_law 687 = .ok (.iaload, 1) := by decide +kernel
theorem dL_law_688 : decode cL_law 688 = .ok (.aload_n 0, 1) := by decide +kernel
theorem dL_law_689 : decode cL_law 689 = .ok (.iload_n 3, 1) := by decide +kernel
theorem dL_law_690 : decode cL_law 690 = .ok (.iconst 2, 1) := by decide +kernel
theorem dL_law_691 : decode cL_law 691 = .ok (.iadd, 1) := by decide +kernel
theorem dL_law_692 : decode cL_law 692 = .ok (.iaload, 1) := by decide +kernel
theorem dL_law_693 : decode cL_law 693 = .ok (.aload_n 0, 1) := by decide +kernel
theorem dL_law_694 : decode cL_law 694 = .ok (.iload_n 3, 1) := by decide +kernel
theorem dL_law_695 : decode cL_law 695 = .ok (.iconst 3, 1) := by decide +kernel
theorem dL_law_696 : decode cL_law 696 = .ok (.iadd, 1) := by decide +kernel
theorem dL_law_697 : decode cL_law 697 = .ok (.iaload, 1) := by decide +kernel
theorem dL_law_698 : decode cL_law 698 = .ok (.invokevirtual 92, 3) := by decide +kernel
theorem dL_law_701 : decode cL_law 701 = .ok (.aload_n 2, 1) := by decide +kernel
theorem dL_law_702 : decode cL_law 702 = .ok (.aload_n 0, 1) := by decide +kernel
theorem dL_law_703 : decode cL_law 703 = .ok (.iload_n 3, 1) := by decide +kernel
theorem dL_law_704 : decode cL_law 704 = .ok (.iconst 1, 1) := by decide +kernel
theorem dL_law_705 : decode cL_law 705 = .ok (.iadd, 1) := by decide +kernel
theorem dL_law_706 : decode cL_law 706 = .ok (.iaload, 1) := by decide +kernel
theorem dL_law_707 : decode cL_law 707 = .ok (.aload_n 0, 1) := by decide +kernel
theorem dL_law_708 : decode cL_law 708 = .ok (.iload_n 3, 1) := by decide +kernel
theorem dL_law_709 : decode cL_law 709 = .ok (.iconst 2, 1) := by decide +kernel
theorem dL_law_710 : decode cL_law 710 = .ok (.iadd, 1) := by decide +kernel
theorem dL_law_711 : decode cL_law 711 = .ok (.iaload, 1) := by decide +kernel
theorem dL_law_712 : decode cL_law 712 = .ok (.aload_n 0, 1) := by decide +kernel
theorem dL_law_713 : decode cL_law 713 = .ok (.iload_n 3, 1) := by decide +kernel
theorem dL_law_714 : decode cL_law 714 = .ok (.iconst 3, 1) := by decide +kernel
theorem dL_law_715 : decode cL_law 715 = .ok (.iadd, 1) := by decide +kernel
theorem dL_law_716 : decode cL_law 716 = .ok (.iaload, 1) := by decide +kernel
theorem dL_law_717 : decode cL_law 717 = .ok (.invokevirtual 96, 3) := by decide +kernel
theorem dL_law_720 : decode cL_law 720 = .ok (.if_icmp .eq 200, 3) := by decide +kernel
theorem dL_law_723 : decode cL_law 723 = .ok (.iconst 0, 1) := by decide +kernel
theorem dL_law_724 : decode cL_law 724 = .ok (.ireturn, 1) := by decide +kernel
theorem dL_law_725 : decode cL_law 725 = .ok (.aload_n 1, 1) := by decide +kernel
theorem dL_law_726 : decode cL_law 726 = .ok (.aload_n 0, 1) := by decide +kernel
theorem dL_law_727 : decode cL_law 727 = .ok (.iload_n 3, 1) := by decide +kernel
theorem dL_law_728 : decode cL_law 728 = .ok (.iconst 1, 1) := by decide +kernel
theorem dL_law_729 : decode cL_law 729 = .ok (.iadd, 1) := by decide +kernel
theorem dL_law_730 : decode cL_law 730 = .ok (.iaload, 1) := by decide +kernel
theorem dL_law_731 : decode cL_law 731 = .ok (.aload_n 0, 1) := by decide +kernel
theorem dL_law_732 : decode cL_law 732 = .ok (.iload_n 3, 1) := by decide +kernel
theorem dL_law_733 : decode cL_law 733 = .ok (.iconst 2, 1) := by decide +kernel
theorem dL_law_734 : decode cL_law 734 = .ok (.iadd, 1) := by decide +kernel
theorem dL_law_735 : decode cL_law 735 = .ok (.iaload, 1) := by decide +kernel
theorem dL_law_736 : decode cL_law 736 = .ok (.aload_n 0, 1) := by decide +kernel
theorem dL_law_737 : decode cL_law 737 = .ok (.iload_n 3, 1) := by decide +kernel
theorem dL_law_738 : decode cL_law 738 = .ok (.iconst 3, 1) := by decide +kernel
theorem dL_law_739 : decode cL_law 739 = .ok (.iadd, 1) := by decide +kernel
theorem dL_law_740 : decode cL_law 740 = .ok (.iaload, 1) := by decide +kernel
theorem dL_law_741 : decode cL_law 741 = .ok (.invokevirtual 97, 3) := by decide +kernel
theorem dL_law_744 : decode cL_law 744 = .ok (.aload_n 2, 1) := by decide +kernel
theorem dL_law_745 : decode cL_law 745 = .ok (.aload_n 0, 1) := by decide +kernel
theorem dL_law_746 : decode cL_law 746 = .ok (.iload_n 3, 1) := by decide +kernel
theorem dL_law_747 : decode cL_law 747 = .ok (.iconst 1, 1) := by decide +kernel
theorem dL_law_748 : decode cL_law 748 = .ok (.iadd, 1) := by decide +kernel
theorem dL_law_749 : decode cL_law 749 = .ok (.iaload, 1) := by decide +kernel
theorem dL_law_750 : decode cL_law 750 = .ok (.aload_n 0, 1) := by decide +kernel
theorem dL_law_751 : decode cL_law 751 = .ok (.iload_n 3, 1) := by decide +kernel
theorem dL_law_752 : decode cL_law 752 = .ok (.iconst 2, 1) := by decide +kernel
theorem dL_law_753 : decode cL_law 753 = .ok (.iadd, 1) := by decide +kernel
theorem dL_law_754 : decode cL_law 754 = .ok (.iaload, 1) := by decide +kernel
theorem dL_law_755 : decode cL_law 755 = .ok (.aload_n 0, 1) := by decide +kernel
theorem dL_law_756 : decode cL_law 756 = .ok (.iload_n 3, 1) := by decide +kernel
theorem dL_law_757 : decode cL_law 757 = .ok (.iconst 3, 1) := by decide +kernel
theorem dL_law_758 : decode cL_law 758 = .ok (.iadd, 1) := by decide +kernel
theorem dL_law_759 : decode cL_law 759 = .ok (.iaload, 1) := by decide +kernel
theorem dL_law_760 : decode cL_law 760 = .ok (.invokevirtual 100, 3) := by decide +kernel
theorem dL_law_763 : decode cL_law 763 = .ok (.if_icmp .eq 157, 3) := by decide +kernel
theorem dL_law_766 : decode cL_law 766 = .ok (.iconst 0, 1) := by decide +kernel
theorem dL_law_767 : decode cL_law 767 = .ok (.ireturn, 1) := by decide +kernel
theorem dL_law_768 : decode cL_law 768 = .ok (.aload_n 1, 1) := by decide +kernel
theorem dL_law_769 : decode cL_law 769 = .ok (.aload_n 0, 1) := by decide +kernel
theorem dL_law_770 : decode cL_law 770 = .ok (.iload_n 3, 1) := by decide +kernel
theorem dL_law_771 : decode cL_law 771 = .ok (.iconst 1, 1) := by decide +kernel
theorem dL_law_772 : decode cL_law 772 = .ok (.iadd, 1) := by decide +kernel
theorem dL_law_773 : decode cL_law 773 = .ok (.iaload, 1) := by decide +kernel
theorem dL_law_774 : decode cL_law 774 = .ok (.aload_n 0, 1) := by decide +kernel
theorem dL_law_775 : decode cL_law 775 = .ok (.iload_n 3, 1) := by decide +kernel
theorem dL_law_776 : decode cL_law 776 = .ok (.iconst 2, 1) := by decide +kernel
theorem dL_law_777 : decode cL_law 777 = .ok (.iadd, 1) := by decide +kernel
theorem dL_law_778 : decode cL_law 778 = .ok (.iaload, 1) := by decide +kernel
theorem dL_law_779 : decode cL_law 779 = .ok (.aload_n 0, 1) := by decide +kernel
theorem dL_law_780 : decode cL_law 780 = .ok (.iload_n 3, 1) := by decide +kernel
theorem dL_law_781 : decode cL_law 781 = .ok (.iconst 3, 1) := by decide +kernel
theorem dL_law_782 : decode cL_law 782 = .ok (.iadd, 1) := by decide +kernel
theorem dL_law_783 : decode cL_law 783 = .ok (.iaload, 1) := by decide +kernel
theorem dL_law_784 : decode cL_law 784 = .ok (.aload_n 0, 1) := by decide +kernel
theorem dL_law_785 : decode cL_law 785 = .ok (.iload_n 3, 1) := by decide +kernel
theorem dL_law_786 : decode cL_law 786 = .ok (.iconst 4, 1) := by decide +kernel
theorem dL_law_787 : decode cL_law 787 = .ok (.iadd, 1) := by decide +kernel
theorem dL_law_788 : decode cL_law 788 = .ok (.iaload, 1) := by decide +kernel
theorem dL_law_789 : decode cL_law 789 = .ok (.invokevirtual 101, 3) := by decide +kernel
theorem dL_law_792 : decode cL_law 792 = .ok (.aload_n 2, 1) := by decide +kernel
theorem dL_law_793 : decode cL_law 793 = .ok (.aload_n 0, 1) := by decide +kernel
theorem dL_law_794 : decode cL_law 794 = .ok (.iload_n 3, 1) := by decide +kernel
theorem dL_law_795 : decode cL_law 795 = .ok (.iconst 1, 1) := by decide +kernel
theorem dL_law_796 : decode cL_law 796 = .ok (.iadd, 1) := by decide +kernel
theorem dL_law_797 : decode cL_law 797 = .ok (.iaload, 1) := by decide +kernel
theorem dL_law_798 : decode cL_law 798 = .ok (.aload_n 0, 1) := by decide +kernel
theorem dL_law_799 : decode cL_law 799 = .ok (.iload_n 3, 1) := by decide +kernel
theorem dL_law_800 : decode cL_law 800 = .ok (.iconst 2, 1) := by decide +kernel
theorem dL_law_801 : decode cL_law 801 = .ok (.iadd, 1) := by decide +kernel
theorem dL_law_802 : decode cL_law 802 = .ok (.iaload, 1) := by decide +kernel
theorem dL_law_803 : decode cL_law 803 = .ok (.aload_n 0, 1) := by decide +kernel
theorem dL_law_804 : decode cL_law 804 = .ok (.iload_n 3, 1) := by decide +kernel
theorem dL_law_805 : decode cL_law 805 = .ok (.iconst 3, 1) := by decide +kernel
theorem dL_law_806 : decode cL_law 806 = .ok (.iadd, 1) := by decide +kernel
theorem dL_law_807 : decode cL_law 807 = .ok (.iaload, 1) := by decide +kernel
theorem dL_law_808 : decode cL_law 808 = .ok (.aload_n 0, 1) := by decide +kernel
theorem dL_law_809 : decode cL_law 809 = .ok (.iload_n 3, 1) := by decide +kernel
theorem dL_law_810 : decode cL_law 810 = .ok (.iconst 4, 1) := by decide +kernel
theorem dL_law_811 : decode cL_law 811 = .ok (.iadd, 1) := by decide +kernel
theorem dL_law_812 : decode cL_law 812 = .ok (.iaload, 1) := by decide +kernel
theorem dL_law_813 : decode cL_law 813 = .ok (.invokevirtual 104, 3) := by decide +kernel
theorem dL_law_816 : decode cL_law 816 = .ok (.if_icmp .eq 104, 3) := by decide +kernel
theorem dL_law_819 : decode cL_law 819 = .ok (.iconst 0, 1) := by decide +kernel
theorem dL_law_820 : decode cL_law 820 = .ok (.ireturn, 1) := by decide +kernel
theorem dL_law_821 : decode cL_law 821 = .ok (.aload_n 1, 1) := by decide +kernel
theorem dL_law_822 : decode cL_law 822 = .ok (.aload_n 0, 1) := by decide +kernel
theorem dL_law_823 : decode cL_law 823 = .ok (.iload_n 3, 1) := by decide +kernel
theorem dL_law_824 : decode cL_law 824 = .ok (.iconst 1, 1) := by decide +kernel
theorem dL_law_825 : decode cL_law 825 = .ok (.iadd, 1) := by decide +kernel
theorem dL_law_826 : decode cL_law 826 = .ok (.iaload, 1) := by decide +kernel
theorem dL_law_827 : decode cL_law 827 = .ok (.aload_n 0, 1) := by decide +kernel
theorem dL_law_828 : decode cL_law 828 = .ok (.iload_n 3, 1) := by decide +kernel
theorem dL_law_829 : decode cL_law 829 = .ok (.iconst 2, 1) := by decide +kernel
theorem dL_law_830 : decode cL_law 830 = .ok (.iadd, 1) := by decide +kernel
theorem dL_law_831 : decode cL_law 831 = .ok (.iaload, 1) := by decide +kernel
theorem dL_law_832 : decode cL_law 832 = .ok (.aload_n 0, 1) := by decide +kernel
theorem dL_law_833 : decode cL_law 833 = .ok (.iload_n 3, 1) := by decide +kernel
theorem dL_law_834 : decode cL_law 834 = .ok (.iconst 3, 1) := by decide +kernel
theorem dL_law_835 : decode cL_law 835 = .ok (.iadd, 1) := by decide +kernel
theorem dL_law_836 : decode cL_law 836 = .ok (.iaload, 1) := by decide +kernel
theorem dL_law_837 : decode cL_law 837 = .ok (.invokevirtual 105, 3) := by decide +kernel
theorem dL_law_840 : decode cL_law 840 = .ok (.aload_n 2, 1) := by decide +kernel
theorem dL_law_841 : decode cL_law 841 = .ok (.aload_n 0, 1) := by decide +kernel
theorem dL_law_842 : decode cL_law 842 = .ok (.iload_n 3, 1) := by decide +kernel
theorem dL_law_843 : decode cL_law 843 = .ok (.iconst 1, 1) := by decide +kernel
theorem dL_law_844 : decode cL_law 844 = .ok (.iadd, 1) := by decide +kernel
theorem dL_law_845 : decode cL_law 845 = .ok (.iaload, 1) := by decide +kernel
theorem dL_law_846 : decode cL_law 846 = .ok (.aload_n 0, 1) := by decide +kernel
theorem dL_law_847 : decode cL_law 847 = .ok (.iload_n 3, 1) := by decide +kernel
theorem dL_law_848 : decode cL_law 848 = .ok (.iconst 2, 1) := by decide +kernel
theorem dL_law_849 : decode cL_law 849 = .ok (.iadd, 1) := by decide +kernel
theorem dL_law_850 : decode cL_law 850 = .ok (.iaload, 1) := by decide +kernel
theorem dL_law_851 : decode cL_law 851 = .ok (.aload_n 0, 1) := by decide +kernel
theorem dL_law_852 : decode cL_law 852 = .ok (.iload_n 3, 1) := by decide +kernel
theorem dL_law_853 : decode cL_law 853 = .ok (.iconst 3, 1) := by decide +kernel
theorem dL_law_854 : decode cL_law 854 = .ok (.iadd, 1) := by decide +kernel
theorem dL_law_855 : decode cL_law 855 = .ok (.iaload, 1) := by decide +kernel
theorem dL_law_856 : decode cL_law 856 = .ok (.invokevirtual 108, 3) := by decide +kernel
theorem dL_law_859 : decode cL_law 859 = .ok (.if_icmp .eq 61, 3) := by decide +kernel
theorem dL_law_862 : decode cL_law 862 = .ok (.iconst 0, 1) := by decide +kernel
theorem dL_law_863 : decode cL_law 863 = .ok (.ireturn, 1) := by decide +kernel
theorem dL_law_864 : decode cL_law 864 = .ok (.aload_n 1, 1) := by decide +kernel
theorem dL_law_865 : decode cL_law 865 = .ok (.aload_n 0, 1) := by decide +kernel
theorem dL_law_866 : decode cL_law 866 = .ok (.iload_n 3, 1) := by decide +kernel
theorem dL_law_867 : decode cL_law 867 = .ok (.iconst 1, 1) := by decide +kernel
theorem dL_law_868 : decode cL_law 868 = .ok (.iadd, 1) := by decide +kernel
theorem dL_law_869 : decode cL_law 869 = .ok (.iaload, 1) := by decide +kernel
theorem dL_law_870 : decode cL_law 870 = .ok (.aload_n 0, 1) := by decide +kernel
theorem dL_law_871 : decode cL_law 871 = .ok (.iload_n 3, 1) := by decide +kernel
theorem dL_law_872 : decode cL_law 872 = .ok (.iconst 2, 1) := by decide +kernel
theorem dL_law_873 : decode cL_law 873 = .ok (.iadd, 1) := by decide +kernel
theorem dL_law_874 : decode cL_law 874 = .ok (.iaload, 1) := by decide +kernel
theorem dL_law_875 : decode cL_law 875 = .ok (.invokevirtual 109, 3) := by decide +kernel
theorem dL_law_878 : decode cL_law 878 = .ok (.aload_n 2, 1) := by decide +kernel
theorem dL_law_879 : decode cL_law 879 = .ok (.aload_n 0, 1) := by decide +kernel
theorem dL_law_880 : decode cL_law 880 = .ok (.iload_n 3, 1) := by decide +kernel
theorem dL_law_881 : decode cL_law 881 = .ok (.iconst 1, 1) := by decide +kernel
theorem dL_law_882 : decode cL_law 882 = .ok (.iadd, 1) := by decide +kernel
theorem dL_law_883 : decode cL_law 883 = .ok (.iaload, 1) := by decide +kernel
theorem dL_law_884 : decode cL_law 884 = .ok (.aload_n 0, 1) := by decide +kernel
theorem dL_law_885 : decode cL_law 885 = .ok (.iload_n 3, 1) := by decide +kernel
theorem dL_law_886 : decode cL_law 886 = .ok (.iconst 2, 1) := by decide +kernel
theorem dL_law_887 : decode cL_law 887 = .ok (.iadd, 1) := by decide +kernel
theorem dL_law_888 : decode cL_law 888 = .ok (.iaload, 1) := by decide +kernel
theorem dL_law_889 : decode cL_law 889 = .ok (.invokevirtual 112, 3) := by decide +kernel
theorem dL_law_892 : decode cL_law 892 = .ok (.if_icmp .eq 28, 3) := by decide +kernel
theorem dL_law_895 : decode cL_law 895 = .ok (.iconst 0, 1) := by decide +kernel
theorem dL_law_896 : decode cL_law 896 = .ok (.ireturn, 1) := by decide +kernel
theorem dL_law_897 : decode cL_law 897 = .ok (.aload_n 1, 1) := by decide +kernel
theorem dL_law_898 : decode cL_law 898 = .ok (.aload_n 0, 1) := by decide +kernel
theorem dL_law_899 : decode cL_law 899 = .ok (.iload_n 3, 1) := by decide +kernel
theorem dL_law_900 : decode cL_law 900 = .ok (.iconst 1, 1) := by decide +kernel
theorem dL_law_901 : decode cL_law 901 = .ok (.iadd, 1) := by decide +kernel
theorem dL_law_902 : decode cL_law 902 = .ok (.iaload, 1) := by decide +kernel
theorem dL_law_903 : decode cL_law 903 = .ok (.invokevirtual 113, 3) := by decide +kernel
theorem dL_law_906 : decode cL_law 906 = .ok (.aload_n 2, 1) := by decide +kernel
theorem dL_law_907 : decode cL_law 907 = .ok (.aload_n 0, 1) := by decide +kernel
theorem dL_law_908 : decode cL_law 908 = .ok (.iload_n 3, 1) := by decide +kernel
theorem dL_law_909 : decode cL_law 909 = .ok (.iconst 1, 1) := by decide +kernel
theorem dL_law_910 : decode cL_law 910 = .ok (.iadd, 1) := by decide +kernel
theorem dL_law_911 : decode cL_law 911 = .ok (.iaload, 1) := by decide +kernel
theorem dL_law_912 : decode cL_law 912 = .ok (.invokevirtual 116, 3) := by decide +kernel
theorem dL_law_915 : decode cL_law 915 = .ok (.if_icmp .eq 5, 3) := by decide +kernel
theorem dL_law_918 : decode cL_law 918 = .ok (.iconst 0, 1) := by decide +kernel
theorem dL_law_919 : decode cL_law 919 = .ok (.ireturn, 1) := by decide +kernel
theorem dL_law_920 : decode cL_law 920 = .ok (.iinc 3 5, 3) := by decide +kernel
theorem dL_law_923 : decode cL_law 923 = .ok (.goto (-905), 3) := by decide +kernel
theorem dL_law_926 : decode cL_law 926 = .ok (.iconst 1, 1) := by decide +kernel
theorem dL_law_927 : decode cL_law 927 = .ok (.ireturn, 1) := by decide +kernel
abbrev vwCl : List vw_C := [(RX0, TX0, 15), (RX1, TX1, 2), (RX2, TX2, 3), (RX3, TX3, 3), (RX4, TX4, 6), (RX5, TX5, 10)]
end
section
/-! my own base: Int32 by its Int meaning -/
theorem zi_bm {z : Int} (h : -2147483648 ≤ z ∧ z ≤ 2147483647) : z.bmod 4294967296 = z := by
  rw [Int.bmod_def]
  split <;> omega
theorem zi_lo (x : Int32) : -2147483648 ≤ x.toInt := x.le_toInt
theorem zi_hi (x : Int32) : x.toInt ≤ 2147483647 := Int.le_of_lt_add_one x.toInt_lt
theorem zi_add {x y : Int32} {i j : Int} (hx : x.toInt = i) (hy : y.toInt = j) (h : -2147483648 ≤ i + j ∧ i + j ≤ 2147483647) : (x + y).toInt = i + j := by
  rw [Int32.toInt_add, hx, hy]
  exact zi_bm h
theorem zi_sub {x y : Int32} {i j : Int} (hx : x.toInt = i) (hy : y.toInt = j) (h : -2147483648 ≤ i - j ∧ i - j ≤ 2147483647) : (x - y).toInt = i - j := by
  rw [Int32.toInt_sub, hx, hy]
  exact zi_bm h
theorem zi_mul {x y : Int32} {i j : Int} (hx : x.toInt = i) (hy : y.toInt = j) (h : -2147483648 ≤ i * j ∧ i * j ≤ 2147483647) : (x * y).toInt = i * j := by
  rw [Int32.toInt_mul, hx, hy]
  exact zi_bm h
theorem zi_neg {x : Int32} {i : Int} (hx : x.toInt = i) (h : -2147483647 ≤ i) : (-x).toInt = -i := by
  rw [Int32.toInt_neg, hx]
  have := zi_hi x
  exact zi_bm (by omega)
theorem zi_eq {x y : Int32} {i j : Int} (hx : x.toInt = i) (hy : y.toInt = j) : x = y ↔ i = j := by
  rw [← hx, ← hy]
  exact Int32.toInt_inj.symm
theorem zi_lt {x y : Int32} {i j : Int} (hx : x.toInt = i) (hy : y.toInt = j) : x < y ↔ i < j := by
  rw [← hx, ← hy]
  exact Int32.lt_iff_toInt_lt
theorem zi_le {x y : Int32} {i j : Int} (hx : x.toInt = i) (hy : y.toInt = j) : x ≤ y ↔ i ≤ j := by
  rw [← hx, ← hy]
  exact Int32.le_iff_toInt_le
theorem zi_0 : (0 : Int32).toInt = 0 := rfl
theorem zi_cl {x : Int32} {i : Int} (hx : x.toInt = i) : x.toNatClampNeg = i.toNat := by
  rw [← hx]
  rfl
theorem zi_in {x : Int32} {i : Int} {n : Nat} (hx : x.toInt = i) (h : 0 ≤ i ∧ i < (n : Int)) : vp_in x n := by
  intro q
  rcases q with q | q
  · have := (zi_lt hx zi_0).mp q
    omega
  · rw [zi_cl hx] at q
    omega
/-- the quotient and the rest of an Int32 division by a positive number -/
theorem zi_div {x y : Int32} {i j : Int} (hx : x.toInt = i) (hy : y.toInt = j) (hj : 0 < j) : (x / y).toInt = i.tdiv j := by
  rw [Int32.toInt_div_of_ne_right _ _ (fun e => by
    have h1 : y.toInt = -1 := by rw [e]; rfl
    omega), hx, hy]
theorem zi_rem {x y : Int32} {i j : Int} (hx : x.toInt = i) (hy : y.toInt = j) (hj : 0 < j) : (x - x / y * y).toInt = i.tmod j := by
  have hd := zi_div hx hy hj
  have e : i.tmod j + j * i.tdiv j = i := Int.tmod_add_mul_tdiv i j
  have h0 := zi_lo x
  have h1 := zi_hi x
  rw [Int32.toInt_sub, Int32.toInt_mul, hd, hy, hx]
  have e2 : i.tdiv j * j = i - i.tmod j := by rw [Int.mul_comm]; omega
  have hm : i.tmod j < j := Int.tmod_lt_of_pos i hj
  have hm2 : -j < i.tmod j := by
    rcases Int.le_total 0 i with hi | hi
    · have := Int.tmod_nonneg j hi
      omega
    · have h7 : (-i).tmod j = -(i.tmod j) := Int.neg_tmod i j
      have := Int.tmod_lt_of_pos (-i) hj
      omega
  rw [e2]
  have h3 : -2147483648 ≤ i - i.tmod j ∧ i - i.tmod j ≤ 2147483647 := by
    rcases Int.le_total 0 i with hi | hi
    · have := Int.tmod_nonneg j hi
      have h5 : i.tmod j ≤ i := by
        have := Int.tmod_eq_emod_of_nonneg (b := j) hi
        rw [this]
        rcases Int.lt_or_le i j with q | q
        · rw [Int.emod_eq_of_lt hi q]
          omega
        · have := Int.emod_lt_of_pos i hj
          omega
      omega
    · have h6 : i.tmod j ≤ 0 := by
        have h7 : (-i).tmod j = -(i.tmod j) := Int.neg_tmod i j
        have := Int.tmod_nonneg (a := -i) j (by omega)
        omega
      have h8 : i ≤ i.tmod j := by
        have h7 : (-i).tmod j = -(i.tmod j) := Int.neg_tmod i j
        have hi' : 0 ≤ -i := by omega
        have h9 := Int.tmod_eq_emod_of_nonneg (b := j) hi'
        have h10 : (-i) % j ≤ -i := by
          rcases Int.lt_or_le (-i) j with q | q
          · rw [Int.emod_eq_of_lt hi' q]
            omega
          · have := Int.emod_lt_of_pos (-i) hj
            omega
        omega
      omega
  rw [show (i - i.tmod j).bmod (2 ^ 32) = i - i.tmod j from zi_bm h3]
  have h4 : i - (i - i.tmod j) = i.tmod j := by omega
  rw [h4]
  refine zi_bm ?_
  have := zi_hi y
  omega
theorem zi_of (x : Int32) : Int32.ofInt x.toInt = x := Int32.ofInt_toInt x
theorem zi_ofI {i : Int} (h : -2147483648 ≤ i ∧ i ≤ 2147483647) : (Int32.ofInt i).toInt = i := by
  rw [Int32.toInt_ofInt]
  exact zi_bm h
theorem zi_ext {x y : Int32} {i : Int} (hx : x.toInt = i) (hy : y.toInt = i) : x = y := Int32.toInt_inj.mp (hx.trans hy.symm)
theorem zi_eqOf {x : Int32} {i : Int} (hx : x.toInt = i) : x = Int32.ofInt i := by rw [← hx, zi_of]
/-- what a method that answers a boolean answers -/
def isB (x : Int32) (P : Prop) : Prop := (x.toInt = 1 ∧ P) ∨ (x.toInt = 0 ∧ ¬ P)
theorem isB.t {x : Int32} {P : Prop} (hx : x.toInt = 1) (h : P) : isB x P := Or.inl ⟨hx, h⟩
theorem isB.f {x : Int32} {P : Prop} (hx : x.toInt = 0) (h : ¬ P) : isB x P := Or.inr ⟨hx, h⟩
theorem isB.iff {x : Int32} {P P' : Prop} (h : isB x P) (e : P ↔ P') : isB x P' := h.elim (fun q => Or.inl ⟨q.1, e.mp q.2⟩) (fun q => Or.inr ⟨q.1, fun z => q.2 (e.mpr z)⟩)
theorem isB.ext {x y : Int32} {P : Prop} (h : isB x P) (g : isB y P) : x = y := by
  rcases h with h | h <;> rcases g with g | g
  · exact zi_ext h.1 g.1
  · exact absurd h.2 g.2
  · exact absurd g.2 h.2
  · exact zi_ext h.1 g.1
/-! rows by Int meanings -/
section ZR
variable {p : Program} {l : Launch} {e : Env} {R : Room} {s : State} {m : MethodId} {args : Array Value} {below : List Frame} {meth : Method} {c : Code} {H : Heap} {locs : List Loc} {cells slots : Nat} {Q : State → Prop}
variable {cc : ByteArray} {pc : Nat} {ls : Array Slot} {rest : List Value}
theorem z_iadd (hx : p.tables.exec = Jvm.exec) (hb : c.code = cc) {x y : Int32} {i j : Int} (hX : x.toInt = i) (hY : y.toInt = j) (hdg : decode cc pc = .ok (.iadd, 1)) (h : -2147483648 ≤ i + j ∧ i + j ≤ 2147483647)
    (kk : ∀ z : Int32, z.toInt = i + j → W p l e R s m args below meth c H locs cells slots Q (F0 m (pc + 1) ls (.int z :: rest))) : W p l e R s m args below meth c H locs cells slots Q (F0 m pc ls (.int y :: .int x :: rest)) := lv_iadd hx hb hdg (kk _ (zi_add hX hY h))
theorem z_isub (hx : p.tables.exec = Jvm.exec) (hb : c.code = cc) {x y : Int32} {i j : Int} (hX : x.toInt = i) (hY : y.toInt = j) (hdg : decode cc pc = .ok (.isub, 1)) (h : -2147483648 ≤ i - j ∧ i - j ≤ 2147483647)
    (kk : ∀ z : Int32, z.toInt = i - j → W p l e R s m args below meth c H locs cells slots Q (F0 m (pc + 1) ls (.int z :: rest))) : W p l e R s m args below meth c H locs cells slots Q (F0 m pc ls (.int y :: .int x :: rest)) := lv_isub hx hb hdg (kk _ (zi_sub hX hY h))
theorem z_imul (hx : p.tables.exec = Jvm.exec) (hb : c.code = cc) {x y : Int32} {i j : Int} (hX : x.toInt = i) (hY : y.toInt = j) (hdg : decode cc pc = .ok (.imul, 1)) (h : -2147483648 ≤ i * j ∧ i * j ≤ 2147483647)
    (kk : ∀ z : Int32, z.toInt = i * j → W p l e R s m args below meth c H locs cells slots Q (F0 m (pc + 1) ls (.int z :: rest))) : W p l e R s m args below meth c H locs cells slots Q (F0 m pc ls (.int y :: .int x :: rest)) := lv_imul hx hb hdg (kk _ (zi_mul hX hY h))
theorem z_idiv (hx : p.tables.exec = Jvm.exec) (hb : c.code = cc) {x y : Int32} {i j : Int} (hX : x.toInt = i) (hY : y.toInt = j) (hdg : decode cc pc = .ok (.idiv, 1)) (h : 0 < j)
    (kk : ∀ z : Int32, z.toInt = i.tdiv j → W p l e R s m args below meth c H locs cells slots Q (F0 m (pc + 1) ls (.int z :: rest))) : W p l e R s m args below meth c H locs cells slots Q (F0 m pc ls (.int y :: .int x :: rest)) := lv_idiv hx hb hdg (fun q => by have := (zi_eq hY zi_0).mp q; omega) (kk _ (zi_div hX hY h))
theorem z_irem (hx : p.tables.exec = Jvm.exec) (hb : c.code = cc) {x y : Int32} {i j : Int} (hX : x.toInt = i) (hY : y.toInt = j) (hdg : decode cc pc = .ok (.irem, 1)) (h : 0 < j)
    (kk : ∀ z : Int32, z.toInt = i.tmod j → W p l e R s m args below meth c H locs cells slots Q (F0 m (pc + 1) ls (.int z :: rest))) : W p l e R s m args below meth c H locs cells slots Q (F0 m pc ls (.int y :: .int x :: rest)) := lv_irem hx hb hdg (fun q => by have := (zi_eq hY zi_0).mp q; omega) (kk _ (zi_rem hX hY h))
/-- a division of a number that isn't negative -/
theorem z_idivp (hx : p.tables.exec = Jvm.exec) (hb : c.code = cc) {x y : Int32} {i j : Int} (hX : x.toInt = i) (hY : y.toInt = j) (hdg : decode cc pc = .ok (.idiv, 1)) (h : 0 ≤ i ∧ 0 < j)
    (kk : ∀ z : Int32, z.toInt = i / j → W p l e R s m args below meth c H locs cells slots Q (F0 m (pc + 1) ls (.int z :: rest))) : W p l e R s m args below meth c H locs cells slots Q (F0 m pc ls (.int y :: .int x :: rest)) := z_idiv hx hb hX hY hdg h.2 (fun z hz => kk z (by rw [hz, Int.tdiv_eq_ediv_of_nonneg h.1]))
theorem z_iremp (hx : p.tables.exec = Jvm.exec) (hb : c.code = cc) {x y : Int32} {i j : Int} (hX : x.toInt = i) (hY : y.toInt = j) (hdg : decode cc pc = .ok (.irem, 1)) (h : 0 ≤ i ∧ 0 < j)
    (kk : ∀ z : Int32, z.toInt = i % j → W p l e R s m args below meth c H locs cells slots Q (F0 m (pc + 1) ls (.int z :: rest))) : W p l e R s m args below meth c H locs cells slots Q (F0 m pc ls (.int y :: .int x :: rest)) := z_irem hx hb hX hY hdg h.2 (fun z hz => kk z (by rw [hz, Int.tmod_eq_emod_of_nonneg h.1]))
theorem z_ineg (hx : p.tables.exec = Jvm.exec) (hb : c.code = cc) {x : Int32} {i : Int} (hX : x.toInt = i) (hdg : decode cc pc = .ok (.ineg, 1)) (h : -2147483647 ≤ i)
    (kk : ∀ z : Int32, z.toInt = -i → W p l e R s m args below meth c H locs cells slots Q (F0 m (pc + 1) ls (.int z :: rest))) : W p l e R s m args below meth c H locs cells slots Q (F0 m pc ls (.int x :: rest)) := lv_ineg hx hb hdg (kk _ (zi_neg hX h))
theorem z_iinc (hx : p.tables.exec = Jvm.exec) (hb : c.code = cc) {i nL k : Nat} {n a j : Int} {x : Int32} {lv : List (Nat × Value)} (hdg : decode cc pc = .ok (.iinc i n, 3)) (h : lv_has ls nL lv) (hk : lv[k]? = some (i, .int x)) (hX : x.toInt = a) (hn9 : (Int32.ofInt n).toInt = j) (hr : -2147483648 ≤ a + j ∧ a + j ≤ 2147483647) (hn : i < nL)
    (kk : ∀ v : Int32, v.toInt = a + j → ∀ ls' : Array Slot, lv_has ls' nL ((i, Value.int v) :: lv.filter (fun q => !(q.1 == i) && !(q.1 + 1 == i && q.2.category == 2))) → W p l e R s m args below meth c H locs cells slots Q (F0 m (pc + 3) ls' rest)) : W p l e R s m args below meth c H locs cells slots Q (F0 m pc ls rest) :=
  lv_iinc (v := x + Int32.ofInt n) hx hb hdg h hk rfl hn rfl (kk _ (zi_add hX hn9 hr))
theorem z_if_eq (hx : p.tables.exec = Jvm.exec) (hb : c.code = cc) {x : Int32} {off i : Int} {tgt : Nat} (hX : x.toInt = i) (hdg : decode cc pc = .ok (.ifCond .eq off, 3)) (ht : (pc : Int) + off = (tgt : Int))
    (kt : i = 0 → W p l e R s m args below meth c H locs cells slots Q (F0 m tgt ls rest)) (kf : i ≠ 0 → W p l e R s m args below meth c H locs cells slots Q (F0 m (pc + 3) ls rest)) : W p l e R s m args below meth c H locs cells slots Q (F0 m pc ls (.int x :: rest)) :=
  lv_if_eq hx hb hdg ht (fun q => kt ((zi_eq hX zi_0).mp q)) (fun q => kf (fun z => q ((zi_eq hX zi_0).mpr z)))
theorem z_if_ne (hx : p.tables.exec = Jvm.exec) (hb : c.code = cc) {x : Int32} {off i : Int} {tgt : Nat} (hX : x.toInt = i) (hdg : decode cc pc = .ok (.ifCond .ne off, 3)) (ht : (pc : Int) + off = (tgt : Int))
    (kt : i ≠ 0 → W p l e R s m args below meth c H locs cells slots Q (F0 m tgt ls rest)) (kf : i = 0 → W p l e R s m args below meth c H locs cells slots Q (F0 m (pc + 3) ls rest)) : W p l e R s m args below meth c H locs cells slots Q (F0 m pc ls (.int x :: rest)) :=
  lv_if_ne hx hb hdg ht (fun q => kt (fun z => q ((zi_eq hX zi_0).mpr z))) (fun q => kf ((zi_eq hX zi_0).mp q))
theorem z_if_lt (hx : p.tables.exec = Jvm.exec) (hb : c.code = cc) {x : Int32} {off i : Int} {tgt : Nat} (hX : x.toInt = i) (hdg : decode cc pc = .ok (.ifCond .lt off, 3)) (ht : (pc : Int) + off = (tgt : Int))
    (kt : i < 0 → W p l e R s m args below meth c H locs cells slots Q (F0 m tgt ls rest)) (kf : 0 ≤ i → W p l e R s m args below meth c H locs cells slots Q (F0 m (pc + 3) ls rest)) : W p l e R s m args below meth c H locs cells slots Q (F0 m pc ls (.int x :: rest)) :=
  lv_if_lt hx hb hdg ht (fun q => kt ((zi_lt hX zi_0).mp q)) (fun q => kf (Int.not_lt.mp (fun z => q ((zi_lt hX zi_0).mpr z))))
theorem z_if_ge (hx : p.tables.exec = Jvm.exec) (hb : c.code = cc) {x : Int32} {off i : Int} {tgt : Nat} (hX : x.toInt = i) (hdg : decode cc pc = .ok (.ifCond .ge off, 3)) (ht : (pc : Int) + off = (tgt : Int))
    (kt : 0 ≤ i → W p l e R s m args below meth c H locs cells slots Q (F0 m tgt ls rest)) (kf : i < 0 → W p l e R s m args below meth c H locs cells slots Q (F0 m (pc + 3) ls rest)) : W p l e R s m args below meth c H locs cells slots Q (F0 m pc ls (.int x :: rest)) :=
  lv_if_ge hx hb hdg ht (fun q => kt ((zi_le zi_0 hX).mp q)) (fun q => kf (Int.not_le.mp (fun z => q ((zi_le zi_0 hX).mpr z))))
theorem z_if_gt (hx : p.tables.exec = Jvm.exec) (hb : c.code = cc) {x : Int32} {off i : Int} {tgt : Nat} (hX : x.toInt = i) (hdg : decode cc pc = .ok (.ifCond .gt off, 3)) (ht : (pc : Int) + off = (tgt : Int))
    (kt : 0 < i → W p l e R s m args below meth c H locs cells slots Q (F0 m tgt ls rest)) (kf : i ≤ 0 → W p l e R s m args below meth c H locs cells slots Q (F0 m (pc + 3) ls rest)) : W p l e R s m args below meth c H locs cells slots Q (F0 m pc ls (.int x :: rest)) :=
  lv_if_gt hx hb hdg ht (fun q => kt ((zi_lt zi_0 hX).mp q)) (fun q => kf (Int.not_lt.mp (fun z => q ((zi_lt zi_0 hX).mpr z))))
theorem z_if_le (hx : p.tables.exec = Jvm.exec) (hb : c.code = cc) {x : Int32} {off i : Int} {tgt : Nat} (hX : x.toInt = i) (hdg : decode cc pc = .ok (.ifCond .le off, 3)) (ht : (pc : Int) + off = (tgt : Int))
    (kt : i ≤ 0 → W p l e R s m args below meth c H locs cells slots Q (F0 m tgt ls rest)) (kf : 0 < i → W p l e R s m args below meth c H locs cells slots Q (F0 m (pc + 3) ls rest)) : W p l e R s m args below meth c H locs cells slots Q (F0 m pc ls (.int x :: rest)) :=
  lv_if_le hx hb hdg ht (fun q => kt ((zi_le hX zi_0).mp q)) (fun q => kf (Int.not_le.mp (fun z => q ((zi_le hX zi_0).mpr z))))
theorem z_icmp_eq (hx : p.tables.exec = Jvm.exec) (hb : c.code = cc) {x y : Int32} {off i j : Int} {tgt : Nat} (hX : x.toInt = i) (hY : y.toInt = j) (hdg : decode cc pc = .ok (.if_icmp .eq off, 3)) (ht : (pc : Int) + off = (tgt : Int))
    (kt : i = j → W p l e R s m args below meth c H locs cells slots Q (F0 m tgt ls rest)) (kf : i ≠ j → W p l e R s m args below meth c H locs cells slots Q (F0 m (pc + 3) ls rest)) : W p l e R s m args below meth c H locs cells slots Q (F0 m pc ls (.int y :: .int x :: rest)) :=
  lv_icmp_eq hx hb hdg ht (fun q => kt ((zi_eq hX hY).mp q)) (fun q => kf (fun z => q ((zi_eq hX hY).mpr z)))
theorem z_icmp_ne (hx : p.tables.exec = Jvm.exec) (hb : c.code = cc) {x y : Int32} {off i j : Int} {tgt : Nat} (hX : x.toInt = i) (hY : y.toInt = j) (hdg : decode cc pc = .ok (.if_icmp .ne off, 3)) (ht : (pc : Int) + off = (tgt : Int))
    (kt : i ≠ j → W p l e R s m args below meth c H locs cells slots Q (F0 m tgt ls rest)) (kf : i = j → W p l e R s m args below meth c H locs cells slots Q (F0 m (pc + 3) ls rest)) : W p l e R s m args below meth c H locs cells slots Q (F0 m pc ls (.int y :: .int x :: rest)) :=
  lv_icmp_ne hx hb hdg ht (fun q => kt (fun z => q ((zi_eq hX hY).mpr z))) (fun q => kf ((zi_eq hX hY).mp q))
theorem z_icmp_lt (hx : p.tables.exec = Jvm.exec) (hb : c.code = cc) {x y : Int32} {off i j : Int} {tgt : Nat} (hX : x.toInt = i) (hY : y.toInt = j) (hdg : decode cc pc = .ok (.if_icmp .lt off, 3)) (ht : (pc : Int) + off = (tgt : Int))
    (kt : i < j → W p l e R s m args below meth c H locs cells slots Q (F0 m tgt ls rest)) (kf : j ≤ i → W p l e R s m args below meth c H locs cells slots Q (F0 m (pc + 3) ls rest)) : W p l e R s m args below meth c H locs cells slots Q (F0 m pc ls (.int y :: .int x :: rest)) :=
  lv_icmp_lt hx hb hdg ht (fun q => kt ((zi_lt hX hY).mp q)) (fun q => kf (Int.not_lt.mp (fun z => q ((zi_lt hX hY).mpr z))))
theorem z_icmp_ge (hx : p.tables.exec = Jvm.exec) (hb : c.code = cc) {x y : Int32} {off i j : Int} {tgt : Nat} (hX : x.toInt = i) (hY : y.toInt = j) (hdg : decode cc pc = .ok (.if_icmp .ge off, 3)) (ht : (pc : Int) + off = (tgt : Int))
    (kt : j ≤ i → W p l e R s m args below meth c H locs cells slots Q (F0 m tgt ls rest)) (kf : i < j → W p l e R s m args below meth c H locs cells slots Q (F0 m (pc + 3) ls rest)) : W p l e R s m args below meth c H locs cells slots Q (F0 m pc ls (.int y :: .int x :: rest)) :=
  lv_icmp_ge hx hb hdg ht (fun q => kt ((zi_le hY hX).mp q)) (fun q => kf (Int.not_le.mp (fun z => q ((zi_le hY hX).mpr z))))
theorem z_icmp_gt (hx : p.tables.exec = Jvm.exec) (hb : c.code = cc) {x y : Int32} {off i j : Int} {tgt : Nat} (hX : x.toInt = i) (hY : y.toInt = j) (hdg : decode cc pc = .ok (.if_icmp .gt off, 3)) (ht : (pc : Int) + off = (tgt : Int))
    (kt : j < i → W p l e R s m args below meth c H locs cells slots Q (F0 m tgt ls rest)) (kf : i ≤ j → W p l e R s m args below meth c H locs cells slots Q (F0 m (pc + 3) ls rest)) : W p l e R s m args below meth c H locs cells slots Q (F0 m pc ls (.int y :: .int x :: rest)) :=
  lv_icmp_gt hx hb hdg ht (fun q => kt ((zi_lt hY hX).mp q)) (fun q => kf (Int.not_lt.mp (fun z => q ((zi_lt hY hX).mpr z))))
theorem z_icmp_le (hx : p.tables.exec = Jvm.exec) (hb : c.code = cc) {x y : Int32} {off i j : Int} {tgt : Nat} (hX : x.toInt = i) (hY : y.toInt = j) (hdg : decode cc pc = .ok (.if_icmp .le off, 3)) (ht : (pc : Int) + off = (tgt : Int))
    (kt : i ≤ j → W p l e R s m args below meth c H locs cells slots Q (F0 m tgt ls rest)) (kf : j < i → W p l e R s m args below meth c H locs cells slots Q (F0 m (pc + 3) ls rest)) : W p l e R s m args below meth c H locs cells slots Q (F0 m pc ls (.int y :: .int x :: rest)) :=
  lv_icmp_le hx hb hdg ht (fun q => kt ((zi_le hX hY).mp q)) (fun q => kf (Int.not_le.mp (fun z => q ((zi_le hX hY).mpr z))))
/-- a branch on a boolean answer -/
theorem z_ifb_eq (hx : p.tables.exec = Jvm.exec) (hb : c.code = cc) {x : Int32} {off : Int} {tgt : Nat} {P : Prop} (hX : isB x P) (hdg : decode cc pc = .ok (.ifCond .eq off, 3)) (ht : (pc : Int) + off = (tgt : Int))
    (kt : ¬ P → W p l e R s m args below meth c H locs cells slots Q (F0 m tgt ls rest)) (kf : P → W p l e R s m args below meth c H locs cells slots Q (F0 m (pc + 3) ls rest)) : W p l e R s m args below meth c H locs cells slots Q (F0 m pc ls (.int x :: rest)) := by
  rcases hX with h | h
  · exact z_if_eq hx hb h.1 hdg ht (fun q => by omega) (fun _ => kf h.2)
  · exact z_if_eq hx hb h.1 hdg ht (fun _ => kt h.2) (fun q => by omega)
theorem z_ifb_ne (hx : p.tables.exec = Jvm.exec) (hb : c.code = cc) {x : Int32} {off : Int} {tgt : Nat} {P : Prop} (hX : isB x P) (hdg : decode cc pc = .ok (.ifCond .ne off, 3)) (ht : (pc : Int) + off = (tgt : Int))
    (kt : P → W p l e R s m args below meth c H locs cells slots Q (F0 m tgt ls rest)) (kf : ¬ P → W p l e R s m args below meth c H locs cells slots Q (F0 m (pc + 3) ls rest)) : W p l e R s m args below meth c H locs cells slots Q (F0 m pc ls (.int x :: rest)) := by
  rcases hX with h | h
  · exact z_if_ne hx hb h.1 hdg ht (fun _ => kt h.2) (fun q => by omega)
  · exact z_if_ne hx hb h.1 hdg ht (fun q => by omega) (fun _ => kf h.2)
end ZR
end
section
/-! cells one by one: what a cell holds; rows that read and write them, with the frame said outright -/
abbrev xG : Type := va_G × (ClassId × ClassId × ClassId × ClassId × ClassId)
abbrev xtys (G : xG) : List (ClassId × FieldType) := [(G.2.1, .int), (G.2.2.1, .char), (G.2.2.2.1, .object RX3), (G.2.2.2.2.1, .object RX0), (G.2.2.2.2.2, .object RX2)]
def xK (G : xG) (s : State) : Prop := va_K G.1 vwCl (xtys G) s
theorem xK.moved {G : xG} {u U : State} (hvm : u.vm.Alike U.vm) (h : xK G u) : xK G U := va_K.moved hvm h
abbrev xat (G : xG) (H : Heap) (a : Nat) (e : va_E) : Prop := va_at G.1 vwCl (a, e) H
theorem xP1 {G : xG} {H : Heap} {a : Nat} {e : va_E} (h : xat G H a e) : va_P G.1 vwCl [(a, e)] H := by
  intro k q hk
  match k, hk with
  | 0, hk => cases hk; exact h
  | k + 1, hk => simp at hk
theorem xat.kept {G : xG} {H H1 : Heap} {a : Nat} {e : va_E} (h : xat G H a e) (hq : H1[a]? = H[a]?) : xat G H1 a e := va_at.kept h hq
/-- an array's contents beyond its length don't count -/
theorem xat.row {G : xG} {H : Heap} {a n : Nat} {cA : ClassId} {f g : Nat → Int32} (h : xat G H a (.inl (cA, n, .inl f))) (e : ∀ j, j < n → f j = g j) : xat G H a (.inl (cA, n, .inl g)) := by
  have h1 : H[a]? = some (vp_cell cA (n, .inl f)) := h
  show H[a]? = some (vp_cell cA (n, .inl g))
  rw [h1, vp_cell_i, vp_cell_i]
  congr 1
  unfold arrV
  congr 1
  apply Array.ext
  · simp
  · intro i h1 h2
    simp only [Array.getElem_ofFn]
    rw [e i (by simpa using h1)]
theorem xat.rowq {G : xG} {H : Heap} {a n : Nat} {cA : ClassId} {f g : Nat → Option Nat} (h : xat G H a (.inl (cA, n, .inr (.inr (.inr (.inr f)))))) (e : ∀ j, j < n → f j = g j) : xat G H a (.inl (cA, n, .inr (.inr (.inr (.inr g))))) := by
  have h1 : H[a]? = some (vp_cell cA (n, .inr (.inr (.inr (.inr f))))) := h
  show H[a]? = some (vp_cell cA (n, .inr (.inr (.inr (.inr g)))))
  rw [h1, vp_cell_q, vp_cell_q]
  congr 1
  unfold arrV
  congr 1
  apply Array.ext
  · simp
  · intro i h1 h2
    simp only [Array.getElem_ofFn]
    rw [e i (by simpa using h1)]
section XR
variable {p : Program} {l : Launch} {e : Env} {R : Room} {s : State} {m : MethodId} {args : Array Value} {below : List Frame} {meth : Method} {c : Code} {H : Heap} {locs : List Loc} {cells slots : Nat} {Q : State → Prop}
variable {cc : ByteArray} {pc : Nat} {ls : Array Slot} {rest : List Value} {G : xG} {A : Nat → Prop} {a : Nat} {H0 : Heap}
theorem z_get (hx : p.tables.exec = Jvm.exec) (hb : c.code = cc) {own ref C : String} {T : u_T} {N ci index : Nat} {Ts : List Cond} (hts : ∀ w ∈ Ts, w.before args s = true) (hin : ∀ w ∈ u_ws C T N, w ∈ Ts) (hown : s.vm.findClass own = some m.cls) (hK : xK G s) {fs : List Value} (hA : xat G H a (.inr (ci, fs))) (hc : vwCl[ci]? = some (C, T, N)) (k : Nat) (hk : k < N) (hlink : Cond.fieldLink own index ref (T k).2.1 (T k).2.2.1 ∈ Ts) (hr : (T k).1 = ref) {v : Value} (hv : fs[k]? = some v) (hdg : decode cc pc = .ok (.getfield index, 3))
    (kk : W p l e R s m args below meth c H locs cells slots Q (F0 m (pc + 3) ls (v :: rest))) : W p l e R s m args below meth c H locs cells slots Q (F0 m pc ls (.ref a :: rest)) :=
  va_get (D := G.1) (ws := [(a, .inr (ci, fs))]) hx hb hts hin hown hK (xP1 hA) 0 rfl hc k hk (hts _ hlink) (fun x h => by rw [← hr]; exact h) hv hdg kk
theorem z_put (hx : p.tables.exec = Jvm.exec) (hb : c.code = cc) {own ref C : String} {T : u_T} {N ci index : Nat} {Ts : List Cond} (hts : ∀ w ∈ Ts, w.before args s = true) (hin : ∀ w ∈ u_ws C T N, w ∈ Ts) (ty0 : Nat → FieldType) (hty : ∀ k, k < N → parseFieldDescriptor (T k).2.2.1 = some (ty0 k)) (hnm : ∀ a, a < N → ∀ b, b < N → a ≠ b → (T a).2.1 ≠ (T b).2.1) (hown : s.vm.findClass own = some m.cls) (hK : xK G s) {fs : List Value} (hA : xat G H a (.inr (ci, fs))) (hc : vwCl[ci]? = some (C, T, N)) (hS0 : va_S A H0 H locs) (ha : A a) (k : Nat) (hk : k < N) (hlink : Cond.fieldLink own index ref (T k).2.1 (T k).2.2.1 ∈ Ts) (hr : (T k).1 = ref) (hfin : (T k).2.2.2 = false) {ty : FieldType} {v : Value} (hd : parseFieldDescriptor (T k).2.2.1 = some ty) (hn : narrow ty v = v) (hfit : fits ty v = true) (hl : k < fs.length)
    (hdg : decode cc pc = .ok (.putfield index, 3)) (kk : ∀ (H1 : Heap) (locs1 : List Loc), xat G H1 a (.inr (ci, fs.set k v)) → H1.size = H.size → (∀ q : Nat, q ≠ a → H1[q]? = H[q]?) → va_S A H0 H1 locs1 → W p l e R s m args below meth c H1 locs1 cells slots Q (F0 m (pc + 3) ls rest)) : W p l e R s m args below meth c H locs cells slots Q (F0 m pc ls (v :: .ref a :: rest)) := by
  have hK' : va_K G.1 vwCl (xtys G) s := hK
  have hap := va_apart (own := own) hts hin ty0 hty hnm hK' hc
  obtain ⟨r, h1, cell, q1, q2, q3, q4⟩ := hA
  have hr2 : r = (C, T, N) := Option.some.inj (h1.symm.trans hc)
  subst hr2
  obtain ⟨hS, hfc, kC, hkC, hkind⟩ := hK'.1 ci _ hc
  obtain ⟨cf, kf, fi, f, hi, hsl⟩ := hS k hk
  have hlay := hts _ (hin _ (u_in_lay hk))
  unfold u_lay at hlay
  rw [if_neg (by rw [hfin]; decide)] at hlay
  have hst := (u_facts hfc hkC (u_lays hts hin hk) hi).1
  have h6 := u_store hfc hkC hkind hlay hi hd hn hfit
  refine W.putK hx hb (f := f) ⟨hown, hts _ hlink, ⟨_, _, _, by rw [← hr]; exact hi⟩, hst⟩ (by rw [q2]; exact h6) q1 q3 (by rw [hsl]; exact k2_hasslot (q4 k hk)) rfl rfl hdg fun H' e1 e2 e3 => ?_
  rw [hsl] at e1 ⊢
  exact kk H' _ ⟨_, hc, t_OB.to (V := updV (vp_V fs) k v) ⟨_, e1, q2, q3, t_set q4 hap hk v⟩ (fun j _ => vp_updV_set hl v j)⟩ e2 e3 (hS0.put e2 e3 ha)
theorem z_iald (hx : p.tables.exec = Jvm.exec) (hb : c.code = cc) (hK : xK G s) (t0 : Nat) {cA : ClassId} {n : Nat} {f : Nat → Int32} (hA : xat G H a (.inl (cA, n, .inl f))) (ht : (xtys G)[t0]? = some (cA, .int)) {x : Int32} {i : Int} (hX : x.toInt = i) (h : 0 ≤ i ∧ i < (n : Int)) (hdg : decode cc pc = .ok (.iaload, 1))
    (kk : W p l e R s m args below meth c H locs cells slots Q (F0 m (pc + 1) ls (.int (f i.toNat) :: rest))) : W p l e R s m args below meth c H locs cells slots Q (F0 m pc ls (.int x :: .ref a :: rest)) := by
  refine va_iald (D := G.1) (ws := [(a, .inl (cA, n, .inl f))]) hx hb hK (xP1 hA) 0 t0 rfl ht (zi_in hX h) hdg ?_
  rw [zi_cl hX]
  exact kk
theorem z_cald (hx : p.tables.exec = Jvm.exec) (hb : c.code = cc) (hK : xK G s) (t0 : Nat) {cA : ClassId} {n : Nat} {f : Nat → Int32} (hA : xat G H a (.inl (cA, n, .inl f))) (ht : (xtys G)[t0]? = some (cA, .char)) {x : Int32} {i : Int} (hX : x.toInt = i) (h : 0 ≤ i ∧ i < (n : Int)) (hdg : decode cc pc = .ok (.caload, 1))
    (kk : W p l e R s m args below meth c H locs cells slots Q (F0 m (pc + 1) ls (.int (f i.toNat) :: rest))) : W p l e R s m args below meth c H locs cells slots Q (F0 m pc ls (.int x :: .ref a :: rest)) := by
  refine va_cald (D := G.1) (ws := [(a, .inl (cA, n, .inl f))]) hx hb hK (xP1 hA) 0 t0 rfl ht (zi_in hX h) hdg ?_
  rw [zi_cl hX]
  exact kk
theorem z_iast (hx : p.tables.exec = Jvm.exec) (hb : c.code = cc) (hK : xK G s) (t0 : Nat) {cA : ClassId} {n : Nat} {f : Nat → Int32} (hA : xat G H a (.inl (cA, n, .inl f))) (ht : (xtys G)[t0]? = some (cA, .int)) (hS : va_S A H0 H locs) (ha : A a) {x z : Int32} {i : Int} (hX : x.toInt = i) (h : 0 ≤ i ∧ i < (n : Int)) (hdg : decode cc pc = .ok (.iastore, 1))
    (kk : ∀ (H1 : Heap) (locs1 : List Loc), xat G H1 a (.inl (cA, n, .inl (upd f i.toNat z))) → H1.size = H.size → (∀ q : Nat, q ≠ a → H1[q]? = H[q]?) → va_S A H0 H1 locs1 → W p l e R s m args below meth c H1 locs1 cells slots Q (F0 m (pc + 1) ls rest)) : W p l e R s m args below meth c H locs cells slots Q (F0 m pc ls (.int z :: .int x :: .ref a :: rest)) := by
  have hc : H[a]? = some (vp_cell cA (n, .inl f)) := hA
  refine W.iast hx hb hc ((hK.2 t0 _ ht).1 n (fun j => .int (f j))) (fun q => by cases q) (by show ¬ (x < 0 ∨ (arrV _ _ _).slots.size ≤ _); rw [arrV_size]; exact zi_in hX h) rfl rfl hdg fun H1 e9 z9 oq => ?_
  rw [← zi_cl hX] at kk
  refine kk H1 _ ?_ z9 oq (hS.put z9 oq ha)
  show H1[a]? = some (vp_cell _ _)
  rw [e9]
  rw [vp_cell_i, vp_cell_i, arrV_store]
  congr 2
  funext j
  by_cases hj : j = x.toNatClampNeg <;> simp [upd, updV, hj]
theorem z_cast (hx : p.tables.exec = Jvm.exec) (hb : c.code = cc) (hK : xK G s) (t0 : Nat) {cA : ClassId} {n : Nat} {f : Nat → Int32} (hA : xat G H a (.inl (cA, n, .inl f))) (ht : (xtys G)[t0]? = some (cA, .char)) (hS : va_S A H0 H locs) (ha : A a) {x z : Int32} {i : Int} (hX : x.toInt = i) (h : 0 ≤ i ∧ i < (n : Int)) (hz : vp_nar .char z = z) (hdg : decode cc pc = .ok (.castore, 1))
    (kk : ∀ (H1 : Heap) (locs1 : List Loc), xat G H1 a (.inl (cA, n, .inl (upd f i.toNat z))) → H1.size = H.size → (∀ q : Nat, q ≠ a → H1[q]? = H[q]?) → va_S A H0 H1 locs1 → W p l e R s m args below meth c H1 locs1 cells slots Q (F0 m (pc + 1) ls rest)) : W p l e R s m args below meth c H locs cells slots Q (F0 m pc ls (.int z :: .int x :: .ref a :: rest)) := by
  have hc : H[a]? = some (vp_cell cA (n, .inl f)) := hA
  refine W.cast hx hb hc ((hK.2 t0 _ ht).1 n (fun j => .int (f j))) (fun q => by cases q) (by show ¬ (x < 0 ∨ (arrV _ _ _).slots.size ≤ _); rw [arrV_size]; exact zi_in hX h) rfl rfl hdg fun H1 e9 z9 oq => ?_
  rw [← zi_cl hX] at kk
  refine kk H1 _ ?_ z9 oq (hS.put z9 oq ha)
  show H1[a]? = some (vp_cell _ _)
  rw [e9]
  rw [vp_cell_i, vp_cell_i, arrV_store]
  congr 2
  funext j
  have hz' : narrow .char (.int z) = .int z := by
    have h9 : narrow .char (.int z) = .int (vp_nar .char z) := rfl
    rw [h9, hz]
  by_cases hj : j = x.toNatClampNeg <;> simp [upd, updV, hj, hz']
theorem z_aald (hx : p.tables.exec = Jvm.exec) (hb : c.code = cc) (hK : xK G s) (t0 : Nat) {cA : ClassId} {C : String} {n b : Nat} {f : Nat → Option Nat} (hA : xat G H a (.inl (cA, n, .inr (.inr (.inr (.inr f)))))) (ht : (xtys G)[t0]? = some (cA, .object C)) {x : Int32} {i : Int} (hX : x.toInt = i) (h : 0 ≤ i ∧ i < (n : Int)) (hf : f i.toNat = some b) (hdg : decode cc pc = .ok (.aaload, 1))
    (kk : W p l e R s m args below meth c H locs cells slots Q (F0 m (pc + 1) ls (.ref b :: rest))) : W p l e R s m args below meth c H locs cells slots Q (F0 m pc ls (.int x :: .ref a :: rest)) := by
  refine va_aldq (D := G.1) (ws := [(a, .inl (cA, n, .inr (.inr (.inr (.inr f)))))]) hx hb hK (xP1 hA) 0 t0 rfl ht (zi_in hX h) hdg ?_
  rw [zi_cl hX, hf]
  exact kk
theorem z_alen (hx : p.tables.exec = Jvm.exec) (hb : c.code = cc) (hK : xK G s) (t0 : Nat) {cA : ClassId} {y : vp_A} (hA : xat G H a (.inl (cA, y))) {ty : FieldType} (ht : (xtys G)[t0]? = some (cA, ty)) {v : Int32} (hv : Int32.ofNat y.1 = v) (hdg : decode cc pc = .ok (.arraylength, 1))
    (kk : W p l e R s m args below meth c H locs cells slots Q (F0 m (pc + 1) ls (.int v :: rest))) : W p l e R s m args below meth c H locs cells slots Q (F0 m pc ls (.ref a :: rest)) :=
  va_alen (D := G.1) (ws := [(a, .inl (cA, y))]) hx hb hK (xP1 hA) 0 t0 rfl ht hv hdg kk
end XR
/-! contracts: what a method asks and what it gives -/
def zPre (G : xG) (P : Heap → Prop) : State → Prop := fun U => xK G U ∧ P U.heap
/-- returns an int of which post says something; the heap is as it was -/
abbrev zS (post : Int32 → Prop) : Array Value → State → Outcome → State → Prop := vp_Si post
/-- returns an int; the cells in A may have changed, B holds of the heap then -/
def zW (post : Int32 → Prop) (B : Heap → Prop) (A : Nat → Prop) : Array Value → State → Outcome → State → Prop := fun _ st o t => (∃ r : Int32, o = .returned (some (.int r)) ∧ post r) ∧ B t.heap ∧ va_F A st t
def zV (B : Heap → Prop) (A : Nat → Prop) : Array Value → State → Outcome → State → Prop := fun _ st o t => o = .returned none ∧ B t.heap ∧ va_F A st t
abbrev zno : Nat → Prop := fun _ => False
/-- n cells from a on -/
def iv (a n : Nat) : Nat → Prop := fun q => a ≤ q ∧ q < a + n
theorem zPre.blind {G : xG} {P : Heap → Prop} {av : List Value} : FrameBlind (va_Pc av (zPre G P)) := fun a U g mk q => ⟨q.1, xK.moved (u := U) (U := U.calling g mk a) (Vm.Alike.refl U.vm) q.2.1, q.2.2⟩
theorem z_ofW {l : Launch} {y : MethodName} {ws ws' : List Cond} {G : xG} {P : Heap → Prop} {av : List Value} {Qc : Array Value → State → Outcome → State → Prop} {free : Addr → Prop} {cc : ByteArray} {maxL : Nat} {ret : Option FieldType} {rm : Room}
    (hy : plainName y.cls = true) (hw : ws = Cond.code y cc maxL ret :: ws') (hlen : (lg_sl av).length ≤ maxL)
    (body : ∀ p e s m below meth c, p.tables.exec = Jvm.exec → c.code = cc → c.maxLocals = maxL → meth.sig.returnType = ret → (∀ w ∈ ws, w.before av.toArray s = true) → s.vm.findClass y.cls = some m.cls → meth.locks = false → xK G s → P s.heap → ∀ ls, lv_has ls maxL (lv_args 0 av) →
      W p l e rm s m av.toArray below meth c s.heap [] 0 0 (MQ below Qc av.toArray s 0 0 free) (F0 m 0 ls [])) : Met l y ws rm (va_Pc av (zPre G P)) Qc 0 0 free := by
  refine Met.ofW (cc := cc) (maxL := maxL) (ret := ret) hy hw ?_
  intro p e s m args below meth c s₁ B hml hv
  obtain ⟨rfl, hK, hP⟩ := hv
  have hl := lv_entry av (n := maxL) hlen
  rw [lg_entry_eq]
  exact body p e s m below meth c B.exec B.bytes hml B.returns (atoms_spec (ws := ws) B.pre) (findClass_of_methodNamed B.named) B.notSynchronized hK hP _ hl
section XC
variable {p : Program} {l : Launch} {e : Env} {R : Room} {s : State} {m : MethodId} {args : Array Value} {below : List Frame} {meth : Method} {c : Code} {H : Heap} {locs : List Loc} {cells slots : Nat} {Q : State → Prop}
variable {cc bytes : ByteArray} {pc : Nat} {ls : Array Slot} {rest st : List Value} {G : xG} {A A1 : Nat → Prop} {b : Nat} {H0 : Heap}
variable {Ts ws : List Cond} {nL maxL index n : Nat} {own C : String} {y : MethodName} {ret : Option FieldType} {rm : Room} {P B : Heap → Prop} {post : Int32 → Prop} {As : List Value} {free : Addr → Prop}
theorem z_recv {T : u_T} {N ci : Nat} {fs : List Value} (hK : xK G s) (hA : xat G H b (.inr (ci, fs))) (hc : vwCl[ci]? = some (C, T, N)) : ∃ cell : Cell, H[b]? = some cell ∧ cell.vm.isStatics = false ∧ s.vm.findClass C = some cell.cls :=
  va_recv (D := G.1) (ws := [(b, .inr (ci, fs))]) (q0 := 0) hK (xP1 hA) hc rfl
/-- an instance method that only reads -/
theorem z_cV (S : CallFix p m c cc nL s args Ts own) (hM : Met l y ws rm (va_Pc (.ref b :: As) (zPre G P)) (zS post) 0 0 zno) (cw : CallW R s args own C index y bytes maxL ret ws rm 0 0 n) (hK : xK G s) (hP : P H) {T : u_T} {N ci : Nat} {fs : List Value} (hA : xat G H b (.inr (ci, fs))) (hc : vwCl[ci]? = some (C, T, N))
    (hn : As.length = n) (hsize : ls.size = nL) (hst : st = As.reverse ++ .ref b :: rest) (hW : (rest.map fun v => v.category).sum ≤ 8) (hdg : decode cc pc = .ok (.invokevirtual index, 3)) (hf : cells ≤ R.cells ∧ slots ≤ R.slots)
    (kk : ∀ v : Int32, post v → W p l e R s m args below meth c H locs cells slots Q (F0 m (pc + 3) ls (.int v :: rest))) : W p l e R s m args below meth c H locs cells slots Q (F0 m pc ls st) := by
  have hr := W.runV (H := H) (locs := locs) (cells := cells) (slots := slots) (e := e) (below := below) (meth := meth) (g := F0 m pc ls st) S hM cw ⟨zPre.blind, z_recv hK hA hc, fun U hU hW => ⟨rfl, xK.moved hW.alike hK, by rw [hU]; exact hP⟩⟩ rfl hn hsize hst (lv_room hW) hdg hf
  intro T0 hT X
  obtain ⟨v, st₀, t, T', L, h0, X', hL, e1, ⟨r, hv, hpo, hh⟩, stp⟩ := hr T0 hT X
  cases hv
  obtain ⟨t2, a1, b1⟩ := kk r hpo T' (by rw [e1, hh, h0]) (Stand.forget X' (fun q h => (hL q h).elim))
  exact ⟨t2, stp t2 a1, b1⟩
/-- a static method that only reads -/
theorem z_cS (S : CallFix p m c cc nL s args Ts own) (hM : Met l y ws rm (va_Pc As (zPre G P)) (zS post) 0 0 zno) (cw : CallB R s args own index y bytes maxL ret ws rm 0 0 n ∧ (Cond.static y).before args s = true) (hK : xK G s) (hP : P H)
    (hn : As.length = n) (hsize : ls.size = nL) (hst : st = As.reverse ++ rest) (hW : (rest.map fun v => v.category).sum ≤ 8) (hdg : decode cc pc = .ok (.invokestatic index, 3)) (hf : cells ≤ R.cells ∧ slots ≤ R.slots)
    (kk : ∀ v : Int32, post v → W p l e R s m args below meth c H locs cells slots Q (F0 m (pc + 3) ls (.int v :: rest))) : W p l e R s m args below meth c H locs cells slots Q (F0 m pc ls st) := by
  have hr := W.runS (H := H) (locs := locs) (cells := cells) (slots := slots) (e := e) (below := below) (meth := meth) (g := F0 m pc ls st) S hM cw ⟨zPre.blind, fun U hU hW => ⟨rfl, xK.moved hW.alike hK, by rw [hU]; exact hP⟩⟩ rfl hn hsize hst (lv_room hW) hdg hf
  intro T0 hT X
  obtain ⟨v, st₀, t, T', L, h0, X', hL, e1, ⟨r, hv, hpo, hh⟩, stp⟩ := hr T0 hT X
  cases hv
  obtain ⟨t2, a1, b1⟩ := kk r hpo T' (by rw [e1, hh, h0]) (Stand.forget X' (fun q h => (hL q h).elim))
  exact ⟨t2, stp t2 a1, b1⟩
theorem z_after {hS0 : va_S A H0 H locs} {T' t st₀ : State} {L : List Loc} (hA1 : ∀ q, A1 q → A q) (h0 : st₀.heap = H) (hL : ∀ q ∈ L, A1 q.base) (hF : va_F A1 st₀ t) : va_S A H0 t.heap (locs ++ L) := by
  rw [← h0] at hS0
  refine ⟨Nat.le_trans hS0.1 hF.1, fun q h1 h2 => ?_, fun q hq => ?_⟩
  · rw [hF.2 q (Nat.lt_of_lt_of_le h1 hS0.1) (fun z => h2 (hA1 q z))]
    exact hS0.2.1 q h1 h2
  · rcases List.mem_append.mp hq with h | h
    · exact hS0.2.2 q h
    · exact hA1 _ (hL q h)
/-- an instance method that writes in A1 and answers an int -/
theorem z_cVw (S : CallFix p m c cc nL s args Ts own) (hM : Met l y ws rm (va_Pc (.ref b :: As) (zPre G P)) (zW post B A1) 0 0 A1) (cw : CallW R s args own C index y bytes maxL ret ws rm 0 0 n) (hK : xK G s) (hP : P H) {T : u_T} {N ci : Nat} {fs : List Value} (hA : xat G H b (.inr (ci, fs))) (hc : vwCl[ci]? = some (C, T, N))
    (hn : As.length = n) (hsize : ls.size = nL) (hst : st = As.reverse ++ .ref b :: rest) (hW : (rest.map fun v => v.category).sum ≤ 8) (hdg : decode cc pc = .ok (.invokevirtual index, 3)) (hf : cells ≤ R.cells ∧ slots ≤ R.slots) (hS : va_S A H0 H locs) (hA1 : ∀ q, A1 q → A q)
    (kk : ∀ (v : Int32) (H1 : Heap) (locs1 : List Loc), post v → B H1 → H.size ≤ H1.size → (∀ q : Nat, q < H.size → ¬ A1 q → H1[q]? = H[q]?) → va_S A H0 H1 locs1 → W p l e R s m args below meth c H1 locs1 cells slots Q (F0 m (pc + 3) ls (.int v :: rest))) : W p l e R s m args below meth c H locs cells slots Q (F0 m pc ls st) := by
  have hr := W.runV (H := H) (locs := locs) (cells := cells) (slots := slots) (e := e) (below := below) (meth := meth) (g := F0 m pc ls st) S hM cw ⟨zPre.blind, z_recv hK hA hc, fun U hU hW => ⟨rfl, xK.moved hW.alike hK, by rw [hU]; exact hP⟩⟩ rfl hn hsize hst (lv_room hW) hdg hf
  intro T0 hT X
  obtain ⟨v, st₀, t, T', L, h0, X', hL, e1, ⟨⟨r, hv, hpo⟩, hB, hF⟩, stp⟩ := hr T0 hT X
  cases hv
  obtain ⟨t2, a1, b1⟩ := kk r t.heap _ hpo hB (by rw [← h0]; exact hF.1) (by rw [← h0]; exact hF.2) (z_after (T' := T') (hS0 := hS) hA1 h0 hL hF) T' e1 X'
  exact ⟨t2, stp t2 a1, b1⟩
theorem z_cVv (S : CallFix p m c cc nL s args Ts own) (hM : Met l y ws rm (va_Pc (.ref b :: As) (zPre G P)) (zV B A1) 0 0 A1) (cw : CallW R s args own C index y bytes maxL ret ws rm 0 0 n) (hK : xK G s) (hP : P H) {T : u_T} {N ci : Nat} {fs : List Value} (hA : xat G H b (.inr (ci, fs))) (hc : vwCl[ci]? = some (C, T, N))
    (hn : As.length = n) (hsize : ls.size = nL) (hst : st = As.reverse ++ .ref b :: rest) (hW : (rest.map fun v => v.category).sum ≤ 8) (hdg : decode cc pc = .ok (.invokevirtual index, 3)) (hf : cells ≤ R.cells ∧ slots ≤ R.slots) (hS : va_S A H0 H locs) (hA1 : ∀ q, A1 q → A q)
    (kk : ∀ (H1 : Heap) (locs1 : List Loc), B H1 → H.size ≤ H1.size → (∀ q : Nat, q < H.size → ¬ A1 q → H1[q]? = H[q]?) → va_S A H0 H1 locs1 → W p l e R s m args below meth c H1 locs1 cells slots Q (F0 m (pc + 3) ls rest)) : W p l e R s m args below meth c H locs cells slots Q (F0 m pc ls st) := by
  have hr := W.runV (H := H) (locs := locs) (cells := cells) (slots := slots) (e := e) (below := below) (meth := meth) (g := F0 m pc ls st) S hM cw ⟨zPre.blind, z_recv hK hA hc, fun U hU hW => ⟨rfl, xK.moved hW.alike hK, by rw [hU]; exact hP⟩⟩ rfl hn hsize hst (lv_room hW) hdg hf
  intro T0 hT X
  obtain ⟨v, st₀, t, T', L, h0, X', hL, e1, ⟨hv, hB, hF⟩, stp⟩ := hr T0 hT X
  cases hv
  obtain ⟨t2, a1, b1⟩ := kk t.heap _ hB (by rw [← h0]; exact hF.1) (by rw [← h0]; exact hF.2) (z_after (T' := T') (hS0 := hS) hA1 h0 hL hF) T' e1 X'
  exact ⟨t2, stp t2 a1, b1⟩
end XC
section XE
variable {p : Program} {l : Launch} {e : Env} {R : Room} {s : State} {m : MethodId} {args : Array Value} {below : List Frame} {meth : Method} {c : Code} {H : Heap} {locs : List Loc}
variable {cc : ByteArray} {pc : Nat} {ls : Array Slot} {post : Int32 → Prop} {B : Heap → Prop} {A : Nat → Prop}
/-- the ends of a method -/
theorem z_ri (hx : p.tables.exec = Jvm.exec) (hb : c.code = cc) (hr : meth.sig.returnType = some .int) (hk : meth.locks = false) {v : Int32} (hv : post v) (hdg : decode cc pc = .ok (.ireturn, 1)) : W p l e R s m args below meth c s.heap [] 0 0 (MQ below (zS post) args s 0 0 zno) (F0 m pc ls [.int v]) :=
  W.iret (v := v) hx hb hr (fun t ht _ => ⟨v, rfl, hv, ht⟩) (fun q h => by cases h) hdg hk
theorem z_rb (hx : p.tables.exec = Jvm.exec) (hb : c.code = cc) (hr : meth.sig.returnType = some .boolean) (hk : meth.locks = false) {v : Int32} (hn : narrow .boolean (.int v) = .int v) (hv : post v) (hdg : decode cc pc = .ok (.ireturn, 1)) : W p l e R s m args below meth c s.heap [] 0 0 (MQ below (zS post) args s 0 0 zno) (F0 m pc ls [.int v]) :=
  W.zret (v := v) hx hb hr hn (fun t ht _ => ⟨v, rfl, hv, ht⟩) (fun q h => by cases h) hdg hk
theorem z_rc (hx : p.tables.exec = Jvm.exec) (hb : c.code = cc) (hr : meth.sig.returnType = some .char) (hk : meth.locks = false) {v : Int32} (hn : narrow .char (.int v) = .int v) (hv : post v) (hdg : decode cc pc = .ok (.ireturn, 1)) : W p l e R s m args below meth c s.heap [] 0 0 (MQ below (zS post) args s 0 0 zno) (F0 m pc ls [.int v]) :=
  W.zret (v := v) hx hb hr hn (fun t ht _ => ⟨v, rfl, hv, ht⟩) (fun q h => by cases h) hdg hk
theorem z_riw (hx : p.tables.exec = Jvm.exec) (hb : c.code = cc) (hr : meth.sig.returnType = some .int) (hk : meth.locks = false) {v : Int32} (hv : post v) (hB : B H) (hS : va_S A s.heap H locs) (hdg : decode cc pc = .ok (.ireturn, 1)) : W p l e R s m args below meth c H locs 0 0 (MQ below (zW post B A) args s 0 0 A) (F0 m pc ls [.int v]) :=
  W.iret (v := v) hx hb hr (fun t ht _ => ⟨⟨v, rfl, hv⟩, by rw [ht]; exact hB, hS.F ht⟩) hS.2.2 hdg hk
theorem z_rv (hx : p.tables.exec = Jvm.exec) (hb : c.code = cc) (hr : meth.sig.returnType = none) (hk : meth.locks = false) (hB : B H) (hS : va_S A s.heap H locs) (hdg : decode cc pc = .ok (.return_, 1)) : W p l e R s m args below meth c H locs 0 0 (MQ below (zV B A) args s 0 0 A) (F0 m pc ls []) :=
  W.vret hx hb hr (fun t ht _ => ⟨rfl, by rw [ht]; exact hB, hS.F ht⟩) hS.2.2 hdg hk
end XE
end
section
/-! what a state of the class is: gauges, waves, the text; and pure words for their answers -/
def abz (a : Int) : Int := if 0 ≤ a then a else -a
theorem zi_narB {v : Int32} {P : Prop} (h : isB v P) : narrow .boolean (.int v) = .int v := by
  rcases h with h | h
  · have : v = 1 := zi_ext h.1 rfl
    subst this
    rfl
  · have : v = 0 := zi_ext h.1 rfl
    subst this
    rfl
section XM
variable {p : Program} {l : Launch} {e : Env} {R : Room} {s : State} {m : MethodId} {args : Array Value} {below : List Frame} {meth : Method} {c : Code} {H : Heap} {locs : List Loc} {cells slots : Nat} {Q : State → Prop}
variable {cc : ByteArray} {pc : Nat} {ls : Array Slot} {rest : List Value}
theorem z_mmax (hx : p.tables.exec = Jvm.exec) (hb : c.code = cc) (hml : c.maxLocals = ls.size) {own : String} {index : Nat} (hown : s.vm.findClass own = some m.cls) (hlink : (Cond.methodLink own index Lib.Math.max.name).before args s = true) (hstat : (Cond.static Lib.Math.max.name).before args s = true) (hini : (Cond.initialized "java/lang/Math").before args s = true) (hcode : (Cond.code Lib.Math.max.name Lib.Math.max.code 2 (some .int)).before args s = true)
    (hframes : 1 ≤ R.frames) (hlocals : (rest.map fun v => v.category).sum + 13 ≤ R.locals) (hc : cells ≤ R.cells) (hs : slots ≤ R.slots) {x y : Int32} {i j : Int} (hX : x.toInt = i) (hY : y.toInt = j) (hdg : decode cc pc = .ok (.invokestatic index, 3))
    (kk : ∀ z : Int32, z.toInt = max i j → W p l e R s m args below meth c H locs cells slots Q (F0 m (pc + 3) ls (.int z :: rest))) : W p l e R s m args below meth c H locs cells slots Q (F0 m pc ls (.int y :: .int x :: rest)) := by
  refine va_mmax hx hb hml hown hlink hstat hini hcode hframes hlocals hc hs hdg (kk _ ?_)
  by_cases h : x < y
  · rw [if_pos h, hY]
    have := (zi_lt hX hY).mp h
    omega
  · rw [if_neg h, hX]
    have : ¬ i < j := fun z => h ((zi_lt hX hY).mpr z)
    omega
theorem z_mabs (hx : p.tables.exec = Jvm.exec) (hb : c.code = cc) (hml : c.maxLocals = ls.size) {own : String} {index : Nat} (hown : s.vm.findClass own = some m.cls) (hlink : (Cond.methodLink own index Lib.Math.abs.name).before args s = true) (hstat : (Cond.static Lib.Math.abs.name).before args s = true) (hini : (Cond.initialized "java/lang/Math").before args s = true) (hcode : (Cond.code Lib.Math.abs.name Lib.Math.abs.code 1 (some .int)).before args s = true)
    (hframes : 1 ≤ R.frames) (hlocals : (rest.map fun v => v.category).sum + 13 ≤ R.locals) (hc : cells ≤ R.cells) (hs : slots ≤ R.slots) {x : Int32} {i : Int} (hX : x.toInt = i) (h : -2147483647 ≤ i) (hdg : decode cc pc = .ok (.invokestatic index, 3))
    (kk : ∀ z : Int32, z.toInt = abz i → W p l e R s m args below meth c H locs cells slots Q (F0 m (pc + 3) ls (.int z :: rest))) : W p l e R s m args below meth c H locs cells slots Q (F0 m pc ls (.int x :: rest)) := by
  refine va_mabs hx hb hml hown hlink hstat hini hcode hframes hlocals hc hs hdg (kk _ ?_)
  have h9 := zi_hi x
  by_cases h : 0 ≤ x
  · have h1 := (zi_le zi_0 hX).mp h
    rw [if_pos h, hX, abz, if_pos h1]
  · have h1 : ¬ 0 ≤ i := fun z => h ((zi_le zi_0 hX).mpr z)
    rw [if_neg h, abz, if_neg h1, zi_sub zi_0 hX (by omega)]
    omega
end XM
/-- a gauge: its twelve numbers, its kinds, its values, its corrections -/
abbrev GD : Type := (Nat → Int32) × (Nat → Int32) × (Nat → Int32) × (Nat → Int32)
def gF (z : Nat) (f : Nat → Int32) : List Value := [.int (f 0), .int (f 1), .int (f 2), .int (f 3), .int (f 4), .int (f 5), .int (f 6), .int (f 7), .int (f 8), .int (f 9), .int (f 10), .int (f 11), .ref (z + 1), .ref (z + 2), .ref (z + 3)]
def GA (G : xG) (H : Heap) (g : Nat) (d : GD) : Prop := xat G H g (.inr (0, gF g d.1)) ∧ xat G H (g + 1) (.inl (G.2.1, 120, .inl d.2.1)) ∧ xat G H (g + 2) (.inl (G.2.1, 120, .inl d.2.2.1)) ∧ xat G H (g + 3) (.inl (G.2.1, 120, .inl d.2.2.2))
theorem GA.kept {G : xG} {H H1 : Heap} {g : Nat} {d : GD} (h : GA G H g d) (hq : ∀ q : Nat, g ≤ q → q < g + 4 → H1[q]? = H[q]?) : GA G H1 g d :=
  ⟨h.1.kept (hq _ (by omega) (by omega)), h.2.1.kept (hq _ (by omega) (by omega)), h.2.2.1.kept (hq _ (by omega) (by omega)), h.2.2.2.kept (hq _ (by omega) (by omega))⟩
theorem xat.lt {G : xG} {H : Heap} {a : Nat} {e : va_E} (h : xat G H a e) : a < H.size := va_at.lt h
theorem GA.lt {G : xG} {H : Heap} {g : Nat} {d : GD} (h : GA G H g d) : g + 3 < H.size := h.2.2.2.lt
/-- a wave: amplitude, period, phase -/
def WV (G : xG) (H : Heap) (w : Nat) (v : Nat → Int32) : Prop := xat G H w (.inr (3, [.int (v 0), .int (v 1), .int (v 2)]))
/-- the text: its length, its characters -/
abbrev TD : Type := Int32 × (Nat → Int32)
def TX (G : xG) (H : Heap) (x : Nat) (t : TD) : Prop := xat G H x (.inr (1, [.int t.1, .ref (x + 1)])) ∧ xat G H (x + 1) (.inl (G.2.2.1, 60, .inl t.2))
/-- the reference: its numbers (by the field's number), the row s, the row before, the row kept, the text -/
abbrev MD : Type := (Nat → Int32) × (Nat → Int32) × (Nat → Int32) × (Nat → Int32) × (Nat → Int32)
def MO (G : xG) (H : Heap) (o : Nat) (d : MD) : Prop := xat G H o (.inr (5, [.ref (o + 1), .ref (o + 2), .int (d.1 2), .ref (o + 3), .int (d.1 4), .ref (o + 4), .int (d.1 6), .int (d.1 7), .int (d.1 8), .int (d.1 9)])) ∧ xat G H (o + 1) (.inl (G.2.1, 2203, .inl d.2.1)) ∧ xat G H (o + 2) (.inl (G.2.1, 8812, .inl d.2.2.1)) ∧ xat G H (o + 3) (.inl (G.2.1, 2203, .inl d.2.2.2.1)) ∧ xat G H (o + 4) (.inl (G.2.1, 60, .inl d.2.2.2.2))
theorem GA.to {G : xG} {H : Heap} {g : Nat} {d d' : GD} (h : GA G H g d) (e : d = d') : GA G H g d' := e ▸ h
theorem gF_set (z : Nat) (f : Nat → Int32) (k : Nat) (hk : k < 12) (v : Int32) : (gF z f).set k (.int v) = gF z (upd f k v) := by
  have h : k = 0 ∨ k = 1 ∨ k = 2 ∨ k = 3 ∨ k = 4 ∨ k = 5 ∨ k = 6 ∨ k = 7 ∨ k = 8 ∨ k = 9 ∨ k = 10 ∨ k = 11 := by omega
  rcases h with h | h | h | h | h | h | h | h | h | h | h | h <;> subst h <;> rfl
theorem zi_fitB {v : Int32} {P : Prop} (h : isB v P) : fits .boolean (.int v) = true := by
  rcases h with h | h
  · have : v = 1 := zi_ext h.1 rfl
    subst this
    rfl
  · have : v = 0 := zi_ext h.1 rfl
    subst this
    rfl
section XW
variable {p : Program} {l : Launch} {e : Env} {R : Room} {s : State} {m : MethodId} {args : Array Value} {below : List Frame} {meth : Method} {c : Code} {H : Heap} {locs : List Loc} {cells slots : Nat} {Q : State → Prop}
variable {cc : ByteArray} {pc : Nat} {ls : Array Slot} {rest : List Value} {G : xG} {A : Nat → Prop} {g : Nat} {H0 : Heap} {d : GD}
theorem z_putG (hx : p.tables.exec = Jvm.exec) (hb : c.code = cc) {own ref : String} {index : Nat} {Ts : List Cond} (hts : ∀ w ∈ Ts, w.before args s = true) (hin : ∀ w ∈ u_ws RX0 TX0 15, w ∈ Ts) (hown : s.vm.findClass own = some m.cls) (hK : xK G s) (hG : GA G H g d) (hS0 : va_S A H0 H locs) (ha : A g) (k : Nat) (hk : k < 12) (hlink : Cond.fieldLink own index ref (TX0 k).2.1 (TX0 k).2.2.1 ∈ Ts) (hr : (TX0 k).1 = ref) (hfin : (TX0 k).2.2.2 = false) {ty : FieldType} {v : Int32} (hd : parseFieldDescriptor (TX0 k).2.2.1 = some ty) (hn : narrow ty (.int v) = .int v) (hfit : fits ty (.int v) = true)
    (hdg : decode cc pc = .ok (.putfield index, 3)) (kk : ∀ (H1 : Heap) (locs1 : List Loc), GA G H1 g (upd d.1 k v, d.2) → H1.size = H.size → (∀ q : Nat, q ≠ g → H1[q]? = H[q]?) → va_S A H0 H1 locs1 → W p l e R s m args below meth c H1 locs1 cells slots Q (F0 m (pc + 3) ls rest)) : W p l e R s m args below meth c H locs cells slots Q (F0 m pc ls (.int v :: .ref g :: rest)) := by
  refine z_put hx hb hts hin tyX0 tyX0_ok nmX0 hown hK hG.1 rfl hS0 ha k (by omega) hlink hr hfin hd hn hfit (by show k < 15; omega) hdg (fun H1 locs1 h1 hz hq hS => ?_)
  rw [gF_set g d.1 k hk v] at h1
  exact kk H1 locs1 ⟨h1, hG.2.1.kept (hq _ (by omega)), hG.2.2.1.kept (hq _ (by omega)), hG.2.2.2.kept (hq _ (by omega))⟩ hz hq hS
theorem z_iastK (hx : p.tables.exec = Jvm.exec) (hb : c.code = cc) (hK : xK G s) (hG : GA G H g d) (hS0 : va_S A H0 H locs) (ha : A (g + 1)) {x z : Int32} {i : Int} (hX : x.toInt = i) (h : 0 ≤ i ∧ i < ((120 : Nat) : Int)) (hdg : decode cc pc = .ok (.iastore, 1))
    (kk : ∀ (H1 : Heap) (locs1 : List Loc), GA G H1 g (d.1, upd d.2.1 i.toNat z, d.2.2) → H1.size = H.size → (∀ q : Nat, q ≠ g + 1 → H1[q]? = H[q]?) → va_S A H0 H1 locs1 → W p l e R s m args below meth c H1 locs1 cells slots Q (F0 m (pc + 1) ls rest)) : W p l e R s m args below meth c H locs cells slots Q (F0 m pc ls (.int z :: .int x :: .ref (g + 1) :: rest)) :=
  z_iast hx hb hK 0 hG.2.1 rfl hS0 ha hX h hdg (fun H1 locs1 h1 hz hq hS => kk H1 locs1 ⟨hG.1.kept (hq _ (by omega)), h1, hG.2.2.1.kept (hq _ (by omega)), hG.2.2.2.kept (hq _ (by omega))⟩ hz hq hS)
theorem z_iastV (hx : p.tables.exec = Jvm.exec) (hb : c.code = cc) (hK : xK G s) (hG : GA G H g d) (hS0 : va_S A H0 H locs) (ha : A (g + 2)) {x z : Int32} {i : Int} (hX : x.toInt = i) (h : 0 ≤ i ∧ i < ((120 : Nat) : Int)) (hdg : decode cc pc = .ok (.iastore, 1))
    (kk : ∀ (H1 : Heap) (locs1 : List Loc), GA G H1 g (d.1, d.2.1, upd d.2.2.1 i.toNat z, d.2.2.2) → H1.size = H.size → (∀ q : Nat, q ≠ g + 2 → H1[q]? = H[q]?) → va_S A H0 H1 locs1 → W p l e R s m args below meth c H1 locs1 cells slots Q (F0 m (pc + 1) ls rest)) : W p l e R s m args below meth c H locs cells slots Q (F0 m pc ls (.int z :: .int x :: .ref (g + 2) :: rest)) :=
  z_iast hx hb hK 0 hG.2.2.1 rfl hS0 ha hX h hdg (fun H1 locs1 h1 hz hq hS => kk H1 locs1 ⟨hG.1.kept (hq _ (by omega)), hG.2.1.kept (hq _ (by omega)), h1, hG.2.2.2.kept (hq _ (by omega))⟩ hz hq hS)
theorem z_iastC (hx : p.tables.exec = Jvm.exec) (hb : c.code = cc) (hK : xK G s) (hG : GA G H g d) (hS0 : va_S A H0 H locs) (ha : A (g + 3)) {x z : Int32} {i : Int} (hX : x.toInt = i) (h : 0 ≤ i ∧ i < ((120 : Nat) : Int)) (hdg : decode cc pc = .ok (.iastore, 1))
    (kk : ∀ (H1 : Heap) (locs1 : List Loc), GA G H1 g (d.1, d.2.1, d.2.2.1, upd d.2.2.2 i.toNat z) → H1.size = H.size → (∀ q : Nat, q ≠ g + 3 → H1[q]? = H[q]?) → va_S A H0 H1 locs1 → W p l e R s m args below meth c H1 locs1 cells slots Q (F0 m (pc + 1) ls rest)) : W p l e R s m args below meth c H locs cells slots Q (F0 m pc ls (.int z :: .int x :: .ref (g + 3) :: rest)) :=
  z_iast hx hb hK 0 hG.2.2.2 rfl hS0 ha hX h hdg (fun H1 locs1 h1 hz hq hS => kk H1 locs1 ⟨hG.1.kept (hq _ (by omega)), hG.2.1.kept (hq _ (by omega)), hG.2.2.1.kept (hq _ (by omega)), h1⟩ hz hq hS)
end XW
/-! pure words of a gauge's answers -/
/-- what a row holds at an hour, v outside of the 120 hours -/
def rowZ (v : Int) (f : Nat → Int32) (h : Int) : Int := if 0 ≤ h ∧ h < 120 then (f h.toNat).toInt else v
def kindZ (d : GD) (h : Int) : Int := rowZ 3 d.2.1 h
def corrZ (d : GD) (h : Int) : Int := rowZ 0 d.2.2.2 h
def readZ (d : GD) (h : Int) : Int := rowZ 0 d.2.2.1 h
def cordZ (d : GD) (h : Int) : Int := readZ d h - corrZ d h
def valZ (d : GD) (h : Int) : Int := if kindZ d h = 2 then readZ d h else cordZ d h
/-- how many of the numbers below n have it -/
def cntZ (q : Nat → Prop) [DecidablePred q] : Nat → Int | 0 => 0 | n + 1 => cntZ q n + if q n then 1 else 0
/-- rounded towards lesser numbers -/
def fdv (a b : Int) : Int := a / b
/-- all numbers in a gauge's rows are small enough that no sum of them overflows -/
def smallG (d : GD) : Prop := (∀ j, -1000000 ≤ (d.2.2.1 j).toInt ∧ (d.2.2.1 j).toInt ≤ 1000000) ∧ ∀ j, -1000 ≤ (d.2.2.2 j).toInt ∧ (d.2.2.2 j).toInt ≤ 1000
theorem rowZ_b {v lo hi : Int} {f : Nat → Int32} (hv : lo ≤ v ∧ v ≤ hi) (h : ∀ j, lo ≤ (f j).toInt ∧ (f j).toInt ≤ hi) (i : Int) : lo ≤ rowZ v f i ∧ rowZ v f i ≤ hi := by
  unfold rowZ
  split
  · exact h _
  · exact hv
theorem smallG.read {d : GD} (h : smallG d) (i : Int) : -1000000 ≤ readZ d i ∧ readZ d i ≤ 1000000 := rowZ_b (by omega) h.1 i
theorem smallG.corr {d : GD} (h : smallG d) (i : Int) : -1000 ≤ corrZ d i ∧ corrZ d i ≤ 1000 := rowZ_b (by omega) h.2 i
theorem smallG.cord {d : GD} (h : smallG d) (i : Int) : -1001000 ≤ cordZ d i ∧ cordZ d i ≤ 1001000 := by
  have := h.read i
  have := h.corr i
  unfold cordZ
  omega

abbrev hvP (d : GD) (h : Int) : Prop := kindZ d h = 0 ∨ kindZ d h = 2
abbrev igP (d : GD) (h : Int) : Prop := kindZ d h = 1 ∨ kindZ d h = 2
abbrev sgP (d : GD) (h : Int) : Prop := igP d h ∧ ¬ igP d (h - 1)
abbrev hiP (d : GD) (h : Int) : Prop := hvP d (h - 1) ∧ hvP d h ∧ hvP d (h + 1) ∧ valZ d (h - 1) < valZ d h ∧ valZ d (h + 1) < valZ d h
theorem smallG.val {d : GD} (h : smallG d) (i : Int) : -1001000 ≤ valZ d i ∧ valZ d i ≤ 1001000 := by
  have := h.read i
  have := h.cord i
  unfold valZ
  split <;> omega
theorem cntZ_b (q : Nat → Prop) [DecidablePred q] (n : Nat) : 0 ≤ cntZ q n ∧ cntZ q n ≤ n := by
  induction n with
  | zero => exact ⟨Int.le_refl _, Int.le_refl _⟩
  | succ n ih =>
    show 0 ≤ cntZ q n + _ ∧ cntZ q n + _ ≤ _
    split <;> omega
theorem cntZ_t {q : Nat → Prop} [DecidablePred q] {i : Int} (hi : 0 ≤ i) (h : q i.toNat) : cntZ q (i + 1).toNat = cntZ q i.toNat + 1 := by
  have e : (i + 1).toNat = i.toNat + 1 := by omega
  rw [e]
  show cntZ q i.toNat + _ = _
  rw [if_pos h]
theorem cntZ_f {q : Nat → Prop} [DecidablePred q] {i : Int} (hi : 0 ≤ i) (h : ¬ q i.toNat) : cntZ q (i + 1).toNat = cntZ q i.toNat := by
  have e : (i + 1).toNat = i.toNat + 1 := by omega
  rw [e]
  show cntZ q i.toNat + _ = _
  rw [if_neg h, Int.add_zero]
theorem cntZ_mono (q : Nat → Prop) [DecidablePred q] {a b : Nat} (h : a ≤ b) : cntZ q a ≤ cntZ q b := by
  induction b with
  | zero => have : a = 0 := by omega
            subst this; exact Int.le_refl _
  | succ b ih =>
    rcases Nat.lt_or_ge a (b + 1) with g | g
    · have := ih (by omega)
      show _ ≤ cntZ q b + _
      split <;> omega
    · have : a = b + 1 := by omega
      subst this
      exact Int.le_refl _
theorem cntZ_congr {q r : Nat → Prop} [DecidablePred q] [DecidablePred r] {n : Nat} (h : ∀ j, j < n → (q j ↔ r j)) : cntZ q n = cntZ r n := by
  induction n with
  | zero => rfl
  | succ n ih =>
    show cntZ q n + _ = cntZ r n + _
    rw [ih (fun j hj => h j (by omega))]
    congr 1
    by_cases g : q n
    · rw [if_pos g, if_pos ((h n (by omega)).mp g)]
    · rw [if_neg g, if_neg (fun z => g ((h n (by omega)).mpr z))]
/-- the first number below n that has q and has k of them ahead of it; -1 if there is none -/
def nthZ (q : Nat → Prop) [DecidablePred q] (k : Int) : Nat → Int
  | 0 => -1
  | n + 1 => if nthZ q k n = -1 then (if q n ∧ cntZ q n = k then (n : Int) else -1) else nthZ q k n
theorem nthZ_step {q : Nat → Prop} [DecidablePred q] {k i : Int} (hi : 0 ≤ i) (h : nthZ q k i.toNat = -1) (h2 : ¬ (q i.toNat ∧ cntZ q i.toNat = k)) : nthZ q k (i + 1).toNat = -1 := by
  have e : (i + 1).toNat = i.toNat + 1 := by omega
  rw [e]
  show (if _ then _ else _) = _
  rw [if_pos h, if_neg h2]
theorem nthZ_keep {q : Nat → Prop} [DecidablePred q] {k v : Int} {a b : Nat} (hv : v ≠ -1) (h : nthZ q k a = v) (hab : a ≤ b) : nthZ q k b = v := by
  induction b with
  | zero => have : a = 0 := by omega
            subst this; exact h
  | succ b ih =>
    rcases Nat.lt_or_ge a (b + 1) with g | g
    · have := ih (by omega)
      show (if _ then _ else _) = _
      rw [if_neg (by rw [this]; exact hv), this]
    · have : a = b + 1 := by omega
      subst this
      exact h
theorem nthZ_hit {q : Nat → Prop} [DecidablePred q] {k i : Int} {n : Nat} (hi : 0 ≤ i) (h : nthZ q k i.toNat = -1) (h2 : q i.toNat) (h3 : cntZ q i.toNat = k) (hn : i < (n : Int)) : nthZ q k n = i := by
  have e : nthZ q k (i.toNat + 1) = i := by
    show (if _ then _ else _) = _
    rw [if_pos h, if_pos ⟨h2, h3⟩]
    omega
  exact nthZ_keep (by omega) e (by omega)
theorem nthZ_b (q : Nat → Prop) [DecidablePred q] (k : Int) (n : Nat) : -1 ≤ nthZ q k n ∧ nthZ q k n < n := by
  induction n with
  | zero => exact ⟨Int.le_refl _, by show (-1 : Int) < 0; omega⟩
  | succ n ih =>
    show -1 ≤ (if _ then _ else _) ∧ (if _ then _ else _) < _
    split
    · split <;> omega
    · omega
/-- the first hour of a gap, by its number; -1 if there is none -/
def fgZ (d : GD) (k : Int) : Int := nthZ (fun j => sgP d (j : Int)) k 120
theorem fgZ_b (d : GD) (k : Int) : -1 ≤ fgZ d k ∧ fgZ d k < 120 := nthZ_b _ k 120
/-- the first hour from h on that isn't in a gap, or 120 -/
def hbF (d : GD) : Nat → Int → Int
  | 0, h => h
  | n + 1, h => if h < 120 ∧ igP d h then hbF d n (h + 1) else h
def hbZ (d : GD) (h : Int) : Int := hbF d (120 - h).toNat h
theorem hbZ_t {d : GD} {h : Int} (h1 : h < 120) (h2 : igP d h) : hbZ d h = hbZ d (h + 1) := by
  unfold hbZ
  have e : (120 - h).toNat = (120 - (h + 1)).toNat + 1 := by omega
  rw [e]
  show (if _ then _ else _) = _
  rw [if_pos ⟨h1, h2⟩]
theorem hbZ_f {d : GD} {h : Int} (h1 : ¬ (h < 120 ∧ igP d h)) : hbZ d h = h := by
  unfold hbZ
  cases (120 - h).toNat with
  | zero => rfl
  | succ n =>
    show (if _ then _ else _) = _
    rw [if_neg h1]
theorem hbF_b (d : GD) : ∀ (n : Nat) (h : Int), h ≤ hbF d n h ∧ hbF d n h ≤ h + n := by
  intro n
  induction n with
  | zero => intro h; exact ⟨Int.le_refl _, by show h ≤ h + 0; omega⟩
  | succ n ih =>
    intro h
    show h ≤ (if _ then _ else _) ∧ (if _ then _ else _) ≤ _
    have := ih (h + 1)
    split <;> omega
theorem hbZ_b (d : GD) {h : Int} (hh : h ≤ 120) : h ≤ hbZ d h ∧ hbZ d h ≤ 120 := by
  have := hbF_b d (120 - h).toNat h
  unfold hbZ
  omega
/-- how many of the n numbers from a on have it; what they sum up to -/
def sumZ (f : Int → Int) (a : Int) : Nat → Int | 0 => 0 | n + 1 => sumZ f a n + f (a + n)
theorem sumZ_s {f : Int → Int} {a i : Int} (h : a ≤ i) : sumZ f a (i + 1 - a).toNat = sumZ f a (i - a).toNat + f i := by
  have e : (i + 1 - a).toNat = (i - a).toNat + 1 := by omega
  rw [e]
  show sumZ f a (i - a).toNat + f (a + (((i - a).toNat : Nat) : Int)) = _
  have e2 : a + (((i - a).toNat : Nat) : Int) = i := by omega
  rw [e2]
theorem sumZ_0 {f : Int → Int} {a i : Int} (h : i ≤ a) : sumZ f a (i - a).toNat = 0 := by
  have e : (i - a).toNat = 0 := by omega
  rw [e]
  rfl
theorem sumZ_b {f : Int → Int} {lo hi : Int} (hlo : lo ≤ 0) (hhi : 0 ≤ hi) (h : ∀ i, lo ≤ f i ∧ f i ≤ hi) (a : Int) (n : Nat) : lo * n ≤ sumZ f a n ∧ sumZ f a n ≤ hi * n := by
  induction n with
  | zero => exact ⟨by simp [sumZ], by simp [sumZ]⟩
  | succ n ih =>
    have := h (a + n)
    show lo * ((n + 1 : Nat) : Int) ≤ sumZ f a n + f (a + n) ∧ sumZ f a n + f (a + n) ≤ hi * ((n + 1 : Nat) : Int)
    have e1 : lo * ((n + 1 : Nat) : Int) = lo * n + lo := by rw [Int.natCast_succ, Int.mul_add, Int.mul_one]
    have e2 : hi * ((n + 1 : Nat) : Int) = hi * n + hi := by rw [Int.natCast_succ, Int.mul_add, Int.mul_one]
    omega
/-- how much a corrected reading rises at an hour -/
def riseZ (d : GD) (h : Int) : Int := cordZ d h - cordZ d (h - 1)
/-- what an hour adds to a misfit -/
def mfT (d o : GD) (f h : Int) : Int := if (kindZ d (h - 1) = 0 ∧ kindZ d h = 0) ∧ kindZ o (h + f - 1) = 0 ∧ kindZ o (h + f) = 0 then abz (riseZ d h - riseZ o (h + f)) else 0
theorem smallG.rise {d : GD} (h : smallG d) (i : Int) : -2002000 ≤ riseZ d i ∧ riseZ d i ≤ 2002000 := by
  have := h.cord i
  have := h.cord (i - 1)
  unfold riseZ
  omega
theorem mfT_b {d o : GD} (h : smallG d) (g : smallG o) (f i : Int) : 0 ≤ mfT d o f i ∧ mfT d o f i ≤ 4004000 := by
  have := h.rise i
  have := g.rise (i + f)
  unfold mfT abz
  split
  · split <;> omega
  · omega
end
section
theorem kI_0 : (0 : Int32).toInt = 0 := by decide
theorem kI_1 : (1 : Int32).toInt = 1 := by decide
theorem kI_2 : (2 : Int32).toInt = 2 := by decide
theorem kI_3 : (3 : Int32).toInt = 3 := by decide
theorem kI_120 : (120 : Int32).toInt = 120 := by decide
end
section
abbrev rmX4_isWithin : Room := { frames := 0, cells := 0, slots := 0, locals := 0 }
theorem hyX4_isWithin : yX4_isWithin.cls ≠ "java/lang/invoke/MethodHandle" ∧ yX4_isWithin.cls ≠ "java/lang/invoke/VarHandle" ∧ (parseMethodDescriptor yX4_isWithin.desc).map (fun d => d.parameters.length) = some 3 := by decide +kernel
set_option maxHeartbeats 4000000 in
set_option maxRecDepth 100000 in
theorem kX4_isWithin (l : Launch) (G : xG) (x : Int32) (n : Int) (e_x : x.toInt = n) (y : Int32) (lo : Int) (e_y : y.toInt = lo) (z : Int32) (hi : Int) (e_z : z.toInt = hi) : Met l yX4_isWithin wsX4_isWithin rmX4_isWithin (va_Pc [.int x, .int y, .int z] (zPre G (fun H => True))) (zS (fun v => isB v (lo ≤ n ∧ n ≤ hi))) 0 0 zno := by
  refine z_ofW (cc := cX4_isWithin) (maxL := 3) (ret := some .boolean) (by decide +kernel) rfl (Nat.le_of_ble_eq_true rfl) ?_
  intro p e s m below meth c hx hb hml hr hts hown hlocks hK hP ls hl
  have hown : s.vm.findClass RX4 = some m.cls := hown
  have hl : lv_has ls 3 [(0, .int x), (1, .int y), (2, .int z)] := hl
  refine lv_iload_n hx hb dX4_isWithin_0 rfl (lv_at hl 0 rfl) ?_
  refine lv_iload_n hx hb dX4_isWithin_1 rfl (lv_at hl 1 rfl) ?_
  refine z_icmp_lt (tgt := 14) hx hb e_x e_y dX4_isWithin_2 (by decide) (fun c_1 => ?_) (fun c_1 => ?_)
  · refine lv_iconst (v := (0 : Int32)) hx hb dX4_isWithin_14 (by decide) ?_
    exact z_rb (v := (0 : Int32)) hx hb hr hlocks rfl (isB.f rfl (by omega)) dX4_isWithin_15
  · refine lv_iload_n hx hb dX4_isWithin_5 rfl (lv_at hl 0 rfl) ?_
    refine lv_iload_n hx hb dX4_isWithin_6 rfl (lv_at hl 2 rfl) ?_
    refine z_icmp_gt (tgt := 14) hx hb e_x e_z dX4_isWithin_7 (by decide) (fun c_2 => ?_) (fun c_2 => ?_)
    · refine lv_iconst (v := (0 : Int32)) hx hb dX4_isWithin_14 (by decide) ?_
      exact z_rb (v := (0 : Int32)) hx hb hr hlocks rfl (isB.f rfl (by omega)) dX4_isWithin_15
    · refine lv_iconst (v := (1 : Int32)) hx hb dX4_isWithin_10 (by decide) ?_
      refine lv_goto (tgt := 15) hx hb dX4_isWithin_11 (by decide) ?_
      exact z_rb (v := (1 : Int32)) hx hb hr hlocks rfl (isB.t rfl (by omega)) dX4_isWithin_15

abbrev rmX4_isStation : Room := { frames := 0, cells := 0, slots := 0, locals := 0 }
theorem hyX4_isStation : yX4_isStation.cls ≠ "java/lang/invoke/MethodHandle" ∧ yX4_isStation.cls ≠ "java/lang/invoke/VarHandle" ∧ (parseMethodDescriptor yX4_isStation.desc).map (fun d => d.parameters.length) = some 1 := by decide +kernel
set_option maxHeartbeats 4000000 in
set_option maxRecDepth 100000 in
theorem kX4_isStation (l : Launch) (G : xG) (x : Int32) (n : Int) (e_x : x.toInt = n) : Met l yX4_isStation wsX4_isStation rmX4_isStation (va_Pc [.int x] (zPre G (fun H => True))) (zS (fun v => isB v (0 ≤ n ∧ n < 3))) 0 0 zno := by
  refine z_ofW (cc := cX4_isStation) (maxL := 1) (ret := some .boolean) (by decide +kernel) rfl (Nat.le_of_ble_eq_true rfl) ?_
  intro p e s m below meth c hx hb hml hr hts hown hlocks hK hP ls hl
  have hown : s.vm.findClass RX4 = some m.cls := hown
  have hl : lv_has ls 1 [(0, .int x)] := hl
  refine lv_iload_n hx hb dX4_isStation_0 rfl (lv_at hl 0 rfl) ?_
  refine z_if_lt (tgt := 13) hx hb e_x dX4_isStation_1 (by decide) (fun c_1 => ?_) (fun c_1 => ?_)
  · refine lv_iconst (v := (0 : Int32)) hx hb dX4_isStation_13 (by decide) ?_
    exact z_rb (v := (0 : Int32)) hx hb hr hlocks rfl (isB.f rfl (by omega)) dX4_isStation_14
  · refine lv_iload_n hx hb dX4_isStation_4 rfl (lv_at hl 0 rfl) ?_
    refine lv_iconst (v := (3 : Int32)) hx hb dX4_isStation_5 (by decide) ?_
    refine z_icmp_ge (tgt := 13) hx hb e_x kI_3 dX4_isStation_6 (by decide) (fun c_2 => ?_) (fun c_2 => ?_)
    · refine lv_iconst (v := (0 : Int32)) hx hb dX4_isStation_13 (by decide) ?_
      exact z_rb (v := (0 : Int32)) hx hb hr hlocks rfl (isB.f rfl (by omega)) dX4_isStation_14
    · refine lv_iconst (v := (1 : Int32)) hx hb dX4_isStation_9 (by decide) ?_
      refine lv_goto (tgt := 14) hx hb dX4_isStation_10 (by decide) ?_
      exact z_rb (v := (1 : Int32)) hx hb hr hlocks rfl (isB.t rfl (by omega)) dX4_isStation_14

abbrev rmX0_kindAt : Room := { frames := 0, cells := 0, slots := 0, locals := 0 }
theorem iwX0_kindAt_0 : ∀ w ∈ wsX00, w ∈ wsX0_kindAt := fun _ h => List.mem_cons_of_mem _ (List.mem_append_right _ h)
theorem flX0_kindAt_23 : Cond.fieldLink RX0 23 "SiltedFloats$Gauge" "kinds" "[I" ∈ wsX0_kindAt := by decide +kernel
theorem hyX0_kindAt : yX0_kindAt.cls = RX0 ∧ yX0_kindAt.cls ≠ "java/lang/invoke/MethodHandle" ∧ yX0_kindAt.cls ≠ "java/lang/invoke/VarHandle" ∧ (parseMethodDescriptor yX0_kindAt.desc).map (fun d => d.parameters.length) = some 1 := by decide +kernel
set_option maxHeartbeats 4000000 in
set_option maxRecDepth 100000 in
theorem kX0_kindAt (l : Launch) (G : xG) (g : Nat) (d : GD) (x : Int32) (h : Int) (e_x : x.toInt = h) : Met l yX0_kindAt wsX0_kindAt rmX0_kindAt (va_Pc [.ref g, .int x] (zPre G (fun H => GA G H g d))) (zS (fun v => v.toInt = kindZ d h)) 0 0 zno := by
  refine z_ofW (cc := cX0_kindAt) (maxL := 2) (ret := some .int) (by decide +kernel) rfl (Nat.le_of_ble_eq_true rfl) ?_
  intro p e s m below meth c hx hb hml hr hts hown hlocks hK hP ls hl
  have hG := hP
  have hown : s.vm.findClass RX0 = some m.cls := hown
  have hl : lv_has ls 2 [(0, .ref g), (1, .int x)] := hl
  refine lv_iload_n hx hb dX0_kindAt_0 rfl (lv_at hl 1 rfl) ?_
  refine z_if_lt (tgt := 22) hx hb e_x dX0_kindAt_1 (by decide) (fun c_1 => ?_) (fun c_1 => ?_)
  · refine lv_iconst (v := (3 : Int32)) hx hb dX0_kindAt_22 (by decide) ?_
    exact z_ri (v := (3 : Int32)) hx hb hr hlocks (show (3 : Int32).toInt = kindZ d h from (by unfold kindZ rowZ; split <;> first | rfl | omega)) dX0_kindAt_23
  · refine lv_iload_n hx hb dX0_kindAt_4 rfl (lv_at hl 1 rfl) ?_
    refine lv_aload_n hx hb dX0_kindAt_5 rfl (lv_at hl 0 rfl) ?_
    refine z_get hx hb hts iwX0_kindAt_0 hown hK hG.1 rfl 12 (by decide) flX0_kindAt_23 rfl (v := .ref (g + 1)) rfl dX0_kindAt_6 ?_
    refine z_alen hx hb hK 0 hG.2.1 rfl (v := (120 : Int32)) rfl dX0_kindAt_9 ?_
    refine z_icmp_ge (tgt := 22) hx hb e_x kI_120 dX0_kindAt_10 (by decide) (fun c_2 => ?_) (fun c_2 => ?_)
    · refine lv_iconst (v := (3 : Int32)) hx hb dX0_kindAt_22 (by decide) ?_
      exact z_ri (v := (3 : Int32)) hx hb hr hlocks (show (3 : Int32).toInt = kindZ d h from (by unfold kindZ rowZ; split <;> first | rfl | omega)) dX0_kindAt_23
    · refine lv_aload_n hx hb dX0_kindAt_13 rfl (lv_at hl 0 rfl) ?_
      refine z_get hx hb hts iwX0_kindAt_0 hown hK hG.1 rfl 12 (by decide) flX0_kindAt_23 rfl (v := .ref (g + 1)) rfl dX0_kindAt_14 ?_
      refine lv_iload_n hx hb dX0_kindAt_17 rfl (lv_at hl 1 rfl) ?_
      refine z_iald hx hb hK 0 hG.2.1 rfl e_x (by omega) dX0_kindAt_18 ?_
      refine lv_goto (tgt := 23) hx hb dX0_kindAt_19 (by decide) ?_
      exact z_ri (v := d.2.1 h.toNat) hx hb hr hlocks (show (d.2.1 h.toNat).toInt = kindZ d h from (by unfold kindZ rowZ; split <;> first | rfl | omega)) dX0_kindAt_23

abbrev rmX0_correctionAt : Room := { frames := 0, cells := 0, slots := 0, locals := 0 }
theorem iwX0_correctionAt_0 : ∀ w ∈ wsX00, w ∈ wsX0_correctionAt := fun _ h => List.mem_cons_of_mem _ (List.mem_append_right _ h)
theorem flX0_correctionAt_36 : Cond.fieldLink RX0 36 "SiltedFloats$Gauge" "corrections" "[I" ∈ wsX0_correctionAt := by decide +kernel
theorem hyX0_correctionAt : yX0_correctionAt.cls = RX0 ∧ yX0_correctionAt.cls ≠ "java/lang/invoke/MethodHandle" ∧ yX0_correctionAt.cls ≠ "java/lang/invoke/VarHandle" ∧ (parseMethodDescriptor yX0_correctionAt.desc).map (fun d => d.parameters.length) = some 1 := by decide +kernel
set_option maxHeartbeats 4000000 in
set_option maxRecDepth 100000 in
theorem kX0_correctionAt (l : Launch) (G : xG) (g : Nat) (d : GD) (x : Int32) (h : Int) (e_x : x.toInt = h) : Met l yX0_correctionAt wsX0_correctionAt rmX0_correctionAt (va_Pc [.ref g, .int x] (zPre G (fun H => GA G H g d))) (zS (fun v => v.toInt = corrZ d h)) 0 0 zno := by
  refine z_ofW (cc := cX0_correctionAt) (maxL := 2) (ret := some .int) (by decide +kernel) rfl (Nat.le_of_ble_eq_true rfl) ?_
  intro p e s m below meth c hx hb hml hr hts hown hlocks hK hP ls hl
  have hG := hP
  have hown : s.vm.findClass RX0 = some m.cls := hown
  have hl : lv_has ls 2 [(0, .ref g), (1, .int x)] := hl
  refine lv_iload_n hx hb dX0_correctionAt_0 rfl (lv_at hl 1 rfl) ?_
  refine z_if_lt (tgt := 22) hx hb e_x dX0_correctionAt_1 (by decide) (fun c_1 => ?_) (fun c_1 => ?_)
  · refine lv_iconst (v := (0 : Int32)) hx hb dX0_correctionAt_22 (by decide) ?_
    exact z_ri (v := (0 : Int32)) hx hb hr hlocks (show (0 : Int32).toInt = corrZ d h from (by unfold corrZ rowZ; split <;> first | rfl | omega)) dX0_correctionAt_23
  · refine lv_iload_n hx hb dX0_correctionAt_4 rfl (lv_at hl 1 rfl) ?_
    refine lv_aload_n hx hb dX0_correctionAt_5 rfl (lv_at hl 0 rfl) ?_
    refine z_get hx hb hts iwX0_correctionAt_0 hown hK hG.1 rfl 14 (by decide) flX0_correctionAt_36 rfl (v := .ref (g + 3)) rfl dX0_correctionAt_6 ?_
    refine z_alen hx hb hK 0 hG.2.2.2 rfl (v := (120 : Int32)) rfl dX0_correctionAt_9 ?_
    refine z_icmp_ge (tgt := 22) hx hb e_x kI_120 dX0_correctionAt_10 (by decide) (fun c_2 => ?_) (fun c_2 => ?_)
    · refine lv_iconst (v := (0 : Int32)) hx hb dX0_correctionAt_22 (by decide) ?_
      exact z_ri (v := (0 : Int32)) hx hb hr hlocks (show (0 : Int32).toInt = corrZ d h from (by unfold corrZ rowZ; split <;> first | rfl | omega)) dX0_correctionAt_23
    · refine lv_aload_n hx hb dX0_correctionAt_13 rfl (lv_at hl 0 rfl) ?_
      refine z_get hx hb hts iwX0_correctionAt_0 hown hK hG.1 rfl 14 (by decide) flX0_correctionAt_36 rfl (v := .ref (g + 3)) rfl dX0_correctionAt_14 ?_
      refine lv_iload_n hx hb dX0_correctionAt_17 rfl (lv_at hl 1 rfl) ?_
      refine z_iald hx hb hK 0 hG.2.2.2 rfl e_x (by omega) dX0_correctionAt_18 ?_
      refine lv_goto (tgt := 23) hx hb dX0_correctionAt_19 (by decide) ?_
      exact z_ri (v := d.2.2.2 h.toNat) hx hb hr hlocks (show (d.2.2.2 h.toNat).toInt = corrZ d h from (by unfold corrZ rowZ; split <;> first | rfl | omega)) dX0_correctionAt_23

abbrev rmX0_readingAt : Room := { frames := 0, cells := 0, slots := 0, locals := 0 }
theorem iwX0_readingAt_0 : ∀ w ∈ wsX00, w ∈ wsX0_readingAt := fun _ h => List.mem_cons_of_mem _ (List.mem_append_right _ h)
theorem flX0_readingAt_33 : Cond.fieldLink RX0 33 "SiltedFloats$Gauge" "values" "[I" ∈ wsX0_readingAt := by decide +kernel
theorem hyX0_readingAt : yX0_readingAt.cls = RX0 ∧ yX0_readingAt.cls ≠ "java/lang/invoke/MethodHandle" ∧ yX0_readingAt.cls ≠ "java/lang/invoke/VarHandle" ∧ (parseMethodDescriptor yX0_readingAt.desc).map (fun d => d.parameters.length) = some 1 := by decide +kernel
set_option maxHeartbeats 4000000 in
set_option maxRecDepth 100000 in
theorem kX0_readingAt (l : Launch) (G : xG) (g : Nat) (d : GD) (x : Int32) (h : Int) (e_x : x.toInt = h) : Met l yX0_readingAt wsX0_readingAt rmX0_readingAt (va_Pc [.ref g, .int x] (zPre G (fun H => GA G H g d))) (zS (fun v => v.toInt = readZ d h)) 0 0 zno := by
  refine z_ofW (cc := cX0_readingAt) (maxL := 2) (ret := some .int) (by decide +kernel) rfl (Nat.le_of_ble_eq_true rfl) ?_
  intro p e s m below meth c hx hb hml hr hts hown hlocks hK hP ls hl
  have hG := hP
  have hown : s.vm.findClass RX0 = some m.cls := hown
  have hl : lv_has ls 2 [(0, .ref g), (1, .int x)] := hl
  refine lv_iload_n hx hb dX0_readingAt_0 rfl (lv_at hl 1 rfl) ?_
  refine z_if_lt (tgt := 22) hx hb e_x dX0_readingAt_1 (by decide) (fun c_1 => ?_) (fun c_1 => ?_)
  · refine lv_iconst (v := (0 : Int32)) hx hb dX0_readingAt_22 (by decide) ?_
    exact z_ri (v := (0 : Int32)) hx hb hr hlocks (show (0 : Int32).toInt = readZ d h from (by unfold readZ rowZ; split <;> first | rfl | omega)) dX0_readingAt_23
  · refine lv_iload_n hx hb dX0_readingAt_4 rfl (lv_at hl 1 rfl) ?_
    refine lv_aload_n hx hb dX0_readingAt_5 rfl (lv_at hl 0 rfl) ?_
    refine z_get hx hb hts iwX0_readingAt_0 hown hK hG.1 rfl 13 (by decide) flX0_readingAt_33 rfl (v := .ref (g + 2)) rfl dX0_readingAt_6 ?_
    refine z_alen hx hb hK 0 hG.2.2.1 rfl (v := (120 : Int32)) rfl dX0_readingAt_9 ?_
    refine z_icmp_ge (tgt := 22) hx hb e_x kI_120 dX0_readingAt_10 (by decide) (fun c_2 => ?_) (fun c_2 => ?_)
    · refine lv_iconst (v := (0 : Int32)) hx hb dX0_readingAt_22 (by decide) ?_
      exact z_ri (v := (0 : Int32)) hx hb hr hlocks (show (0 : Int32).toInt = readZ d h from (by unfold readZ rowZ; split <;> first | rfl | omega)) dX0_readingAt_23
    · refine lv_aload_n hx hb dX0_readingAt_13 rfl (lv_at hl 0 rfl) ?_
      refine z_get hx hb hts iwX0_readingAt_0 hown hK hG.1 rfl 13 (by decide) flX0_readingAt_33 rfl (v := .ref (g + 2)) rfl dX0_readingAt_14 ?_
      refine lv_iload_n hx hb dX0_readingAt_17 rfl (lv_at hl 1 rfl) ?_
      refine z_iald hx hb hK 0 hG.2.2.1 rfl e_x (by omega) dX0_readingAt_18 ?_
      refine lv_goto (tgt := 23) hx hb dX0_readingAt_19 (by decide) ?_
      exact z_ri (v := d.2.2.1 h.toNat) hx hb hr hlocks (show (d.2.2.1 h.toNat).toInt = readZ d h from (by unfold readZ rowZ; split <;> first | rfl | omega)) dX0_readingAt_23

abbrev rmX0_correctedAt : Room := { frames := 1, cells := 0, slots := 0, locals := 21 }
theorem hyX0_correctedAt : yX0_correctedAt.cls = RX0 ∧ yX0_correctedAt.cls ≠ "java/lang/invoke/MethodHandle" ∧ yX0_correctedAt.cls ≠ "java/lang/invoke/VarHandle" ∧ (parseMethodDescriptor yX0_correctedAt.desc).map (fun d => d.parameters.length) = some 1 := by decide +kernel
set_option maxHeartbeats 4000000 in
set_option maxRecDepth 100000 in
theorem kX0_correctedAt (l : Launch) (G : xG) (g : Nat) (d : GD) (x : Int32) (h : Int) (e_x : x.toInt = h) (hsm : smallG d) : Met l yX0_correctedAt wsX0_correctedAt rmX0_correctedAt (va_Pc [.ref g, .int x] (zPre G (fun H => GA G H g d))) (zS (fun v => v.toInt = cordZ d h)) 0 0 zno := by
  refine z_ofW (cc := cX0_correctedAt) (maxL := 2) (ret := some .int) (by decide +kernel) rfl (Nat.le_of_ble_eq_true rfl) ?_
  intro p e s m below meth c hx hb hml hr hts hown hlocks hK hP ls hl
  have hG := hP
  have hown : s.vm.findClass RX0 = some m.cls := hown
  have hl : lv_has ls 2 [(0, .ref g), (1, .int x)] := hl
  have hq1 := hsm.read h
  have hq2 := hsm.corr h
  refine lv_aload_n hx hb dX0_correctedAt_0 rfl (lv_at hl 0 rfl) ?_
  refine lv_iload_n hx hb dX0_correctedAt_1 rfl (lv_at hl 1 rfl) ?_
  refine z_cV (As := [.int x]) (rest := []) ⟨hx, hb, hml, hown, hts⟩ (kX0_readingAt l G g d x h e_x) (cwV 1 hts gX0_correctedAt_X0_readingAt rfl rfl rfl hyX0_readingAt ⟨Nat.le_of_ble_eq_true rfl, Nat.le_of_ble_eq_true rfl⟩) hK hG hG.1 rfl rfl hl.1 rfl (Nat.le_of_ble_eq_true rfl) dX0_correctedAt_2 ⟨Nat.zero_le _, Nat.zero_le _⟩ (fun z1 e1 => ?_)
  have e1 : z1.toInt = readZ d h := e1
  refine lv_aload_n hx hb dX0_correctedAt_5 rfl (lv_at hl 0 rfl) ?_
  refine lv_iload_n hx hb dX0_correctedAt_6 rfl (lv_at hl 1 rfl) ?_
  refine z_cV (As := [.int x]) (rest := [.int z1]) ⟨hx, hb, hml, hown, hts⟩ (kX0_correctionAt l G g d x h e_x) (cwV 1 hts gX0_correctedAt_X0_correctionAt rfl rfl rfl hyX0_correctionAt ⟨Nat.le_of_ble_eq_true rfl, Nat.le_of_ble_eq_true rfl⟩) hK hG hG.1 rfl rfl hl.1 rfl (Nat.le_of_ble_eq_true rfl) dX0_correctedAt_7 ⟨Nat.zero_le _, Nat.zero_le _⟩ (fun z2 e2 => ?_)
  have e2 : z2.toInt = corrZ d h := e2
  refine z_isub hx hb e1 e2 dX0_correctedAt_10 (by omega) (fun z3 e3 => ?_)
  exact z_ri (v := z3) hx hb hr hlocks (show z3.toInt = cordZ d h from (by unfold cordZ; omega)) dX0_correctedAt_11

abbrev rmX0_valueAt : Room := { frames := 2, cells := 0, slots := 0, locals := 42 }
theorem hyX0_valueAt : yX0_valueAt.cls = RX0 ∧ yX0_valueAt.cls ≠ "java/lang/invoke/MethodHandle" ∧ yX0_valueAt.cls ≠ "java/lang/invoke/VarHandle" ∧ (parseMethodDescriptor yX0_valueAt.desc).map (fun d => d.parameters.length) = some 1 := by decide +kernel
set_option maxHeartbeats 4000000 in
set_option maxRecDepth 100000 in
theorem kX0_valueAt (l : Launch) (G : xG) (g : Nat) (d : GD) (x : Int32) (h : Int) (e_x : x.toInt = h) (hsm : smallG d) : Met l yX0_valueAt wsX0_valueAt rmX0_valueAt (va_Pc [.ref g, .int x] (zPre G (fun H => GA G H g d))) (zS (fun v => v.toInt = valZ d h)) 0 0 zno := by
  refine z_ofW (cc := cX0_valueAt) (maxL := 2) (ret := some .int) (by decide +kernel) rfl (Nat.le_of_ble_eq_true rfl) ?_
  intro p e s m below meth c hx hb hml hr hts hown hlocks hK hP ls hl
  have hG := hP
  have hown : s.vm.findClass RX0 = some m.cls := hown
  have hl : lv_has ls 2 [(0, .ref g), (1, .int x)] := hl
  refine lv_aload_n hx hb dX0_valueAt_0 rfl (lv_at hl 0 rfl) ?_
  refine lv_iload_n hx hb dX0_valueAt_1 rfl (lv_at hl 1 rfl) ?_
  refine z_cV (As := [.int x]) (rest := []) ⟨hx, hb, hml, hown, hts⟩ (kX0_kindAt l G g d x h e_x) (cwV 1 hts gX0_valueAt_X0_kindAt rfl rfl rfl hyX0_kindAt ⟨Nat.le_of_ble_eq_true rfl, Nat.le_of_ble_eq_true rfl⟩) hK hG hG.1 rfl rfl hl.1 rfl (Nat.le_of_ble_eq_true rfl) dX0_valueAt_2 ⟨Nat.zero_le _, Nat.zero_le _⟩ (fun z1 e1 => ?_)
  have e1 : z1.toInt = kindZ d h := e1
  refine lv_iconst (v := (2 : Int32)) hx hb dX0_valueAt_5 (by decide) ?_
  refine z_icmp_ne (tgt := 17) hx hb e1 kI_2 dX0_valueAt_6 (by decide) (fun c_2 => ?_) (fun c_2 => ?_)
  · refine lv_aload_n hx hb dX0_valueAt_17 rfl (lv_at hl 0 rfl) ?_
    refine lv_iload_n hx hb dX0_valueAt_18 rfl (lv_at hl 1 rfl) ?_
    refine z_cV (As := [.int x]) (rest := []) ⟨hx, hb, hml, hown, hts⟩ (kX0_correctedAt l G g d x h e_x hsm) (cwV 1 hts gX0_valueAt_X0_correctedAt rfl rfl rfl hyX0_correctedAt ⟨Nat.le_of_ble_eq_true rfl, Nat.le_of_ble_eq_true rfl⟩) hK hG hG.1 rfl rfl hl.1 rfl (Nat.le_of_ble_eq_true rfl) dX0_valueAt_19 ⟨Nat.zero_le _, Nat.zero_le _⟩ (fun z3 e3 => ?_)
    have e3 : z3.toInt = cordZ d h := e3
    exact z_ri (v := z3) hx hb hr hlocks (show z3.toInt = valZ d h from (by unfold valZ; first | (rw [if_pos (by omega)]; omega) | (rw [if_neg (by omega)]; omega))) dX0_valueAt_22
  · refine lv_aload_n hx hb dX0_valueAt_9 rfl (lv_at hl 0 rfl) ?_
    refine lv_iload_n hx hb dX0_valueAt_10 rfl (lv_at hl 1 rfl) ?_
    refine z_cV (As := [.int x]) (rest := []) ⟨hx, hb, hml, hown, hts⟩ (kX0_readingAt l G g d x h e_x) (cwV 1 hts gX0_valueAt_X0_readingAt rfl rfl rfl hyX0_readingAt ⟨Nat.le_of_ble_eq_true rfl, Nat.le_of_ble_eq_true rfl⟩) hK hG hG.1 rfl rfl hl.1 rfl (Nat.le_of_ble_eq_true rfl) dX0_valueAt_11 ⟨Nat.zero_le _, Nat.zero_le _⟩ (fun z4 e4 => ?_)
    have e4 : z4.toInt = readZ d h := e4
    refine lv_goto (tgt := 22) hx hb dX0_valueAt_14 (by decide) ?_
    exact z_ri (v := z4) hx hb hr hlocks (show z4.toInt = valZ d h from (by unfold valZ; first | (rw [if_pos (by omega)]; omega) | (rw [if_neg (by omega)]; omega))) dX0_valueAt_22

abbrev rmX0_hasValue : Room := { frames := 1, cells := 0, slots := 0, locals := 21 }
theorem hyX0_hasValue : yX0_hasValue.cls = RX0 ∧ yX0_hasValue.cls ≠ "java/lang/invoke/MethodHandle" ∧ yX0_hasValue.cls ≠ "java/lang/invoke/VarHandle" ∧ (parseMethodDescriptor yX0_hasValue.desc).map (fun d => d.parameters.length) = some 1 := by decide +kernel
set_option maxHeartbeats 4000000 in
set_option maxRecDepth 100000 in
theorem kX0_hasValue (l : Launch) (G : xG) (g : Nat) (d : GD) (x : Int32) (h : Int) (e_x : x.toInt = h) : Met l yX0_hasValue wsX0_hasValue rmX0_hasValue (va_Pc [.ref g, .int x] (zPre G (fun H => GA G H g d))) (zS (fun v => isB v (hvP d h))) 0 0 zno := by
  refine z_ofW (cc := cX0_hasValue) (maxL := 3) (ret := some .boolean) (by decide +kernel) rfl (Nat.le_of_ble_eq_true rfl) ?_
  intro p e s m below meth c hx hb hml hr hts hown hlocks hK hP ls hl
  have hG := hP
  have hown : s.vm.findClass RX0 = some m.cls := hown
  have hl : lv_has ls 3 [(0, .ref g), (1, .int x)] := hl
  refine lv_aload_n hx hb dX0_hasValue_0 rfl (lv_at hl 0 rfl) ?_
  refine lv_iload_n hx hb dX0_hasValue_1 rfl (lv_at hl 1 rfl) ?_
  refine z_cV (As := [.int x]) (rest := []) ⟨hx, hb, hml, hown, hts⟩ (kX0_kindAt l G g d x h e_x) (cwV 1 hts gX0_hasValue_X0_kindAt rfl rfl rfl hyX0_kindAt ⟨Nat.le_of_ble_eq_true rfl, Nat.le_of_ble_eq_true rfl⟩) hK hG hG.1 rfl rfl hl.1 rfl (Nat.le_of_ble_eq_true rfl) dX0_hasValue_2 ⟨Nat.zero_le _, Nat.zero_le _⟩ (fun z1 e1 => ?_)
  have e1 : z1.toInt = kindZ d h := e1
  refine lv_istore_n hx hb dX0_hasValue_5 rfl hl (by decide) rfl (fun ls hl => ?_)
  have hl : lv_has ls 3 [(2, .int z1), (0, .ref g), (1, .int x)] := hl
  refine lv_iload_n hx hb dX0_hasValue_6 rfl (lv_at hl 0 rfl) ?_
  refine z_if_eq (tgt := 15) hx hb e1 dX0_hasValue_7 (by decide) (fun c_2 => ?_) (fun c_2 => ?_)
  · refine lv_iconst (v := (1 : Int32)) hx hb dX0_hasValue_15 (by decide) ?_
    refine lv_goto (tgt := 20) hx hb dX0_hasValue_16 (by decide) ?_
    exact z_rb (v := (1 : Int32)) hx hb hr hlocks rfl (isB.t rfl (by unfold hvP; omega)) dX0_hasValue_20
  · refine lv_iload_n hx hb dX0_hasValue_10 rfl (lv_at hl 0 rfl) ?_
    refine lv_iconst (v := (2 : Int32)) hx hb dX0_hasValue_11 (by decide) ?_
    refine z_icmp_ne (tgt := 19) hx hb e1 kI_2 dX0_hasValue_12 (by decide) (fun c_3 => ?_) (fun c_3 => ?_)
    · refine lv_iconst (v := (0 : Int32)) hx hb dX0_hasValue_19 (by decide) ?_
      exact z_rb (v := (0 : Int32)) hx hb hr hlocks rfl (isB.f rfl (by unfold hvP; omega)) dX0_hasValue_20
    · refine lv_iconst (v := (1 : Int32)) hx hb dX0_hasValue_15 (by decide) ?_
      refine lv_goto (tgt := 20) hx hb dX0_hasValue_16 (by decide) ?_
      exact z_rb (v := (1 : Int32)) hx hb hr hlocks rfl (isB.t rfl (by unfold hvP; omega)) dX0_hasValue_20

abbrev rmX0_hasReading : Room := { frames := 1, cells := 0, slots := 0, locals := 21 }
theorem hyX0_hasReading : yX0_hasReading.cls = RX0 ∧ yX0_hasReading.cls ≠ "java/lang/invoke/MethodHandle" ∧ yX0_hasReading.cls ≠ "java/lang/invoke/VarHandle" ∧ (parseMethodDescriptor yX0_hasReading.desc).map (fun d => d.parameters.length) = some 1 := by decide +kernel
set_option maxHeartbeats 4000000 in
set_option maxRecDepth 100000 in
theorem kX0_hasReading (l : Launch) (G : xG) (g : Nat) (d : GD) (x : Int32) (h : Int) (e_x : x.toInt = h) : Met l yX0_hasReading wsX0_hasReading rmX0_hasReading (va_Pc [.ref g, .int x] (zPre G (fun H => GA G H g d))) (zS (fun v => isB v (kindZ d h = 0))) 0 0 zno := by
  refine z_ofW (cc := cX0_hasReading) (maxL := 2) (ret := some .boolean) (by decide +kernel) rfl (Nat.le_of_ble_eq_true rfl) ?_
  intro p e s m below meth c hx hb hml hr hts hown hlocks hK hP ls hl
  have hG := hP
  have hown : s.vm.findClass RX0 = some m.cls := hown
  have hl : lv_has ls 2 [(0, .ref g), (1, .int x)] := hl
  refine lv_aload_n hx hb dX0_hasReading_0 rfl (lv_at hl 0 rfl) ?_
  refine lv_iload_n hx hb dX0_hasReading_1 rfl (lv_at hl 1 rfl) ?_
  refine z_cV (As := [.int x]) (rest := []) ⟨hx, hb, hml, hown, hts⟩ (kX0_kindAt l G g d x h e_x) (cwV 1 hts gX0_hasReading_X0_kindAt rfl rfl rfl hyX0_kindAt ⟨Nat.le_of_ble_eq_true rfl, Nat.le_of_ble_eq_true rfl⟩) hK hG hG.1 rfl rfl hl.1 rfl (Nat.le_of_ble_eq_true rfl) dX0_hasReading_2 ⟨Nat.zero_le _, Nat.zero_le _⟩ (fun z1 e1 => ?_)
  have e1 : z1.toInt = kindZ d h := e1
  refine z_if_ne (tgt := 12) hx hb e1 dX0_hasReading_5 (by decide) (fun c_2 => ?_) (fun c_2 => ?_)
  · refine lv_iconst (v := (0 : Int32)) hx hb dX0_hasReading_12 (by decide) ?_
    exact z_rb (v := (0 : Int32)) hx hb hr hlocks rfl (isB.f rfl (by omega)) dX0_hasReading_13
  · refine lv_iconst (v := (1 : Int32)) hx hb dX0_hasReading_8 (by decide) ?_
    refine lv_goto (tgt := 13) hx hb dX0_hasReading_9 (by decide) ?_
    exact z_rb (v := (1 : Int32)) hx hb hr hlocks rfl (isB.t rfl (by omega)) dX0_hasReading_13
end
