/-! an hour passes at a station -/
theorem Rq.on {τ : SD} {i : Int} {s : Nat → Int32} {z1 z2 z3 z4 : Int32} (h : Rq τ i s) (hok : stOk τ) (ht9 : 0 ≤ i ∧ i < 3) (hn : τ.1.toInt < 120) (ho : ((τ.2.2 i.toNat).1 8).toInt = 1) (e1 : z1.toInt = flN (τ.2.2 i.toNat) (watZ τ.2.1 (τ.2.2 i.toNat) τ.1.toInt)) (e2 : z2.toInt = flN (τ.2.2 i.toNat) (watZ τ.2.1 (τ.2.2 i.toNat) τ.1.toInt) + ((τ.2.2 i.toNat).1 7).toInt) (e3 : z3.toInt = siltN (τ.2.2 i.toNat) τ.1.toInt) (e4 : z4.toInt = sunkN (τ.2.2 i.toNat) τ.1.toInt) : Rq τ (i + 1) (upd (upd (upd (upd (upd s (10 + 731 * i + 3).toNat z1) (10 + 731 * i + (129 + τ.1.toInt)).toNat 1) (10 + 731 * i + (9 + τ.1.toInt)).toNat z2) (10 + 731 * i + 4).toNat z3) (10 + 731 * i + 7).toNat z4) := by
  have h0 := hok.1
  have hgo := hok.2.2 i.toNat (by omega)
  have hwb := watZ_b hok.2.1 hgo.sta τ.1.toInt
  refine h.step hok ht9 hn (((((sameBut.rf.up ht9 (by omega)).up ht9 (by omega)).up ht9 (by omega)).up ht9 (by omega)).up ht9 (by omega)) (Rg.pass (h.g ht9) hgo (by omega) hwb ?_ ?_ ?_ (fun _ => ⟨?_, ?_⟩) (fun q => absurd ho q) (fun v a b f1 f2 f3 f4 f5 => ?_))
  · show cR _ _ _ = _
    rw [cR_ne ht9 ht9 (by omega) (by omega) (by omega), cR_ne ht9 ht9 (by omega) (by omega) (by omega), cR_ne ht9 ht9 (by omega) (by omega) (by omega), cR_ne ht9 ht9 (by omega) (by omega) (by omega), cR_at]
    exact e1
  · show cR _ _ _ = _
    rw [cR_ne ht9 ht9 (by omega) (by omega) (by omega), cR_at]
    exact e3
  · show cR _ _ _ = _
    rw [cR_at]
    exact e4
  · show cR _ _ _ = _
    rw [cR_ne ht9 ht9 (by omega) (by omega) (by omega), cR_ne ht9 ht9 (by omega) (by omega) (by omega), cR_ne ht9 ht9 (by omega) (by omega) (by omega), cR_at]
    rfl
  · show cR _ _ _ = _
    rw [cR_ne ht9 ht9 (by omega) (by omega) (by omega), cR_ne ht9 ht9 (by omega) (by omega) (by omega), cR_at]
    exact e2
  · show cR _ _ _ = cR _ _ _
    rw [cR_ne ht9 ht9 (by omega) (by omega) (by omega), cR_ne ht9 ht9 (by omega) (by omega) (by omega), cR_ne ht9 ht9 (by omega) (by omega) (by omega), cR_ne ht9 ht9 (by omega) (by omega) (by omega), cR_ne ht9 ht9 (by omega) (by omega) (by omega)]
theorem Rq.off {τ : SD} {i : Int} {s : Nat → Int32} {z1 z3 z4 : Int32} (h : Rq τ i s) (hok : stOk τ) (ht9 : 0 ≤ i ∧ i < 3) (hn : τ.1.toInt < 120) (ho : ((τ.2.2 i.toNat).1 8).toInt ≠ 1) (e1 : z1.toInt = flN (τ.2.2 i.toNat) (watZ τ.2.1 (τ.2.2 i.toNat) τ.1.toInt)) (e3 : z3.toInt = siltN (τ.2.2 i.toNat) τ.1.toInt) (e4 : z4.toInt = sunkN (τ.2.2 i.toNat) τ.1.toInt) : Rq τ (i + 1) (upd (upd (upd s (10 + 731 * i + 3).toNat z1) (10 + 731 * i + 4).toNat z3) (10 + 731 * i + 7).toNat z4) := by
  have h0 := hok.1
  have hgo := hok.2.2 i.toNat (by omega)
  have hwb := watZ_b hok.2.1 hgo.sta τ.1.toInt
  refine h.step hok ht9 hn (((sameBut.rf.up ht9 (by omega)).up ht9 (by omega)).up ht9 (by omega)) (Rg.pass (h.g ht9) hgo (by omega) hwb ?_ ?_ ?_ (fun q => absurd q ho) (fun _ => ?_) (fun v a b f1 f2 f3 f4 f5 => ?_))
  · show cR _ _ _ = _
    rw [cR_ne ht9 ht9 (by omega) (by omega) (by omega), cR_ne ht9 ht9 (by omega) (by omega) (by omega), cR_at]
    exact e1
  · show cR _ _ _ = _
    rw [cR_ne ht9 ht9 (by omega) (by omega) (by omega), cR_at]
    exact e3
  · show cR _ _ _ = _
    rw [cR_at]
    exact e4
  · show cR _ _ _ = cR _ _ _
    rw [cR_ne ht9 ht9 (by omega) (by omega) (by omega), cR_ne ht9 ht9 (by omega) (by omega) (by omega), cR_ne ht9 ht9 (by omega) (by omega) (by omega)]
  · show cR _ _ _ = cR _ _ _
    rw [cR_ne ht9 ht9 (by omega) (by omega) (by omega), cR_ne ht9 ht9 (by omega) (by omega) (by omega), cR_ne ht9 ht9 (by omega) (by omega) (by omega)]
