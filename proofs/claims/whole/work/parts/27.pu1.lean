theorem INV_mk {N : Nat} {points count ed : Int32} {sets : Nat → Int32} {scores : Nat → UInt64} {rated hold : Nat → Int32} {scnt : Int32} {codes : Nat → Int32} {D : CSt} {X : SSt} {saved : Int32} {stand : Nat → Int32} {height largest ped : Int32} {layers psets : Nat → Int32} {seen : Nat → Int64} {depths : Nat → Int64} {K : Nat → KSt}
    {mm many mex has sm smany sex : Int32} {bys mc : Nat → Int32} {ms : Nat → UInt64} {mpt mlb ty ln : Nat → Int32} {wh : Nat → Int64} {tw : Nat → UInt64} {sc8 : Nat → Int32} {ss8 : Nat → UInt64} {sp8 sl8 lay8 pl8 : Nat → Int32} :
    INV N ((points, count, ed, sets, scores, rated, hold), (scnt, codes), D, X, saved, stand, (height, largest, ped, layers, psets), seen, depths, K) (mm, many, mex, has, sm, smany, sex, bys, mc, ms, mpt, mlb, ty, ln, wh, tw, sc8, ss8, sp8, sl8, lay8, pl8) ↔
    ∃ (m n : Nat) (f : Nat → Nat) (e : Nat) (pt lb : Nat → Nat), I_cls m n f points count sets hold mm many mc ∧ SCR n rated scores ms ∧ I_pln N m n f ed ped height largest layers psets ∧ I_smp m e pt lb scnt codes mex mpt mlb ∧ I_tab bys ∧ I_slt K ty ln wh tw ∧ I_sht D X saved has sm smany sex sc8 ss8 sp8 sl8 := Iff.rfl

set_option maxHeartbeats 2000000 in
theorem pu_pointCount : PU_pointCount INV := by
  intro N S M  hN hI
  have hkeep := hI.keep
  obtain ⟨⟨points, count, ed, sets, scores, rated, hold⟩, ⟨scnt, codes⟩, D, X, saved, stand, ⟨height, largest, ped, layers, psets⟩, seen, depths, K⟩ := S
  obtain ⟨mm, many, mex, has, sm, smany, sex, bys, mc, ms, mpt, mlb, ty, ln, wh, tw, sc8, ss8, sp8, sl8, lay8, pl8⟩ := M
  obtain ⟨m, n, f, e, pt, lb, hc, hs, hp, hx, ht, hk, hsh⟩ := INV_mk.mp hI
  obtain ⟨⟨hm1, hm8, hn20⟩, rfl, rfl, hS, hB, hDs, hH, rfl, rfl, hM⟩ := hc
  have hf31 : ∀ k, k < n → f k < 2 ^ 31 := fun k hk => Nat.lt_trans (hB.lt hm8 hk) (by decide)
  dsimp only
  exact And.intro rfl hkeep

set_option maxHeartbeats 2000000 in
theorem pu_conceptCount : PU_conceptCount INV := by
  intro N S M  hN hI
  have hkeep := hI.keep
  obtain ⟨⟨points, count, ed, sets, scores, rated, hold⟩, ⟨scnt, codes⟩, D, X, saved, stand, ⟨height, largest, ped, layers, psets⟩, seen, depths, K⟩ := S
  obtain ⟨mm, many, mex, has, sm, smany, sex, bys, mc, ms, mpt, mlb, ty, ln, wh, tw, sc8, ss8, sp8, sl8, lay8, pl8⟩ := M
  obtain ⟨m, n, f, e, pt, lb, hc, hs, hp, hx, ht, hk, hsh⟩ := INV_mk.mp hI
  obtain ⟨⟨hm1, hm8, hn20⟩, rfl, rfl, hS, hB, hDs, hH, rfl, rfl, hM⟩ := hc
  have hf31 : ∀ k, k < n → f k < 2 ^ 31 := fun k hk => Nat.lt_trans (hB.lt hm8 hk) (by decide)
  dsimp only
  exact And.intro rfl hkeep

set_option maxHeartbeats 2000000 in
theorem pu_concept : PU_concept INV := by
  intro N S M a1 hN hI
  have hkeep := hI.keep
  obtain ⟨⟨points, count, ed, sets, scores, rated, hold⟩, ⟨scnt, codes⟩, D, X, saved, stand, ⟨height, largest, ped, layers, psets⟩, seen, depths, K⟩ := S
  obtain ⟨mm, many, mex, has, sm, smany, sex, bys, mc, ms, mpt, mlb, ty, ln, wh, tw, sc8, ss8, sp8, sl8, lay8, pl8⟩ := M
  obtain ⟨m, n, f, e, pt, lb, hc, hs, hp, hx, ht, hk, hsh⟩ := INV_mk.mp hI
  obtain ⟨⟨hm1, hm8, hn20⟩, rfl, rfl, hS, hB, hDs, hH, rfl, rfl, hM⟩ := hc
  have hf31 : ∀ k, k < n → f k < 2 ^ 31 := fun k hk => Nat.lt_trans (hB.lt hm8 hk) (by decide)
  dsimp only
  refine has_sp (by omega) ?_
  rcases inr_cases a1 n (by omega) with h | ⟨j, hj, rfl, h⟩
  · rw [h]
    refine br_t rfl ?_
    refine isConcept_sp (by omega) ?_
    rw [h]
    exact br_t rfl ⟨rfl, hkeep⟩
  · rw [h]
    refine br_f (by decide) ⟨in_nI (by omega) (by decide), ?_⟩
    refine isConcept_sp (by omega) ?_
    rw [h]
    refine br_f (by decide) ⟨in_nI (by omega) (by decide), ?_, hkeep⟩
    rw [cl_nI (by omega), hS j hj, hM j hj]

set_option maxHeartbeats 2000000 in
theorem pu_numberOf : PU_numberOf INV := by
  intro N S M a1 hN hI
  have hkeep := hI.keep
  obtain ⟨⟨points, count, ed, sets, scores, rated, hold⟩, ⟨scnt, codes⟩, D, X, saved, stand, ⟨height, largest, ped, layers, psets⟩, seen, depths, K⟩ := S
  obtain ⟨mm, many, mex, has, sm, smany, sex, bys, mc, ms, mpt, mlb, ty, ln, wh, tw, sc8, ss8, sp8, sl8, lay8, pl8⟩ := M
  obtain ⟨m, n, f, e, pt, lb, hc, hs, hp, hx, ht, hk, hsh⟩ := INV_mk.mp hI
  obtain ⟨⟨hm1, hm8, hn20⟩, rfl, rfl, hS, hB, hDs, hH, rfl, rfl, hM⟩ := hc
  have hf31 : ∀ k, k < n → f k < 2 ^ 31 := fun k hk => Nat.lt_trans (hB.lt hm8 hk) (by decide)
  dsimp only
  refine find_sp hn20 (place_sp hn20 ⟨?_, hkeep⟩)
  exact FND_cong (fun j _ hj => by rw [hS j (by omega), hM j (by omega)])

theorem HOK.zero {m : Nat} {f : Nat → Nat} {h : Nat → Int32} (e : HOK m 0 (fun _ => 0) h) : HOK m 0 f h := e.cong (fun k hk => absurd hk (by omega))
theorem I_smp.none {m : Nat} {pt lb : Nat → Nat} {codes mpt mlb : Nat → Int32} : I_smp m 0 pt lb 0 codes 0 mpt mlb := ⟨by decide, rfl, rfl, fun k hk => absurd hk (by omega)⟩
theorem reset_rng (x : Int32) : (¬ (0 < x.toInt ∧ x.toInt ≤ 8)) ∨ ∃ m : Nat, 1 ≤ m ∧ m ≤ 8 ∧ x = nI m := by
  by_cases h : 0 < x.toInt ∧ x.toInt ≤ 8
  · right
    obtain ⟨j, hj, e⟩ := vp_in_of (x := x) (n := 9) (vp_in_iff.mpr (by omega)) (by decide)
    refine ⟨j, ?_, by omega, e⟩
    rw [e, nI_toInt (by omega)] at h
    omega
  · exact Or.inl h
theorem i1 : (1 : Int32).toInt = 1 := by decide
theorem i8 : (8 : Int32).toInt = 8 := by decide

set_option maxHeartbeats 2000000 in
theorem pu_reset : PU_reset INV := by
  intro N S M a1 hN hI
  have hkeep := hI.keep
  obtain ⟨⟨points, count, ed, sets, scores, rated, hold⟩, ⟨scnt, codes⟩, D, X, saved, stand, ⟨height, largest, ped, layers, psets⟩, seen, depths, K⟩ := S
  obtain ⟨mm, many, mex, has, sm, smany, sex, bys, mc, ms, mpt, mlb, ty, ln, wh, tw, sc8, ss8, sp8, sl8, lay8, pl8⟩ := M
  obtain ⟨m, n, f, e, pt, lb, hc, hs, hp, hx, ht, hk, hsh⟩ := INV_mk.mp hI
  obtain ⟨⟨hm1, hm8, hn20⟩, rfl, rfl, hS, hB, hDs, hH, rfl, rfl, hM⟩ := hc
  have hf31 : ∀ k, k < n → f k < 2 ^ 31 := fun k hk => Nat.lt_trans (hB.lt hm8 hk) (by decide)
  dsimp only
  have bad : ¬ (0 < a1.toInt ∧ a1.toInt ≤ 8) → wp_X8_reset a1 (nI m) (nI n) mex (fun (r8 : Int32) (nm_m : Int32) (nm_many : Int32) (nm_examples : Int32) => (-1 : Int32) = r8 ∧ INV (N + 1) ((nI m, nI n, ed, sets, scores, rated, hold), (scnt, codes), D, X, saved, stand, (height, largest, ped, layers, psets), seen, depths, K) (nm_m, nm_many, nm_examples, has, sm, smany, sex, bys, mc, ms, mpt, mlb, ty, ln, wh, tw, sc8, ss8, sp8, sl8, lay8, pl8)) := by
    intro h
    refine in_sp ?_
    rw [w64, l1, l8, decide_eq_false (by omega)]
    exact bn_t rfl ⟨rfl, hkeep⟩
  show (_ → _) ∧ (_ → (_ → _) ∧ (_ → _))
  rw [Int32.lt_iff_toInt_lt, Int32.le_iff_toInt_le, i1, i8]
  refine ⟨fun h => bad (by omega), fun h => ⟨fun h2 => ?_, fun h2 => bad (by omega)⟩⟩
  rcases reset_rng a1 with q | ⟨m', h1, h8, rfl⟩
  · exact absurd (by omega) q
  refine begin_sp (m0 := 0) h8 (fun h' hh => ?_)
  unfold wp_X3_forget
  refine in_sp ?_
  rw [w64, l1, l8, nI_toInt (by omega), decide_eq_true (by omega)]
  refine bn_f (by decide) ⟨rfl, ?_⟩
  refine INV_mk.mpr ⟨m', 0, f, 0, pt, lb, ⟨⟨h1, h8, by decide⟩, rfl, rfl, fun k hk => absurd hk (by omega), fun k hk => absurd hk (by omega), fun i j hi => absurd hi (by omega), hh.zero, rfl, rfl, fun k hk => absurd hk (by omega)⟩, fun k hk => absurd hk (by omega), ?_, I_smp.none, ht, hk, hsh⟩
  exact hp.new 1 (by decide) (by decide) rfl

/-- the class with one concept more -/
theorem BND.push {m n v : Nat} {f : Nat → Nat} (h : BND m n f) (hv : v < 2 ^ m) : BND m (n + 1) (va_up f n v) := by
  intro k hk
  unfold va_up
  by_cases e : k = n
  · rw [if_pos e]; exact hv
  · rw [if_neg e]; exact h k (by omega)
theorem DIS.push {n v : Nat} {f : Nat → Nat} (h : DIS n f) (hv : ∀ k, k < n → f k ≠ v) : DIS (n + 1) (va_up f n v) := by
  intro i j hi hj e
  unfold va_up at e
  by_cases e1 : i = n
  · by_cases e2 : j = n
    · omega
    · rw [if_pos e1, if_neg e2] at e
      exact absurd e.symm (hv j (by omega))
  · by_cases e2 : j = n
    · rw [if_neg e1, if_pos e2] at e
      exact absurd e (hv i (by omega))
    · rw [if_neg e1, if_neg e2] at e
      exact h i j (by omega) (by omega) e
theorem nanK : isNaN64 (9221120237041090560 : UInt64) = true := by decide +kernel
theorem SCR.push {n : Nat} {rated : Nat → Int32} {scores ms : Nat → UInt64} {z : UInt64} (h : SCR n rated scores ms) : SCR (n + 1) (upd rated n 0) (vf_upd scores n z) (vf_upd ms n (9221120237041090560 : UInt64)) := by
  intro k hk
  unfold upd vf_upd
  by_cases e : k = n
  · rw [if_pos e, if_pos e, if_pos e]; exact Or.inr ⟨rfl, nanK⟩
  · rw [if_neg e, if_neg e, if_neg e]; exact h k (by omega)
theorem comes_sp {n : Nat} {x : Int32} {mc : Nat → Int32} {ms : Nat → UInt64} {Q : Int32 → Int32 → (Nat → Int32) → (Nat → UInt64) → Prop} (hn : n < 20) (h : Q (nI n) (nI (n + 1)) (upd mc n x) (vf_upd ms n (9221120237041090560 : UInt64))) : wp_X8_comes x (nI n) mc ms Q := by
  unfold wp_X8_comes
  rw [cl_nI (by omega), nI_1]
  have e : nI (n + 1) - (1 : Int32) = nI n := nI_pred n
  rw [e]
  exact ⟨in_nI hn (by decide), in_nI hn (by decide), h⟩

set_option maxHeartbeats 2000000 in
theorem pu_addConcept : PU_addConcept INV := by
  intro N S M a1 hN hI
  have hkeep := hI.keep
  obtain ⟨⟨points, count, ed, sets, scores, rated, hold⟩, ⟨scnt, codes⟩, D, X, saved, stand, ⟨height, largest, ped, layers, psets⟩, seen, depths, K⟩ := S
  obtain ⟨mm, many, mex, has, sm, smany, sex, bys, mc, ms, mpt, mlb, ty, ln, wh, tw, sc8, ss8, sp8, sl8, lay8, pl8⟩ := M
  obtain ⟨m, n, f, e, pt, lb, hc, hs, hp, hx, ht, hk, hsh⟩ := INV_mk.mp hI
  obtain ⟨⟨hm1, hm8, hn20⟩, rfl, rfl, hS, hB, hDs, hH, rfl, rfl, hM⟩ := hc
  have hf31 : ∀ k, k < n → f k < 2 ^ 31 := fun k hk => Nat.lt_trans (hB.lt hm8 hk) (by decide)
  dsimp only
  refine isSet_sp hm8 ?_
  rcases inr_cases a1 (2 ^ m) (by have := pow8 hm8; omega) with h | ⟨v, hv, rfl, h⟩
  · rw [h]
    refine bn_t rfl ?_
    refine isSet8_sp hm8 ?_
    rw [h]
    exact bn_t rfl ⟨rfl, hkeep⟩
  have hv31 : v < 2 ^ 31 := by have := pow8 hm8; omega
  have hfn := fnd_iff hn20 hS hf31 hv31
  have hfm := fnd_iff hn20 hM hf31 hv31
  rw [h]
  refine bn_f (by decide) (find_sp hn20 ?_)
  refine br_c (fun e => ?_) (fun e => ?_)
  · have hnew := hfn.mp e
    refine addIfNew_sp hm8 hn20 hS hf31 hH hv31 (fun hno => ?_) (fun hlt _ h' hh => ?_)
    · have h20 : n = 20 := by
        rcases Nat.lt_or_ge n 20 with q | q
        · exact absurd ⟨q, hnew⟩ hno
        · omega
      refine bn_t rfl ?_
      refine isSet8_sp hm8 ?_
      rw [h]
      refine bn_f (by decide) (place_sp hn20 ?_)
      refine br_t (hfm.mpr hnew) ?_
      refine bn_t (by rw [h20]; rfl) ⟨rfl, hkeep⟩
    · refine bn_f (by decide) ?_
      refine isSet8_sp hm8 ?_
      rw [h]
      refine bn_f (by decide) (place_sp hn20 ?_)
      refine br_t (hfm.mpr hnew) ?_
      refine bn_f (fun q => ?_) (comes_sp hlt ⟨nI_pred n, ?_⟩)
      · have : n = 20 := (ceq (b := 20) (by omega) (by decide)).mp q
        omega
      · refine INV_mk.mpr ⟨m, n + 1, va_up f n v, _, pt, lb, ⟨⟨hm1, hm8, by omega⟩, rfl, rfl, hS.push, hB.push hv, hDs.push hnew, hh, rfl, rfl, hM.push⟩, hs.push, ?_, hx, ht, hk, hsh⟩
        exact hp.new 1 (by decide) (by decide) rfl
  · refine isSet8_sp hm8 ?_
    rw [h]
    refine bn_f (by decide) (place_sp hn20 ?_)
    refine br_f (fun q => e (hfn.mpr (hfm.mp q))) ⟨rfl, hkeep⟩
