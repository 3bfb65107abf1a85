/-! scores -/
theorem cmp_nanL {a b : UInt64} (h : isNaN64 a = true) : FP.dcmp a b = none := (dcmp_no a b).mpr (Or.inl h)
theorem cmp_nanR {a b : UInt64} (h : isNaN64 b = true) : FP.dcmp a b = none := (dcmp_no a b).mpr (Or.inr h)
theorem cmp_num {a b : UInt64} (h : isNaN64 a = false) (h2 : isNaN64 b = false) : FP.dcmp a b ≠ none := by
  intro e
  rcases (dcmp_no a b).mp e with q | q
  · rw [q] at h; cases h
  · rw [q] at h2; cases h2
def LSb (ms : Nat → UInt64) (x y : Nat) : Bool := decide (FP.dcmp (ms x) (ms y) = some .lt)
theorem cvg (o : Option Ordering) : (0 ≤ Op.cmpValue o .g) ↔ ¬ o = some .lt := by
  cases o with
  | none => decide
  | some o => cases o <;> decide
theorem cvl (o : Option Ordering) : (Op.cmpValue o .l = 0) ↔ o = some .eq := by
  cases o with
  | none => decide
  | some o => cases o <;> decide
theorem cvl2 (o : Option Ordering) : (Op.cmpValue o .l ≤ 0) ↔ ¬ o = some .gt := by
  cases o with
  | none => decide
  | some o => cases o <;> decide
theorem SR.z {r : Int32} {a b : UInt64} (h : SR r a b) (q : r = 0) : isNaN64 b = true := by
  rcases h with ⟨h1, -⟩ | ⟨-, h2⟩
  · rw [h1] at q; exact absurd q (by decide)
  · exact h2
theorem SR.nz {r : Int32} {a b : UInt64} (h : SR r a b) (q : ¬ r = 0) : a = b ∧ isNaN64 b = false := by
  rcases h with ⟨-, h1⟩ | ⟨h1, -⟩
  · exact h1
  · exact absurd h1 q
theorem isLess_sp {n x y : Nat} {rated : Nat → Int32} {scores ms : Nat → UInt64} {Q : Int32 → Prop} (hn : n ≤ 20) (hs : SCR n rated scores ms) (hx : x < n) (hy : y < n) (h : Q (bI (LSb ms x y))) : wp_X0_isLess (nI x) (nI y) scores rated Q := by
  unfold wp_X0_isLess
  have ix : vp_in (nI x) 20 := in_nI (by omega) (by decide)
  have iy : vp_in (nI y) 20 := in_nI (by omega) (by decide)
  rw [cl_nI (by omega), cl_nI (by omega)]
  refine ⟨ix, br_c (fun q => ?_) (fun q => ⟨iy, br_c (fun q2 => ?_) (fun q2 => ⟨ix, iy, ?_⟩)⟩)⟩
  · have e : LSb ms x y = false := by unfold LSb; rw [cmp_nanL ((hs x hx).z q)]; rfl
    rw [e] at h; exact h
  · have e : LSb ms x y = false := by unfold LSb; rw [cmp_nanR ((hs y hy).z q2)]; rfl
    rw [e] at h; exact h
  · rw [((hs x hx).nz q).1, ((hs y hy).nz q2).1, cvg]
    refine br_c (fun q3 => ?_) (fun q3 => ?_)
    · have e : LSb ms x y = false := decide_eq_false q3
      rw [e] at h; exact h
    · have e : LSb ms x y = true := decide_eq_true (Decidable.not_not.mp q3)
      rw [e] at h; exact h

set_option maxHeartbeats 2000000 in
theorem pu_compareScores : PU_compareScores INV := by
  intro N S M a1 a2 hN hI
  have hkeep := hI.keep
  obtain ⟨⟨points, count, ed, sets, scores, rated, hold⟩, ⟨scnt, codes⟩, D, X, saved, stand, ⟨height, largest, ped, layers, psets⟩, seen, depths, K⟩ := S
  obtain ⟨mm, many, mex, has, sm, smany, sex, bys, mc, ms, mpt, mlb, ty, ln, wh, tw, sc8, ss8, sp8, sl8, lay8, pl8⟩ := M
  obtain ⟨m, n, f, e, pt, lb, hc, hs, hp, hx, ht, hk, hsh⟩ := INV_mk.mp hI
  obtain ⟨⟨hm1, hm8, hn20⟩, rfl, rfl, hS, hB, hDs, hH, rfl, rfl, hM⟩ := hc
  have hf31 : ∀ k, k < n → f k < 2 ^ 31 := fun k hk => Nat.lt_trans (hB.lt hm8 hk) (by decide)
  dsimp only
  refine has_sp (by omega) ?_
  rcases inr_cases a1 n (by omega) with h | ⟨x, hx1, rfl, h⟩
  · rw [h]
    refine br_t rfl (isConcept_sp (by omega) ?_)
    rw [h]
    exact br_t rfl ⟨rfl, hkeep⟩
  rw [h]
  refine br_f (by decide) (has_sp (by omega) ?_)
  rcases inr_cases a2 n (by omega) with h2 | ⟨y, hy1, rfl, h2⟩
  · rw [h2]
    refine bn_t rfl (isConcept_sp (by omega) ?_)
    rw [h]
    refine br_f (by decide) (isConcept_sp (by omega) ?_)
    rw [h2]
    exact bn_t rfl ⟨rfl, hkeep⟩
  rw [h2]
  have ix : vp_in (nI x) 20 := in_nI (by omega) (by decide)
  have iy : vp_in (nI y) 20 := in_nI (by omega) (by decide)
  have fin : ∀ r : Int32, (FP.dcmp (ms x) (ms y) = some .lt → r = 0) → (FP.dcmp (ms x) (ms y) = some .eq → r = 1) → (FP.dcmp (ms x) (ms y) = some .gt → r = 2) → (FP.dcmp (ms x) (ms y) = none → r = 3) → wp_X8_compareScores (nI x) (nI y) (nI n) ms (fun (r8 : Int32) => r = r8 ∧ INV (N + 1) ((nI m, nI n, ed, sets, scores, rated, hold), (scnt, codes), D, X, saved, stand, (height, largest, ped, layers, psets), seen, depths, K) (nI m, nI n, mex, has, sm, smany, sex, bys, mc, ms, mpt, mlb, ty, ln, wh, tw, sc8, ss8, sp8, sl8, lay8, pl8)) := by
    intro r r0 r1 r2 r3
    refine isConcept_sp (by omega) ?_
    rw [h]
    refine br_f (by decide) (isConcept_sp (by omega) ?_)
    rw [h2]
    refine bn_f (by decide) ⟨ix, iy, ?_⟩
    rw [cl_nI (by omega), cl_nI (by omega), cvg, cvl, cvl2]
    refine br_c (fun q => bn_c (fun q2 => br_c (fun q3 => ⟨r3 ?_, hkeep⟩) (fun q3 => ⟨r2 (Decidable.not_not.mp q3), hkeep⟩)) (fun q2 => ⟨r1 q2, hkeep⟩)) (fun q => ⟨r0 (Decidable.not_not.mp q), hkeep⟩)
    generalize FP.dcmp (ms x) (ms y) = o at q q2 q3
    cases o with
    | none => rfl
    | some o => cases o <;> first | exact absurd rfl q | exact absurd rfl q2 | exact absurd rfl q3
  refine bn_f (by decide) ⟨ix, ?_⟩
  rw [cl_nI (by omega), cl_nI (by omega)]
  have nn : ∀ r : Int32, r = 3 → FP.dcmp (ms x) (ms y) = none → wp_X8_compareScores (nI x) (nI y) (nI n) ms (fun (r8 : Int32) => r = r8 ∧ INV (N + 1) ((nI m, nI n, ed, sets, scores, rated, hold), (scnt, codes), D, X, saved, stand, (height, largest, ped, layers, psets), seen, depths, K) (nI m, nI n, mex, has, sm, smany, sex, bys, mc, ms, mpt, mlb, ty, ln, wh, tw, sc8, ss8, sp8, sl8, lay8, pl8)) := fun r er e => fin r (fun w => by rw [e] at w; cases w) (fun w => by rw [e] at w; cases w) (fun w => by rw [e] at w; cases w) (fun _ => er)
  refine br_c (fun q => nn _ rfl (cmp_nanL ((hs x hx1).z q))) (fun q => ⟨iy, bn_c (fun q2 => ?_) (fun q2 => nn _ rfl (cmp_nanR ((hs y hy1).z q2)))⟩)
  have hne := cmp_num ((hs x hx1).nz q).2 ((hs y hy1).nz q2).2
  have hsw : FP.dcmp (ms y) (ms x) = (FP.dcmp (ms x) (ms y)).map Ordering.swap := dcmp_sw _ _
  refine isLess_sp hn20 hs hx1 hy1 (bI_br0 (fun q3 => isLess_sp hn20 hs hy1 hx1 (bI_br0 (fun q4 => ?_) (fun q4 => ?_))) (fun q3 => ?_))
  · have q3 := of_decide_eq_false q3
    have q4 := of_decide_eq_false q4
    rw [hsw] at q4
    refine fin 1 (fun w => absurd w q3) (fun _ => rfl) (fun w => ?_) (fun w => absurd w hne)
    rw [w] at q4
    exact absurd rfl q4
  · have q3 := of_decide_eq_false q3
    have q4 := of_decide_eq_true q4
    rw [hsw] at q4
    refine fin 2 (fun w => absurd w q3) (fun w => ?_) (fun _ => rfl) (fun w => absurd w hne)
    rw [w] at q4
    cases q4
  · have q3 := of_decide_eq_true q3
    exact fin 0 (fun _ => rfl) (fun w => by rw [q3] at w; cases w) (fun w => by rw [q3] at w; cases w) (fun w => by rw [q3] at w; cases w)

theorem alike_num {r q : UInt64} (h : alike64 r q = true) (hq : isNaN64 q = false) : r = q := by
  unfold alike64 at h
  rw [hq, Bool.and_false, Bool.or_false] at h
  exact of_decide_eq_true h
theorem alike_nan {r q : UInt64} (h : alike64 r q = true) (hq : isNaN64 q = true) : isNaN64 r = true := by
  unfold alike64 at h
  rw [hq, Bool.and_true] at h
  rcases (Bool.or_eq_true _ _).mp h with w | w
  · rw [of_decide_eq_true w]; exact hq
  · exact w
theorem SCR.set {n x : Nat} {rated : Nat → Int32} {scores ms : Nat → UInt64} {r : Int32} {a b : UInt64} (h : SCR n rated scores ms) (hx : SR r a b) : SCR n (upd rated x r) (vf_upd scores x a) (vf_upd ms x b) := by
  intro k hk
  unfold upd vf_upd
  by_cases q : k = x
  · rw [if_pos q, if_pos q, if_pos q]; exact hx
  · rw [if_neg q, if_neg q, if_neg q]; exact h k hk

set_option maxHeartbeats 2000000 in
theorem pu_setScore : PU_setScore INV := by
  intro N S M a1 a2 a3 hN hI
  have hkeep := hI.keep
  obtain ⟨⟨points, count, ed, sets, scores, rated, hold⟩, ⟨scnt, codes⟩, D, X, saved, stand, ⟨height, largest, ped, layers, psets⟩, seen, depths, K⟩ := S
  obtain ⟨mm, many, mex, has, sm, smany, sex, bys, mc, ms, mpt, mlb, ty, ln, wh, tw, sc8, ss8, sp8, sl8, lay8, pl8⟩ := M
  obtain ⟨m, n, f, e, pt, lb, hc, hs, hp, hx, ht, hk, hsh⟩ := INV_mk.mp hI
  obtain ⟨⟨hm1, hm8, hn20⟩, rfl, rfl, hS, hB, hDs, hH, rfl, rfl, hM⟩ := hc
  have hf31 : ∀ k, k < n → f k < 2 ^ 31 := fun k hk => Nat.lt_trans (hB.lt hm8 hk) (by decide)
  dsimp only
  refine has_sp (by omega) ?_
  rcases inr_cases a1 n (by omega) with h | ⟨x, hx1, rfl, h⟩
  · rw [h]
    refine bn_t rfl (isConcept_sp (by omega) ?_)
    rw [h]
    exact bn_t rfl ⟨rfl, hkeep⟩
  rw [h]
  have ix : vp_in (nI x) 20 := in_nI (by omega) (by decide)
  have num : ¬ (a2 = 0 ∧ a3 = 0) → wp_X7_setScore_b32 (nI x) a2 a3 (nI n) (fun (r : Int32) (nc_scores : Nat → UInt64) (nc_rated : Nat → Int32) => wp_X8_setScore (nI x) a2 a3 (nI n) ms (fun (r8 : Int32) (nm_score : Nat → UInt64) => r = r8 ∧ INV (N + 1) ((nI m, nI n, ed, sets, nc_scores, nc_rated, hold), (scnt, codes), D, X, saved, stand, (height, largest, ped, layers, psets), seen, depths, K) (nI m, nI n, mex, has, sm, smany, sex, bys, mc, nm_score, mpt, mlb, ty, ln, wh, tw, sc8, ss8, sp8, sl8, lay8, pl8))) scores rated := by
    intro hz r7 al7
    have hnn := div_num hz
    have e7 := alike_num al7 hnn
    have fin : ∀ b : Bool, b = decide (FP.dcmp r7 (ms x) = some .eq) → wp_X8_setScore (nI x) a2 a3 (nI n) ms (fun (r8 : Int32) (nm_score : Nat → UInt64) => bI b = r8 ∧ INV (N + 1) ((nI m, nI n, ed, sets, vf_upd scores x r7, upd rated x 1, hold), (scnt, codes), D, X, saved, stand, (height, largest, ped, layers, psets), seen, depths, K) (nI m, nI n, mex, has, sm, smany, sex, bys, mc, nm_score, mpt, mlb, ty, ln, wh, tw, sc8, ss8, sp8, sl8, lay8, pl8)) := by
      intro b eb
      refine isConcept_sp (by omega) ?_
      rw [h]
      refine bn_f (by decide) (fun r8 al8 => ⟨ix, ?_⟩)
      have e8 : r8 = r7 := (alike_num al8 hnn).trans e7.symm
      subst e8
      unfold wp_X8_setScore_b35
      rw [cl_nI (by omega), cvl]
      have hi : INV (N + 1) ((nI m, nI n, ed, sets, vf_upd scores x r8, upd rated x 1, hold), (scnt, codes), D, X, saved, stand, (height, largest, ped, layers, psets), seen, depths, K) (nI m, nI n, mex, has, sm, smany, sex, bys, mc, vf_upd ms x r8, mpt, mlb, ty, ln, wh, tw, sc8, ss8, sp8, sl8, lay8, pl8) := INV_mk.mpr ⟨m, n, f, e, pt, lb, ⟨⟨hm1, hm8, hn20⟩, rfl, rfl, hS, hB, hDs, hH, rfl, rfl, hM⟩, hs.set (Or.inl ⟨rfl, rfl, by rw [e7]; exact hnn⟩), hp.up, hx, ht, hk, hsh⟩
      refine bn_c (fun q => ⟨ix, ?_, hi⟩) (fun q => ⟨ix, ?_, hi⟩)
      · rw [eb, decide_eq_false q]; rfl
      · rw [eb, decide_eq_true q]; rfl
    have hsw : FP.dcmp r7 (ms x) = (FP.dcmp (ms x) r7).map Ordering.swap := dcmp_sw _ _
    have f0 : ¬ FP.dcmp r7 (ms x) = some .eq → wp_X0_rate_b24 (nI x) r7 (fun (r_3 : Int32) (c_scores_4 : Nat → UInt64) (c_rated_5 : Nat → Int32) => ((r_3 = 0) → (fun (r : Int32) (nc_scores : Nat → UInt64) (nc_rated : Nat → Int32) => wp_X8_setScore (nI x) a2 a3 (nI n) ms (fun (r8 : Int32) (nm_score : Nat → UInt64) => r = r8 ∧ INV (N + 1) ((nI m, nI n, ed, sets, nc_scores, nc_rated, hold), (scnt, codes), D, X, saved, stand, (height, largest, ped, layers, psets), seen, depths, K) (nI m, nI n, mex, has, sm, smany, sex, bys, mc, nm_score, mpt, mlb, ty, ln, wh, tw, sc8, ss8, sp8, sl8, lay8, pl8))) (0 : Int32) c_scores_4 c_rated_5) ∧ ((¬ r_3 = 0) → (fun (r : Int32) (nc_scores : Nat → UInt64) (nc_rated : Nat → Int32) => wp_X8_setScore (nI x) a2 a3 (nI n) ms (fun (r8 : Int32) (nm_score : Nat → UInt64) => r = r8 ∧ INV (N + 1) ((nI m, nI n, ed, sets, nc_scores, nc_rated, hold), (scnt, codes), D, X, saved, stand, (height, largest, ped, layers, psets), seen, depths, K) (nI m, nI n, mex, has, sm, smany, sex, bys, mc, nm_score, mpt, mlb, ty, ln, wh, tw, sc8, ss8, sp8, sl8, lay8, pl8))) (1 : Int32) c_scores_4 c_rated_5)) scores rated := by
      intro q
      unfold wp_X0_rate_b24 wp_X0_rate_b25
      rw [cl_nI (by omega), nar1]
      exact ⟨ix, ix, rfl, br_t rfl (fin false (decide_eq_false q).symm)⟩
    unfold wp_X0_rate
    rw [cl_nI (by omega)]
    refine ⟨ix, br_c (fun q => f0 (fun w => ?_)) (fun q => ⟨ix, ?_⟩)⟩
    · rw [cmp_nanR ((hs x hx1).z q)] at w; cases w
    · rw [((hs x hx1).nz q).1, cvl]
      refine bn_c (fun q2 => f0 (fun w => ?_)) (fun q2 => ?_)
      · rw [hsw] at w
        apply q2
        generalize FP.dcmp (ms x) r7 = o at w
        cases o with
        | none => cases w
        | some o => cases o <;> first | rfl | cases w
      · unfold wp_X0_rate_b25
        rw [cl_nI (by omega), nar1]
        refine ⟨ix, ix, rfl, br_f (by decide) (fin true (decide_eq_true ?_).symm)⟩
        rw [hsw, q2]
        rfl
  refine bn_f (by decide) (bn_c (fun q => num (fun w => q w.1)) (fun q => bn_c (fun q2 => num (fun w => q2 w.2)) (fun q2 => ?_)))
  subst q q2
  unfold wp_X0_unrate
  rw [cl_nI (by omega)]
  refine ⟨ix, ix, isConcept_sp (by omega) ?_⟩
  rw [h]
  refine bn_f (by decide) (fun r8 al8 => ⟨ix, ?_⟩)
  have e8 := alike_nan al8 div_00
  unfold wp_X8_setScore_b35
  rw [cl_nI (by omega), cvl]
  refine bn_f (fun w => by rw [cmp_nanL e8] at w; cases w) ⟨ix, rfl, ?_⟩
  exact INV_mk.mpr ⟨m, n, f, e, pt, lb, ⟨⟨hm1, hm8, hn20⟩, rfl, rfl, hS, hB, hDs, hH, rfl, rfl, hM⟩, hs.set (Or.inr ⟨rfl, e8⟩), hp.up, hx, ht, hk, hsh⟩

theorem pf7_loop {m n c : Nat} {f : Nat → Nat} {rated sets hold st : Nat → Int32} {scores ms : Nat → UInt64} {Q : Int32 → (Nat → Int32) → Prop} (hm : m ≤ 8) (hn : n ≤ 20) (hs : SCR n rated scores ms) (hS : SOK n f sets) (hf : ∀ k, k < n → f k < 2 ^ 31) (hH : HOK m n f hold) (hc : c < n)
    (h : ∀ st : Nat → Int32, Q (nI (SM (TQ n f c (fun k => !decide (k = c) && !(decide (k < n) && LSb ms k c))) m)) st) : ∀ (d j : Nat), j + d = n → wp_X7_preferenceSet_b25 (nI c) (nI m) (nI n) sets scores rated hold Q (d + 1) (nI (MSK (fun k => !decide (k = c) && !(decide (k < j) && LSb ms k c)) n)) (nI j) st
  | 0, j, hj => by
    have e : j = n := by omega
    subst e
    exact br_t (nI_le (by omega) (by omega)) (smallest_sp hm hn hS hf hH hc h)
  | d + 1, j, hj => by
    have t := pf7_loop (st := st) hm hn hs hS hf hH hc h d (j + 1) (by omega)
    refine br_f (nI_ge (by omega) (by omega)) (isLess_sp hn hs (by omega) hc (bI_br0 (fun q => ?_) (fun q => ?_)))
    · rw [nI_1]
      have e : MSK (fun k => !decide (k = c) && !(decide (k < j + 1) && LSb ms k c)) n = MSK (fun k => !decide (k = c) && !(decide (k < j) && LSb ms k c)) n := MSK_cong (fun k hk => by
        by_cases w : k = j
        · subst w; rw [q]; simp
        · rw [decide_eq_decide.mpr (show k < j + 1 ↔ k < j by omega)])
      rw [e] at t
      exact t
    · rw [nI_1, shl1_nI (by omega), dif_nI]
      have e : dif (MSK (fun k => !decide (k = c) && !(decide (k < j) && LSb ms k c)) n) (2 ^ j) = MSK (fun k => !decide (k = c) && !(decide (k < j + 1) && LSb ms k c)) n := by
        apply eq_of_bits
        intro i
        rw [dif_bit, MSK_bit, MSK_bit, Nat.testBit_two_pow]
        by_cases w : i = j
        · subst w
          rw [q]
          simp
        · have d1 : decide (i < j + 1) = decide (i < j) := decide_eq_decide.mpr (by omega)
          have d2 : decide (j = i) = false := decide_eq_false (fun w2 => w w2.symm)
          rw [d1, d2, Bool.not_false, Bool.and_true]
      rw [e]
      exact t
theorem prf_loop {n c s : Nat} {f : Nat → Nat} {mc : Nat → Int32} {ms : Nat → UInt64} {Q : Int32 → Prop} (hn : n ≤ 20) (hM : SOK n f mc) (hf : ∀ k, k < n → f k < 2 ^ 31) (hc : c < n) (h : Q (bI (TSb n f c (MSK (fun k => !LSb ms k c) n) s))) : ∀ (d k : Nat), k + d = n → wp_X8_prefers_b5 (nI c) (nI s) (nI n) mc ms Q (d + 1) (bI (TSb k f c (MSK (fun k => !LSb ms k c) n) s)) (nI k)
  | 0, k, hk => by
    have e : k = n := by omega
    subst e
    exact br_t (nI_le (by omega) (by omega)) ⟨bI_nar _, h⟩
  | d + 1, k, hk => by
    have t := prf_loop hn hM hf hc h d (k + 1) (by omega)
    have eR : (MSK (fun k => !LSb ms k c) n).testBit k = !LSb ms k c := by rw [MSK_bit]; simp [show k < n by omega]
    have ik : vp_in (nI k) 20 := in_nI (by omega) (by decide)
    have ic : vp_in (nI c) 20 := in_nI (by omega) (by decide)
    rw [TSb_succ, eR, Bool.not_not] at t
    refine br_f (nI_ge (by omega) (by omega)) (bI_br0 (fun q => ?_) (fun q => breq (by omega) (by omega) (fun q2 => ?_) (fun q2 => ⟨ik, ic, ?_⟩)))
    · rw [q] at t
      rw [nI_1]
      exact t
    · rw [q, decide_eq_true q2] at t
      rw [nI_1]
      exact t
    · rw [q, decide_eq_false q2] at t
      have l1 := hf k (by omega)
      have l2 := hf c hc
      have l3 : f k &&& s ≤ f k := Nat.and_le_left
      have l4 : f c &&& s ≤ f c := Nat.and_le_left
      rw [nI_1, cl_nI (by omega), cl_nI (by omega), hM k (by omega), hM c hc, fa_and, fa_and, cvg]
      refine brne (by omega) (by omega) (fun q4 => ?_) (fun q4 => ⟨ik, ic, br_c (fun q5 => ?_) (fun q5 => ?_)⟩)
      · rw [decide_eq_true q4, Bool.or_true] at t
        exact t
      · rw [decide_eq_false (fun w => w q4), show LSb ms k c = false from decide_eq_false q5] at t
        exact t
      · rw [show LSb ms k c = true from decide_eq_true (Decidable.not_not.mp q5)] at t
        exact t
theorem pf8_loop {m n c : Nat} {f : Nat → Nat} {bys mc : Nat → Int32} {ms : Nat → UInt64} {Q : Int32 → Prop} (hm : m ≤ 8) (hn : n ≤ 20) (ht : I_tab bys) (hM : SOK n f mc) (hf : ∀ k, k < n → f k < 2 ^ 31) (hc : c < n) (hfull : TSb n f c (MSK (fun k => !LSb ms k c) n) (2 ^ m - 1) = true) (h : Q (nI (SM (TSb n f c (MSK (fun k => !LSb ms k c) n)) m))) :
    ∀ (d k : Nat), k + d = 256 → (∀ j, j < k → bs j < 2 ^ m → TSb n f c (MSK (fun k => !LSb ms k c) n) (bs j) = false) → wp_X8_preferenceSet_b13 (nI c) (nI m) (nI n) bys mc ms Q (d + 1) (nI k)
  | 0, k, hk, h3 => (bs_end (P := TSb n f c (MSK (fun k => !LSb ms k c) n)) hm (fun j hj => h3 j (by omega)) hfull).elim
  | d + 1, k, hk, h3 => by
    have h8 := pow8 hm
    have hb := bs_256 (k := k) (by omega)
    refine br_f (show ¬ nI 256 ≤ nI k from nI_ge (by omega) (by omega)) ⟨in_nI (by omega) (by decide), ?_⟩
    rw [cl_nI (by omega), ht k (by omega), shl1_nI (by omega), nI_1]
    have next : (bs k < 2 ^ m → TSb n f c (MSK (fun k => !LSb ms k c) n) (bs k) = false) → wp_X8_preferenceSet_b13 (nI c) (nI m) (nI n) bys mc ms Q (d + 1) (nI (k + 1)) := by
      intro w
      refine pf8_loop hm hn ht hM hf hc hfull h d (k + 1) (by omega) (fun j hj hlt => ?_)
      rcases Nat.lt_or_ge j k with g | g
      · exact h3 j g hlt
      · rw [show j = k by omega] at hlt ⊢; exact w hlt
    refine brle (by omega) (by omega) (fun q => next (fun w => absurd w (by omega))) (fun q => ⟨in_nI (by omega) (by decide), ⟨n + 1, prf_loop hn hM hf hc (bI_br0 (fun q2 => next (fun _ => q2)) (fun q2 => ⟨in_nI (by omega) (by decide), ?_⟩)) n 0 (by omega)⟩⟩)
    rw [SM_bs hm (by omega) q q2 h3 hfull]
    exact h

set_option maxHeartbeats 2000000 in
theorem pu_preferenceSet : PU_preferenceSet INV := by
  intro N S M a1 hN hI
  have hkeep := hI.keep
  obtain ⟨⟨points, count, ed, sets, scores, rated, hold⟩, ⟨scnt, codes⟩, D, X, saved, stand, ⟨height, largest, ped, layers, psets⟩, seen, depths, K⟩ := S
  obtain ⟨mm, many, mex, has, sm, smany, sex, bys, mc, ms, mpt, mlb, ty, ln, wh, tw, sc8, ss8, sp8, sl8, lay8, pl8⟩ := M
  obtain ⟨m, n, f, e, pt, lb, hc, hs, hp, hx, ht, hk, hsh⟩ := INV_mk.mp hI
  obtain ⟨⟨hm1, hm8, hn20⟩, rfl, rfl, hS, hB, hDs, hH, rfl, rfl, hM⟩ := hc
  have hf31 : ∀ k, k < n → f k < 2 ^ 31 := fun k hk => Nat.lt_trans (hB.lt hm8 hk) (by decide)
  dsimp only
  refine has_sp (by omega) ?_
  rcases inr_cases a1 n (by omega) with h | ⟨c, hc, rfl, h⟩
  · rw [h]
    refine bn_t rfl (isConcept_sp (by omega) ?_)
    rw [h]
    exact bn_t rfl ⟨rfl, hkeep⟩
  rw [h]
  refine bn_f (by decide) (others_sp (by omega) (by omega) ⟨n + 1, ?_⟩)
  have e0 : dif (2 ^ n - 1) (2 ^ c) = MSK (fun k => !decide (k = c) && !(decide (k < 0) && LSb ms k c)) n := by
    rw [others_MSK]
    exact MSK_cong (fun k _ => by simp)
  rw [e0]
  refine pf7_loop hm8 hn20 hs hS hf31 hH hc (fun st => isConcept_sp (by omega) ?_) n 0 (by omega)
  rw [h]
  have eP : SM (TQ n f c (fun k => !decide (k = c) && !(decide (k < n) && LSb ms k c))) m = SM (TSb n f c (MSK (fun k => !LSb ms k c) n)) m := SM_cong (fun y _ => TQ_TSb (fun k hk => by
    rw [MSK_bit]
    simp [hk, Bool.and_comm]) y)
  rw [eP]
  exact bn_f (by decide) ⟨257, pf8_loop hm8 hn20 ht hM hf31 hc (TSb_full hB hDs hc) ⟨rfl, hkeep⟩ 256 0 (by omega) (fun j hj => absurd hj (Nat.not_lt_zero j))⟩
