/-! scores into a slot, a class out of one, stretches -/
theorem ss7_loop {n : Nat} {x1 kt ks : Int32} {rated : Nat → Int32} {scores r0 : Nat → UInt64} {Q : Int32 → (Nat → UInt64) → Prop} (hn : n ≤ 20)
    (h : ∀ r : Nat → UInt64, (∀ i, i < n → r i = if rated i = 0 then 0 else scores i) → (∀ i, n ≤ i → r i = r0 i) → Q (nI n) r) :
    ∀ (d k : Nat) (r : Nat → UInt64), k + d = n → (∀ i, i < k → r i = if rated i = 0 then 0 else scores i) → (∀ i, k ≤ i → r i = r0 i) → wp_X7_storeScores_b56 x1 (nI n) scores rated kt ks Q (d + 1) (nI k) r
  | 0, k, r, hk, h1, h2 => by
    have e : k = n := by omega
    subst e
    exact br_t (nI_le (by omega) (by omega)) (h r h1 h2)
  | d + 1, k, r, hk, h1, h2 => by
    have i20 : vp_in (nI k) 20 := in_nI (by omega) (by decide)
    have i40 : vp_in (nI k) 40 := in_nI (by omega) (by decide)
    have next : ∀ v : UInt64, v = (if rated k = 0 then 0 else scores k) → wp_X7_storeScores_b56 x1 (nI n) scores rated kt ks Q (d + 1) (nI (k + 1)) (vf_upd r k v) := by
      intro v ev
      refine ss7_loop hn h d (k + 1) _ (by omega) (fun i hi => ?_) (fun i hi => ?_)
      · unfold vf_upd
        by_cases q : i = k
        · rw [if_pos q, q, ev]
        · rw [if_neg q]; exact h1 i (by omega)
      · unfold vf_upd
        rw [if_neg (by omega)]
        exact h2 i (by omega)
    refine br_f (nI_ge (by omega) (by omega)) ⟨i20, ?_⟩
    unfold wp_X7_storeScores_b97
    rw [cl_nI (by omega), nI_1]
    exact br_c (fun q => ⟨i40, next _ (by rw [if_pos q]; rfl)⟩) (fun q => ⟨i20, i40, next _ (by rw [if_neg q])⟩)
theorem ss8_loop {n j : Nat} {ty ln : Nat → Int32} {ms t0 : Nat → UInt64} {Q : Int32 → (Nat → UInt64) → Prop} (hn : n ≤ 20) (hj : j < 4)
    (h : ∀ t : Nat → UInt64, (∀ i, i < n → t (40 * j + i) = ms i) → (∀ p, ¬ (40 * j ≤ p ∧ p < 40 * j + n) → t p = t0 p) → Q (nI n) t) :
    ∀ (d k : Nat) (t : Nat → UInt64), k + d = n → (∀ i, i < k → t (40 * j + i) = ms i) → (∀ p, ¬ (40 * j ≤ p ∧ p < 40 * j + k) → t p = t0 p) → wp_X8_storeScores_b53 (nI j) (nI n) ms ty ln Q (d + 1) (nI k) t
  | 0, k, t, hk, h1, h2 => by
    have e : k = n := by omega
    subst e
    exact br_t (nI_le (by omega) (by omega)) (h t h1 h2)
  | d + 1, k, t, hk, h1, h2 => by
    refine br_f (nI_ge (by omega) (by omega)) ⟨in_nI (by omega) (by decide), ?_⟩
    rw [idx40, cl_nI (by omega), cl_nI (by omega), nI_1]
    refine ⟨in_nI (by omega) (by decide), ss8_loop hn hj h d (k + 1) _ (by omega) (fun i hi => ?_) (fun p hp => ?_)⟩
    · unfold vf_upd
      by_cases q : 40 * j + i = 40 * j + k
      · rw [if_pos q, show i = k by omega]
      · rw [if_neg q]; exact h1 i (by omega)
    · unfold vf_upd
      rw [if_neg (by omega)]
      exact h2 p (by omega)

set_option maxHeartbeats 2000000 in
theorem pu_storeScores : PU_storeScores INV := by
  intro N S M a1 hN hI
  have hkeep := hI.keep
  obtain ⟨⟨points, count, ed, sets, scores, rated, hold⟩, ⟨scnt, codes⟩, D, X, saved, stand, ⟨height, largest, ped, layers, psets⟩, seen, depths, K⟩ := S
  obtain ⟨mm, many, mex, has, sm, smany, sex, bys, mc, ms, mpt, mlb, ty, ln, wh, tw, sc8, ss8, sp8, sl8, lay8, pl8⟩ := M
  obtain ⟨m, n, f, e, pt, lb, hc, hs, hp, hx, ht, hk, hsh⟩ := INV_mk.mp hI
  obtain ⟨⟨hm1, hm8, hn20⟩, rfl, rfl, hS, hB, hDs, hH, rfl, rfl, hM⟩ := hc
  have hf31 : ∀ k, k < n → f k < 2 ^ 31 := fun k hk => Nat.lt_trans (hB.lt hm8 hk) (by decide)
  dsimp only
  have hsame := va_same K (slotix a1)
  refine isSlot_sp ?_
  rcases inr_cases a1 4 (by decide) with h | ⟨j, hj, rfl, h⟩
  
  · rw [h]
    refine bn_t rfl (isSlot8_sp ?_)
    rw [h]
    refine bn_t rfl ⟨rfl, ?_⟩
    rw [show ((K (slotix a1)).1, (K (slotix a1)).2.1, (K (slotix a1)).2.2.1, (K (slotix a1)).2.2.2) = K (slotix a1) from rfl, hsame]
    exact hkeep
  rw [slotix_nI hj] at hsame ⊢
  rw [h]
  have hkj := hk j hj
  have hbad : INV (N + 1) ((nI m, nI n, ed, sets, scores, rated, hold), (scnt, codes), D, X, saved, stand, (height, largest, ped, layers, psets), seen, depths, va_up K j ((K j).1, (K j).2.1, (K j).2.2.1, (K j).2.2.2)) (nI m, nI n, mex, has, sm, smany, sex, bys, mc, ms, mpt, mlb, ty, ln, wh, tw, sc8, ss8, sp8, sl8, lay8, pl8) := by
    rw [show ((K j).1, (K j).2.1, (K j).2.2.1, (K j).2.2.2) = K j from rfl, hsame]
    exact hkeep
  have ij : vp_in (nI j) 4 := in_nI (by omega) (by decide)
  refine bn_f (by decide) ⟨ij, isEmpty_sp ?_⟩
  rcases hkj with ⟨a, b, c⟩ | ⟨t, z, a, b, c, d, g, w, w1, w2⟩
  · rw [decide_eq_true a]
    refine br_f (by decide) (isSlot8_sp ?_)
    rw [h]
    refine bn_f (by decide) ⟨ij, ?_⟩
    rw [cl_nI (by omega)]
    exact bn_t c ⟨rfl, hbad⟩
  have hne : ¬ ty j = -1 := by rw [d]; exact nI_nm1 (by omega)
  rw [decide_eq_false (by rw [c]; exact nI_nm1 (by omega))]
  refine br_t rfl ?_
  by_cases q3 : t = 3
  · subst q3
    refine br_t c ?_
    rw [g] at hbad ⊢
    refine brle (by omega) (by omega) (fun q => ?_) (fun q => ?_)
    · refine ⟨n + 1, ss7_loop hn20 (fun r7 g1 g2 => isSlot8_sp ?_) n 0 _ (by omega) (fun i hi => absurd hi (Nat.not_lt_zero i)) (fun i _ => rfl)⟩
      rw [h]
      refine bn_f (by decide) ⟨ij, ?_⟩
      rw [cl_nI (by omega)]
      refine bn_f hne ⟨ij, br_t d ⟨ij, ?_⟩⟩
      rw [w]
      refine br_t (nI_le q (by omega)) ⟨n + 1, ss8_loop hn20 hj (fun t8 g3 g4 => ⟨rfl, ?_⟩) n 0 tw (by omega) (fun i hi => absurd hi (Nat.not_lt_zero i)) (fun p _ => rfl)⟩
      refine INV_mk.mpr ⟨m, n, f, e, pt, lb, ⟨⟨hm1, hm8, hn20⟩, rfl, rfl, hS, hB, hDs, hH, rfl, rfl, hM⟩, hs, hp.up, hx, ht, hk.set (fun i hi => ⟨rfl, rfl⟩) (fun p hp => ⟨rfl, g4 p (by omega)⟩) (Or.inr ⟨3, z, a, b, c, d, rfl, w, fun w3 => absurd w3 (by decide), fun _ i hi => ?_⟩), hsh⟩
      dsimp only
      rcases Nat.lt_or_ge i n with v | v
      · rw [g1 i v, g3 i v]
        rcases hs i v with ⟨s1, s2, -⟩ | ⟨s1, s2⟩
        · rw [if_neg (by rw [s1]; decide)]; exact Or.inl s2
        · rw [if_pos s1]; exact Or.inr ⟨rfl, s2⟩
      · rw [g2 i v, g4 (40 * j + i) (by omega)]
        exact w2 rfl i hi
    · refine isSlot8_sp ?_
      rw [h]
      refine bn_f (by decide) ⟨ij, ?_⟩
      rw [cl_nI (by omega)]
      refine bn_f hne ⟨ij, br_t d ⟨ij, ?_⟩⟩
      rw [w]
      exact br_f (nI_ge q (by omega)) ⟨rfl, hbad⟩
  · have n3 : ¬ nI t = (3 : Int32) := fun v => q3 ((ceq (b := 3) (by omega) (by decide)).mp v)
    refine br_f (by rw [c]; exact n3) (isSlot8_sp ?_)
    rw [h]
    refine bn_f (by decide) ⟨ij, ?_⟩
    rw [cl_nI (by omega)]
    exact bn_f hne ⟨ij, br_f (by rw [d]; exact n3) ⟨rfl, hbad⟩⟩

def LD1 (m : Nat) (x : Int32) (st : ST2) : ST2 := if inr x (2 ^ m) = true then AD1 st x.toNatClampNeg else st
def LDF (m : Nat) (g : Nat → Int32) : Nat → Nat → ST2 → ST2
  | 0, _, st => st
  | d + 1, k, st => LDF m g d (k + 1) (LD1 m (g k) st)
theorem LDF_succ (m : Nat) (g : Nat → Int32) (d k : Nat) (st : ST2) : LDF m g (d + 1) k st = LDF m g d (k + 1) (LD1 m (g k) st) := rfl
theorem LDF_full {m : Nat} {g : Nat → Int32} : ∀ (d k : Nat) (st : ST2), 20 ≤ st.1 → LDF m g d k st = st
  | 0, k, st, _ => rfl
  | d + 1, k, st, h => by
    have e : LD1 m (g k) st = st := by
      unfold LD1 AD1
      rw [if_neg (show ¬ (st.1 < 20 ∧ ∀ k_1, k_1 < st.1 → st.2 k_1 ≠ (g k).toNatClampNeg) by omega)]
      split <;> rfl
    rw [LDF_succ, e]
    exact LDF_full d (k + 1) st h
theorem ld7_loop {m z : Nat} {x1 kt sc : Int32} {kw : Nat → Int64} {kr : Nat → UInt64} {g : Nat → Int32} {f0 : Nat → Nat} {rated : Nat → Int32} {scores : Nat → UInt64} {ed0 : Int32} {Q : Int32 → Int32 → Int32 → Int32 → (Nat → Int32) → (Nat → UInt64) → (Nat → Int32) → (Nat → Int32) → Int32 → Prop} (hm : m ≤ 8) (hz : z ≤ 40) (hkt : ¬ kt = (3 : Int32)) (hg : ∀ k, k < z → (kw k).toInt32 = g k) :
    ∀ (d k : Nat) (st : ST2) (ed : Int32) (s : Nat → Int32) (c : Nat → UInt64) (r h : Nat → Int32), k + d = z → CLR m 0 f0 rated scores ed0 st ed s c r h → (∀ (ed' : Int32) (s' : Nat → Int32) (c' : Nat → UInt64) (r' h' : Nat → Int32), CLR m 0 f0 rated scores ed0 (LDF m g d k st) ed' s' c' r' h' → Q (nI (LDF m g d k st).1) (nI m) (nI (LDF m g d k st).1) ed' s' c' r' h' sc) → wp_X7_loadClass_b60 x1 kt (nI z) kw kr Q (d + 1) (nI k) (nI m) (nI st.1) ed s c r h sc
  | 0, k, st, ed, s, c, r, h, hk, hc, kk => br_t (nI_le (by omega) (by omega)) (kk ed s c r h hc)
  | d + 1, k, st, ed, s, c, r, h, hk, hc, kk => by
    have h256 := pow8 hm
    rw [LDF_succ] at kk
    refine br_f (nI_ge (by omega) (by omega)) ?_
    unfold wp_X5_get
    dsimp only
    rw [cl_nI (by omega), hg k (by omega), nI_1]
    refine bn_f hkt ⟨in_nI (by omega) (by decide), isSet_sp hm ?_⟩
    rcases inr_cases (g k) (2 ^ m) (by omega) with q | ⟨v, hv, e, q⟩
    · have e1 : LD1 m (g k) st = st := by unfold LD1; rw [q]; rfl
      rw [q]
      rw [e1] at kk
      exact br_t rfl (ld7_loop hm hz hkt hg d (k + 1) st ed s c r h (by omega) hc kk)
    · have e1 : LD1 m (g k) st = AD1 st v := by unfold LD1; rw [q, e, cl_nI (by omega)]; rfl
      rw [q]
      rw [e1] at kk
      refine br_f (by decide) ?_
      rw [e]
      exact hc.add hm hv (fun r1 ed' s' c' r' h' hc' => ld7_loop hm hz hkt hg d (k + 1) (AD1 st v) ed' s' c' r' h' (by omega) hc' kk)
theorem ld8_loop {m z j : Nat} {me : Int32} {ty ln : Nat → Int32} {wh : Nat → Int64} {g : Nat → Int32} {f0 : Nat → Nat} {ms : Nat → UInt64} {Q : Int32 → Int32 → Int32 → (Nat → Int32) → (Nat → UInt64) → Prop} (hm : m ≤ 8) (hz : z ≤ 40) (hj : j < 4) (hl : ln j = nI z) (hg : ∀ k, k < z → (wh (40 * j + k)).toInt32 = g k) :
    ∀ (d k : Nat) (st : ST2) (s : Nat → Int32) (c : Nat → UInt64), k + d = z → MLR m 0 f0 ms st s c → (∀ (s' : Nat → Int32) (c' : Nat → UInt64), MLR m 0 f0 ms (LDF m g d k st) s' c' → Q (nI (LDF m g d k st).1) (nI (LDF m g d k st).1) me s' c') → wp_X8_loadClass_b47 (nI j) (nI m) ty ln wh Q (d + 1) (nI k) (nI st.1) me s c
  | 0, k, st, s, c, hk, hc, kk => by
    unfold wp_X8_loadClass_b47 wp_X8_loadClass_b109
    rw [cl_nI (by omega), hl]
    exact ⟨in_nI (by omega) (by decide), br_t (nI_le (by omega) (by omega)) (kk s c hc)⟩
  | d + 1, k, st, s, c, hk, hc, kk => by
    have h256 := pow8 hm
    have hst := hc.1
    have h20 := hst.2.1
    unfold wp_X8_loadClass_b47 wp_X8_loadClass_b109
    rw [idx40, cl_nI (by omega), cl_nI (by omega), hl, hg k (by omega), nI_1]
    refine ⟨in_nI (by omega) (by decide), br_f (nI_ge (by omega) (by omega)) (brle (a := 20) (by decide) (by omega) (fun q => ?_) (fun q => ⟨in_nI (by omega) (by decide), isSet8_sp hm ?_⟩))⟩
    · rw [LDF_full _ _ _ q] at kk
      exact kk s c hc
    · rw [LDF_succ] at kk
      rcases inr_cases (g k) (2 ^ m) (by omega) with q2 | ⟨v, hv, e, q2⟩
      · have e1 : LD1 m (g k) st = st := by unfold LD1; rw [q2]; rfl
        rw [q2]
        rw [e1] at kk
        exact br_t rfl (ld8_loop hm hz hj hl hg d (k + 1) st s c (by omega) hc kk)
      · have e1 : LD1 m (g k) st = AD1 st v := by unfold LD1; rw [q2, e, cl_nI (by omega)]; rfl
        rw [q2]
        rw [e1] at kk
        refine br_f (by decide) ?_
        rw [e]
        refine place_sp h20 ?_
        have hfn := fnd_iff (v := v) h20 hc.2.1 (fun k hk => Nat.lt_trans (hst.2.2.1.lt hm hk) (by decide)) (by omega)
        refine bn_c (fun q3 => ?_) (fun q3 => ?_)
        · have e2 : AD1 st v = st := by unfold AD1; rw [if_neg (fun w => q3 (hfn.mpr w.2))]
          rw [e2] at kk
          exact ld8_loop hm hz hj hl hg d (k + 1) st s c (by omega) hc kk
        · obtain ⟨e2, hc'⟩ := hc.add hv q (hfn.mp q3)
          refine comes_sp q ?_
          have t := ld8_loop (me := me) (ty := ty) (Q := Q) hm hz hj hl hg d (k + 1) (AD1 st v) _ _ (by omega) hc' kk
          rw [e2] at t
          exact t

set_option maxHeartbeats 2000000 in
theorem pu_loadClass : PU_loadClass INV := by
  intro N S M a1 hN hI
  have hkeep := hI.keep
  obtain ⟨⟨points, count, ed, sets, scores, rated, hold⟩, ⟨scnt, codes⟩, D, X, saved, stand, ⟨height, largest, ped, layers, psets⟩, seen, depths, K⟩ := S
  obtain ⟨mm, many, mex, has, sm, smany, sex, bys, mc, ms, mpt, mlb, ty, ln, wh, tw, sc8, ss8, sp8, sl8, lay8, pl8⟩ := M
  obtain ⟨m, n, f, e, pt, lb, hc, hs, hp, hx, ht, hk, hsh⟩ := INV_mk.mp hI
  obtain ⟨⟨hm1, hm8, hn20⟩, rfl, rfl, hS, hB, hDs, hH, rfl, rfl, hM⟩ := hc
  have hf31 : ∀ k, k < n → f k < 2 ^ 31 := fun k hk => Nat.lt_trans (hB.lt hm8 hk) (by decide)
  dsimp only
  refine isSlot_sp ?_
  rcases inr_cases a1 4 (by decide) with h | ⟨j, hj, rfl, h⟩
  · rw [h]
    refine bn_t rfl (isSlot8_sp ?_)
    rw [h]
    exact bn_t rfl ⟨rfl, hkeep⟩
  rw [slotix_nI hj, h]
  have hkj := hk j hj
  have ij : vp_in (nI j) 4 := in_nI (by omega) (by decide)
  refine bn_f (by decide) ⟨ij, isEmpty_sp ?_⟩
  rcases hkj with ⟨a, b, c⟩ | ⟨t, z, a, b, c, d, g, w, w1, w2⟩
  · rw [decide_eq_true a]
    refine br_f (by decide) (isSlot8_sp ?_)
    rw [h]
    refine bn_f (by decide) ⟨ij, ?_⟩
    rw [cl_nI (by omega)]
    exact bn_t c ⟨rfl, hkeep⟩
  have hne : ¬ ty j = -1 := by rw [d]; exact nI_nm1 (by omega)
  rw [decide_eq_false (by rw [c]; exact nI_nm1 (by omega))]
  refine br_t rfl ?_
  by_cases q3 : t = 1
  · subst q3
    refine br_t c ?_
    rw [g]
    refine begin_sp (m0 := 0) hm8 (fun h7 g7 => ⟨z + 1, ?_⟩)
    have c0 : CLR m 0 (fun _ => 0) rated scores (ed + 1) (0, fun _ => 0) (ed + 1) sets scores rated h7 := ⟨⟨Nat.le_refl 0, by decide, fun k hk => absurd hk (Nat.not_lt_zero k), fun i j hi => absurd hi (Nat.not_lt_zero i), fun _ => rfl⟩, fun k hk => absurd hk (Nat.not_lt_zero k), g7, fun k hk => absurd hk (Nat.not_lt_zero k), fun k _ hk => absurd hk (Nat.not_lt_zero k), (Int32.add_zero _).symm⟩
    have c8 : MLR m 0 (fun _ => 0) ms (0, fun _ => 0) mc ms := ⟨⟨Nat.le_refl 0, by decide, fun k hk => absurd hk (Nat.not_lt_zero k), fun i j hi => absurd hi (Nat.not_lt_zero i), fun _ => rfl⟩, fun k hk => absurd hk (Nat.not_lt_zero k), fun k hk => absurd hk (Nat.not_lt_zero k), fun k _ hk => absurd hk (Nat.not_lt_zero k)⟩
    refine ld7_loop (g := fun k => (wh (40 * j + k)).toInt32) hm8 b (by rw [c]; decide) (fun k hk => by rw [w1 (by decide) k hk]) z 0 (0, fun _ => 0) (ed + 1) sets scores rated h7 (by omega) c0 (fun ed' s' c' r' h' hc => isSlot8_sp ?_)
    rw [h]
    refine bn_f (by decide) ⟨ij, ?_⟩
    rw [cl_nI (by omega)]
    refine bn_f hne ⟨ij, br_t d ⟨z + 1, ?_⟩⟩
    refine ld8_loop (g := fun k => (wh (40 * j + k)).toInt32) hm8 b hj w (fun k hk => rfl) z 0 (0, fun _ => 0) mc ms (by omega) c8 (fun s8 z8 h8 => ⟨rfl, ?_⟩)
    generalize LDF m (fun k => (wh (40 * j + k)).toInt32) z 0 (0, fun _ => 0) = st at hc h8 ⊢
    obtain ⟨n2, f2⟩ := st
    obtain ⟨⟨k1, k2, k3, k4, k5⟩, g1, g2, g3, g4, g5⟩ := hc
    obtain ⟨-, p1, p2, p3⟩ := h8
    dsimp only at k1 k2 k3 k4 k5 g1 g2 g4 g5 p1 p3
    refine INV_mk.mpr ⟨m, n2, f2, 0, pt, lb, ⟨⟨hm1, hm8, k2⟩, rfl, rfl, g1, k3, k4, g2, rfl, rfl, p1⟩, fun i hi => Or.inr ⟨g4 i (Nat.zero_le i) hi, p3 i (Nat.zero_le i) hi⟩, hp.new (1 + n2) (by omega) (by omega) ?_, I_smp.none, ht, hk, hsh⟩
    rw [g5, Nat.sub_zero, Int32.add_assoc, ← nI_add]
    rfl
  · have n3 : ¬ nI t = (1 : Int32) := fun v => q3 ((ceq (b := 1) (by omega) (by decide)).mp v)
    refine br_f (by rw [c]; exact n3) (isSlot8_sp ?_)
    rw [h]
    refine bn_f (by decide) ⟨ij, ?_⟩
    rw [cl_nI (by omega)]
    exact bn_f hne ⟨ij, br_f (by rw [d]; exact n3) ⟨rfl, hkeep⟩⟩
