/-! the array slots -/
theorem slotix_nI {j : Nat} (h : j < 4) : slotix (nI j) = j := by
  unfold slotix
  rw [if_pos ⟨nI_pos' (by omega), (clt (b := 4) (by omega) (by decide)).mpr h⟩]
  exact cl_nI (by omega)
theorem va_same {α : Type} (K : Nat → α) (j : Nat) : va_up K j (K j) = K := by
  funext i
  unfold va_up
  by_cases h : i = j
  · rw [if_pos h, h]
  · rw [if_neg h]
theorem idx40 (j k : Nat) : (40 : Int32) * nI j + nI k = nI (40 * j + k) := by
  have e : (40 : Int32) * nI j = nI (40 * j) := pk_mul 40 j
  rw [e, nI_add]
theorem I_slt.set {K : Nat → KSt} {ty ln ty' ln' : Nat → Int32} {wh wh' : Nat → Int64} {tw tw' : Nat → UInt64} {j : Nat} {v : KSt} (h : I_slt K ty ln wh tw) (h1 : ∀ i, i ≠ j → ty' i = ty i ∧ ln' i = ln i) (h2 : ∀ p, ¬ (40 * j ≤ p ∧ p < 40 * j + 40) → wh' p = wh p ∧ tw' p = tw p) (hv : KOK j v ty' ln' wh' tw') : I_slt (va_up K j v) ty' ln' wh' tw' := by
  intro i hi
  unfold va_up
  by_cases q : i = j
  · rw [if_pos q, q]; exact hv
  · rw [if_neg q]
    obtain ⟨e1, e2⟩ := h1 i q
    rcases h i hi with ⟨a, b, c⟩ | ⟨t, z, a, b, c, d, e, g, w1, w2⟩
    · exact Or.inl ⟨a, b, by rw [e1]; exact c⟩
    · refine Or.inr ⟨t, z, a, b, c, by rw [e1]; exact d, e, by rw [e2]; exact g, fun w k hk => ?_, fun w k hk => ?_⟩
      · rw [(h2 (40 * i + k) (by omega)).1]; exact w1 w k hk
      · rw [(h2 (40 * i + k) (by omega)).2]; exact w2 w k hk
theorem four_br {x : Int32} {A B : Prop} (hb : inr x 4 = false → B) (ha : inr x 4 = true → A) : ((x < 0) → B) ∧ ((¬ x < 0) → (((3 : Int32) < x) → B) ∧ ((¬ (3 : Int32) < x) → A)) := by
  have e1 : (3 : Int32).toInt = 3 := by decide
  unfold inr at hb ha
  simp only [Int32.lt_iff_toInt_lt, toInt0, e1]
  refine ⟨fun h1 => hb (decide_eq_false (by omega)), fun h1 => ⟨fun h2 => hb (decide_eq_false (by omega)), fun h2 => ha (decide_eq_true (by omega))⟩⟩
theorem four8_sp {x : Int32} {Q : Int32 → Prop} (h : Q (bI (inr x 4))) : wp_X8_in x.toInt64 (0 : Int64) (3 : Int64) Q := by
  refine in0_sp (k := 4) ?_ h
  rw [l3]; rfl
theorem al8_loop {j : Nat} {x2 x3 : Int32} {ty ln : Nat → Int32} {w0 : Nat → Int64} {t0 : Nat → UInt64} {Q : Int32 → (Nat → Int32) → (Nat → Int32) → (Nat → Int64) → (Nat → UInt64) → Prop} (hj : j < 4)
    (h : ∀ (w : Nat → Int64) (t : Nat → UInt64), (∀ i, i < 40 → w (40 * j + i) = 0 ∧ t (40 * j + i) = 0) → (∀ p, ¬ (40 * j ≤ p ∧ p < 40 * j + 40) → w p = w0 p ∧ t p = t0 p) → Q x3 ty ln w t) :
    ∀ (d k : Nat) (w : Nat → Int64) (t : Nat → UInt64), k + d = 40 → (∀ i, i < k → w (40 * j + i) = 0 ∧ t (40 * j + i) = 0) → (∀ p, ¬ (40 * j ≤ p ∧ p < 40 * j + 40) → w p = w0 p ∧ t p = t0 p) → wp_X8_allocate_b51 (nI j) x2 x3 Q (d + 1) (nI k) ty ln w t
  | 0, k, w, t, hk, h1, h2 => br_t (show nI 40 ≤ nI k from nI_le (by omega) (by omega)) (h w t (fun i hi => h1 i (by omega)) h2)
  | d + 1, k, w, t, hk, h1, h2 => by
    refine br_f (show ¬ nI 40 ≤ nI k from nI_ge (by omega) (by omega)) ?_
    rw [idx40, cl_nI (by omega), nI_1]
    refine ⟨in_nI (by omega) (by decide), in_nI (by omega) (by decide), al8_loop hj h d (k + 1) _ _ (by omega) (fun i hi => ?_) (fun p hp => ?_)⟩
    · unfold vp_updL vf_upd
      by_cases q : 40 * j + i = 40 * j + k
      · rw [if_pos q, if_pos q]; exact ⟨rfl, rfl⟩
      · rw [if_neg q, if_neg q]; exact h1 i (by omega)
    · unfold vp_updL vf_upd
      rw [if_neg (by omega), if_neg (by omega)]
      exact h2 p hp
theorem isEmpty_sp {x : Int32} {Q : Int32 → Prop} (h : Q (bI (decide (x = -1)))) : wp_X5_isEmpty x Q := by
  refine bn_c (fun q => ?_) (fun q => ?_)
  · rw [decide_eq_false q] at h; exact h
  · rw [decide_eq_true q] at h; exact h
theorem nI_nm1 {k : Nat} (h : k < 2 ^ 31) : nI k ≠ -1 := by
  intro e
  have := congrArg Int32.toInt e
  rw [nI_toInt h] at this
  have e6 : (-1 : Int32).toInt = -1 := by decide
  omega
theorem hasIndex_sp {x : Int32} {z : Nat} {Q : Int32 → Prop} (hz : z < 2 ^ 31) (h : Q (bI (inr x z))) : wp_X5_hasIndex x (nI z) Q := inr_br hz h
theorem isPlace_sp {x : Int32} {j z : Nat} {ln : Nat → Int32} {Q : Int32 → Prop} (hj : j < 4) (hz : z < 2 ^ 30) (hl : ln j = nI z) (h : Q (bI (inr x z))) : wp_X8_isPlace (nI j) x ln Q := by
  unfold wp_X8_isPlace
  rw [cl_nI (by omega), hl]
  exact ⟨in_nI (by omega) (by decide), point8_sp hz ⟨bI_nar _, h⟩⟩
theorem inr0 (x : Int32) : inr x 0 = false := decide_eq_false (by omega)

set_option maxHeartbeats 2000000 in
theorem pu_allocate : PU_allocate INV := by
  intro N S M a1 a2 a3 hN hI
  have hkeep := hI.keep
  obtain ⟨⟨points, count, ed, sets, scores, rated, hold⟩, ⟨scnt, codes⟩, D, X, saved, stand, ⟨height, largest, ped, layers, psets⟩, seen, depths, K⟩ := S
  obtain ⟨mm, many, mex, has, sm, smany, sex, bys, mc, ms, mpt, mlb, ty, ln, wh, tw, sc8, ss8, sp8, sl8, lay8, pl8⟩ := M
  obtain ⟨m, n, f, e, pt, lb, hc, hs, hp, hx, ht, hk, hsh⟩ := INV_mk.mp hI
  obtain ⟨⟨hm1, hm8, hn20⟩, rfl, rfl, hS, hB, hDs, hH, rfl, rfl, hM⟩ := hc
  have hf31 : ∀ k, k < n → f k < 2 ^ 31 := fun k hk => Nat.lt_trans (hB.lt hm8 hk) (by decide)
  dsimp only
  have hsame := va_same K (slotix a1)
  refine isSlot_sp ?_
  rcases inr_cases a1 4 (by decide) with h | ⟨j, hj, rfl, h⟩
  
  · rw [h]
    refine br_t rfl (isSlot8_sp ?_)
    rw [h]
    refine br_t rfl ⟨rfl, ?_⟩
    rw [show ((K (slotix a1)).1, (K (slotix a1)).2.1, (K (slotix a1)).2.2.1, (K (slotix a1)).2.2.2) = K (slotix a1) from rfl, hsame]
    exact hkeep
  rw [slotix_nI hj] at hsame ⊢
  rw [h]
  have bad : ∀ {r : Int32} {Q : Int32 → (Nat → Int32) → (Nat → Int32) → (Nat → Int64) → (Nat → UInt64) → Prop}, (¬ (inr a2 4 = true ∧ a3 ≤ 40 ∧ 0 ≤ a3) → Q (if inr a2 4 = true ∧ a3 ≤ 40 then -14 else -1) ty ln wh tw) → ¬ (inr a2 4 = true ∧ a3 ≤ 40 ∧ 0 ≤ a3) → wp_X8_allocate (nI j) a2 a3 ty ln wh tw Q := by
    intro r Q hq hn
    have hq := hq hn
    refine isSlot8_sp ?_
    rw [h]
    refine br_f (by decide) (four8_sp ?_)
    cases h2 : inr a2 4
    · rw [if_neg (fun w => by rw [h2] at w; cases w.1)] at hq
      exact br_t rfl hq
    · refine br_f (by decide) (br_c (fun h3 => br_c (fun h4 => absurd ⟨h2, h3, h4⟩ hn) (fun h4 => ?_)) (fun h3 => ?_))
      · rw [if_pos ⟨h2, h3⟩] at hq; exact hq
      · rw [if_neg (fun w => h3 w.2)] at hq; exact hq
  have fin : ∀ r : Int32, r = (if inr a2 4 = true ∧ a3 ≤ 40 then -14 else -1) → ¬ (inr a2 4 = true ∧ a3 ≤ 40 ∧ 0 ≤ a3) → wp_X8_allocate (nI j) a2 a3 ty ln wh tw (fun (r8 : Int32) (nm_type nm_length : Nat → Int32) (nm_whole : Nat → Int64) (nm_twofold : Nat → UInt64) => r = r8 ∧ INV (N + 1) ((nI m, nI n, ed, sets, scores, rated, hold), (scnt, codes), D, X, saved, stand, (height, largest, ped, layers, psets), seen, depths, va_up K j ((K j).1, (K j).2.1, (K j).2.2.1, (K j).2.2.2)) (nI m, nI n, mex, has, sm, smany, sex, bys, mc, ms, mpt, mlb, nm_type, nm_length, nm_whole, nm_twofold, sc8, ss8, sp8, sl8, lay8, pl8)) := by
    intro r er hn
    refine bad (r := 0) (fun _ => ⟨er, ?_⟩) hn
    rw [show ((K j).1, (K j).2.1, (K j).2.2.1, (K j).2.2.2) = K j from rfl, hsame]
    exact hkeep
  refine br_f (by decide) (four_br (fun h2 => fin _ (by rw [if_neg (fun w => by rw [h2] at w; cases w.1)]) (fun w => by rw [h2] at w; cases w.1)) (fun h2 => br_c (fun h3 => br_c (fun h4 => ⟨in_nI (by omega) (by decide), ?_⟩) (fun h4 => fin _ (by rw [if_pos ⟨h2, h3⟩]) (fun w => h4 w.2.2))) (fun h3 => fin _ (by rw [if_neg (fun w => h3 w.2)]) (fun w => h3 w.2.1))))
  obtain ⟨z, hz, rfl⟩ := nn_nI (x := a3) (fun w => by rw [Int32.lt_iff_toInt_lt] at w; rw [Int32.le_iff_toInt_le] at h4; omega)
  have hz40 : z ≤ 40 := (cle (b := 40) hz (by decide)).mp h3
  rcases inr_cases a2 4 (by decide) with q | ⟨t, ht4, rfl, -⟩
  · rw [h2] at q; cases q
  refine fillL_sp (by decide) (fun w7 e7 => fillD_sp (by decide) (fun r7 d7 => isSlot8_sp ?_))
  rw [h]
  refine br_f (by decide) (four8_sp ?_)
  rw [h2]
  refine br_f (by decide) (br_t h3 (br_t h4 ⟨in_nI (by omega) (by decide), in_nI (by omega) (by decide), ⟨41, ?_⟩⟩))
  rw [cl_nI (by omega)]
  refine al8_loop hj (fun w8 t8 g1 g2 => ⟨rfl, ?_⟩) 40 0 wh tw (by omega) (fun i hi => absurd hi (Nat.not_lt_zero i)) (fun p _ => ⟨rfl, rfl⟩)
  refine INV_mk.mpr ⟨m, n, f, e, pt, lb, ⟨⟨hm1, hm8, hn20⟩, rfl, rfl, hS, hB, hDs, hH, rfl, rfl, hM⟩, hs, hp.up, hx, ht, hk.set (fun i hi => ⟨upd_other _ _ hi, upd_other _ _ hi⟩) g2 (Or.inr ⟨t, z, ht4, hz40, rfl, upd_self _ _ _, rfl, upd_self _ _ _, fun _ i hi => ?_, fun _ i hi => ?_⟩), hsh⟩
  · dsimp only
    rw [e7 i, if_pos (by omega), (g1 i (by omega)).1]
  · dsimp only
    rw [d7 i, if_pos (by omega), (g1 i (by omega)).2]
    exact Or.inl rfl

set_option maxHeartbeats 2000000 in
theorem pu_release : PU_release INV := by
  intro N S M a1 hN hI
  have hkeep := hI.keep
  obtain ⟨⟨points, count, ed, sets, scores, rated, hold⟩, ⟨scnt, codes⟩, D, X, saved, stand, ⟨height, largest, ped, layers, psets⟩, seen, depths, K⟩ := S
  obtain ⟨mm, many, mex, has, sm, smany, sex, bys, mc, ms, mpt, mlb, ty, ln, wh, tw, sc8, ss8, sp8, sl8, lay8, pl8⟩ := M
  obtain ⟨m, n, f, e, pt, lb, hc, hs, hp, hx, ht, hk, hsh⟩ := INV_mk.mp hI
  obtain ⟨⟨hm1, hm8, hn20⟩, rfl, rfl, hS, hB, hDs, hH, rfl, rfl, hM⟩ := hc
  have hf31 : ∀ k, k < n → f k < 2 ^ 31 := fun k hk => Nat.lt_trans (hB.lt hm8 hk) (by decide)
  dsimp only
  have hsame := va_same K (slotix a1)
  refine isSlot_sp ?_
  rcases inr_cases a1 4 (by decide) with h | ⟨j, hj, rfl, h⟩
  
  · rw [h]
    refine bn_t rfl (isSlot8_sp ?_)
    rw [h]
    refine bn_t rfl ⟨rfl, ?_⟩
    rw [show ((K (slotix a1)).1, (K (slotix a1)).2.1, (K (slotix a1)).2.2.1, (K (slotix a1)).2.2.2) = K (slotix a1) from rfl, hsame]
    exact hkeep
  rw [slotix_nI hj]
  rw [h]
  have fin : ∀ (b : Bool) (w7 : Nat → Int64) (r7 : Nat → UInt64), (b = false ↔ ty j = -1) → wp_X8_release (nI j) ty (fun (r8 : Int32) (nm_type : Nat → Int32) => bI b = r8 ∧ INV (N + 1) ((nI m, nI n, ed, sets, scores, rated, hold), (scnt, codes), D, X, saved, stand, (height, largest, ped, layers, psets), seen, depths, va_up K j (-1, 0, w7, r7)) (nI m, nI n, mex, has, sm, smany, sex, bys, mc, ms, mpt, mlb, nm_type, ln, wh, tw, sc8, ss8, sp8, sl8, lay8, pl8)) := by
    intro b w7 r7 hb
    have hi : INV (N + 1) ((nI m, nI n, ed, sets, scores, rated, hold), (scnt, codes), D, X, saved, stand, (height, largest, ped, layers, psets), seen, depths, va_up K j (-1, 0, w7, r7)) (nI m, nI n, mex, has, sm, smany, sex, bys, mc, ms, mpt, mlb, upd ty j (-1), ln, wh, tw, sc8, ss8, sp8, sl8, lay8, pl8) := INV_mk.mpr ⟨m, n, f, e, pt, lb, ⟨⟨hm1, hm8, hn20⟩, rfl, rfl, hS, hB, hDs, hH, rfl, rfl, hM⟩, hs, hp.up, hx, ht, hk.set (fun i hi => ⟨upd_other _ _ hi, rfl⟩) (fun p _ => ⟨rfl, rfl⟩) (Or.inl ⟨rfl, rfl, upd_self _ _ _⟩), hsh⟩
    refine isSlot8_sp ?_
    rw [h]
    refine bn_f (by decide) ⟨in_nI (by omega) (by decide), ?_⟩
    unfold wp_X8_release_b24
    rw [cl_nI (by omega)]
    refine bn_c (fun q => ⟨in_nI (by omega) (by decide), ?_, hi⟩) (fun q => ⟨in_nI (by omega) (by decide), ?_, hi⟩)
    · cases b
      · exact absurd (hb.mp rfl) q
      · rfl
    · cases b
      · rfl
      · exact absurd (hb.mpr q) (by decide)
  refine bn_f (by decide) ⟨in_nI (by omega) (by decide), isEmpty_sp ?_⟩
  have hkj := hk j hj
  refine bI_br1 (fun q => ?_) (fun q => ?_)
  · have q := of_decide_eq_true q
    refine ⟨in_nI (by omega) (by decide), fillL_sp (by decide) (fun w7 e7 => fillD_sp (by decide) (fun r7 d7 => br_t rfl (fin false w7 r7 ⟨fun _ => ?_, fun _ => rfl⟩)))⟩
    rcases hkj with ⟨-, -, c⟩ | ⟨t, z, a, b, c, d, -⟩
    · exact c
    · exact absurd (c.symm.trans q) (nI_nm1 (by omega))
  · have q := of_decide_eq_false q
    refine ⟨in_nI (by omega) (by decide), fillL_sp (by decide) (fun w7 e7 => fillD_sp (by decide) (fun r7 d7 => br_f (by decide) (fin true w7 r7 ⟨fun w => absurd w (by decide), fun w => ?_⟩)))⟩
    rcases hkj with ⟨a, -, -⟩ | ⟨t, z, a, b, c, d, -⟩
    · exact absurd a q
    · exact absurd (d.symm.trans w) (nI_nm1 (by omega))

set_option maxHeartbeats 2000000 in
theorem pu_element : PU_element INV := by
  intro N S M a1 a2 hN hI
  have hkeep := hI.keep
  obtain ⟨⟨points, count, ed, sets, scores, rated, hold⟩, ⟨scnt, codes⟩, D, X, saved, stand, ⟨height, largest, ped, layers, psets⟩, seen, depths, K⟩ := S
  obtain ⟨mm, many, mex, has, sm, smany, sex, bys, mc, ms, mpt, mlb, ty, ln, wh, tw, sc8, ss8, sp8, sl8, lay8, pl8⟩ := M
  obtain ⟨m, n, f, e, pt, lb, hc, hs, hp, hx, ht, hk, hsh⟩ := INV_mk.mp hI
  obtain ⟨⟨hm1, hm8, hn20⟩, rfl, rfl, hS, hB, hDs, hH, rfl, rfl, hM⟩ := hc
  have hf31 : ∀ k, k < n → f k < 2 ^ 31 := fun k hk => Nat.lt_trans (hB.lt hm8 hk) (by decide)
  dsimp only
  refine isSlot_sp ?_
  rcases inr_cases a1 4 (by decide) with h | ⟨j, hj, rfl, h⟩
  · rw [h]
    refine br_t rfl (isSlot8_sp ?_)
    rw [h]
    exact br_t rfl ⟨rfl, hkeep⟩
  rw [slotix_nI hj, h]
  have hkj := hk j hj
  generalize K j = kj at hkj ⊢
  obtain ⟨kt, kz, kw, kr⟩ := kj
  refine br_f (by decide) ⟨in_nI (by omega) (by decide), ?_⟩
  rcases hkj with ⟨a, b, c⟩ | ⟨t, z, a, b, c, d, g, w, w1, w2⟩
  · dsimp only at a b ⊢
    subst b
    refine hasIndex_sp (z := 0) (by decide) ?_
    rw [inr0]
    refine bn_t rfl (isSlot8_sp ?_)
    rw [h]
    refine br_f (by decide) ⟨in_nI (by omega) (by decide), ?_⟩
    rw [cl_nI (by omega)]
    exact br_t c ⟨rfl, hkeep⟩
  · dsimp only at c g w1 w2 ⊢
    subst c g
    have hne : ¬ ty j = -1 := by rw [d]; exact nI_nm1 (by omega)
    refine hasIndex_sp (by omega) ?_
    rcases inr_cases a2 z (by omega) with h2 | ⟨i, hi, rfl, h2⟩
    · rw [h2]
      refine bn_t rfl (isSlot8_sp ?_)
      rw [h]
      refine br_f (by decide) ⟨in_nI (by omega) (by decide), ?_⟩
      rw [cl_nI (by omega)]
      refine br_f hne (isPlace_sp hj (by omega) w ?_)
      rw [h2]
      exact bn_t rfl ⟨rfl, hkeep⟩
    · rw [h2]
      have fin : ∀ r : Int64, (t = 3 → r = FP.d2l (tw (40 * j + i))) → (t < 3 → r = wh (40 * j + i)) → wp_X8_element (nI j) (nI i) ty ln wh tw (fun (r8 : Int64) => r = r8 ∧ INV (N + 1) ((nI m, nI n, ed, sets, scores, rated, hold), (scnt, codes), D, X, saved, stand, (height, largest, ped, layers, psets), seen, depths, K) (nI m, nI n, mex, has, sm, smany, sex, bys, mc, ms, mpt, mlb, ty, ln, wh, tw, sc8, ss8, sp8, sl8, lay8, pl8)) := by
        intro r r1 r2
        refine isSlot8_sp ?_
        rw [h]
        refine br_f (by decide) ⟨in_nI (by omega) (by decide), ?_⟩
        rw [cl_nI (by omega)]
        refine br_f hne (isPlace_sp hj (by omega) w ?_)
        rw [h2]
        refine bn_f (by decide) ⟨in_nI (by omega) (by decide), ?_⟩
        rw [idx40, cl_nI (by omega), d]
        exact brle (a := 3) (by decide) (by omega) (fun q => ⟨in_nI (by omega) (by decide), r1 (by omega), hkeep⟩) (fun q => ⟨in_nI (by omega) (by decide), r2 (by omega), hkeep⟩)
      refine bn_f (by decide) ⟨in_nI (by omega) (by decide), ?_⟩
      unfold wp_X5_get
      rw [cl_nI (by omega)]
      refine brne (b := 3) (by omega) (by decide) (fun q => ⟨in_nI (by omega) (by decide), fin _ (fun q2 => absurd q2 q) (fun _ => w1 (by omega) i hi)⟩) (fun q => ⟨in_nI (by omega) (by decide), fin _ (fun _ => VR_d2l (w2 q i hi)) (fun q2 => absurd q2 (by omega))⟩)

set_option maxHeartbeats 2000000 in
theorem pu_putElement : PU_putElement INV := by
  intro N S M a1 a2 a3 hN hI
  have hkeep := hI.keep
  obtain ⟨⟨points, count, ed, sets, scores, rated, hold⟩, ⟨scnt, codes⟩, D, X, saved, stand, ⟨height, largest, ped, layers, psets⟩, seen, depths, K⟩ := S
  obtain ⟨mm, many, mex, has, sm, smany, sex, bys, mc, ms, mpt, mlb, ty, ln, wh, tw, sc8, ss8, sp8, sl8, lay8, pl8⟩ := M
  obtain ⟨m, n, f, e, pt, lb, hc, hs, hp, hx, ht, hk, hsh⟩ := INV_mk.mp hI
  obtain ⟨⟨hm1, hm8, hn20⟩, rfl, rfl, hS, hB, hDs, hH, rfl, rfl, hM⟩ := hc
  have hf31 : ∀ k, k < n → f k < 2 ^ 31 := fun k hk => Nat.lt_trans (hB.lt hm8 hk) (by decide)
  dsimp only
  have hsame := va_same K (slotix a1)
  refine isSlot_sp ?_
  rcases inr_cases a1 4 (by decide) with h | ⟨j, hj, rfl, h⟩
  
  · rw [h]
    refine bn_t rfl (isSlot8_sp ?_)
    rw [h]
    refine bn_t rfl ⟨rfl, ?_⟩
    rw [show ((K (slotix a1)).1, (K (slotix a1)).2.1, (K (slotix a1)).2.2.1, (K (slotix a1)).2.2.2) = K (slotix a1) from rfl, hsame]
    exact hkeep
  rw [slotix_nI hj] at hsame ⊢
  rw [h]
  have hkj := hk j hj
  have hbad : INV (N + 1) ((nI m, nI n, ed, sets, scores, rated, hold), (scnt, codes), D, X, saved, stand, (height, largest, ped, layers, psets), seen, depths, va_up K j ((K j).1, (K j).2.1, (K j).2.2.1, (K j).2.2.2)) (nI m, nI n, mex, has, sm, smany, sex, bys, mc, ms, mpt, mlb, ty, ln, wh, tw, sc8, ss8, sp8, sl8, lay8, pl8) := by
    rw [show ((K j).1, (K j).2.1, (K j).2.2.1, (K j).2.2.2) = K j from rfl, hsame]
    exact hkeep
  refine bn_f (by decide) ⟨in_nI (by omega) (by decide), isEmpty_sp ?_⟩
  rcases hkj with ⟨a, b, c⟩ | ⟨t, z, a, b, c, d, g, w, w1, w2⟩
  · rw [decide_eq_true a]
    refine br_f (by decide) (isSlot8_sp ?_)
    rw [h]
    refine bn_f (by decide) ⟨in_nI (by omega) (by decide), ?_⟩
    rw [cl_nI (by omega)]
    exact bn_t c ⟨rfl, hbad⟩
  · have hne : ¬ ty j = -1 := by rw [d]; exact nI_nm1 (by omega)
    rw [decide_eq_false (by rw [c]; exact nI_nm1 (by omega))]
    refine br_t rfl ⟨in_nI (by omega) (by decide), ?_⟩
    rw [g] at hbad ⊢
    refine hasIndex_sp (by omega) ?_
    rcases inr_cases a2 z (by omega) with h2 | ⟨i, hi, rfl, h2⟩
    · rw [h2]
      refine bn_t rfl (isSlot8_sp ?_)
      rw [h]
      refine bn_f (by decide) ⟨in_nI (by omega) (by decide), ?_⟩
      rw [cl_nI (by omega)]
      refine bn_f hne (isPlace_sp hj (by omega) w ?_)
      rw [h2]
      exact bn_t rfl ⟨rfl, hbad⟩
    · rw [h2]
      have fin : ∀ (w7 : Nat → Int64) (r7 : Nat → UInt64) (v : Int64), (t = 0 → v = ((a3.toInt32).toInt8.toInt32).toInt64) → (t = 1 → v = ((a3.toInt32).toInt16.toInt32).toInt64) → (1 < t → v = a3) → (t < 3 → w7 = vp_updL (K j).2.2.1 i v) → (t = 3 → r7 = vf_upd (K j).2.2.2 i (FP.l2d a3)) → wp_X8_putElement (nI j) (nI i) a3 ty ln wh tw (fun (r8 : Int32) (nm_whole : Nat → Int64) (nm_twofold : Nat → UInt64) => (1 : Int32) = r8 ∧ INV (N + 1) ((nI m, nI n, ed, sets, scores, rated, hold), (scnt, codes), D, X, saved, stand, (height, largest, ped, layers, psets), seen, depths, va_up K j ((K j).1, nI z, w7, r7)) (nI m, nI n, mex, has, sm, smany, sex, bys, mc, ms, mpt, mlb, ty, ln, nm_whole, nm_twofold, sc8, ss8, sp8, sl8, lay8, pl8)) := by
        intro w7 r7 v v0 v1 v2 hw hr
        have hi2 : INV (N + 1) ((nI m, nI n, ed, sets, scores, rated, hold), (scnt, codes), D, X, saved, stand, (height, largest, ped, layers, psets), seen, depths, va_up K j ((K j).1, nI z, w7, r7)) (nI m, nI n, mex, has, sm, smany, sex, bys, mc, ms, mpt, mlb, ty, ln, vp_updL wh (40 * j + i) v, vf_upd tw (40 * j + i) (FP.l2d a3), sc8, ss8, sp8, sl8, lay8, pl8) := by
          refine INV_mk.mpr ⟨m, n, f, e, pt, lb, ⟨⟨hm1, hm8, hn20⟩, rfl, rfl, hS, hB, hDs, hH, rfl, rfl, hM⟩, hs, hp.up, hx, ht, hk.set (fun i hi => ⟨rfl, rfl⟩) (fun p hp => ?_) (Or.inr ⟨t, z, a, b, c, d, rfl, w, fun q i2 hi2 => ?_, fun q i2 hi2 => ?_⟩), hsh⟩
          · unfold vp_updL vf_upd
            rw [if_neg (by omega), if_neg (by omega)]
            exact ⟨rfl, rfl⟩
          · dsimp only
            rw [hw q]
            unfold vp_updL
            by_cases q3 : i2 = i
            · rw [if_pos q3, if_pos (by omega)]
            · rw [if_neg q3, if_neg (by omega)]; exact w1 q i2 hi2
          · dsimp only
            rw [hr q]
            unfold vf_upd
            by_cases q3 : i2 = i
            · rw [if_pos q3, if_pos (by omega)]; exact Or.inl rfl
            · rw [if_neg q3, if_neg (by omega)]; exact w2 q i2 hi2
        refine isSlot8_sp ?_
        rw [h]
        refine bn_f (by decide) ⟨in_nI (by omega) (by decide), ?_⟩
        rw [cl_nI (by omega)]
        refine bn_f hne (isPlace_sp hj (by omega) w ?_)
        rw [h2]
        refine bn_f (by decide) ⟨in_nI (by omega) (by decide), ?_⟩
        unfold wp_X8_putElement_b82
        rw [idx40, cl_nI (by omega), d]
        have i160 : vp_in (nI (40 * j + i)) 160 := in_nI (by omega) (by decide)
        refine brne (b := 0) (by omega) (by decide) (fun q => ⟨in_nI (by omega) (by decide), brne (b := 1) (by omega) (by decide) (fun q2 => ⟨i160, i160, rfl, ?_⟩) (fun q2 => ⟨i160, i160, rfl, ?_⟩)⟩) (fun q => ⟨i160, i160, rfl, ?_⟩)
        · rw [v2 (by omega)] at hi2; exact hi2
        · rw [v1 q2] at hi2; exact hi2
        · rw [v0 q] at hi2; exact hi2
      refine bn_f (by decide) ⟨in_nI (by omega) (by decide), ?_⟩
      unfold wp_X5_put
      rw [cl_nI (by omega), c]
      have i40 : vp_in (nI i) 40 := in_nI (by omega) (by decide)
      have q : t = 0 ∨ t = 1 ∨ t = 2 ∨ t = 3 := by omega
      rw [c] at fin
      refine ⟨fun q0 => ⟨i40, ?_⟩, fun q0 => ⟨i40, ?_⟩, fun q0 => ⟨i40, ?_⟩, fun q0 q1 q2 => ⟨i40, ?_⟩⟩
      · have q0 := (ceq (b := 0) (by omega) (by decide)).mp q0
        exact fin _ _ _ (fun _ => rfl) (fun q3 => absurd q3 (by omega)) (fun q3 => absurd q3 (by omega)) (fun _ => rfl) (fun q3 => absurd q3 (by omega))
      · have q0 := (ceq (b := 1) (by omega) (by decide)).mp q0
        exact fin _ _ _ (fun q3 => absurd q3 (by omega)) (fun _ => rfl) (fun q3 => absurd q3 (by omega)) (fun _ => rfl) (fun q3 => absurd q3 (by omega))
      · have q0 := (ceq (b := 2) (by omega) (by decide)).mp q0
        exact fin _ _ _ (fun q3 => absurd q3 (by omega)) (fun q3 => absurd q3 (by omega)) (fun _ => rfl) (fun _ => rfl) (fun q3 => absurd q3 (by omega))
      · have z0 : t ≠ 0 := fun w => q0 (by rw [w]; rfl)
        have z1 : t ≠ 1 := fun w => q1 (by rw [w]; rfl)
        have z2 : t ≠ 2 := fun w => q2 (by rw [w]; rfl)
        exact fin _ _ a3 (fun q3 => absurd q3 (by omega)) (fun q3 => absurd q3 (by omega)) (fun _ => rfl) (fun q3 => absurd q3 (by omega)) (fun _ => rfl)
