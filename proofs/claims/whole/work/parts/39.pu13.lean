/-! copying a stretch -/
theorem lgc_le (x y : Int64) : lg_cmp x y ≤ 0 ↔ x.toInt ≤ y.toInt := by
  have h := lgc_gt x y
  rw [Int32.le_iff_toInt_le]
  rw [Int32.lt_iff_toInt_lt] at h
  omega
theorem neg_iff (x : Int32) : x < 0 ↔ x.toInt < 0 := by rw [Int32.lt_iff_toInt_lt, toInt0]
theorem sum64 (x y : Int32) : (x.toInt64 + y.toInt64).toInt = x.toInt + y.toInt := by
  have h1 := fb_rng x
  have h2 := fb_rng y
  rw [fb_addL (by rw [w64, w64]; omega) (by rw [w64, w64]; omega), w64, w64]
theorem stretch_sp {x1 x2 : Int32} {z : Nat} {Q : Int32 → Prop} (hz : z ≤ 40) (h : Q (bI (decide (0 ≤ x1.toInt ∧ 0 ≤ x2.toInt ∧ x1.toInt + x2.toInt ≤ (z : Int))))) : wp_X5_hasStretch x1 x2 (nI z) Q := by
  have r1 := fb_rng x1
  have r2 := fb_rng x2
  have ez := nI_toInt (n := z) (by omega)
  unfold wp_X5_hasStretch
  simp only [Int32.lt_iff_toInt_lt, toInt0]
  refine ⟨fun h1 => ?_, fun h1 => ⟨fun h2 => ?_, fun h2 => ⟨fun h3 => ?_, fun h3 => ?_⟩⟩⟩
  · rwa [decide_eq_false (by omega)] at h
  · rwa [decide_eq_false (by omega)] at h
  · rw [ez] at h3
    rwa [decide_eq_false (by omega)] at h
  · rw [ez] at h3
    have es : (nI z - x1).toInt = (z : Int) - x1.toInt := by rw [fb_subI (by rw [ez]; omega) (by rw [ez]; omega), ez]
    rw [es]
    refine ⟨fun h4 => ?_, fun h4 => ?_⟩
    · rwa [decide_eq_false (by omega)] at h
    · rwa [decide_eq_true (by omega)] at h
theorem cpf_loop {A B c : Nat} {x1 x2 x3 x4 : Int32} {ty ln : Nat → Int32} {wh : Nat → Int64} {tw : Nat → UInt64} {Q : Int32 → (Nat → Int64) → (Nat → UInt64) → Prop} (hA : A + c ≤ 160) (hB : B + c ≤ 160) (hAB : B ≤ A) (h : Q (nI c) (va_cpy wh wh A B c) (va_cpy tw tw A B c)) :
    ∀ (d i : Nat), i + d = c → wp_X8_copyElements_b141 x1 x2 x3 x4 (nI c) ty ln Q (d + 1) (nI A) (nI B) (nI i) (va_cpy wh wh A B i) (va_cpy tw tw A B i)
  | 0, i, hi => by
    have e : i = c := by omega
    subst e
    exact br_t (nI_le (by omega) (by omega)) h
  | d + 1, i, hi => by
    have st : ∀ {α : Type} (g : Nat → α), vf_upd (va_cpy g g A B i) (B + i) (va_cpy g g A B i (A + i)) = va_cpy g g A B (i + 1) := by
      intro α g
      funext p
      unfold vf_upd va_cpy
      by_cases q : p = B + i
      · rw [if_pos q, if_neg (by omega), if_pos (by omega)]
        congr 1
        omega
      · rw [if_neg q]
        by_cases q2 : B ≤ p ∧ p < B + i
        · rw [if_pos q2, if_pos (by omega)]
        · rw [if_neg q2, if_neg (by omega)]
    have st1 := st wh
    have st2 := st tw
    have t := cpf_loop (x1 := x1) (x2 := x2) (x3 := x3) (x4 := x4) (ty := ty) (ln := ln) hA hB hAB h d (i + 1) (by omega)
    rw [← st1, ← st2] at t
    refine br_f (nI_ge (by omega) (by omega)) (br_t (nI_le hAB (by omega)) ?_)
    unfold wp_X8_copyElements_b167
    rw [nI_add, nI_add, cl_nI (by omega), cl_nI (by omega), nI_1]
    have iA : vp_in (nI (A + i)) 160 := in_nI (by omega) (by decide)
    have iB : vp_in (nI (B + i)) 160 := in_nI (by omega) (by decide)
    exact ⟨iA, iB, iA, iB, t⟩
theorem cpb_loop {A B c : Nat} {x1 x2 x3 x4 : Int32} {ty ln : Nat → Int32} {wh : Nat → Int64} {tw : Nat → UInt64} {Q : Int32 → (Nat → Int64) → (Nat → UInt64) → Prop} (hA : A + c ≤ 160) (hB : B + c ≤ 160) (hAB : A < B) (h : Q (nI c) (va_cpy wh wh A B c) (va_cpy tw tw A B c)) :
    ∀ (d i : Nat), i + d = c → wp_X8_copyElements_b141 x1 x2 x3 x4 (nI c) ty ln Q (d + 1) (nI A) (nI B) (nI i) (va_cpy wh wh (A + d) (B + d) i) (va_cpy tw tw (A + d) (B + d) i)
  | 0, i, hi => by
    have e : i = c := by omega
    subst e
    exact br_t (nI_le (by omega) (by omega)) h
  | d + 1, i, hi => by
    have st : ∀ {α : Type} (g : Nat → α), vf_upd (va_cpy g g (A + (d + 1)) (B + (d + 1)) i) (B + d) (va_cpy g g (A + (d + 1)) (B + (d + 1)) i (A + d)) = va_cpy g g (A + d) (B + d) (i + 1) := by
      intro α g
      funext p
      unfold vf_upd va_cpy
      by_cases q : p = B + d
      · rw [if_pos q, if_neg (by omega), if_pos (by omega)]
        congr 1
        omega
      · rw [if_neg q]
        by_cases q2 : B + (d + 1) ≤ p ∧ p < B + (d + 1) + i
        · rw [if_pos q2, if_pos (by omega)]
          congr 1
          omega
        · rw [if_neg q2, if_neg (by omega)]
    have st1 := st wh
    have st2 := st tw
    have t := cpb_loop (x1 := x1) (x2 := x2) (x3 := x3) (x4 := x4) (ty := ty) (ln := ln) hA hB hAB h d (i + 1) (by omega)
    rw [← st1, ← st2] at t
    refine br_f (nI_ge (by omega) (by omega)) (br_f (nI_ge hAB (by omega)) ?_)
    unfold wp_X8_copyElements_b167
    have e1 : (nI c - (1 : Int32)) - nI i = nI d := by
      have a1 : nI c - (1 : Int32) = nI (c - 1) := pk_sub (b := 1) (by omega)
      rw [a1, pk_sub (by omega)]
      congr 1
      omega
    rw [e1, nI_add, nI_add, cl_nI (by omega), cl_nI (by omega), nI_1]
    have iA : vp_in (nI (A + d)) 160 := in_nI (by omega) (by decide)
    have iB : vp_in (nI (B + d)) 160 := in_nI (by omega) (by decide)
    exact ⟨iA, iB, iA, iB, t⟩
theorem cpy0 {α : Type} (g : Nat → α) (A B : Nat) : va_cpy g g A B 0 = g := by
  funext p
  unfold va_cpy
  rw [if_neg (by omega)]
def CCP (x2 x4 x5 : Int32) (z1 z3 : Nat) : Prop := 0 ≤ x2.toInt ∧ 0 ≤ x4.toInt ∧ 0 ≤ x5.toInt ∧ x2.toInt + x5.toInt ≤ (z1 : Int) ∧ x4.toInt + x5.toInt ≤ (z3 : Int)
theorem nnI {x : Int32} (h : 0 ≤ x.toInt) : ∃ a : Nat, x = nI a ∧ x.toInt = a ∧ a < 2 ^ 31 := by
  obtain ⟨a, ha, e⟩ := nn_nI (x := x) (by rw [Int32.lt_iff_toInt_lt, toInt0]; omega)
  exact ⟨a, e, by rw [e, nI_toInt ha], ha⟩
theorem cp8_sp {j1 j3 z1 z3 t : Nat} {x2 x4 x5 : Int32} {ty ln : Nat → Int32} {wh : Nat → Int64} {tw : Nat → UInt64} {Q : Int32 → (Nat → Int64) → (Nat → UInt64) → Prop} (h1 : j1 < 4) (h3 : j3 < 4) (ht : t < 4) (t1 : ty j1 = nI t) (t3 : ty j3 = nI t) (l1 : ln j1 = nI z1) (l3 : ln j3 = nI z3) (hz1 : z1 ≤ 40) (hz3 : z3 ≤ 40)
    (hbad : ¬ CCP x2 x4 x5 z1 z3 → Q (-13) wh tw) (hok : ∀ si ti c : Nat, x2 = nI si → x4 = nI ti → x5 = nI c → si + c ≤ z1 → ti + c ≤ z3 → Q (nI c) (va_cpy wh wh (40 * j1 + si) (40 * j3 + ti) c) (va_cpy tw tw (40 * j1 + si) (40 * j3 + ti) c)) : wp_X8_copyElements (nI j1) x2 (nI j3) x4 x5 ty ln wh tw Q := by
  have i1 : vp_in (nI j1) 4 := in_nI (by omega) (by decide)
  have i3 : vp_in (nI j3) 4 := in_nI (by omega) (by decide)
  have b1 : inr (nI j1) 4 = true := decide_eq_true (by rw [nI_toInt (by omega)]; omega)
  have b3 : inr (nI j3) 4 = true := decide_eq_true (by rw [nI_toInt (by omega)]; omega)
  refine isSlot8_sp ?_
  rw [b1]
  refine br_f (by decide) (isSlot8_sp ?_)
  rw [b3]
  refine bn_f (by decide) ⟨i1, ?_⟩
  unfold wp_X8_copyElements_b75 wp_X8_copyElements_b76
  rw [cl_nI (by omega), cl_nI (by omega), t1, t3]
  refine br_f (nI_nm1 (by omega)) ⟨i3, bn_f (nI_nm1 (by omega)) ⟨i1, i3, br_t rfl ?_⟩⟩
  rw [neg_iff x2, neg_iff x4, neg_iff x5]
  refine ⟨fun q => br_t rfl (hbad (fun w => absurd w.1 (by omega))), fun q2 => ⟨fun q => br_t rfl (hbad (fun w => absurd w.2.1 (by omega))), fun q4 => ⟨fun q => br_t rfl (hbad (fun w => absurd w.2.2.1 (by omega))), fun q5 => br_f (by decide) ⟨i1, ?_⟩⟩⟩⟩
  rw [lgc_gt, lgc_le, sum64, sum64, w64, w64, l1, l3, nI_toInt (n := z1) (by omega), nI_toInt (n := z3) (by omega)]
  refine br_c (fun q => hbad (fun w => absurd w.2.2.2.1 (by omega))) (fun q => ⟨i3, br_c (fun q6 => ?_) (fun q6 => hbad (fun w => absurd w.2.2.2.2 (by omega)))⟩)
  obtain ⟨si, rfl, es, -⟩ := nnI (x := x2) (by omega)
  obtain ⟨ti, rfl, et, -⟩ := nnI (x := x4) (by omega)
  obtain ⟨c, rfl, ec, -⟩ := nnI (x := x5) (by omega)
  rw [es, ec] at q
  rw [et, ec] at q6
  have hq := hok si ti c rfl rfl rfl (by omega) (by omega)
  rw [idx40, idx40]
  refine ⟨c + 1, ?_⟩
  rcases Nat.lt_or_ge (40 * j1 + si) (40 * j3 + ti) with w | w
  · have t := cpb_loop (x1 := nI j1) (x2 := nI si) (x3 := nI j3) (x4 := nI ti) (ty := ty) (ln := ln) (by omega) (by omega) w hq c 0 (by omega)
    rw [cpy0, cpy0] at t
    exact t
  · have t := cpf_loop (x1 := nI j1) (x2 := nI si) (x3 := nI j3) (x4 := nI ti) (ty := ty) (ln := ln) (by omega) (by omega) w hq c 0 (by omega)
    rw [cpy0, cpy0] at t
    exact t
/-- the target slot after a copy -/
theorem KOK.copy {j1 j3 z1 z3 t si ti c : Nat} {k1 k3 : KSt} {ty ln : Nat → Int32} {wh : Nat → Int64} {tw : Nat → UInt64} {kw : Nat → Int64} {kr : Nat → UInt64} (a : t < 4) (b3 : z3 ≤ 40) (c3 : k3.1 = nI t) (d3 : ty j3 = nI t) (g3 : k3.2.1 = nI z3) (w3 : ln j3 = nI z3)
    (hw1 : t < 3 → ∀ i, i < z1 → k1.2.2.1 i = wh (40 * j1 + i)) (hr1 : t = 3 → ∀ i, i < z1 → VR (k1.2.2.2 i) (tw (40 * j1 + i))) (hw3 : t < 3 → ∀ i, i < z3 → k3.2.2.1 i = wh (40 * j3 + i)) (hr3 : t = 3 → ∀ i, i < z3 → VR (k3.2.2.2 i) (tw (40 * j3 + i))) (h1 : si + c ≤ z1) (h3 : ti + c ≤ z3)
    (ew : t < 3 → kw = va_cpy k1.2.2.1 k3.2.2.1 si ti c) (er : t = 3 → kr = va_cpy k1.2.2.2 k3.2.2.2 si ti c) : KOK j3 (k3.1, k3.2.1, kw, kr) ty ln (va_cpy wh wh (40 * j1 + si) (40 * j3 + ti) c) (va_cpy tw tw (40 * j1 + si) (40 * j3 + ti) c) := by
  refine Or.inr ⟨t, z3, a, b3, c3, d3, g3, w3, fun q i hi => ?_, fun q i hi => ?_⟩
  · dsimp only
    rw [ew q]
    unfold va_cpy
    by_cases v : ti ≤ i ∧ i < ti + c
    · rw [if_pos v, if_pos (by omega), hw1 q _ (by omega)]
      congr 1
      omega
    · rw [if_neg v, if_neg (by omega)]
      exact hw3 q i hi
  · dsimp only
    rw [er q]
    unfold va_cpy
    by_cases v : ti ≤ i ∧ i < ti + c
    · rw [if_pos v, if_pos (by omega)]
      have := hr1 q (si + (i - ti)) (by omega)
      rw [show 40 * j1 + si + (40 * j3 + i - (40 * j3 + ti)) = 40 * j1 + (si + (i - ti)) by omega]
      exact this
    · rw [if_neg v, if_neg (by omega)]
      exact hr3 q i hi

theorem stretchG_sp {x1 x2 y : Int32} {z : Nat} {Q : Int32 → Prop} (hy : y = nI z) (hz : z ≤ 40) (h : Q (bI (decide (0 ≤ x1.toInt ∧ 0 ≤ x2.toInt ∧ x1.toInt + x2.toInt ≤ (z : Int))))) : wp_X5_hasStretch x1 x2 y Q := by
  subst hy
  exact stretch_sp hz h

set_option maxHeartbeats 2000000 in
theorem pu_copyElements : PU_copyElements INV := by
  intro N S M a1 a2 a3 a4 a5 hN hI
  have hkeep := hI.keep
  obtain ⟨⟨points, count, ed, sets, scores, rated, hold⟩, ⟨scnt, codes⟩, D, X, saved, stand, ⟨height, largest, ped, layers, psets⟩, seen, depths, K⟩ := S
  obtain ⟨mm, many, mex, has, sm, smany, sex, bys, mc, ms, mpt, mlb, ty, ln, wh, tw, sc8, ss8, sp8, sl8, lay8, pl8⟩ := M
  obtain ⟨m, n, f, e, pt, lb, hc, hs, hp, hx, ht, hk, hsh⟩ := INV_mk.mp hI
  obtain ⟨⟨hm1, hm8, hn20⟩, rfl, rfl, hS, hB, hDs, hH, rfl, rfl, hM⟩ := hc
  have hf31 : ∀ k, k < n → f k < 2 ^ 31 := fun k hk => Nat.lt_trans (hB.lt hm8 hk) (by decide)
  dsimp only
  refine ⟨fun hss => ?_, fun hss => ?_⟩
  · have hsame : INV (N + 1) ((nI m, nI n, ed, sets, scores, rated, hold), (scnt, codes), D, X, saved, stand, (height, largest, ped, layers, psets), seen, depths, va_up K (slotix a3) ((K (slotix a3)).1, (K (slotix a3)).2.1, (K (slotix a3)).2.2.1, (K (slotix a3)).2.2.2)) (nI m, nI n, mex, has, sm, smany, sex, bys, mc, ms, mpt, mlb, ty, ln, wh, tw, sc8, ss8, sp8, sl8, lay8, pl8) := by
      rw [show ((K (slotix a3)).1, (K (slotix a3)).2.1, (K (slotix a3)).2.2.1, (K (slotix a3)).2.2.2) = K (slotix a3) from rfl, va_same K (slotix a3)]
      exact hkeep
    refine isSlot_sp ?_
    rcases inr_cases a1 4 (by decide) with h | ⟨j1, hj1, rfl, h⟩
    · rw [h]
      refine br_t rfl (isSlot8_sp ?_)
      rw [h]
      exact br_t rfl ⟨rfl, hsame⟩
    rw [h]
    refine br_f (by decide) (isSlot_sp ?_)
    rcases inr_cases a3 4 (by decide) with h2 | ⟨j3, hj3, rfl, h2⟩
    · rw [h2]
      refine bn_t rfl (isSlot8_sp ?_)
      rw [h]
      refine br_f (by decide) (isSlot8_sp ?_)
      rw [h2]
      exact bn_t rfl ⟨rfl, hsame⟩
    rw [h2]
    have i1 : vp_in (nI j1) 4 := in_nI (by omega) (by decide)
    have i3 : vp_in (nI j3) 4 := in_nI (by omega) (by decide)
    have e1 := slotix_nI hj1
    have e3 := slotix_nI hj3
    rw [e1, e3] at hss
    rw [e3] at hsame
    rw [e1, e3]
    have hk1 := hk j1 hj1
    have hk3 := hk j3 hj3
    have em8 : ty j1 = -1 ∨ ty j3 = -1 → ∀ {Q : Int32 → (Nat → Int64) → (Nat → UInt64) → Prop}, Q (-11) wh tw → wp_X8_copyElements (nI j1) a2 (nI j3) a4 a5 ty ln wh tw Q := by
      intro hem Q hq
      refine isSlot8_sp ?_
      rw [h]
      refine br_f (by decide) (isSlot8_sp ?_)
      rw [h2]
      refine bn_f (by decide) ⟨i1, ?_⟩
      rw [cl_nI (by omega)]
      refine br_c (fun _ => hq) (fun q => ⟨i3, ?_⟩)
      rcases hem with w | w
      · exact absurd w q
      · have e9 : (nI j3).toNatClampNeg = j3 := cl_nI (by omega)
        first | rw [e9] | skip
        exact bn_t w hq
    refine bn_f (by decide) ⟨i1, i3, isEmpty_sp ?_⟩
    rcases hk1 with ⟨a, b, c⟩ | ⟨t, z, a, b, c, d, g, w, w1, w2⟩
    · rw [decide_eq_true a]
      exact bn_f (by decide) (em8 (Or.inl c) ⟨rfl, hsame⟩)
    rw [decide_eq_false (by rw [c]; exact nI_nm1 (by omega))]
    refine bn_t rfl (isEmpty_sp ?_)
    rcases hk3 with ⟨a', b', c'⟩ | ⟨t', z', a', b', c', d', g', w', w1', w2'⟩
    · rw [decide_eq_true a']
      exact br_f (by decide) (em8 (Or.inr c') ⟨rfl, hsame⟩)
    rw [decide_eq_false (by rw [c']; exact nI_nm1 (by omega))]
    refine br_t rfl ?_
    by_cases htt : t' = t
    rotate_left
    · have hno : ¬ (K j1).1 = (K j3).1 := by
        rw [c, c']
        intro q
        exact htt ((ceq (by omega) (by omega)).mp q).symm
      refine br_f hno (isSlot8_sp ?_)
      rw [h]
      refine br_f (by decide) (isSlot8_sp ?_)
      rw [h2]
      refine bn_f (by decide) ⟨i1, ?_⟩
      rw [cl_nI (by omega), cl_nI (by omega), d, d']
      refine br_f (nI_nm1 (by omega)) ⟨i3, bn_f (nI_nm1 (by omega)) ⟨i1, i3, br_f ?_ ⟨rfl, hsame⟩⟩⟩
      intro q
      exact htt ((ceq (by omega) (by omega)).mp q).symm
    subst htt
    refine br_t (c.trans c'.symm) ?_
    have bad8 : ¬ CCP a2 a4 a5 z z' → wp_X8_copyElements (nI j1) a2 (nI j3) a4 a5 ty ln wh tw (fun (r8 : Int32) (nm_whole : Nat → Int64) (nm_twofold : Nat → UInt64) => (-13 : Int32) = r8 ∧ INV (N + 1) ((nI m, nI n, ed, sets, scores, rated, hold), (scnt, codes), D, X, saved, stand, (height, largest, ped, layers, psets), seen, depths, va_up K j3 ((K j3).1, (K j3).2.1, (K j3).2.2.1, (K j3).2.2.2)) (nI m, nI n, mex, has, sm, smany, sex, bys, mc, ms, mpt, mlb, ty, ln, nm_whole, nm_twofold, sc8, ss8, sp8, sl8, lay8, pl8)) := fun hno => cp8_sp hj1 hj3 a d d' w w' b b' (fun _ => ⟨rfl, hsame⟩) (fun si ti c0 x2 x4 x5 u1 u2 => absurd ⟨by rw [x2, nI_toInt (by omega)]; omega, by rw [x4, nI_toInt (by omega)]; omega, by rw [x5, nI_toInt (by omega)]; omega, by rw [x2, x5, nI_toInt (by omega), nI_toInt (by omega)]; omega, by rw [x4, x5, nI_toInt (by omega), nI_toInt (by omega)]; omega⟩ hno)
    have gz := g
    have gz' := g'
    skip
    refine stretchG_sp g b ?_
    by_cases q1 : 0 ≤ a2.toInt ∧ 0 ≤ a5.toInt ∧ a2.toInt + a5.toInt ≤ (z : Int)
    rotate_left
    · rw [decide_eq_false q1]
      exact br_t rfl (bad8 (fun v => q1 ⟨v.1, v.2.2.1, v.2.2.2.1⟩))
    rw [decide_eq_true q1]
    refine br_f (by decide) ?_
    skip
    refine stretchG_sp g' b' ?_
    by_cases q2 : 0 ≤ a4.toInt ∧ 0 ≤ a5.toInt ∧ a4.toInt + a5.toInt ≤ (z' : Int)
    rotate_left
    · rw [decide_eq_false q2]
      exact bn_t rfl (bad8 (fun v => q2 ⟨v.2.1, v.2.2.1, v.2.2.2.2⟩))
    rw [decide_eq_true q2]
    refine bn_f (by decide) ?_
    obtain ⟨si, rfl, es, hs31⟩ := nnI q1.1
    obtain ⟨ti, rfl, et, ht31⟩ := nnI q2.1
    obtain ⟨cc, rfl, ec, hc31⟩ := nnI q1.2.1
    rw [es, ec] at q1
    rw [et, ec] at q2
    have fin : ∀ (kw : Nat → Int64) (kr : Nat → UInt64), (t' < 3 → kw = va_cpy (K j1).2.2.1 (K j3).2.2.1 si ti cc) → (t' = 3 → kr = va_cpy (K j1).2.2.2 (K j3).2.2.2 si ti cc) → wp_X8_copyElements (nI j1) (nI si) (nI j3) (nI ti) (nI cc) ty ln wh tw (fun (r8 : Int32) (nm_whole : Nat → Int64) (nm_twofold : Nat → UInt64) => nI cc = r8 ∧ INV (N + 1) ((nI m, nI n, ed, sets, scores, rated, hold), (scnt, codes), D, X, saved, stand, (height, largest, ped, layers, psets), seen, depths, va_up K j3 ((K j3).1, (K j3).2.1, kw, kr)) (nI m, nI n, mex, has, sm, smany, sex, bys, mc, ms, mpt, mlb, ty, ln, nm_whole, nm_twofold, sc8, ss8, sp8, sl8, lay8, pl8)) := by
      intro kw kr ew er
      refine cp8_sp hj1 hj3 a d d' w w' b b' (fun hno => absurd ⟨by rw [es]; omega, by rw [et]; omega, by rw [ec]; omega, by rw [es, ec]; omega, by rw [et, ec]; omega⟩ hno) (fun si' ti' cx x2 x4 x5 u1 u2 => ?_)
      have v1 : si' = si := ((ceq hs31 (by omega)).mp x2).symm
      have v2 : ti' = ti := ((ceq ht31 (by omega)).mp x4).symm
      have v3 : cx = cc := ((ceq hc31 (by omega)).mp x5).symm
      subst v1 v2 v3
      refine ⟨rfl, INV_mk.mpr ⟨m, n, f, e, pt, lb, ⟨⟨hm1, hm8, hn20⟩, rfl, rfl, hS, hB, hDs, hH, rfl, rfl, hM⟩, hs, hp.up, hx, ht, hk.set (fun i hi => ⟨rfl, rfl⟩) (fun p hp => ?_) (KOK.copy (k1 := K j1) (k3 := K j3) a b' c' d' g' w' w1 w2 w1' w2' u1 u2 ew er), hsh⟩⟩
      unfold va_cpy
      rw [if_neg (by omega), if_neg (by omega)]
      exact ⟨rfl, rfl⟩
    unfold wp_X5_take
    rw [cl_nI hs31, cl_nI ht31, cl_nI hc31, c']
    have p1 := nI_pos hs31
    have p2 := nI_pos ht31
    have p3 := nI_pos hc31
    refine brne (b := 3) (by omega) (by decide) (fun q => ⟨p1, p2, p3, by omega, by omega, ?_⟩) (fun q => ⟨p1, p2, p3, by omega, by omega, ?_⟩)
    · have := fin (va_cpy (K j1).2.2.1 (K j3).2.2.1 si ti cc) (K j3).2.2.2 (fun _ => rfl) (fun q3 => absurd q3 q)
      rw [c'] at this
      exact this
    · have := fin (K j3).2.2.1 (va_cpy (K j1).2.2.2 (K j3).2.2.2 si ti cc) (fun q3 => absurd q3 (by omega)) (fun _ => rfl)
      rw [c'] at this
      exact this
  · have hsame : INV (N + 1) ((nI m, nI n, ed, sets, scores, rated, hold), (scnt, codes), D, X, saved, stand, (height, largest, ped, layers, psets), seen, depths, va_up K (slotix a1) ((K (slotix a1)).1, (K (slotix a1)).2.1, (K (slotix a1)).2.2.1, (K (slotix a1)).2.2.2)) (nI m, nI n, mex, has, sm, smany, sex, bys, mc, ms, mpt, mlb, ty, ln, wh, tw, sc8, ss8, sp8, sl8, lay8, pl8) := by
      rw [show ((K (slotix a1)).1, (K (slotix a1)).2.1, (K (slotix a1)).2.2.1, (K (slotix a1)).2.2.2) = K (slotix a1) from rfl, va_same K (slotix a1)]
      exact hkeep
    refine isSlot_sp ?_
    rcases inr_cases a1 4 (by decide) with h | ⟨j1, hj1, rfl, h⟩
    · rw [h]
      refine br_t rfl (isSlot8_sp ?_)
      rw [h]
      exact br_t rfl ⟨rfl, hsame⟩
    rw [h]
    refine br_f (by decide) (isSlot_sp ?_)
    rcases inr_cases a3 4 (by decide) with h2 | ⟨j3, hj3, rfl, h2⟩
    · rw [h2]
      refine bn_t rfl (isSlot8_sp ?_)
      rw [h]
      refine br_f (by decide) (isSlot8_sp ?_)
      rw [h2]
      exact bn_t rfl ⟨rfl, hsame⟩
    rw [h2]
    have i1 : vp_in (nI j1) 4 := in_nI (by omega) (by decide)
    have i3 : vp_in (nI j3) 4 := in_nI (by omega) (by decide)
    have e1 := slotix_nI hj1
    have e3 := slotix_nI hj3
    rw [e1, e3] at hss
    subst hss
    rw [e1] at hsame ⊢
    have j3 := j1
    have hk1 := hk j1 hj1
    have hk3 := hk j1 hj1
    have em8 : ty j1 = -1 ∨ ty j1 = -1 → ∀ {Q : Int32 → (Nat → Int64) → (Nat → UInt64) → Prop}, Q (-11) wh tw → wp_X8_copyElements (nI j1) a2 (nI j1) a4 a5 ty ln wh tw Q := by
      intro hem Q hq
      refine isSlot8_sp ?_
      rw [h]
      refine br_f (by decide) (isSlot8_sp ?_)
      rw [h2]
      refine bn_f (by decide) ⟨i1, ?_⟩
      rw [cl_nI (by omega)]
      refine br_c (fun _ => hq) (fun q => ⟨i3, ?_⟩)
      rcases hem with w | w
      · exact absurd w q
      · have e9 : (nI j1).toNatClampNeg = j1 := cl_nI (by omega)
        first | rw [e9] | skip
        exact bn_t w hq
    refine bn_f (by decide) ⟨i1, i3, isEmpty_sp ?_⟩
    rcases hk1 with ⟨a, b, c⟩ | ⟨t, z, a, b, c, d, g, w, w1, w2⟩
    · rw [decide_eq_true a]
      exact bn_f (by decide) (em8 (Or.inl c) ⟨rfl, hsame⟩)
    rw [decide_eq_false (by rw [c]; exact nI_nm1 (by omega))]
    refine bn_t rfl (isEmpty_sp ?_)
    rcases hk3 with ⟨a', b', c'⟩ | ⟨t', z', a', b', c', d', g', w', w1', w2'⟩
    · rw [decide_eq_true a']
      exact br_f (by decide) (em8 (Or.inr c') ⟨rfl, hsame⟩)
    rw [decide_eq_false (by rw [c']; exact nI_nm1 (by omega))]
    refine br_t rfl ?_
    have ett : t = t' := (ceq (by omega) (by omega)).mp (c.symm.trans c')
    have ezz : z = z' := (ceq (by omega) (by omega)).mp (g.symm.trans g')
    subst ett ezz
    refine br_t rfl ?_
    have bad8 : ¬ CCP a2 a4 a5 z z → wp_X8_copyElements (nI j1) a2 (nI j1) a4 a5 ty ln wh tw (fun (r8 : Int32) (nm_whole : Nat → Int64) (nm_twofold : Nat → UInt64) => (-13 : Int32) = r8 ∧ INV (N + 1) ((nI m, nI n, ed, sets, scores, rated, hold), (scnt, codes), D, X, saved, stand, (height, largest, ped, layers, psets), seen, depths, va_up K j1 ((K j1).1, (K j1).2.1, (K j1).2.2.1, (K j1).2.2.2)) (nI m, nI n, mex, has, sm, smany, sex, bys, mc, ms, mpt, mlb, ty, ln, nm_whole, nm_twofold, sc8, ss8, sp8, sl8, lay8, pl8)) := fun hno => cp8_sp hj1 hj1 a d d' w w' b b' (fun _ => ⟨rfl, hsame⟩) (fun si ti c0 x2 x4 x5 u1 u2 => absurd ⟨by rw [x2, nI_toInt (by omega)]; omega, by rw [x4, nI_toInt (by omega)]; omega, by rw [x5, nI_toInt (by omega)]; omega, by rw [x2, x5, nI_toInt (by omega), nI_toInt (by omega)]; omega, by rw [x4, x5, nI_toInt (by omega), nI_toInt (by omega)]; omega⟩ hno)
    have gz := g
    have gz' := g'
    skip
    refine stretchG_sp g b ?_
    by_cases q1 : 0 ≤ a2.toInt ∧ 0 ≤ a5.toInt ∧ a2.toInt + a5.toInt ≤ (z : Int)
    rotate_left
    · rw [decide_eq_false q1]
      exact br_t rfl (bad8 (fun v => q1 ⟨v.1, v.2.2.1, v.2.2.2.1⟩))
    rw [decide_eq_true q1]
    refine br_f (by decide) ?_
    refine stretchG_sp g b ?_
    by_cases q2 : 0 ≤ a4.toInt ∧ 0 ≤ a5.toInt ∧ a4.toInt + a5.toInt ≤ (z : Int)
    rotate_left
    · rw [decide_eq_false q2]
      exact bn_t rfl (bad8 (fun v => q2 ⟨v.2.1, v.2.2.1, v.2.2.2.2⟩))
    rw [decide_eq_true q2]
    refine bn_f (by decide) ?_
    obtain ⟨si, rfl, es, hs31⟩ := nnI q1.1
    obtain ⟨ti, rfl, et, ht31⟩ := nnI q2.1
    obtain ⟨cc, rfl, ec, hc31⟩ := nnI q1.2.1
    rw [es, ec] at q1
    rw [et, ec] at q2
    have fin : ∀ (kw : Nat → Int64) (kr : Nat → UInt64), (t < 3 → kw = va_cpy (K j1).2.2.1 (K j1).2.2.1 si ti cc) → (t = 3 → kr = va_cpy (K j1).2.2.2 (K j1).2.2.2 si ti cc) → wp_X8_copyElements (nI j1) (nI si) (nI j1) (nI ti) (nI cc) ty ln wh tw (fun (r8 : Int32) (nm_whole : Nat → Int64) (nm_twofold : Nat → UInt64) => nI cc = r8 ∧ INV (N + 1) ((nI m, nI n, ed, sets, scores, rated, hold), (scnt, codes), D, X, saved, stand, (height, largest, ped, layers, psets), seen, depths, va_up K j1 ((K j1).1, (K j1).2.1, kw, kr)) (nI m, nI n, mex, has, sm, smany, sex, bys, mc, ms, mpt, mlb, ty, ln, nm_whole, nm_twofold, sc8, ss8, sp8, sl8, lay8, pl8)) := by
      intro kw kr ew er
      refine cp8_sp hj1 hj1 a d d' w w' b b' (fun hno => absurd ⟨by rw [es]; omega, by rw [et]; omega, by rw [ec]; omega, by rw [es, ec]; omega, by rw [et, ec]; omega⟩ hno) (fun si' ti' cx x2 x4 x5 u1 u2 => ?_)
      have v1 : si' = si := ((ceq hs31 (by omega)).mp x2).symm
      have v2 : ti' = ti := ((ceq ht31 (by omega)).mp x4).symm
      have v3 : cx = cc := ((ceq hc31 (by omega)).mp x5).symm
      subst v1 v2 v3
      refine ⟨rfl, INV_mk.mpr ⟨m, n, f, e, pt, lb, ⟨⟨hm1, hm8, hn20⟩, rfl, rfl, hS, hB, hDs, hH, rfl, rfl, hM⟩, hs, hp.up, hx, ht, hk.set (fun i hi => ⟨rfl, rfl⟩) (fun p hp => ?_) (KOK.copy (k1 := K j1) (k3 := K j1) a b' c d' g' w' w1 w2 w1' w2' u1 u2 ew er), hsh⟩⟩
      unfold va_cpy
      rw [if_neg (by omega), if_neg (by omega)]
      exact ⟨rfl, rfl⟩
    unfold wp_X5_take_same
    rw [cl_nI hs31, cl_nI ht31, cl_nI hc31, c]
    have p1 := nI_pos hs31
    have p2 := nI_pos ht31
    have p3 := nI_pos hc31
    refine brne (b := 3) (by omega) (by decide) (fun q => ⟨p1, p2, p3, by omega, by omega, ?_⟩) (fun q => ⟨p1, p2, p3, by omega, by omega, ?_⟩)
    · have := fin (va_cpy (K j1).2.2.1 (K j1).2.2.1 si ti cc) (K j1).2.2.2 (fun _ => rfl) (fun q3 => absurd q3 q)
      rw [c] at this
      exact this
    · have := fin (K j1).2.2.1 (va_cpy (K j1).2.2.2 (K j1).2.2.2 si ti cc) (fun q3 => absurd q3 (by omega)) (fun _ => rfl)
      rw [c] at this
      exact this
