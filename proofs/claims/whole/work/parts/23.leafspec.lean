/-! leaves: what small methods answer -/
theorem hasBit_sp {x p : Nat} {Q : Int32 → Prop} (hx : x < 2 ^ 31) (hp : p < 32) (h : Q (bI (x.testBit p))) : wp_X7_hasBit (nI x) (nI p) Q := by
  unfold wp_X7_hasBit
  rw [bit_nI hx hp]
  cases hb : x.testBit p
  · rw [hb] at h; exact ⟨fun _ => h, fun g => absurd g (by decide)⟩
  · rw [hb] at h; exact ⟨fun g => absurd rfl g, fun _ => h⟩
theorem has8_sp {x p : Nat} {Q : Int32 → Prop} (hx : x < 2 ^ 31) (hp : p < 32) (h : Q (bI (x.testBit p))) : wp_X8_has (nI x) (nI p) Q := by
  unfold wp_X8_has
  rw [bit_nI hx hp]
  cases hb : x.testBit p
  · rw [hb] at h; exact ⟨fun _ => h, fun g => absurd g (by decide)⟩
  · rw [hb] at h; exact ⟨fun g => absurd rfl g, fun _ => h⟩
theorem allPoints_sp {m : Nat} {Q : Int32 → Prop} (hm : m < 31) (h : Q (nI (2 ^ m - 1))) : wp_X0_allPoints (nI m) Q := by
  unfold wp_X0_allPoints
  rw [full_nI (by omega)]
  exact h
theorem allNumbers_sp {n : Nat} {Q : Int32 → Prop} (hn : n < 31) (h : Q (nI (2 ^ n - 1))) : wp_X0_allNumbers (nI n) Q := by
  unfold wp_X0_allNumbers
  rw [full_nI (by omega)]
  exact h
theorem all8_sp {n : Nat} {Q : Int32 → Prop} (hn : n < 31) (h : Q (nI (2 ^ n - 1))) : wp_X8_all (nI n) Q := by
  unfold wp_X8_all
  rw [full_nI (by omega)]
  exact h
theorem others_sp {n k : Nat} {Q : Int32 → Prop} (hn : n < 31) (hk : k < 31) (h : Q (nI (dif (2 ^ n - 1) (2 ^ k)))) : wp_X0_others (nI k) (nI n) Q := by
  unfold wp_X0_others
  refine allNumbers_sp hn ?_
  rw [shl1_nI (by omega), dif_nI]
  exact h
theorem has_sp {x : Int32} {n : Nat} {Q : Int32 → Prop} (hn : n < 2 ^ 31) (h : Q (bI (inr x n))) : wp_X0_has x (nI n) Q := inr_br hn h
theorem isPoint_sp {x : Int32} {n : Nat} {Q : Int32 → Prop} (hn : n < 2 ^ 31) (h : Q (bI (inr x n))) : wp_X0_isPoint x (nI n) Q := inr_br hn h
theorem isSize_sp {x : Int32} {n : Nat} {Q : Int32 → Prop} (hn : n + 1 < 2 ^ 31) (h : Q (bI (inr x (n + 1)))) : wp_X0_isSize x (nI n) Q := inr_br2 hn h
theorem isSet_sp {x : Int32} {m : Nat} {Q : Int32 → Prop} (hm : m ≤ 8) (h : Q (bI (inr x (2 ^ m)))) : wp_X0_isSet x (nI m) Q := by
  have hp := pow8 hm
  have h1 : 2 ^ m = (2 ^ m - 1) + 1 := by have := Nat.two_pow_pos m; omega
  rw [h1] at h
  obtain ⟨a, b⟩ := inr_br2 (by omega) h
  refine ⟨a, fun g => allPoints_sp (by omega) (b g)⟩
theorem isSlot_sp {x : Int32} {Q : Int32 → Prop} (h : Q (bI (inr x 4))) : wp_X7_isSlot x Q := inr_br (n := 4) (by decide) h
theorem lgc_lt (x y : Int64) : lg_cmp x y < 0 ↔ x.toInt < y.toInt := by
  have h := lg_cmp_ge x y
  rw [Int64.le_iff_toInt_le] at h
  constructor
  · intro g
    rcases Int.lt_or_le x.toInt y.toInt with q | q
    · exact q
    · have := h.mpr q
      rw [Int32.le_iff_toInt_le] at this
      rw [Int32.lt_iff_toInt_lt] at g
      omega
  · intro g
    rw [Int32.lt_iff_toInt_lt]
    rcases Int.lt_or_le (lg_cmp x y).toInt (0 : Int32).toInt with q | q
    · exact q
    · have := h.mp (Int32.le_iff_toInt_le.mpr q)
      omega
theorem lgc_gt (x y : Int64) : 0 < lg_cmp x y ↔ y.toInt < x.toInt := by
  unfold lg_cmp
  by_cases h : x > y
  · rw [if_pos h]
    have h2 : y.toInt < x.toInt := Int64.lt_iff_toInt_lt.mp h
    exact ⟨fun _ => h2, fun _ => by decide⟩
  · rw [if_neg h]
    have h2 : ¬ y.toInt < x.toInt := fun g => h (Int64.lt_iff_toInt_lt.mpr g)
    by_cases h3 : x = y
    · rw [if_pos h3]; exact ⟨fun g => absurd g (by decide), fun g => absurd g h2⟩
    · rw [if_neg h3]; exact ⟨fun g => absurd g (by decide), fun g => absurd g h2⟩
theorem in_sp {a b c : Int64} {Q : Int32 → Prop} (h : Q (bI (decide (b.toInt ≤ a.toInt ∧ a.toInt ≤ c.toInt)))) : wp_X8_in a b c Q := by
  unfold wp_X8_in
  rw [lgc_lt, lgc_gt]
  refine ⟨fun g => ?_, fun g => ⟨fun g2 => ?_, fun g2 => ?_⟩⟩
  · rwa [decide_eq_false (by omega)] at h
  · rwa [decide_eq_false (by omega)] at h
  · rwa [decide_eq_true (by omega)] at h
theorem l0 : (0 : Int64).toInt = 0 := by decide
theorem l1 : (1 : Int64).toInt = 1 := by decide
theorem l3 : (3 : Int64).toInt = 3 := by decide
theorem l8 : (8 : Int64).toInt = 8 := by decide
theorem w64 (x : Int32) : x.toInt64.toInt = x.toInt := Int32.toInt_toInt64 x
/-- in(x, 0, c) with c one less than k -/
theorem in0_sp {x : Int32} {c : Int64} {k : Nat} {Q : Int32 → Prop} (hc : c.toInt = (k : Int) - 1) (h : Q (bI (inr x k))) : wp_X8_in x.toInt64 (0 : Int64) c Q := by
  refine in_sp ?_
  rw [w64, l0, hc]
  have e : decide (0 ≤ x.toInt ∧ x.toInt ≤ (k : Int) - 1) = inr x k := by
    unfold inr
    congr 1
    simp only [eq_iff_iff]
    omega
  rw [e]
  exact h
theorem isConcept_sp {x : Int32} {n : Nat} {Q : Int32 → Prop} (hn : n < 2 ^ 30) (h : Q (bI (inr x n))) : wp_X8_isConcept x (nI n) Q := by
  unfold wp_X8_isConcept
  refine in0_sp (k := n) ?_ ⟨bI_nar _, h⟩
  rw [w64]
  exact pk_sub_toInt (b := 1) hn (by decide)
theorem isSet8_sp {x : Int32} {m : Nat} {Q : Int32 → Prop} (hm : m ≤ 8) (h : Q (bI (inr x (2 ^ m)))) : wp_X8_isSet x (nI m) Q := by
  have hp := pow8 hm
  have h0 := Nat.two_pow_pos m
  unfold wp_X8_isSet
  rw [full_nI (by omega)]
  refine in0_sp (k := 2 ^ m) ?_ ⟨bI_nar _, h⟩
  rw [w64, nI_toInt (by omega)]
  omega
theorem isSlot8_sp {x : Int32} {Q : Int32 → Prop} (h : Q (bI (inr x 4))) : wp_X8_isSlot x Q := by
  unfold wp_X8_isSlot
  refine in0_sp (k := 4) ?_ ⟨bI_nar _, h⟩
  rw [l3]; rfl
theorem point8_sp {x : Int32} {m : Nat} {Q : Int32 → Prop} (hm : m < 2 ^ 30) (h : Q (bI (inr x m))) : wp_X8_in x.toInt64 (0 : Int64) ((nI m - (1 : Int32)).toInt64) Q := by
  refine in0_sp (k := m) ?_ h
  rw [w64]
  exact pk_sub_toInt (b := 1) hm (by decide)
theorem size8_sp {x : Int32} {m : Nat} {Q : Int32 → Prop} (hm : m < 2 ^ 30) (h : Q (bI (inr x (m + 1)))) : wp_X8_in x.toInt64 (0 : Int64) ((nI m).toInt64) Q := by
  refine in0_sp (k := m + 1) ?_ h
  rw [w64, nI_toInt (by omega)]
  omega
theorem two8_sp {x : Int32} {Q : Int32 → Prop} (h : Q (bI (inr x 2))) : wp_X8_in x.toInt64 (0 : Int64) (1 : Int64) Q := by
  refine in0_sp (k := 2) ?_ h
  rw [l1]; rfl
/-- finding: the first place of x among the first n of g, or -6 -/
def FND (g : Nat → Int32) (x : Int32) : Nat → Nat → Int32
  | 0, _ => -6
  | d + 1, k => if g k = x then nI k else FND g x d (k + 1)
theorem FND_cong {g g2 : Nat → Int32} {x : Int32} : ∀ {d k : Nat}, (∀ j, k ≤ j → j < k + d → g j = g2 j) → FND g x d k = FND g2 x d k
  | 0, _, _ => rfl
  | d + 1, k, h => by
    unfold FND
    rw [h k (by omega) (by omega), FND_cong (fun j h1 h2 => h j (by omega) (by omega))]
theorem nI_ne6 {k : Nat} (h : k < 2 ^ 31) : nI k ≠ -6 := by
  intro e
  have := congrArg Int32.toInt e
  rw [nI_toInt h] at this
  have e6 : (-6 : Int32).toInt = -6 := by decide
  omega
theorem FND_none {g : Nat → Int32} {x : Int32} : ∀ {d k : Nat}, k + d < 2 ^ 31 → (FND g x d k = -6 ↔ ∀ j, k ≤ j → j < k + d → g j ≠ x)
  | 0, k, _ => ⟨fun _ j h1 h2 => absurd h2 (by omega), fun _ => rfl⟩
  | d + 1, k, hb => by
    unfold FND
    by_cases e : g k = x
    · rw [if_pos e]
      exact ⟨fun q => absurd q (nI_ne6 (by omega)), fun q => absurd e (q k (by omega) (by omega))⟩
    · rw [if_neg e, FND_none (by omega)]
      constructor
      · intro q j h1 h2
        rcases Nat.lt_or_ge k j with g2 | g2
        · exact q j (by omega) (by omega)
        · rw [show j = k by omega]; exact e
      · intro q j h1 h2
        exact q j (by omega) (by omega)
theorem find_loop {x : Int32} {n : Nat} {g : Nat → Int32} {Q : Int32 → Prop} (hn : n ≤ 20) : ∀ (d k : Nat), k + d = n → Q (FND g x d k) → wp_X0_find_b2 x (nI n) g Q (d + 1) (nI k)
  | 0, k, hk, h => br_t (nI_le (by omega) (by omega)) h
  | d + 1, k, hk, h => by
    refine br_f (nI_ge (by omega) (by omega)) ⟨in_nI (by omega) (by omega), ?_⟩
    rw [cl_nI (by omega)]
    unfold FND at h
    refine bn_c (fun e => ?_) (fun e => ?_)
    · rw [if_neg e] at h
      rw [nI_1]
      exact find_loop hn d (k + 1) (by omega) h
    · rw [if_pos e] at h
      exact h
theorem find_sp {x : Int32} {n : Nat} {g : Nat → Int32} {Q : Int32 → Prop} (hn : n ≤ 20) (h : Q (FND g x n 0)) : wp_X0_find x (nI n) g Q := ⟨n + 1, find_loop hn n 0 (by omega) h⟩
theorem place_loop {x : Int32} {n : Nat} {g : Nat → Int32} {Q : Int32 → Prop} (hn : n ≤ 20) : ∀ (d k : Nat), k + d = n → Q (FND g x d k) → wp_X8_placeOf_b2 x (nI n) g Q (d + 1) (nI k)
  | 0, k, hk, h => br_t (nI_le (by omega) (by omega)) h
  | d + 1, k, hk, h => by
    refine br_f (nI_ge (by omega) (by omega)) ⟨in_nI (by omega) (by omega), ?_⟩
    rw [cl_nI (by omega)]
    unfold FND at h
    refine bn_c (fun e => ?_) (fun e => ?_)
    · rw [if_neg e] at h
      rw [nI_1]
      exact place_loop hn d (k + 1) (by omega) h
    · rw [if_pos e] at h
      exact h
theorem place_sp {x : Int32} {n : Nat} {g : Nat → Int32} {Q : Int32 → Prop} (hn : n ≤ 20) (h : Q (FND g x n 0)) : wp_X8_placeOf x (nI n) g Q := ⟨n + 1, place_loop hn n 0 (by omega) h⟩
/-- sizeOf: the ones among the first twenty bits -/
theorem sizeOf_loop {x : Nat} {Q : Int32 → Prop} (hx : x < 2 ^ 20) (h : Q (nI (bc x))) : ∀ (d k : Nat), k + d = 20 → wp_X8_sizeOf_b4 (nI x) Q (d + 1) (nI (fb_ct (fun j => x.testBit j) k)) (nI k)
  | 0, k, hk => by
    refine br_t (show nI 20 ≤ nI k from nI_le (by omega) (by omega)) ?_
    rw [show k = 20 by omega, ← bc_of hx (by decide)]
    exact h
  | d + 1, k, hk => by
    refine br_f (show ¬ nI 20 ≤ nI k from nI_ge (by omega) (by omega)) ?_
    rw [bit_nI (by omega) (by omega), nI_1]
    have e : nI (fb_ct (fun j => x.testBit j) k) + bI (x.testBit k) = nI (fb_ct (fun j => x.testBit j) (k + 1)) := by
      rw [fb_ct_succ]
      cases x.testBit k
      · exact nI_add _ 0
      · exact nI_add _ 1
    rw [e]
    exact sizeOf_loop hx h d (k + 1) (by omega)
theorem sizeOf_sp {x : Nat} {Q : Int32 → Prop} (hx : x < 2 ^ 20) (h : Q (nI (bc x))) : wp_X8_sizeOf (nI x) Q := ⟨21, sizeOf_loop hx h 20 0 (by omega)⟩
/-- Arrays.fill -/
theorem fillI_loop {len : Nat} {v : Int32} {Q : (Nat → Int32) → Prop} (hl : len < 2 ^ 31) (f0 : Nat → Int32) (h : ∀ f : Nat → Int32, (∀ j, f j = if j < len then v else f0 j) → Q f) : ∀ (d k : Nat) (f : Nat → Int32), k + d = len → (∀ j, f j = if j < k then v else f0 j) → wp_J7_fill_53178_b5 len v Q (d + 1) (nI k) (nI len) f
  | 0, k, f, hk, hf => br_t (nI_le (by omega) (by omega)) (h f (fun j => by rw [hf j, show k = len by omega]))
  | d + 1, k, f, hk, hf => by
    refine br_f (nI_ge (by omega) (by omega)) ⟨in_nI (by omega) (by omega), ?_⟩
    rw [cl_nI (by omega), nI_1]
    refine fillI_loop hl f0 h d (k + 1) _ (by omega) (fun j => ?_)
    unfold upd
    rw [hf j]
    by_cases e : j = k
    · rw [if_pos e, if_pos (by omega)]
    · rw [if_neg e]
      by_cases e2 : j < k
      · rw [if_pos e2, if_pos (by omega)]
      · rw [if_neg e2, if_neg (by omega)]
theorem fillI_sp {len : Nat} {v : Int32} {f0 : Nat → Int32} {Q : (Nat → Int32) → Prop} (hl : len < 2 ^ 31) (h : ∀ f : Nat → Int32, (∀ j, f j = if j < len then v else f0 j) → Q f) : wp_J7_fill_53178 len v f0 Q :=
  ⟨len + 1, fillI_loop hl f0 h len 0 f0 (by omega) (fun j => by rw [if_neg (by omega)])⟩
theorem fillL_loop {len : Nat} {v : Int64} {Q : (Nat → Int64) → Prop} (hl : len < 2 ^ 31) (f0 : Nat → Int64) (h : ∀ f : Nat → Int64, (∀ j, f j = if j < len then v else f0 j) → Q f) : ∀ (d k : Nat) (f : Nat → Int64), k + d = len → (∀ j, f j = if j < k then v else f0 j) → wp_J7_fill_d0a16_b6 len v Q (d + 1) (nI k) (nI len) f
  | 0, k, f, hk, hf => br_t (nI_le (by omega) (by omega)) (h f (fun j => by rw [hf j, show k = len by omega]))
  | d + 1, k, f, hk, hf => by
    refine br_f (nI_ge (by omega) (by omega)) ⟨in_nI (by omega) (by omega), ?_⟩
    rw [cl_nI (by omega), nI_1]
    refine fillL_loop hl f0 h d (k + 1) _ (by omega) (fun j => ?_)
    unfold vp_updL
    rw [hf j]
    by_cases e : j = k
    · rw [if_pos e, if_pos (by omega)]
    · rw [if_neg e]
      by_cases e2 : j < k
      · rw [if_pos e2, if_pos (by omega)]
      · rw [if_neg e2, if_neg (by omega)]
theorem fillL_sp {len : Nat} {v : Int64} {f0 : Nat → Int64} {Q : (Nat → Int64) → Prop} (hl : len < 2 ^ 31) (h : ∀ f : Nat → Int64, (∀ j, f j = if j < len then v else f0 j) → Q f) : wp_J7_fill_d0a16 len v f0 Q :=
  ⟨len + 1, fillL_loop hl f0 h len 0 f0 (by omega) (fun j => by rw [if_neg (by omega)])⟩
theorem fillD_loop {len : Nat} {v : UInt64} {Q : (Nat → UInt64) → Prop} (hl : len < 2 ^ 31) (f0 : Nat → UInt64) (h : ∀ f : Nat → UInt64, (∀ j, f j = if j < len then v else f0 j) → Q f) : ∀ (d k : Nat) (f : Nat → UInt64), k + d = len → (∀ j, f j = if j < k then v else f0 j) → wp_J7_fill_7f8df_b6 len v Q (d + 1) (nI k) (nI len) f
  | 0, k, f, hk, hf => br_t (nI_le (by omega) (by omega)) (h f (fun j => by rw [hf j, show k = len by omega]))
  | d + 1, k, f, hk, hf => by
    refine br_f (nI_ge (by omega) (by omega)) ⟨in_nI (by omega) (by omega), ?_⟩
    rw [cl_nI (by omega), nI_1]
    refine fillD_loop hl f0 h d (k + 1) _ (by omega) (fun j => ?_)
    unfold vf_upd
    rw [hf j]
    by_cases e : j = k
    · rw [if_pos e, if_pos (by omega)]
    · rw [if_neg e]
      by_cases e2 : j < k
      · rw [if_pos e2, if_pos (by omega)]
      · rw [if_neg e2, if_neg (by omega)]
theorem fillD_sp {len : Nat} {v : UInt64} {f0 : Nat → UInt64} {Q : (Nat → UInt64) → Prop} (hl : len < 2 ^ 31) (h : ∀ f : Nat → UInt64, (∀ j, f j = if j < len then v else f0 j) → Q f) : wp_J7_fill_7f8df len v f0 Q :=
  ⟨len + 1, fillD_loop hl f0 h len 0 f0 (by omega) (fun j => by rw [if_neg (by omega)])⟩
