/-! the recursive plan -/
def NX (m n : Nat) (f : Nat → Nat) (L : Nat) (r : PR) : PR := (r.1 + 1, fun k => if L.testBit k then r.1 else r.2.1 k, fun k => if L.testBit k then RS m n f L k else r.2.2.1 k, if r.2.2.2 < RM m n f L n then RM m n f L n else r.2.2.2)
theorem PL_succ (m n : Nat) (f : Nat → Nat) (d L : Nat) (r : PR) : PL m n f (d + 1) L r = if L = 0 then r else PL m n f d (RLf m n f L) (NX m n f L r) := rfl
theorem RM_succ (m n : Nat) (f : Nat → Nat) (L k : Nat) : RM m n f L (k + 1) = if L.testBit k = true ∧ bc (RS m n f L k) < RM m n f L k then bc (RS m n f L k) else RM m n f L k := rfl
def FM (m n : Nat) (f : Nat → Nat) (L : Nat) : Nat → Nat
  | 0 => 8
  | k + 1 => if L.testBit k = true ∧ bc (RS m n f L k) < FM m n f L k then bc (RS m n f L k) else FM m n f L k
theorem FM_succ (m n : Nat) (f : Nat → Nat) (L k : Nat) : FM m n f L (k + 1) = if L.testBit k = true ∧ bc (RS m n f L k) < FM m n f L k then bc (RS m n f L k) else FM m n f L k := rfl
theorem RS_lt (m n : Nat) (f : Nat → Nat) (L k : Nat) : RS m n f L k < 2 ^ m := SM_lt _ m
theorem RS_bc {m : Nat} (n : Nat) (f : Nat → Nat) (L k : Nat) (hm : m ≤ 8) : bc (RS m n f L k) ≤ m := by
  rw [bc_of (RS_lt m n f L k) (by omega)]
  exact fb_ct_le _ m
theorem RM_le9 {m n : Nat} {f : Nat → Nat} {L : Nat} (hm : m ≤ 8) : ∀ k, RM m n f L k ≤ m + 1
  | 0 => Nat.le_refl _
  | k + 1 => by
    have := RM_le9 (n := n) (f := f) (L := L) hm k
    rw [RM_succ]
    split <;> omega
theorem FM_le8 {m n : Nat} {f : Nat → Nat} {L : Nat} : ∀ k, FM m n f L k ≤ 8
  | 0 => Nat.le_refl _
  | k + 1 => by
    have := FM_le8 (m := m) (n := n) (f := f) (L := L) k
    rw [FM_succ]
    split <;> omega
theorem RM_at {m n : Nat} {f : Nat → Nat} {L : Nat} (hm : m ≤ 8) : ∀ k, ((∀ j, j < k → L.testBit j = false) ∧ RM m n f L k = m + 1 ∧ FM m n f L k = 8) ∨ ((∃ j, j < k ∧ L.testBit j = true ∧ bc (RS m n f L j) = RM m n f L k) ∧ FM m n f L k = RM m n f L k ∧ RM m n f L k ≤ m)
  | 0 => Or.inl ⟨fun j hj => absurd hj (Nat.not_lt_zero j), rfl, rfl⟩
  | k + 1 => by
    have hb := RS_bc n f L k hm
    rw [RM_succ, FM_succ]
    cases hk : L.testBit k
    · rw [if_neg (fun w => absurd w.1 (by decide)), if_neg (fun w => absurd w.1 (by decide))]
      rcases RM_at (n := n) (f := f) (L := L) hm k with ⟨h1, h2⟩ | ⟨⟨j, hj, h1⟩, h2⟩
      · refine Or.inl ⟨fun j hj => ?_, h2⟩
        rcases Nat.lt_or_ge j k with q | q
        · exact h1 j q
        · rw [show j = k by omega]; exact hk
      · exact Or.inr ⟨⟨j, by omega, h1⟩, h2⟩
    · right
      rcases RM_at (n := n) (f := f) (L := L) hm k with ⟨h1, h2, h3⟩ | ⟨⟨j, hj, h1, h4⟩, h2, h3⟩
      · rw [if_pos ⟨rfl, by omega⟩]
        refine ⟨⟨k, by omega, hk, rfl⟩, ?_, hb⟩
        rw [h3]
        by_cases q : bc (RS m n f L k) < 8
        · rw [if_pos ⟨rfl, q⟩]
        · rw [if_neg (fun w => q w.2)]; omega
      · rw [h2]
        by_cases q : bc (RS m n f L k) < RM m n f L k
        · rw [if_pos ⟨rfl, q⟩]
          exact ⟨⟨k, by omega, hk, rfl⟩, rfl, hb⟩
        · rw [if_neg (fun w => q w.2)]
          exact ⟨⟨j, by omega, h1, h4⟩, rfl, h3⟩
theorem RM_low {m n : Nat} {f : Nat → Nat} {L : Nat} : ∀ k j, j < k → L.testBit j = true → RM m n f L k ≤ bc (RS m n f L j)
  | 0, j, hj, _ => absurd hj (Nat.not_lt_zero j)
  | k + 1, j, hj, hL => by
    rw [RM_succ]
    rcases Nat.lt_or_ge j k with q | q
    · have := RM_low (m := m) (n := n) (f := f) k j q hL
      split <;> omega
    · have e : j = k := by omega
      subst e
      by_cases w : bc (RS m n f L j) < RM m n f L j
      · rw [if_pos ⟨hL, w⟩]; exact Nat.le_refl _
      · rw [if_neg (fun u => w u.2)]; omega
def ctL (n L : Nat) : Nat := fb_ct (fun k => L.testBit k) n
theorem ctL_0 {n L : Nat} (hL : L < 2 ^ n) (h : ctL n L = 0) : L = 0 := by
  apply eq_of_bits
  intro i
  rw [Nat.zero_testBit]
  by_cases q : i < n
  · exact fb_ct_zero.mp h i q
  · exact bit_ge hL (by omega)
theorem ne_bit {n L : Nat} (hL : L < 2 ^ n) (h : L ≠ 0) : ∃ j, j < n ∧ L.testBit j = true := by
  have : 0 < ctL n L := Nat.pos_of_ne_zero (fun q => h (ctL_0 hL q))
  exact fb_ct_pos.mp this
theorem RM_some {m n : Nat} {f : Nat → Nat} {L : Nat} (hm : m ≤ 8) (hL : L < 2 ^ n) (h0 : L ≠ 0) : (∃ j, j < n ∧ L.testBit j = true ∧ bc (RS m n f L j) = RM m n f L n) ∧ FM m n f L n = RM m n f L n ∧ RM m n f L n ≤ m := by
  obtain ⟨j, hj, hb⟩ := ne_bit hL h0
  rcases RM_at (n := n) (f := f) (L := L) hm n with ⟨h1, -⟩ | h
  · rw [h1 j hj] at hb; cases hb
  · exact h
theorem RLf_lt (m n : Nat) (f : Nat → Nat) (L : Nat) : RLf m n f L < 2 ^ n := MSK_lt _ n
theorem RLf_bit {m n : Nat} {f : Nat → Nat} {L k : Nat} (hk : k < n) : (RLf m n f L).testBit k = (L.testBit k && decide (RM m n f L n < bc (RS m n f L k))) := by
  unfold RLf
  rw [MSK_bit]
  simp [hk]
theorem RLf_ct {m n : Nat} {f : Nat → Nat} {L d : Nat} (hm : m ≤ 8) (hL : L < 2 ^ n) (h0 : L ≠ 0) (hd : ctL n L ≤ d + 1) : ctL n (RLf m n f L) ≤ d := by
  obtain ⟨⟨j, hj, hb, he⟩, -⟩ := RM_some (f := f) hm hL h0
  have t := ct_two (fun k => L.testBit k) (fun k => (RLf m n f L).testBit k) n
  have e1 : fb_ct (fun k => L.testBit k && (RLf m n f L).testBit k) n = ctL n (RLf m n f L) := fb_ct_cong (fun k hk => by
    rw [RLf_bit hk]
    cases L.testBit k <;> simp)
  have e2 : 0 < fb_ct (fun k => L.testBit k && !(RLf m n f L).testBit k) n := fb_ct_pos.mpr ⟨j, hj, by
    rw [RLf_bit hj, hb, decide_eq_false (by omega)]
    rfl⟩
  unfold ctL at *
  omega
/-- what the rounds keep: bounds, and that the largest is the size of someone's set -/
def PIN (n : Nat) (L : Nat) (r : PR) : Prop := (∀ k, k < n → L.testBit k = false → bc (r.2.2.1 k) ≤ r.2.2.2 ∧ r.2.1 k < r.1) ∧ (r.2.2.2 = 0 ∨ ∃ k, k < n ∧ L.testBit k = false ∧ bc (r.2.2.1 k) = r.2.2.2)
theorem PIN.next {m n : Nat} {f : Nat → Nat} {L : Nat} {r : PR} (hm : m ≤ 8) (hL : L < 2 ^ n) (h0 : L ≠ 0) (h : PIN n L r) : PIN n (RLf m n f L) (NX m n f L r) := by
  obtain ⟨h1, h2⟩ := h
  obtain ⟨⟨j, hj, hb, he⟩, -⟩ := RM_some (f := f) hm hL h0
  refine ⟨fun k hk hkL => ?_, ?_⟩
  · unfold NX
    dsimp only
    rw [RLf_bit hk] at hkL
    cases hq : L.testBit k
    · have := h1 k hk hq
      simp only [Bool.false_eq_true, if_false]
      refine ⟨?_, by omega⟩
      split <;> omega
    · rw [hq, Bool.true_and, decide_eq_false_iff_not] at hkL
      simp only [if_true]
      refine ⟨?_, by omega⟩
      split <;> omega
  · unfold NX
    dsimp only
    by_cases q : r.2.2.2 < RM m n f L n
    · right
      refine ⟨j, hj, ?_, ?_⟩
      · rw [RLf_bit hj, hb, decide_eq_false (by omega)]; rfl
      · rw [hb, if_pos rfl, if_pos q]; exact he
    · rw [if_neg q]
      rcases h2 with h2 | ⟨k, hk, hkL, hkb⟩
      · exact Or.inl h2
      · right
        refine ⟨k, hk, ?_, ?_⟩
        · rw [RLf_bit hk, hkL]; rfl
        · rw [hkL]; exact hkb
theorem PL_fin {m n : Nat} {f : Nat → Nat} (hm : m ≤ 8) : ∀ (d L : Nat) (r : PR), L < 2 ^ n → ctL n L ≤ d → PIN n L r → PIN n 0 (PL m n f d L r) ∧ (PL m n f d L r).1 ≤ r.1 + d
  | 0, L, r, hL, hc, h => by
    have e : L = 0 := ctL_0 hL (by omega)
    subst e
    exact ⟨h, Nat.le_refl _⟩
  | d + 1, L, r, hL, hc, h => by
    rw [PL_succ]
    by_cases e : L = 0
    · subst e
      rw [if_pos rfl]
      exact ⟨h, by omega⟩
    · rw [if_neg e]
      obtain ⟨a, b⟩ := PL_fin hm d (RLf m n f L) (NX m n f L r) (RLf_lt m n f L) (RLf_ct hm hL e hc) (h.next hm hL e)
      refine ⟨a, Nat.le_trans b ?_⟩
      show r.1 + 1 + d ≤ r.1 + (d + 1)
      omega
theorem all_lt {n : Nat} : 2 ^ n - 1 < 2 ^ n := by have := Nat.two_pow_pos n; omega
theorem PLAN_fin {m n : Nat} {f : Nat → Nat} (hm : m ≤ 8) (hn : n ≤ 20) : PIN n 0 (PLAN m n f) ∧ (PLAN m n f).1 ≤ 20 := by
  have h := PL_fin (f := f) hm 20 (2 ^ n - 1) (0, fun _ => 0, fun _ => 0, 0) all_lt (Nat.le_trans (fb_ct_le _ n) hn) ⟨fun k hk q => (by rw [all_bit hk] at q; cases q), Or.inl rfl⟩
  exact ⟨h.1, by have := h.2; dsimp only at this; unfold PLAN; omega⟩
theorem upd_self (g : Nat → Int32) (i : Nat) (x : Int32) : upd g i x i = x := by unfold upd; rw [if_pos rfl]
theorem upd_other (g : Nat → Int32) {i j : Nat} (x : Int32) (h : j ≠ i) : upd g i x j = g j := by unfold upd; rw [if_neg h]
/-- the class's minimum set of one that is left -/
theorem left_sp {m n k L : Nat} {f : Nat → Nat} {stand sets hold : Nat → Int32} {Q : Int32 → (Nat → Int32) → Prop} (hm : m ≤ 8) (hn : n ≤ 20) (hS : SOK n f sets) (hf : ∀ k, k < n → f k < 2 ^ 31) (hH : HOK m n f hold) (hk : k < n) (hL : L < 2 ^ n)
    (h : ∀ st : Nat → Int32, Q (nI (RS m n f L k)) st) : wp_X4_smallest (nI k) (nI L &&& (((1 : Int32) <<< (nI k &&& 31)) ^^^ (-1 : Int32))) stand (nI m) (nI n) sets hold Q := by
  rw [shl1_nI (by omega), dif_nI]
  have e : dif L (2 ^ k) = MSK (fun j => L.testBit j && !decide (j = k)) n := by
    apply eq_of_bits
    intro i
    rw [dif_bit, MSK_bit, Nat.testBit_two_pow]
    by_cases q : i < n
    · rw [decide_eq_true q, Bool.true_and]
      congr 2
      exact decide_eq_decide.mpr ⟨fun h => h.symm, fun h => h.symm⟩
    · rw [bit_ge hL (by omega), decide_eq_false q]; rfl
  rw [e]
  refine smallest_sp hm hn hS hf hH hk (fun st => ?_)
  have e2 : SM (TQ n f k (fun j => L.testBit j && !decide (j = k))) m = RS m n f L k := SM_cong (fun y _ => TQ_TSb (fun _ _ => rfl) y)
  rw [e2]
  exact h st
theorem form_loop {m n L : Nat} {f : Nat → Nat} {sets hold s0 : Nat → Int32} {Q : Int32 → (Nat → Int32) → (Nat → Int32) → Prop} (hm : m ≤ 8) (hn : n ≤ 20) (hS : SOK n f sets) (hf : ∀ k, k < n → f k < 2 ^ 31) (hH : HOK m n f hold) (hL : L < 2 ^ n)
    (h : ∀ s st : Nat → Int32, (∀ j, j < n → L.testBit j = true → s j = nI (RS m n f L j)) → (∀ j, L.testBit j = false → s j = s0 j) → Q (nI (FM m n f L n)) s st) :
    ∀ (d k : Nat) (s st : Nat → Int32), k + d = n → (∀ j, j < k → L.testBit j = true → s j = nI (RS m n f L j)) → (∀ j, L.testBit j = false → s j = s0 j) → wp_X1_formSets_b5 (nI L) (nI m) (nI n) sets hold Q (d + 1) (nI (FM m n f L k)) (nI k) s st
  | 0, k, s, st, hk, h1, h2 => by
    have e : k = n := by omega
    subst e
    exact br_t (nI_le (by omega) (by omega)) (h s st h1 h2)
  | d + 1, k, s, st, hk, h1, h2 => by
    have h20 := pow20 hn
    have h8 := pow8 hm
    have hr := RS_lt m n f L k
    have hb := RS_bc n f L k hm
    have hF := FM_le8 (m := m) (n := n) (f := f) (L := L) k
    refine br_f (nI_ge (by omega) (by omega)) (hasBit_sp (by omega) (by omega) (bI_br0 (fun q => ?_) (fun q => left_sp hm hn hS hf hH (by omega) hL (fun st2 => ⟨in_nI (by omega) (by decide), in_nI (by omega) (by decide), ?_⟩))))
    · have t := form_loop hm hn hS hf hH hL h d (k + 1) s st (by omega) (fun j hj w => ?_) h2
      · rw [FM_succ, if_neg (fun w => by rw [q] at w; cases w.1)] at t
        rw [nI_1]
        exact t
      · rcases Nat.lt_or_ge j k with v | v
        · exact h1 j v w
        · rw [show j = k by omega, q] at w; cases w
    · rw [cl_nI (by omega), upd_self]
      refine bitCount_sp (by omega) ?_
      rw [if_min (by omega) (by omega), nI_1]
      have t := form_loop hm hn hS hf hH hL h d (k + 1) (upd s k (nI (RS m n f L k))) st2 (by omega) (fun j hj w => ?_) (fun j w => ?_)
      · have e : FM m n f L (k + 1) = if bc (RS m n f L k) < FM m n f L k then bc (RS m n f L k) else FM m n f L k := by
          rw [FM_succ, q]
          simp only [true_and]
        rw [e] at t
        exact t
      · rcases Nat.lt_or_ge j k with v | v
        · rw [upd_other _ _ (by omega)]; exact h1 j v w
        · rw [show j = k by omega, upd_self]
      · rw [upd_other _ _ (fun v => by rw [v, q] at w; cases w)]
        exact h2 j w
theorem tka_loop {m n L z : Nat} {f : Nat → Nat} {hh : Int32} {s l0 : Nat → Int32} {Q : Int32 → (Nat → Int32) → Prop} (hm : m ≤ 8) (hn : n ≤ 20) (hz : z < 2 ^ 31) (hL : L < 2 ^ n) (hs : ∀ j, j < n → L.testBit j = true → s j = nI (RS m n f L j))
    (h : ∀ l : Nat → Int32, (∀ j, j < n → (L.testBit j && decide (bc (RS m n f L j) = z)) = true → l j = hh) → (∀ j, (L.testBit j && decide (bc (RS m n f L j) = z)) = false → l j = l0 j) → Q (nI (MSK (fun j => L.testBit j && decide (bc (RS m n f L j) = z)) n)) l) :
    ∀ (d k : Nat) (l : Nat → Int32), k + d = n → (∀ j, j < k → (L.testBit j && decide (bc (RS m n f L j) = z)) = true → l j = hh) → (∀ j, (L.testBit j && decide (bc (RS m n f L j) = z)) = false → l j = l0 j) → wp_X1_takeAway_b5 (nI L) (nI z) hh s (nI n) Q (d + 1) (nI (MSK (fun j => L.testBit j && decide (bc (RS m n f L j) = z)) k)) (nI k) l
  | 0, k, l, hk, h1, h2 => by
    have e : k = n := by omega
    subst e
    exact br_t (nI_le (by omega) (by omega)) (h l h1 h2)
  | d + 1, k, l, hk, h1, h2 => by
    have h20 := pow20 hn
    have h8 := pow8 hm
    have hr := RS_lt m n f L k
    have hb := RS_bc n f L k hm
    have skip : (L.testBit k && decide (bc (RS m n f L k) = z)) = false → wp_X1_takeAway_b5 (nI L) (nI z) hh s (nI n) Q (d + 1) (nI (MSK (fun j => L.testBit j && decide (bc (RS m n f L j) = z)) k)) (nI (k + 1)) l := by
      intro q
      have t := tka_loop hm hn hz hL hs h d (k + 1) l (by omega) (fun j hj w => ?_) h2
      · have e : MSK (fun j => L.testBit j && decide (bc (RS m n f L j) = z)) (k + 1) = MSK (fun j => L.testBit j && decide (bc (RS m n f L j) = z)) k := by
          rw [MSK_succ_or, q]
          exact Nat.or_zero _
        rw [e] at t
        exact t
      · rcases Nat.lt_or_ge j k with v | v
        · exact h1 j v w
        · rw [show j = k by omega, q] at w; cases w
    refine br_f (nI_ge (by omega) (by omega)) (hasBit_sp (by omega) (by omega) (bI_br0 (fun q => ?_) (fun q => ⟨in_nI (by omega) (by decide), ?_⟩)))
    · rw [nI_1]
      exact skip (by rw [q]; rfl)
    · rw [cl_nI (by omega), hs k (by omega) q, nI_1, shl1_nI (by omega), fa_or]
      refine bitCount_sp (by omega) (brne (by omega) hz (fun q2 => skip (by rw [decide_eq_false q2, Bool.and_false])) (fun q2 => ⟨in_nI (by omega) (by decide), ?_⟩))
      have q3 : (L.testBit k && decide (bc (RS m n f L k) = z)) = true := by rw [q, decide_eq_true q2]; rfl
      have t := tka_loop hm hn hz hL hs h d (k + 1) (upd l k hh) (by omega) (fun j hj w => ?_) (fun j w => ?_)
      · rw [MSK_succ_or, q3] at t
        exact t
      · rcases Nat.lt_or_ge j k with v | v
        · rw [upd_other _ _ (by omega)]; exact h1 j v w
        · rw [show j = k by omega, upd_self]
      · rw [upd_other _ _ (fun v => by rw [v, q3] at w; cases w)]
        exact h2 j w
theorem make_loop {m n : Nat} {f : Nat → Nat} {sets hold : Nat → Int32} {Q : Int32 → Int32 → (Nat → Int32) → (Nat → Int32) → (Nat → Int32) → Prop} (hm : m ≤ 8) (hn : n ≤ 20) (hS : SOK n f sets) (hf : ∀ k, k < n → f k < 2 ^ 31) (hH : HOK m n f hold)
    (h : ∀ l s st : Nat → Int32, (∀ k, k < n → l k = nI ((PLAN m n f).2.1 k) ∧ s k = nI ((PLAN m n f).2.2.1 k)) → Q (nI (PLAN m n f).1) (nI (PLAN m n f).2.2.2) l s st) :
    ∀ (d t L : Nat) (r : PR) (l s st : Nat → Int32), t + d = 20 → L < 2 ^ n → ctL n L ≤ d → (∀ k, k < n → L.testBit k = false → l k = nI (r.2.1 k) ∧ s k = nI (r.2.2.1 k)) → r.2.2.2 ≤ 9 → PL m n f d L r = PLAN m n f → wp_X1_make_b20 (nI m) (nI n) sets hold Q (d + 1) (nI L) (nI t) (nI r.1) (nI r.2.2.2) l s st
  | 0, t, L, r, l, s, st, ht, hL, hc, h1, h9, hp => by
    have e : L = 0 := ctL_0 hL (by omega)
    subst e
    have e2 : r = PLAN m n f := hp
    subst e2
    exact br_t (show nI 20 ≤ nI t from nI_le (by omega) (by omega)) (h l s st (fun k hk => h1 k hk (Nat.zero_testBit k)))
  | d + 1, t, L, r, l, s, st, ht, hL, hc, h1, h9, hp => by
    have h20 := pow20 hn
    rw [PL_succ] at hp
    refine br_f (show ¬ nI 20 ≤ nI t from nI_ge (by omega) (by omega)) (breq (b := 0) (by omega) (by decide) (fun q => ?_) (fun q => ?_))
    · subst q
      rw [if_pos rfl] at hp
      have e2 : r = PLAN m n f := hp
      subst e2
      exact h l s st (fun k hk => h1 k hk (Nat.zero_testBit k))
    · rw [if_neg q] at hp
      obtain ⟨⟨j, hj, hjb, hje⟩, hF, hM⟩ := RM_some (f := f) hm hL q
      refine ⟨n + 1, form_loop hm hn hS hf hH hL (fun s2 st2 g1 g2 => ?_) n 0 s st (by omega) (fun j hj => absurd hj (Nat.not_lt_zero j)) (fun j _ => rfl)⟩
      rw [hF]
      refine ⟨n + 1, tka_loop (f := f) hm hn (by omega) hL g1 (fun l2 g3 g4 => ?_) n 0 l (by omega) (fun j hj => absurd hj (Nat.not_lt_zero j)) (fun j _ => rfl)⟩
      have eL : dif L (MSK (fun j => L.testBit j && decide (bc (RS m n f L j) = RM m n f L n)) n) = RLf m n f L := by
        apply eq_of_bits
        intro i
        rw [dif_bit, MSK_bit]
        by_cases w : i < n
        · rw [RLf_bit w, decide_eq_true w, Bool.true_and]
          cases hb : L.testBit i
          · rfl
          · have lo := RM_low (m := m) (n := n) (f := f) n i w hb
            by_cases v : bc (RS m n f L i) = RM m n f L n
            · rw [decide_eq_true v, decide_eq_false (by omega)]; rfl
            · rw [decide_eq_false v, decide_eq_true (by omega)]; rfl
        · rw [bit_ge hL (by omega), bit_ge (RLf_lt m n f L) (by omega)]; rfl
      rw [dif_nI, eL, nI_1, nI_1, if_max (by omega) (by omega)]
      refine make_loop hm hn hS hf hH h d (t + 1) (RLf m n f L) (NX m n f L r) l2 s2 st2 (by omega) (RLf_lt m n f L) (RLf_ct hm hL q hc) (fun k hk w => ?_) ?_ hp
      · unfold NX
        dsimp only
        rw [RLf_bit hk] at w
        cases hb : L.testBit k
        · simp only [Bool.false_eq_true, if_false]
          rw [g2 k hb, g4 k (by rw [hb]; rfl)]
          exact h1 k hk hb
        · simp only [if_true]
          rw [hb, Bool.true_and, decide_eq_false_iff_not] at w
          have lo := RM_low (m := m) (n := n) (f := f) n k hk hb
          rw [g1 k hk hb, g3 k hk (by rw [hb, decide_eq_true (show bc (RS m n f L k) = RM m n f L n by omega)]; rfl)]
          exact ⟨rfl, rfl⟩
      · unfold NX
        dsimp only
        split <;> omega
theorem make_sp {m n : Nat} {f : Nat → Nat} {ph pl : Int32} {sets hold l s st : Nat → Int32} {Q : Int32 → Int32 → (Nat → Int32) → (Nat → Int32) → (Nat → Int32) → Prop} (hm : m ≤ 8) (hn : n ≤ 20) (hS : SOK n f sets) (hf : ∀ k, k < n → f k < 2 ^ 31) (hH : HOK m n f hold)
    (h : ∀ l s st : Nat → Int32, (∀ k, k < n → l k = nI ((PLAN m n f).2.1 k) ∧ s k = nI ((PLAN m n f).2.2.1 k)) → Q (nI (PLAN m n f).1) (nI (PLAN m n f).2.2.2) l s st) : wp_X1_make ph pl l s st (nI m) (nI n) sets hold Q := by
  unfold wp_X1_make
  exact allNumbers_sp (by omega) ⟨21, make_loop hm hn hS hf hH h 20 0 (2 ^ n - 1) (0, fun _ => 0, fun _ => 0, 0) l s st (by omega) all_lt (Nat.le_trans (fb_ct_le _ n) hn) (fun k hk q => by rw [all_bit hk] at q; cases q) (by decide) rfl⟩
theorem renew_sp {N m n : Nat} {f : Nat → Nat} {ed ped hh ll : Int32} {sets hold ly ss st : Nat → Int32} {Q : Int32 → Int32 → Int32 → (Nat → Int32) → (Nat → Int32) → (Nat → Int32) → Prop} (hN : N < 512) (hm : m ≤ 8) (hn : n ≤ 20) (hS : SOK n f sets) (hf : ∀ k, k < n → f k < 2 ^ 31) (hH : HOK m n f hold) (hp : I_pln N m n f ed ped hh ll ly ss)
    (h : ∀ (hh ll : Int32) (ly ss st : Nat → Int32), POK m n f hh ll ly ss → I_pln (N + 1) m n f ed ed hh ll ly ss → Q hh ll ed ly ss st) : wp_X1_renew hh ll ped ly ss st (nI m) (nI n) ed sets hold Q := by
  obtain ⟨E, E', rfl, h1, rfl, h2, h3⟩ := hp
  have mk : ∀ {hh ll : Int32} {ly ss : Nat → Int32}, POK m n f hh ll ly ss → I_pln (N + 1) m n f (nI E) (nI E) hh ll ly ss := fun p => ⟨E, E, rfl, by omega, rfl, Nat.le_refl E, fun _ => p⟩
  refine breq (by omega) (by omega) (fun q => ?_) (fun q => ?_)
  · subst q
    exact h hh ll ly ss st (h3 rfl) (mk (h3 rfl))
  · refine make_sp hm hn hS hf hH (fun l s st2 g => ?_)
    have p : POK m n f (nI (PLAN m n f).1) (nI (PLAN m n f).2.2.2) l s := ⟨rfl, rfl, g⟩
    exact h _ _ l s st2 p (mk p)
/-! the reference's plans -/
theorem p98_loop {m n L h0 : Nat} {f : Nat → Nat} {mm : Int32} {bys mc ly pl : Nat → Int32} {Q : Int32 → (Nat → Int32) → (Nat → Int32) → Prop} {k7 : Int32 → Int32 → (Nat → Int32) → (Nat → Int32) → Prop} (hm : m ≤ 8) (hn : n ≤ 20) (hL : L < 2 ^ n) (hs : ∀ j, j < n → L.testBit j = true → pl j = nI (RS m n f L j))
    (h : k7 (nI (RLf m n f L)) (nI (h0 + 1)) ly pl) : ∀ (d k : Nat), k + d = n → wp_X8_plans_b98 mm (nI n) bys mc Q k7 (d + 1) (nI L) (nI h0) (nI (RM m n f L n)) (nI (MSK (fun k => L.testBit k && decide (RM m n f L n < bc (RS m n f L k))) k)) (nI k) ly pl
  | 0, k, hk => by
    have e : k = n := by omega
    subst e
    refine br_t (nI_le (by omega) (by omega)) ?_
    rw [nI_1]
    exact h
  | d + 1, k, hk => by
    have h20 := pow20 hn
    have h8 := pow8 hm
    have hr := RS_lt m n f L k
    have hb := RS_bc n f L k hm
    have hR := RM_le9 (n := n) (f := f) (L := L) hm n
    have t := p98_loop (mm := mm) (bys := bys) (mc := mc) (Q := Q) hm hn hL hs h d (k + 1) (by omega)
    rw [MSK_succ_or] at t
    have z : ∀ y : Nat, nI y ||| (0 : Int32) = nI (y ||| 0) := fun y => fa_or y 0
    refine br_f (nI_ge (by omega) (by omega)) (has8_sp (by omega) (by omega) (bI_br0 (fun q => ?_) (fun q => ⟨in_nI (by omega) (by decide), ?_⟩)))
    · rw [q] at t
      rw [nI_1, z]
      exact t
    · rw [cl_nI (by omega), hs k (by omega) q, nI_1, z, shl1_nI (by omega), fa_or]
      refine sizeOf_sp (by omega) (brle (by omega) (by omega) (fun q2 => ?_) (fun q2 => ?_))
      · rw [q, decide_eq_false (by omega)] at t
        exact t
      · rw [q, decide_eq_true q2] at t
        exact t
theorem p21_loop {m n L h0 : Nat} {f : Nat → Nat} {bys mc ly0 pl0 : Nat → Int32} {Q : Int32 → (Nat → Int32) → (Nat → Int32) → Prop} {k7 : Int32 → Int32 → (Nat → Int32) → (Nat → Int32) → Prop} (hm : m ≤ 8) (hn : n ≤ 20) (ht : I_tab bys) (hM : SOK n f mc) (hf : ∀ k, k < n → f k < 2 ^ 31) (hB : BND m n f) (hD : DIS n f) (hL : L < 2 ^ n)
    (h : ∀ ly pl : Nat → Int32, (∀ j, j < n → L.testBit j = true → ly j = nI h0 ∧ pl j = nI (RS m n f L j)) → (∀ j, L.testBit j = false → ly j = ly0 j ∧ pl j = pl0 j) → k7 (nI (RLf m n f L)) (nI (h0 + 1)) ly pl) :
    ∀ (d k : Nat) (ly pl : Nat → Int32), k + d = n → (∀ j, j < k → L.testBit j = true → ly j = nI h0 ∧ pl j = nI (RS m n f L j)) → (∀ j, L.testBit j = false → ly j = ly0 j ∧ pl j = pl0 j) → wp_X8_plans_b21 (nI m) (nI n) bys mc Q k7 (d + 1) (nI L) (nI h0) (nI (RM m n f L k)) (nI k) ly pl
  | 0, k, ly, pl, hk, h1, h2 => by
    have e : k = n := by omega
    subst e
    exact br_t (nI_le (by omega) (by omega)) ⟨k + 1, p98_loop hm hn hL (fun j hj w => (h1 j hj w).2) (h ly pl h1 h2) k 0 (by omega)⟩
  | d + 1, k, ly, pl, hk, h1, h2 => by
    have h20 := pow20 hn
    have h8 := pow8 hm
    have hr := RS_lt m n f L k
    have hb := RS_bc n f L k hm
    have hR := RM_le9 (n := n) (f := f) (L := L) hm k
    refine br_f (nI_ge (by omega) (by omega)) (has8_sp (by omega) (by omega) (bI_br0 (fun q => ?_) (fun q => ⟨in_nI (by omega) (by decide), least_sp hm hn ht hM hf hB hD (by omega) (by omega) ⟨in_nI (by omega) (by decide), in_nI (by omega) (by decide), ?_⟩⟩)))
    · have t := p21_loop (Q := Q) hm hn ht hM hf hB hD hL h d (k + 1) ly pl (by omega) (fun j hj w => ?_) h2
      · rw [RM_succ, if_neg (fun w => by rw [q] at w; cases w.1)] at t
        rw [nI_1]
        exact t
      · rcases Nat.lt_or_ge j k with v | v
        · exact h1 j v w
        · rw [show j = k by omega, q] at w; cases w
    · have t := p21_loop (Q := Q) hm hn ht hM hf hB hD hL h d (k + 1) (upd ly k (nI h0)) (upd pl k (nI (RS m n f L k))) (by omega) (fun j hj w => ?_) (fun j w => ?_)
      · rw [cl_nI (by omega), upd_self, nI_1]
        refine sizeOf_sp (show RS m n f L k < 2 ^ 20 by omega) (brle (by omega) (show bc (RS m n f L k) < 2 ^ 31 by omega) (fun q2 => ?_) (fun q2 => ?_))
        · have q3 : RM m n f L k ≤ bc (RS m n f L k) := q2
          rw [RM_succ, if_neg (fun w => absurd w.2 (by omega))] at t
          exact t
        · rw [RM_succ, if_pos ⟨q, q2⟩] at t
          exact t
      · rcases Nat.lt_or_ge j k with v | v
        · rw [upd_other _ _ (by omega), upd_other _ _ (by omega)]; exact h1 j v w
        · rw [show j = k by omega, upd_self, upd_self]; exact ⟨rfl, rfl⟩
      · have v : j ≠ k := fun v => by rw [v, q] at w; cases w
        rw [upd_other _ _ v, upd_other _ _ v]
        exact h2 j w
theorem p7_loop {m n : Nat} {f : Nat → Nat} {bys mc : Nat → Int32} {Q : Int32 → (Nat → Int32) → (Nat → Int32) → Prop} (hm : m ≤ 8) (hn : n ≤ 20) (ht : I_tab bys) (hM : SOK n f mc) (hf : ∀ k, k < n → f k < 2 ^ 31) (hB : BND m n f) (hD : DIS n f)
    (h : ∀ ly pl : Nat → Int32, (∀ k, k < n → ly k = nI ((PLAN m n f).2.1 k) ∧ pl k = nI ((PLAN m n f).2.2.1 k)) → Q (nI (PLAN m n f).1) ly pl) :
    ∀ (d L : Nat) (r : PR) (ly pl : Nat → Int32), L < 2 ^ n → ctL n L ≤ d → (∀ k, k < n → L.testBit k = false → ly k = nI (r.2.1 k) ∧ pl k = nI (r.2.2.1 k)) → PL m n f d L r = PLAN m n f → wp_X8_plans_b7 (nI m) (nI n) bys mc Q (d + 1) (nI L) (nI r.1) ly pl
  | 0, L, r, ly, pl, hL, hc, h1, hp => by
    have e : L = 0 := ctL_0 hL (by omega)
    subst e
    have e2 : r = PLAN m n f := hp
    subst e2
    exact br_t rfl (h ly pl (fun k hk => h1 k hk (Nat.zero_testBit k)))
  | d + 1, L, r, ly, pl, hL, hc, h1, hp => by
    have h20 := pow20 hn
    rw [PL_succ] at hp
    refine breq (b := 0) (by omega) (by decide) (fun q => ?_) (fun q => ?_)
    · subst q
      rw [if_pos rfl] at hp
      have e2 : r = PLAN m n f := hp
      subst e2
      exact h ly pl (fun k hk => h1 k hk (Nat.zero_testBit k))
    · rw [if_neg q] at hp
      rw [nI_1]
      refine ⟨n + 1, p21_loop (f := f) hm hn ht hM hf hB hD hL (fun ly2 pl2 g1 g2 => ?_) n 0 ly pl (by omega) (fun j hj => absurd hj (Nat.not_lt_zero j)) (fun j _ => ⟨rfl, rfl⟩)⟩
      refine p7_loop hm hn ht hM hf hB hD h d (RLf m n f L) (NX m n f L r) ly2 pl2 (RLf_lt m n f L) (RLf_ct hm hL q hc) (fun k hk w => ?_) hp
      unfold NX
      dsimp only
      cases hb : L.testBit k
      · simp only [Bool.false_eq_true, if_false]
        rw [(g2 k hb).1, (g2 k hb).2]
        exact h1 k hk hb
      · simp only [if_true]
        exact g1 k hk hb
theorem plans_sp {m n : Nat} {f : Nat → Nat} {bys mc ly pl : Nat → Int32} {Q : Int32 → (Nat → Int32) → (Nat → Int32) → Prop} (hm : m ≤ 8) (hn : n ≤ 20) (ht : I_tab bys) (hM : SOK n f mc) (hf : ∀ k, k < n → f k < 2 ^ 31) (hB : BND m n f) (hD : DIS n f)
    (h : ∀ ly pl : Nat → Int32, (∀ k, k < n → ly k = nI ((PLAN m n f).2.1 k) ∧ pl k = nI ((PLAN m n f).2.2.1 k)) → Q (nI (PLAN m n f).1) ly pl) : wp_X8_plans (nI m) (nI n) bys mc ly pl Q := by
  unfold wp_X8_plans
  exact all8_sp (by omega) ⟨21, p7_loop hm hn ht hM hf hB hD h 20 (2 ^ n - 1) (0, fun _ => 0, fun _ => 0, 0) ly pl all_lt (Nat.le_trans (fb_ct_le _ n) hn) (fun k hk q => by rw [all_bit hk] at q; cases q) rfl⟩
theorem rd8_loop {m n : Nat} {s : Nat → Nat} {mm : Int32} {bys mc ly pl : Nat → Int32} {Q : Int32 → (Nat → Int32) → (Nat → Int32) → Prop} (hn : n ≤ 20) (hm : m ≤ 8) (hpl : ∀ k, k < n → pl k = nI (s k)) (hs : ∀ k, k < n → bc (s k) ≤ m ∧ s k < 2 ^ m) (h : Q (nI (mxT (fun k => bc (s k)) n)) ly pl) : ∀ (d k : Nat), k + d = n → mxT (fun k => bc (s k)) k ≤ 8 → wp_X8_recursiveDimension_b19 mm (nI n) bys mc Q (d + 1) (nI (mxT (fun k => bc (s k)) k)) (nI k) ly pl
  | 0, k, hk, _ => by
    have e : k = n := by omega
    subst e
    exact br_t (nI_le (by omega) (by omega)) h
  | d + 1, k, hk, h9 => by
    have h8 := pow8 hm
    obtain ⟨b1, b2⟩ := hs k (by omega)
    have t := rd8_loop (mm := mm) (bys := bys) (mc := mc) hn hm hpl hs h d (k + 1) (by omega)
    rw [mxT_succ] at t
    refine br_f (nI_ge (by omega) (by omega)) ⟨in_nI (by omega) (by decide), ?_⟩
    rw [cl_nI (by omega), hpl k (by omega), nI_1]
    refine sizeOf_sp (by omega) (brle (by omega) (by omega) (fun q => ?_) (fun q => ?_))
    · rw [if_neg (by omega)] at t
      exact t h9
    · rw [if_pos q] at t
      exact t (by omega)
theorem rd8_gen {m n v : Nat} {s : Nat → Nat} {mm : Int32} {bys mc ly pl : Nat → Int32} {Q : Int32 → (Nat → Int32) → (Nat → Int32) → Prop} (hn : n ≤ 20) (hm : m ≤ 8) (hpl : ∀ k, k < n → pl k = nI (s k)) (hs : ∀ k, s k < 2 ^ m) (hv : mxT (fun k => bc (s k)) n = v) (h : Q (nI v) ly pl) : ∃ j, wp_X8_recursiveDimension_b19 mm (nI n) bys mc Q j (0 : Int32) (0 : Int32) ly pl := by
  refine ⟨n + 1, rd8_loop (m := m) (s := s) hn hm hpl (fun k hk => ⟨?_, hs k⟩) ?_ n 0 (by omega) (Nat.zero_le _)⟩
  · rw [bc_of (hs k) (by omega)]
    exact fb_ct_le _ m
  · rw [hv]
    exact h
theorem mxT_ge (T : Nat → Nat) : ∀ n k, k < n → T k ≤ mxT T n
  | 0, k, h => absurd h (Nat.not_lt_zero k)
  | n + 1, k, h => by
    rw [mxT_succ]
    rcases Nat.lt_or_ge k n with q | q
    · have := mxT_ge T n k q
      split <;> omega
    · rw [show k = n by omega]
      split <;> omega
theorem mxT_at (T : Nat → Nat) : ∀ n, mxT T n = 0 ∨ ∃ k, k < n ∧ T k = mxT T n
  | 0 => Or.inl rfl
  | n + 1 => by
    rw [mxT_succ]
    by_cases q : mxT T n < T n
    · rw [if_pos q]; exact Or.inr ⟨n, by omega, rfl⟩
    · rw [if_neg q]
      rcases mxT_at T n with w | ⟨k, hk, e⟩
      · exact Or.inl w
      · exact Or.inr ⟨k, by omega, e⟩
theorem PLAN_max {m n : Nat} {f : Nat → Nat} (hm : m ≤ 8) (hn : n ≤ 20) : mxT (fun k => bc ((PLAN m n f).2.2.1 k)) n = (PLAN m n f).2.2.2 := by
  obtain ⟨⟨h1, h2⟩, -⟩ := PLAN_fin (f := f) hm hn
  apply Nat.le_antisymm
  · rcases mxT_at (fun k => bc ((PLAN m n f).2.2.1 k)) n with w | ⟨k, hk, e⟩
    · omega
    · rw [← e]; exact (h1 k hk (Nat.zero_testBit k)).1
  · rcases h2 with w | ⟨k, hk, -, e⟩
    · omega
    · rw [← e]; exact mxT_ge (fun k => bc ((PLAN m n f).2.2.1 k)) n k hk
theorem PL_sets {m n : Nat} {f : Nat → Nat} : ∀ (d L : Nat) (r : PR), (∀ k, r.2.2.1 k < 2 ^ m) → ∀ k, (PL m n f d L r).2.2.1 k < 2 ^ m
  | 0, L, r, h => h
  | d + 1, L, r, h => by
    rw [PL_succ]
    by_cases e : L = 0
    · rw [if_pos e]; exact h
    · rw [if_neg e]
      refine PL_sets d _ _ (fun k => ?_)
      unfold NX
      dsimp only
      split
      · exact RS_lt m n f L k
      · exact h k
theorem PLAN_set {m n : Nat} {f : Nat → Nat} (k : Nat) : (PLAN m n f).2.2.1 k < 2 ^ m := PL_sets 20 _ _ (fun _ => Nat.two_pow_pos m) k

set_option maxHeartbeats 2000000 in
theorem pu_layerCount : PU_layerCount INV := by
  intro N S M  hN hI
  have hkeep := hI.keep
  obtain ⟨⟨points, count, ed, sets, scores, rated, hold⟩, ⟨scnt, codes⟩, D, X, saved, stand, ⟨height, largest, ped, layers, psets⟩, seen, depths, K⟩ := S
  obtain ⟨mm, many, mex, has, sm, smany, sex, bys, mc, ms, mpt, mlb, ty, ln, wh, tw, sc8, ss8, sp8, sl8, lay8, pl8⟩ := M
  obtain ⟨m, n, f, e, pt, lb, hc, hs, hp, hx, ht, hk, hsh⟩ := INV_mk.mp hI
  obtain ⟨⟨hm1, hm8, hn20⟩, rfl, rfl, hS, hB, hDs, hH, rfl, rfl, hM⟩ := hc
  have hf31 : ∀ k, k < n → f k < 2 ^ 31 := fun k hk => Nat.lt_trans (hB.lt hm8 hk) (by decide)
  dsimp only
  refine renew_sp hN hm8 hn20 hS hf31 hH hp (fun hh ll ly ss st g gp => plans_sp hm8 hn20 ht hM hf31 hB hDs (fun ly8 pl8 g8 => ⟨g.1, ?_⟩))
  exact INV_mk.mpr ⟨m, n, f, e, pt, lb, ⟨⟨hm1, hm8, hn20⟩, rfl, rfl, hS, hB, hDs, hH, rfl, rfl, hM⟩, hs, gp, hx, ht, hk, hsh⟩

set_option maxHeartbeats 2000000 in
theorem pu_recursiveDimension : PU_recursiveDimension INV := by
  intro N S M  hN hI
  have hkeep := hI.keep
  obtain ⟨⟨points, count, ed, sets, scores, rated, hold⟩, ⟨scnt, codes⟩, D, X, saved, stand, ⟨height, largest, ped, layers, psets⟩, seen, depths, K⟩ := S
  obtain ⟨mm, many, mex, has, sm, smany, sex, bys, mc, ms, mpt, mlb, ty, ln, wh, tw, sc8, ss8, sp8, sl8, lay8, pl8⟩ := M
  obtain ⟨m, n, f, e, pt, lb, hc, hs, hp, hx, ht, hk, hsh⟩ := INV_mk.mp hI
  obtain ⟨⟨hm1, hm8, hn20⟩, rfl, rfl, hS, hB, hDs, hH, rfl, rfl, hM⟩ := hc
  have hf31 : ∀ k, k < n → f k < 2 ^ 31 := fun k hk => Nat.lt_trans (hB.lt hm8 hk) (by decide)
  dsimp only
  refine bn_c (fun h0 => renew_sp hN hm8 hn20 hS hf31 hH hp (fun hh ll ly ss st g gp => bn_f h0 (plans_sp hm8 hn20 ht hM hf31 hB hDs (fun ly8 pl8 g8 => ?_)))) (fun h0 => bn_t h0 ⟨rfl, hkeep⟩)
  have gl : ll = nI (PLAN m n f).2.2.2 := g.2.1
  refine rd8_gen hn20 hm8 (fun k hk => (g8 k hk).2) (fun k => PLAN_set k) (PLAN_max hm8 hn20) ⟨gl, ?_⟩
  exact INV_mk.mpr ⟨m, n, f, e, pt, lb, ⟨⟨hm1, hm8, hn20⟩, rfl, rfl, hS, hB, hDs, hH, rfl, rfl, hM⟩, hs, gp, hx, ht, hk, hsh⟩

set_option maxHeartbeats 2000000 in
theorem pu_layer : PU_layer INV := by
  intro N S M a1 hN hI
  have hkeep := hI.keep
  obtain ⟨⟨points, count, ed, sets, scores, rated, hold⟩, ⟨scnt, codes⟩, D, X, saved, stand, ⟨height, largest, ped, layers, psets⟩, seen, depths, K⟩ := S
  obtain ⟨mm, many, mex, has, sm, smany, sex, bys, mc, ms, mpt, mlb, ty, ln, wh, tw, sc8, ss8, sp8, sl8, lay8, pl8⟩ := M
  obtain ⟨m, n, f, e, pt, lb, hc, hs, hp, hx, ht, hk, hsh⟩ := INV_mk.mp hI
  obtain ⟨⟨hm1, hm8, hn20⟩, rfl, rfl, hS, hB, hDs, hH, rfl, rfl, hM⟩ := hc
  have hf31 : ∀ k, k < n → f k < 2 ^ 31 := fun k hk => Nat.lt_trans (hB.lt hm8 hk) (by decide)
  dsimp only
  refine has_sp (by omega) ?_
  rcases inr_cases a1 n (by omega) with h | ⟨c, hc, rfl, h⟩
  · rw [h]
    refine bn_t rfl (isConcept_sp (by omega) ?_)
    rw [h]
    exact bn_t rfl ⟨rfl, hkeep⟩
  rw [h]
  refine bn_f (by decide) (renew_sp hN hm8 hn20 hS hf31 hH hp (fun hh ll ly ss st g gp => ⟨in_nI (by omega) (by decide), isConcept_sp (by omega) ?_⟩))
  rw [h]
  refine bn_f (by decide) (plans_sp hm8 hn20 ht hM hf31 hB hDs (fun ly8 pl8 g8 => ⟨in_nI (by omega) (by decide), ?_, ?_⟩))
  · rw [cl_nI (by omega), (g.2.2 c hc).1, (g8 c hc).1]
  · exact INV_mk.mpr ⟨m, n, f, e, pt, lb, ⟨⟨hm1, hm8, hn20⟩, rfl, rfl, hS, hB, hDs, hH, rfl, rfl, hM⟩, hs, gp, hx, ht, hk, hsh⟩

set_option maxHeartbeats 2000000 in
theorem pu_planSet : PU_planSet INV := by
  intro N S M a1 hN hI
  have hkeep := hI.keep
  obtain ⟨⟨points, count, ed, sets, scores, rated, hold⟩, ⟨scnt, codes⟩, D, X, saved, stand, ⟨height, largest, ped, layers, psets⟩, seen, depths, K⟩ := S
  obtain ⟨mm, many, mex, has, sm, smany, sex, bys, mc, ms, mpt, mlb, ty, ln, wh, tw, sc8, ss8, sp8, sl8, lay8, pl8⟩ := M
  obtain ⟨m, n, f, e, pt, lb, hc, hs, hp, hx, ht, hk, hsh⟩ := INV_mk.mp hI
  obtain ⟨⟨hm1, hm8, hn20⟩, rfl, rfl, hS, hB, hDs, hH, rfl, rfl, hM⟩ := hc
  have hf31 : ∀ k, k < n → f k < 2 ^ 31 := fun k hk => Nat.lt_trans (hB.lt hm8 hk) (by decide)
  dsimp only
  refine has_sp (by omega) ?_
  rcases inr_cases a1 n (by omega) with h | ⟨c, hc, rfl, h⟩
  · rw [h]
    refine bn_t rfl (isConcept_sp (by omega) ?_)
    rw [h]
    exact bn_t rfl ⟨rfl, hkeep⟩
  rw [h]
  refine bn_f (by decide) (renew_sp hN hm8 hn20 hS hf31 hH hp (fun hh ll ly ss st g gp => ⟨in_nI (by omega) (by decide), isConcept_sp (by omega) ?_⟩))
  rw [h]
  refine bn_f (by decide) (plans_sp hm8 hn20 ht hM hf31 hB hDs (fun ly8 pl8 g8 => ⟨in_nI (by omega) (by decide), ?_, ?_⟩))
  · rw [cl_nI (by omega), (g.2.2 c hc).2, (g8 c hc).2]
  · exact INV_mk.mpr ⟨m, n, f, e, pt, lb, ⟨⟨hm1, hm8, hn20⟩, rfl, rfl, hS, hB, hDs, hH, rfl, rfl, hM⟩, hs, gp, hx, ht, hk, hsh⟩

theorem dec7_loop {V n : Nat} {l : Nat → Nat} {pts ed sc hh ll pe : Int32} {sets hold codes st ly ss : Nat → Int32} {Q : Int32 → (Nat → Int32) → Int32 → Int32 → Int32 → (Nat → Int32) → (Nat → Int32) → Prop} (hn : n ≤ 20) (hV : V < 2 ^ 31) (hl : ∀ k, k < n → ly k = nI (l k) ∧ l k < 20) :
    ∀ (d k b : Nat), k + d = n → b < k → V.testBit b = true → (∀ r : Nat, (∃ j, j < n ∧ V.testBit j = true) → r < n → V.testBit r = true → (∀ j, j < n → V.testBit j = true → l r ≤ l j ∧ (l j = l r → r ≤ j)) → Q (nI r) st hh ll pe ly ss) → (∀ j, j < k → V.testBit j = true → l b ≤ l j ∧ (l j = l b → b ≤ j)) → wp_X7_decode_b28 pts (nI n) ed sets hold sc codes Q (d + 1) (nI V) (nI (l b)) (nI b) (nI k) st hh ll pe ly ss
  | 0, k, b, hk, hb, hVb, h, h1 => by
    have e : k = n := by omega
    subst e
    exact br_t (nI_le (by omega) (by omega)) (h b ⟨b, hb, hVb⟩ hb hVb h1)
  | d + 1, k, b, hk, hb, hVb, h, h1 => by
    obtain ⟨e1, e2⟩ := hl k (by omega)
    obtain ⟨-, e3⟩ := hl b (by omega)
    refine br_f (nI_ge (by omega) (by omega)) (hasBit_sp hV (by omega) (bI_br0 (fun q => ?_) (fun q => ⟨in_nI (by omega) (by decide), ?_⟩)))
    · rw [nI_1]
      refine dec7_loop hn hV hl d (k + 1) b (by omega) (by omega) hVb h (fun j hj w => ?_)
      rcases Nat.lt_or_ge j k with v | v
      · exact h1 j v w
      · rw [show j = k by omega, q] at w; cases w
    · rw [nI_1, cl_nI (by omega), e1]
      refine brle (by omega) (by omega) (fun q2 => ?_) (fun q2 => ⟨in_nI (by omega) (by decide), ?_⟩)
      · refine dec7_loop hn hV hl d (k + 1) b (by omega) (by omega) hVb h (fun j hj w => ?_)
        rcases Nat.lt_or_ge j k with v | v
        · exact h1 j v w
        · rw [show j = k by omega]; exact ⟨q2, fun _ => by omega⟩
      · refine dec7_loop hn hV hl d (k + 1) k (by omega) (by omega) q h (fun j hj w => ?_)
        rcases Nat.lt_or_ge j k with v | v
        · have := h1 j v w
          exact ⟨by omega, fun _ => by omega⟩
        · rw [show j = k by omega]; exact ⟨Nat.le_refl _, fun _ => Nat.le_refl _⟩
theorem dec7_first {V n : Nat} {l : Nat → Nat} {pts ed sc hh ll pe : Int32} {sets hold codes st ly ss : Nat → Int32} {Q : Int32 → (Nat → Int32) → Int32 → Int32 → Int32 → (Nat → Int32) → (Nat → Int32) → Prop} (hn : n ≤ 20) (hV : V < 2 ^ n) (h0 : V ≠ 0) (hl : ∀ k, k < n → ly k = nI (l k) ∧ l k < 20)
    (h : ∀ r : Nat, (∃ j, j < n ∧ V.testBit j = true) → r < n → V.testBit r = true → (∀ j, j < n → V.testBit j = true → l r ≤ l j ∧ (l j = l r → r ≤ j)) → Q (nI r) st hh ll pe ly ss) :
    ∀ (d k : Nat), k + d = n → (∀ j, j < k → V.testBit j = false) → wp_X7_decode_b28 pts (nI n) ed sets hold sc codes Q (d + 1) (nI V) (20 : Int32) (-7 : Int32) (nI k) st hh ll pe ly ss
  | 0, k, hk, h1 => by
    obtain ⟨j, hj, hb⟩ := ne_bit hV h0
    rw [h1 j (by omega)] at hb
    cases hb
  | d + 1, k, hk, h1 => by
    have h20 := pow20 hn
    obtain ⟨e1, e2⟩ := hl k (by omega)
    refine br_f (nI_ge (by omega) (by omega)) (hasBit_sp (by omega) (by omega) (bI_br0 (fun q => ?_) (fun q => ⟨in_nI (by omega) (by decide), ?_⟩)))
    · rw [nI_1]
      refine dec7_first hn hV h0 hl h d (k + 1) (by omega) (fun j hj => ?_)
      rcases Nat.lt_or_ge j k with v | v
      · exact h1 j v
      · rw [show j = k by omega]; exact q
    · rw [nI_1, cl_nI (by omega), e1]
      refine br_f (show ¬ nI 20 ≤ nI (l k) from nI_ge (by omega) (by omega)) ⟨in_nI (by omega) (by decide), ?_⟩
      refine dec7_loop hn (by omega) hl d (k + 1) k (by omega) (by omega) q h (fun j hj w => ?_)
      rcases Nat.lt_or_ge j k with v | v
      · rw [h1 j v] at w; cases w
      · rw [show j = k by omega]; exact ⟨Nat.le_refl _, fun _ => Nat.le_refl _⟩
theorem dec8_loop {V n : Nat} {l : Nat → Nat} {mm me : Int32} {bys mc mpt mlb ly pl : Nat → Int32} {Q : Int32 → (Nat → Int32) → (Nat → Int32) → Prop} (hn : n ≤ 20) (hV : V < 2 ^ 31) (hl : ∀ k, k < n → ly k = nI (l k) ∧ l k < 20) :
    ∀ (d k b : Nat), k + d = n → b < k → V.testBit b = true → (∀ r : Nat, r < n → V.testBit r = true → (∀ j, j < n → V.testBit j = true → l r ≤ l j ∧ (l j = l r → r ≤ j)) → Q (nI r) ly pl) → (∀ j, j < k → V.testBit j = true → l b ≤ l j ∧ (l j = l b → b ≤ j)) → wp_X8_decode_b21 mm (nI n) me bys mc mpt mlb Q (d + 1) (nI V) (nI b) (nI k) ly pl
  | 0, k, b, hk, hb, hVb, h, h1 => by
    have e : k = n := by omega
    subst e
    exact br_t (nI_le (by omega) (by omega)) (h b hb hVb h1)
  | d + 1, k, b, hk, hb, hVb, h, h1 => by
    obtain ⟨e1, e2⟩ := hl k (by omega)
    obtain ⟨e4, e3⟩ := hl b (by omega)
    have hm1' : ¬ nI b = (-1 : Int32) := fun w => by
      have := congrArg Int32.toInt w
      rw [nI_toInt (by omega)] at this
      have e6 : (-1 : Int32).toInt = -1 := by decide
      omega
    refine br_f (nI_ge (by omega) (by omega)) (has8_sp hV (by omega) (bI_br0 (fun q => ?_) (fun q => br_f hm1' ⟨in_nI (by omega) (by decide), in_nI (by omega) (by decide), ?_⟩)))
    · rw [nI_1]
      refine dec8_loop hn hV hl d (k + 1) b (by omega) (by omega) hVb h (fun j hj w => ?_)
      rcases Nat.lt_or_ge j k with v | v
      · exact h1 j v w
      · rw [show j = k by omega, q] at w; cases w
    · rw [nI_1, cl_nI (by omega), cl_nI (by omega), e1, e4]
      refine brle (by omega) (by omega) (fun q2 => ?_) (fun q2 => ?_)
      · refine dec8_loop hn hV hl d (k + 1) b (by omega) (by omega) hVb h (fun j hj w => ?_)
        rcases Nat.lt_or_ge j k with v | v
        · exact h1 j v w
        · rw [show j = k by omega]; exact ⟨q2, fun _ => by omega⟩
      · refine dec8_loop hn hV hl d (k + 1) k (by omega) (by omega) q h (fun j hj w => ?_)
        rcases Nat.lt_or_ge j k with v | v
        · have := h1 j v w
          exact ⟨by omega, fun _ => by omega⟩
        · rw [show j = k by omega]; exact ⟨Nat.le_refl _, fun _ => Nat.le_refl _⟩
theorem dec8_first {V n : Nat} {l : Nat → Nat} {mm me : Int32} {bys mc mpt mlb ly pl : Nat → Int32} {Q : Int32 → (Nat → Int32) → (Nat → Int32) → Prop} (hn : n ≤ 20) (hV : V < 2 ^ n) (h0 : V ≠ 0) (hl : ∀ k, k < n → ly k = nI (l k) ∧ l k < 20)
    (h : ∀ r : Nat, r < n → V.testBit r = true → (∀ j, j < n → V.testBit j = true → l r ≤ l j ∧ (l j = l r → r ≤ j)) → Q (nI r) ly pl) :
    ∀ (d k : Nat), k + d = n → (∀ j, j < k → V.testBit j = false) → wp_X8_decode_b21 mm (nI n) me bys mc mpt mlb Q (d + 1) (nI V) (-1 : Int32) (nI k) ly pl
  | 0, k, hk, h1 => by
    obtain ⟨j, hj, hb⟩ := ne_bit hV h0
    rw [h1 j (by omega)] at hb
    cases hb
  | d + 1, k, hk, h1 => by
    have h20 := pow20 hn
    refine br_f (nI_ge (by omega) (by omega)) (has8_sp (by omega) (by omega) (bI_br0 (fun q => ?_) (fun q => br_t rfl ?_)))
    · rw [nI_1]
      refine dec8_first hn hV h0 hl h d (k + 1) (by omega) (fun j hj => ?_)
      rcases Nat.lt_or_ge j k with v | v
      · exact h1 j v
      · rw [show j = k by omega]; exact q
    · rw [nI_1]
      refine dec8_loop hn (by omega) hl d (k + 1) k (by omega) (by omega) q h (fun j hj w => ?_)
      rcases Nat.lt_or_ge j k with v | v
      · rw [h1 j v] at w; cases w
      · rw [show j = k by omega]; exact ⟨Nat.le_refl _, fun _ => Nat.le_refl _⟩

set_option maxHeartbeats 2000000 in
theorem pu_decode : PU_decode INV := by
  intro N S M  hN hI
  have hkeep := hI.keep
  obtain ⟨⟨points, count, ed, sets, scores, rated, hold⟩, ⟨scnt, codes⟩, D, X, saved, stand, ⟨height, largest, ped, layers, psets⟩, seen, depths, K⟩ := S
  obtain ⟨mm, many, mex, has, sm, smany, sex, bys, mc, ms, mpt, mlb, ty, ln, wh, tw, sc8, ss8, sp8, sl8, lay8, pl8⟩ := M
  obtain ⟨m, n, f, e, pt, lb, hc, hs, hp, hx, ht, hk, hsh⟩ := INV_mk.mp hI
  obtain ⟨⟨hm1, hm8, hn20⟩, rfl, rfl, hS, hB, hDs, hH, rfl, rfl, hM⟩ := hc
  have hf31 : ∀ k, k < n → f k < 2 ^ 31 := fun k hk => Nat.lt_trans (hB.lt hm8 hk) (by decide)
  dsimp only
  obtain ⟨he12, rfl, rfl, hxx⟩ := hx
  have hx7 : ∀ k, k < e → pt k < m ∧ lb k < 2 ∧ codes k = nI (2 * pt k + lb k) := fun k hk => ⟨(hxx k hk).1, (hxx k hk).2.1, (hxx k hk).2.2.1⟩
  have hx8 : ∀ k, k < e → pt k < m ∧ lb k < 2 ∧ mpt k = nI (pt k) ∧ mlb k = nI (lb k) := fun k hk => ⟨(hxx k hk).1, (hxx k hk).2.1, (hxx k hk).2.2.2⟩
  have hV := MSK_32 (P := fun k => VB pt lb (f k) e) hn20
  
  refine ver7_sp hm8 hn20 he12 hH hx7 (brne (b := 0) (by omega) (by decide) (fun h0 => ?_) (fun h0 => ?_))
  rotate_left
  · exact ver8_sp hm8 hn20 he12 hf31 hM hx8 (brne (b := 0) (by omega) (by decide) (fun q => absurd h0 q) (fun _ => ⟨rfl, hkeep⟩))
  obtain ⟨⟨pf, -⟩, pl20⟩ := PLAN_fin (f := f) hm8 hn20
  have lt20 : ∀ k, k < n → (PLAN m n f).2.1 k < 20 := fun k hk => by have := (pf k hk (Nat.zero_testBit k)).2; omega
  refine renew_sp hN hm8 hn20 hS hf31 hH hp (fun hh ll ly ss st g gp => ⟨n + 1, dec7_first (l := (PLAN m n f).2.1) hn20 (MSK_lt _ n) h0 (fun k hk => ⟨(g.2.2 k hk).1, lt20 k hk⟩) (fun r _ hr hrV hrm => ?_) n 0 (by omega) (fun j hj => absurd hj (Nat.not_lt_zero j))⟩)
  refine ver8_sp hm8 hn20 he12 hf31 hM hx8 (brne (b := 0) (by omega) (by decide) (fun _ => ?_) (fun q => absurd q h0))
  refine plans_sp hm8 hn20 ht hM hf31 hB hDs (fun ly8 pl8 g8 => ⟨n + 1, dec8_first (l := (PLAN m n f).2.1) hn20 (MSK_lt _ n) h0 (fun k hk => ⟨(g8 k hk).1, lt20 k hk⟩) (fun r2 hr2 hr2V hr2m => ?_) n 0 (by omega) (fun j hj => absurd hj (Nat.not_lt_zero j))⟩)
  have a1 := hrm r2 hr2 hr2V
  have a2 := hr2m r hr hrV
  have er : r = r2 := by omega
  refine ⟨congrArg nI er, ?_⟩
  exact INV_mk.mpr ⟨m, n, f, e, pt, lb, ⟨⟨hm1, hm8, hn20⟩, rfl, rfl, hS, hB, hDs, hH, rfl, rfl, hM⟩, hs, gp, ⟨he12, rfl, rfl, hxx⟩, ht, hk, hsh⟩
