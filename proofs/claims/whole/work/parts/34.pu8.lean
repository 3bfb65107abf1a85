/-! dimensions, averages -/
def TD (m n : Nat) (f : Nat → Nat) (k : Nat) : Nat := bc (SM (TSb n f k (2 ^ n - 1)) m)
theorem TD_le {m n : Nat} {f : Nat → Nat} (hm : m ≤ 8) (k : Nat) : TD m n f k ≤ 8 := bc256 (Nat.lt_of_lt_of_le (SM_lt _ m) (pow8 hm))
theorem smSize_sp {m n c : Nat} {f : Nat → Nat} {stand sets hold : Nat → Int32} {Q : Int32 → (Nat → Int32) → Prop} (hm : m ≤ 8) (hn : n ≤ 20) (hS : SOK n f sets) (hf : ∀ k, k < n → f k < 2 ^ 31) (hH : HOK m n f hold) (hc : c < n)
    (h : ∀ st : Nat → Int32, Q (nI (TD m n f c)) st) : wp_X4_smallestSize (nI c) stand (nI m) (nI n) sets hold Q := by
  unfold wp_X4_smallestSize
  refine others_sp (by omega) (by omega) ?_
  rw [others_MSK]
  have h8 := pow8 hm
  have hl := SM_lt (TQ n f c (fun k => !decide (k = c))) m
  refine smallest_sp hm hn hS hf hH hc (fun st => bitCount_sp (by omega) ?_)
  rw [SM_all]
  exact h st
theorem leastSize_sp {m n c : Nat} {f : Nat → Nat} {bys mc : Nat → Int32} {Q : Int32 → Prop} (hm : m ≤ 8) (hn : n ≤ 20) (ht : I_tab bys) (hM : SOK n f mc) (hf : ∀ k, k < n → f k < 2 ^ 31) (hB : BND m n f) (hD : DIS n f) (hc : c < n) (h : Q (nI (TD m n f c))) : wp_X8_all (nI n) (fun r => wp_X8_least (nI c) r (nI m) (nI n) bys mc (fun r2 => wp_X8_sizeOf r2 Q)) := by
  have h20 := pow20 hn
  have h8 := pow8 hm
  have hl := SM_lt (TSb n f c (2 ^ n - 1)) m
  exact all8_sp (by omega) (least_sp hm hn ht hM hf hB hD hc (by omega) (sizeOf_sp (by omega) h))
def mxT (T : Nat → Nat) : Nat → Nat
  | 0 => 0
  | k + 1 => if mxT T k < T k then T k else mxT T k
def mnT (T : Nat → Nat) : Nat → Nat
  | 0 => 8
  | k + 1 => if T k < mnT T k then T k else mnT T k
theorem mxT_succ (T : Nat → Nat) (k : Nat) : mxT T (k + 1) = if mxT T k < T k then T k else mxT T k := rfl
theorem mnT_succ (T : Nat → Nat) (k : Nat) : mnT T (k + 1) = if T k < mnT T k then T k else mnT T k := rfl
theorem mxT_le {T : Nat → Nat} (h : ∀ k, T k ≤ 8) : ∀ k, mxT T k ≤ 8
  | 0 => Nat.zero_le _
  | k + 1 => by
    have := mxT_le h k
    have := h k
    rw [mxT_succ]
    split <;> omega
theorem mnT_le {T : Nat → Nat} : ∀ k, mnT T k ≤ 8
  | 0 => Nat.le_refl _
  | k + 1 => by
    have := mnT_le (T := T) k
    rw [mnT_succ]
    split <;> omega
theorem if_max {a b : Nat} (ha : a < 2 ^ 31) (hb : b < 2 ^ 31) : (if nI a < nI b then nI b else nI a) = nI (if a < b then b else a) := by
  by_cases h : a < b
  · rw [if_pos h, if_pos ((clt ha hb).mpr h)]
  · rw [if_neg h, if_neg (fun q => h ((clt ha hb).mp q))]
theorem if_min {a b : Nat} (ha : a < 2 ^ 31) (hb : b < 2 ^ 31) : (if nI b < nI a then nI b else nI a) = nI (if b < a then b else a) := by
  by_cases h : b < a
  · rw [if_pos h, if_pos ((clt hb ha).mpr h)]
  · rw [if_neg h, if_neg (fun q => h ((clt hb ha).mp q))]
theorem td7_loop {m n : Nat} {x : Int32} {f : Nat → Nat} {sets hold : Nat → Int32} {Q : Int32 → (Nat → Int32) → Prop} (hm : m ≤ 8) (hn : n ≤ 20) (hS : SOK n f sets) (hf : ∀ k, k < n → f k < 2 ^ 31) (hH : HOK m n f hold)
    (h0 : x = 0 → ∀ st : Nat → Int32, Q (nI (mxT (TD m n f) n)) st) (h1 : ¬ x = 0 → ∀ st : Nat → Int32, Q (nI (mnT (TD m n f) n)) st) : ∀ (d k : Nat) (st : Nat → Int32), k + d = n → wp_X7_teachingDimension_b32 x (nI m) (nI n) sets hold Q (d + 1) (nI (mxT (TD m n f) k)) (nI (mnT (TD m n f) k)) (nI k) st
  | 0, k, st, hk => by
    have e : k = n := by omega
    subst e
    exact br_t (nI_le (by omega) (by omega)) (bn_c (fun q => h1 q st) (fun q => h0 q st))
  | d + 1, k, st, hk => by
    refine br_f (nI_ge (by omega) (by omega)) (smSize_sp hm hn hS hf hH (by omega) (fun st2 => ?_))
    have a1 := TD_le (n := n) (f := f) hm k
    have a2 := mxT_le (T := TD m n f) (fun k => TD_le hm k) k
    have a3 := mnT_le (T := TD m n f) k
    rw [if_max (by omega) (by omega), if_min (by omega) (by omega), nI_1]
    exact td7_loop hm hn hS hf hH h0 h1 d (k + 1) st2 (by omega)
theorem td8_max {m n : Nat} {f : Nat → Nat} {bys mc : Nat → Int32} {Q : Int32 → Prop} (hm : m ≤ 8) (hn : n ≤ 20) (ht : I_tab bys) (hM : SOK n f mc) (hf : ∀ k, k < n → f k < 2 ^ 31) (hB : BND m n f) (hD : DIS n f) (h : Q (nI (mxT (TD m n f) n))) : ∀ (d k : Nat), k + d = n → wp_X8_teachingDimension_b37 (nI 0) (nI m) (nI n) bys mc Q (d + 1) (nI (mxT (TD m n f) k)) (nI k)
  | 0, k, hk => by
    have e : k = n := by omega
    subst e
    exact br_t (nI_le (by omega) (by omega)) h
  | d + 1, k, hk => by
    refine br_f (nI_ge (by omega) (by omega)) (leastSize_sp hm hn ht hM hf hB hD (by omega) ?_)
    have a1 := TD_le (n := n) (f := f) hm k
    have a2 := mxT_le (T := TD m n f) (fun k => TD_le hm k) k
    have t := td8_max hm hn ht hM hf hB hD h d (k + 1) (by omega)
    rw [mxT_succ] at t
    rw [nI_1]
    refine bn_t rfl (brle (by omega) (by omega) (fun q => ?_) (fun q => ?_))
    · rw [if_neg (by omega)] at t; exact t
    · rw [if_pos q] at t; exact t
theorem td8_min {m n : Nat} {f : Nat → Nat} {bys mc : Nat → Int32} {Q : Int32 → Prop} (hm : m ≤ 8) (hn : n ≤ 20) (ht : I_tab bys) (hM : SOK n f mc) (hf : ∀ k, k < n → f k < 2 ^ 31) (hB : BND m n f) (hD : DIS n f) (h : Q (nI (mnT (TD m n f) n))) : ∀ (d k : Nat), k + d = n → wp_X8_teachingDimension_b37 (nI 1) (nI m) (nI n) bys mc Q (d + 1) (nI (mnT (TD m n f) k)) (nI k)
  | 0, k, hk => by
    have e : k = n := by omega
    subst e
    exact br_t (nI_le (by omega) (by omega)) h
  | d + 1, k, hk => by
    refine br_f (nI_ge (by omega) (by omega)) (leastSize_sp hm hn ht hM hf hB hD (by omega) ?_)
    have a1 := TD_le (n := n) (f := f) hm k
    have a3 := mnT_le (T := TD m n f) k
    have t := td8_min hm hn ht hM hf hB hD h d (k + 1) (by omega)
    rw [mnT_succ] at t
    rw [nI_1]
    refine bn_f (by decide) (brle (by omega) (by omega) (fun q => ?_) (fun q => ?_))
    · rw [if_neg (by omega)] at t; exact t
    · rw [if_pos q] at t; exact t
/-- an argument that is 0 or 1, or neither -/
theorem two7_br {x : Int32} {A B : Prop} (hb : inr x 2 = false → B) (ha : inr x 2 = true → A) : ((x < 0) → B) ∧ ((¬ x < 0) → ((x ≤ (1 : Int32)) → A) ∧ ((¬ x ≤ (1 : Int32)) → B)) := by
  have e1 : (1 : Int32).toInt = 1 := by decide
  unfold inr at hb ha
  simp only [Int32.lt_iff_toInt_lt, Int32.le_iff_toInt_le, toInt0, e1]
  refine ⟨fun h1 => hb (decide_eq_false (by omega)), fun h1 => ⟨fun h2 => ha (decide_eq_true (by omega)), fun h2 => hb (decide_eq_false (by omega))⟩⟩
theorem inr2 {x : Int32} (h : inr x 2 = true) : x = nI 0 ∨ x = nI 1 := by
  rcases inr_cases x 2 (by decide) with q | ⟨j, hj, e, -⟩
  · rw [h] at q; cases q
  · have : j = 0 ∨ j = 1 := by omega
    rcases this with w | w <;> subst w
    · exact Or.inl e
    · exact Or.inr e
/-- the divisor of both that is greatest -/
theorem red_loop {s n w : Nat} {x2 : Int32} {Q : Int32 → Prop} (hs : s < 2 ^ 31) (hn : n ≤ 20) (hn0 : 0 < n) (hw : w < 2 ^ 31) (h : Q (nI (w / Nat.gcd s n))) : ∀ (d : Nat), 1 ≤ d → d ≤ n → (∀ e, d < e → e ≤ n → ¬ (e ∣ s ∧ e ∣ n)) → wp_X7_reducedPart_b13 (nI s) (nI n) x2 Q d (nI w) (nI d)
  | 0, h1, _, _ => absurd h1 (by omega)
  | d + 1, h1, h2, h3 => by
    have g0 : Nat.gcd s n ∣ s ∧ Nat.gcd s n ∣ n := ⟨Nat.gcd_dvd_left s n, Nat.gcd_dvd_right s n⟩
    have g1 : Nat.gcd s n ≤ n := Nat.le_of_dvd hn0 g0.2
    have g2 : 0 < Nat.gcd s n := Nat.gcd_pos_of_pos_right s hn0
    have g3 : Nat.gcd s n ≤ d + 1 := by
      rcases Nat.lt_or_ge (d + 1) (Nat.gcd s n) with q | q
      · exact absurd g0 (h3 _ q g1)
      · exact q
    refine brle (b := 1) (by omega) (by decide) (fun q => ?_) (fun q => ?_)
    · have e : Nat.gcd s n = 1 := by omega
      rw [e, Nat.div_one] at h
      exact h
    · have e0 : ¬ nI (d + 1) = 0 := fun w => absurd ((ceq (b := 0) (by omega) (by decide)).mp w) (by omega)
      refine ⟨e0, ?_⟩
      rw [pk_rem hs (by omega) (by omega), pk_rem (a := n) (by omega) (by omega) (by omega), pk_div hw (by omega) (by omega), pk_m1]
      have r1 := Nat.mod_lt s (y := d + 1) (by omega)
      have r2 := Nat.mod_lt n (y := d + 1) (by omega)
      have next : ¬ (d + 1 ∣ s ∧ d + 1 ∣ n) → wp_X7_reducedPart_b13 (nI s) (nI n) x2 Q d (nI w) (nI d) := by
        intro u
        refine red_loop hs hn hn0 hw h d (by omega) (by omega) (fun e he he2 => ?_)
        rcases Nat.lt_or_ge (d + 1) e with v | v
        · exact h3 e v he2
        · rw [show e = d + 1 by omega]; exact u
      refine brne (b := 0) (by omega) (by decide) (fun q1 => next (fun u => q1 (Nat.mod_eq_zero_of_dvd u.1))) (fun q1 => ⟨e0, brne (b := 0) (by omega) (by decide) (fun q2 => next (fun u => q2 (Nat.mod_eq_zero_of_dvd u.2))) (fun q2 => ⟨e0, ?_⟩)⟩)
      have d1 : d + 1 ∣ Nat.gcd s n := Nat.dvd_gcd (Nat.dvd_of_mod_eq_zero q1) (Nat.dvd_of_mod_eq_zero q2)
      have e : Nat.gcd s n = d + 1 := Nat.le_antisymm g3 (Nat.le_of_dvd g2 d1)
      rw [e] at h
      exact h
theorem euc_loop {s n : Nat} {x1 mm : Int32} {bys mc : Nat → Int32} {Q : Int32 → Prop} (hs : s < 2 ^ 31) (hn : n ≤ 20) (h0 : x1 = 0 → Q (nI (s / Nat.gcd s n))) (h1 : ¬ x1 = 0 → Q (nI (n / Nat.gcd s n))) : ∀ (d a b : Nat), b < d → a < 2 ^ 31 → b < 2 ^ 31 → 0 < a ∨ 0 < b → Nat.gcd a b = Nat.gcd s n → wp_X8_averageDimension_b63 x1 mm (nI n) bys mc Q d (nI s) (nI a) (nI b)
  | 0, a, b, hd, _, _, _, _ => absurd hd (Nat.not_lt_zero b)
  | d + 1, a, b, hd, ha, hb, hp, hg => by
    refine breq (b := 0) hb (by decide) (fun q => ?_) (fun q => ⟨fun w => q ((ceq (b := 0) hb (by decide)).mp w), ?_⟩)
    · subst q
      rw [Nat.gcd_zero_right] at hg
      have e0 : ¬ nI a = 0 := fun w => absurd ((ceq (b := 0) ha (by decide)).mp w) (by omega)
      rw [pk_div (a := n) (by omega) (by omega) ha, pk_div hs (by omega) ha]
      rw [← hg] at h0 h1
      exact bn_c (fun q => ⟨e0, h1 q⟩) (fun q => ⟨e0, h0 q⟩)
    · rw [pk_rem ha (by omega) hb]
      have r1 := Nat.mod_lt a (y := b) (by omega)
      refine euc_loop hs hn h0 h1 d b (a % b) (by omega) hb (by omega) (Or.inl (by omega)) ?_
      rw [← hg, Nat.gcd_comm b, ← Nat.gcd_rec, Nat.gcd_comm]
theorem av7_loop {m n : Nat} {x : Int32} {f : Nat → Nat} {sets hold : Nat → Int32} {Q : Int32 → (Nat → Int32) → Prop} (hm : m ≤ 8) (hn : n ≤ 20) (hS : SOK n f sets) (hf : ∀ k, k < n → f k < 2 ^ 31) (hH : HOK m n f hold)
    (h : ∀ st : Nat → Int32, wp_X7_reducedPart (nI (fb_sm (TD m n f) n)) (nI n) x (fun r => Q r st)) : ∀ (d k : Nat) (st : Nat → Int32), k + d = n → wp_X7_averageDimension_b28 x (nI m) (nI n) sets hold Q (d + 1) (nI (fb_sm (TD m n f) k)) (nI k) st
  | 0, k, st, hk => by
    have e : k = n := by omega
    subst e
    exact br_t (nI_le (by omega) (by omega)) (h st)
  | d + 1, k, st, hk => by
    refine br_f (nI_ge (by omega) (by omega)) (smSize_sp hm hn hS hf hH (by omega) (fun st2 => ?_))
    rw [nI_add, nI_1, ← fb_sm_succ]
    exact av7_loop hm hn hS hf hH h d (k + 1) st2 (by omega)
theorem av8_loop {m n : Nat} {x : Int32} {f : Nat → Nat} {bys mc : Nat → Int32} {Q : Int32 → Prop} (hm : m ≤ 8) (hn : n ≤ 20) (ht : I_tab bys) (hM : SOK n f mc) (hf : ∀ k, k < n → f k < 2 ^ 31) (hB : BND m n f) (hD : DIS n f)
    (h : ∃ j63, wp_X8_averageDimension_b63 x (nI m) (nI n) bys mc Q j63 (nI (fb_sm (TD m n f) n)) (nI n) (nI (fb_sm (TD m n f) n))) : ∀ (d k : Nat), k + d = n → wp_X8_averageDimension_b26 x (nI m) (nI n) bys mc Q (d + 1) (nI (fb_sm (TD m n f) k)) (nI k)
  | 0, k, hk => by
    have e : k = n := by omega
    subst e
    exact br_t (nI_le (by omega) (by omega)) h
  | d + 1, k, hk => by
    refine br_f (nI_ge (by omega) (by omega)) (leastSize_sp hm hn ht hM hf hB hD (by omega) ?_)
    rw [nI_add, nI_1, ← fb_sm_succ]
    exact av8_loop hm hn ht hM hf hB hD h d (k + 1) (by omega)

set_option maxHeartbeats 2000000 in
theorem pu_teachingDimension : PU_teachingDimension INV := by
  intro N S M a1 hN hI
  have hkeep := hI.keep
  obtain ⟨⟨points, count, ed, sets, scores, rated, hold⟩, ⟨scnt, codes⟩, D, X, saved, stand, ⟨height, largest, ped, layers, psets⟩, seen, depths, K⟩ := S
  obtain ⟨mm, many, mex, has, sm, smany, sex, bys, mc, ms, mpt, mlb, ty, ln, wh, tw, sc8, ss8, sp8, sl8, lay8, pl8⟩ := M
  obtain ⟨m, n, f, e, pt, lb, hc, hs, hp, hx, ht, hk, hsh⟩ := INV_mk.mp hI
  obtain ⟨⟨hm1, hm8, hn20⟩, rfl, rfl, hS, hB, hDs, hH, rfl, rfl, hM⟩ := hc
  have hf31 : ∀ k, k < n → f k < 2 ^ 31 := fun k hk => Nat.lt_trans (hB.lt hm8 hk) (by decide)
  dsimp only
  refine two7_br (fun h => two8_sp ?_) (fun h => ?_)
  · rw [h]
    exact bn_t rfl ⟨rfl, hkeep⟩
  refine bn_c (fun h0 => ?_) (fun h0 => two8_sp ?_)
  rotate_left
  · rw [h]
    exact bn_f (by decide) (bn_t h0 ⟨rfl, hkeep⟩)
  have hn0 : 0 < n := by
    rcases Nat.eq_zero_or_pos n with q | q
    · subst q; exact absurd rfl h0
    · exact q
  
  have at0 := TD_le (n := n) (f := f) hm8 0
  have eX : mxT (TD m n f) 1 = TD m n f 0 := by
    rw [mxT_succ]
    show (if 0 < TD m n f 0 then TD m n f 0 else 0) = _
    split <;> omega
  have eN : mnT (TD m n f) 1 = TD m n f 0 := by
    rw [mnT_succ]
    show (if TD m n f 0 < 8 then TD m n f 0 else 8) = _
    split <;> omega
  have fin8 : ∀ {Q : Int32 → Prop}, (∃ j37, wp_X8_teachingDimension_b37 a1 (nI m) (nI n) bys mc Q j37 (nI (TD m n f 0)) (1 : Int32)) → wp_X8_teachingDimension a1 (nI m) (nI n) bys mc Q := by
    intro Q hq
    refine two8_sp ?_
    rw [h]
    exact bn_f (by decide) (bn_f h0 (leastSize_sp (c := 0) hm8 hn20 ht hM hf31 hB hDs hn0 hq))
  refine ⟨n + 1, td7_loop hm8 hn20 hS hf31 hH (fun q st => ?_) (fun q st => ?_) n 0 stand (by omega)⟩
  · subst q
    refine fin8 ⟨n - 1 + 1, ?_⟩
    rw [← eX]
    exact td8_max hm8 hn20 ht hM hf31 hB hDs ⟨rfl, hkeep⟩ (n - 1) 1 (by omega)
  · rcases inr2 h with w | w
    · exact absurd w q
    subst w
    refine fin8 ⟨n - 1 + 1, ?_⟩
    rw [← eN]
    exact td8_min hm8 hn20 ht hM hf31 hB hDs ⟨rfl, hkeep⟩ (n - 1) 1 (by omega)

set_option maxHeartbeats 2000000 in
theorem pu_averageDimension : PU_averageDimension INV := by
  intro N S M a1 hN hI
  have hkeep := hI.keep
  obtain ⟨⟨points, count, ed, sets, scores, rated, hold⟩, ⟨scnt, codes⟩, D, X, saved, stand, ⟨height, largest, ped, layers, psets⟩, seen, depths, K⟩ := S
  obtain ⟨mm, many, mex, has, sm, smany, sex, bys, mc, ms, mpt, mlb, ty, ln, wh, tw, sc8, ss8, sp8, sl8, lay8, pl8⟩ := M
  obtain ⟨m, n, f, e, pt, lb, hc, hs, hp, hx, ht, hk, hsh⟩ := INV_mk.mp hI
  obtain ⟨⟨hm1, hm8, hn20⟩, rfl, rfl, hS, hB, hDs, hH, rfl, rfl, hM⟩ := hc
  have hf31 : ∀ k, k < n → f k < 2 ^ 31 := fun k hk => Nat.lt_trans (hB.lt hm8 hk) (by decide)
  dsimp only
  refine two7_br (fun h => two8_sp ?_) (fun h => ?_)
  · rw [h]
    exact bn_t rfl ⟨rfl, hkeep⟩
  refine bn_c (fun h0 => ?_) (fun h0 => two8_sp ?_)
  rotate_left
  · rw [h]
    exact bn_f (by decide) (bn_t h0 ⟨rfl, hkeep⟩)
  have hn0 : 0 < n := by
    rcases Nat.eq_zero_or_pos n with q | q
    · subst q; exact absurd rfl h0
    · exact q
  
  have hsm : fb_sm (TD m n f) n ≤ n * 8 := fb_sm_bound (fun k _ => TD_le hm8 k)
  have hg0 : Nat.gcd n (fb_sm (TD m n f) n) = Nat.gcd (fb_sm (TD m n f) n) n := Nat.gcd_comm _ _
  have fin8 : ∀ {Q : Int32 → Prop}, (a1 = 0 → Q (nI (fb_sm (TD m n f) n / Nat.gcd (fb_sm (TD m n f) n) n))) → (¬ a1 = 0 → Q (nI (n / Nat.gcd (fb_sm (TD m n f) n) n))) → wp_X8_averageDimension a1 (nI m) (nI n) bys mc Q := by
    intro Q q0 q1
    refine two8_sp ?_
    rw [h]
    refine bn_f (by decide) (bn_f h0 ⟨n + 1, av8_loop hm8 hn20 ht hM hf31 hB hDs ⟨fb_sm (TD m n f) n + 1, ?_⟩ n 0 (by omega)⟩)
    exact euc_loop (by omega) hn20 q0 q1 _ n _ (by omega) (by omega) (by omega) (Or.inl hn0) hg0
  refine ⟨n + 1, av7_loop hm8 hn20 hS hf31 hH (fun st => ?_) n 0 stand (by omega)⟩
  refine bn_c (fun q => ⟨n, red_loop (by omega) hn20 hn0 (by omega) ?_ n hn0 (Nat.le_refl n) (fun e he he2 => absurd he2 (by omega))⟩) (fun q => ⟨n, red_loop (by omega) hn20 hn0 (by omega) ?_ n hn0 (Nat.le_refl n) (fun e he he2 => absurd he2 (by omega))⟩)
  · exact fin8 (fun w => absurd w q) (fun _ => ⟨rfl, hkeep⟩)
  · exact fin8 (fun _ => ⟨rfl, hkeep⟩) (fun w => absurd q w)
