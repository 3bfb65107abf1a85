/-! scans over all sets of points -/
def DMF (f : Nat → Nat) (n : Nat) : Nat → Nat → Nat → Nat
  | 0, _, a => a
  | d + 1, k, a => DMF f n d (k + 1) (if a ≤ bc k ∧ SH f n k = true then bc k + 1 else a)
theorem DMF_succ (f : Nat → Nat) (n d k a : Nat) : DMF f n (d + 1) k a = DMF f n d (k + 1) (if a ≤ bc k ∧ SH f n k = true then bc k + 1 else a) := rfl
theorem le_m1 {a b : Nat} (ha : a < 2 ^ 30) (hb : b < 2 ^ 30) : nI b ≤ nI a - (1 : Int32) ↔ b < a := by
  have e : (nI a - (1 : Int32)).toInt = (a : Int) - 1 := pk_sub_toInt (b := 1) ha (by decide)
  rw [fa_le, nI_toInt (by omega), e]
  omega
theorem bc_m1 (b : Nat) : nI (b + 1) - (1 : Int32) = nI b := by
  have := pk_sub (a := b + 1) (b := 1) (by omega)
  rw [Nat.add_sub_cancel] at this
  exact this
theorem dm7_loop {m n : Nat} {f : Nat → Nat} {sets : Nat → Int32} {Q : Int32 → (Nat → Int64) → Prop} (hm : m ≤ 8) (hn : n ≤ 20) (hS : SOK n f sets) : ∀ (d k a : Nat) (seen : Nat → Int64), k + d = 2 ^ m → a ≤ 9 → (∀ seen : Nat → Int64, Q (nI (DMF f n d k a) - (1 : Int32)) seen) → wp_X7_dimension_b4 (nI m) (nI n) sets Q (d + 1) (nI a - (1 : Int32)) (nI k) seen
  | 0, k, a, seen, hk, ha, h => by
    have h8 := pow8 hm
    have h0 := Nat.two_pow_pos m
    unfold wp_X7_dimension_b4
    exact allPoints_sp (by omega) (brlt (by omega) (by omega) (fun _ => h seen) (fun g => absurd g (by omega)))
  | d + 1, k, a, seen, hk, ha, h => by
    have h8 := pow8 hm
    have h0 := Nat.two_pow_pos m
    have hb := bc256 (x := k) (by omega)
    rw [DMF_succ] at h
    unfold wp_X7_dimension_b4
    refine allPoints_sp (by omega) (brlt (by omega) (by omega) (fun g => absurd g (by omega)) (fun _ => bitCount_sp (by omega) ?_))
    rw [le_m1 (by omega) (by omega), nI_1]
    refine br_c (fun q => ?_) (fun q => shatter_sp hn (by omega) hS (fun sn => bI_br0 (fun q2 => ?_) (fun q2 => ?_)))
    · rw [if_neg (fun w => absurd w.1 (by omega))] at h
      exact dm7_loop hm hn hS d (k + 1) a seen (by omega) ha h
    · rw [if_neg (fun w => by rw [q2] at w; cases w.2)] at h
      exact dm7_loop hm hn hS d (k + 1) a sn (by omega) ha h
    · rw [if_pos ⟨by omega, q2⟩] at h
      have t := dm7_loop hm hn hS d (k + 1) (bc k + 1) sn (by omega) (by omega) h
      rw [bc_m1] at t
      exact t
theorem dm8_loop {m n : Nat} {f : Nat → Nat} {mc : Nat → Int32} {Q : Int32 → Prop} (hm : m ≤ 8) (hn : n ≤ 20) (hM : SOK n f mc) (hf : ∀ k, k < n → f k < 2 ^ 31) : ∀ (d k a : Nat), k + d = 2 ^ m → a ≤ 9 → Q (nI (DMF f n d k a) - (1 : Int32)) → wp_X8_dimension_b4 (nI m) (nI n) mc Q (d + 1) (nI a - (1 : Int32)) (nI k)
  | 0, k, a, hk, ha, h => by
    have h8 := pow8 hm
    unfold wp_X8_dimension_b4
    rw [shl1_nI (by omega)]
    exact br_t (nI_le (by omega) (by omega)) h
  | d + 1, k, a, hk, ha, h => by
    have h8 := pow8 hm
    have hb := bc256 (x := k) (by omega)
    rw [DMF_succ] at h
    unfold wp_X8_dimension_b4
    rw [shl1_nI (by omega)]
    refine br_f (nI_ge (by omega) (by omega)) (sizeOf_sp (by omega) ?_)
    rw [le_m1 (by omega) (by omega), nI_1]
    refine br_c (fun q => ?_) (fun q => isSh_sp hn (by omega) hM hf (bI_br0 (fun q2 => ?_) (fun q2 => ?_)))
    · rw [if_neg (fun w => absurd w.1 (by omega))] at h
      exact dm8_loop hm hn hM hf d (k + 1) a (by omega) ha h
    · rw [if_neg (fun w => by rw [q2] at w; cases w.2)] at h
      exact dm8_loop hm hn hM hf d (k + 1) a (by omega) ha h
    · rw [if_pos ⟨by omega, q2⟩] at h
      have t := dm8_loop hm hn hM hf d (k + 1) (bc k + 1) (by omega) (by omega) h
      rw [bc_m1] at t
      exact t
/-- the first shattered set of a size -/
def FSF (f : Nat → Nat) (n z : Nat) : Nat → Nat → Int32
  | 0, _ => -6
  | d + 1, k => if bc k = z ∧ SH f n k = true then nI k else FSF f n z d (k + 1)
theorem FSF_succ (f : Nat → Nat) (n z d k : Nat) : FSF f n z (d + 1) k = if bc k = z ∧ SH f n k = true then nI k else FSF f n z d (k + 1) := rfl
theorem fs7_loop {m n z : Nat} {f : Nat → Nat} {sets : Nat → Int32} {Q : Int32 → (Nat → Int64) → Prop} (hm : m ≤ 8) (hn : n ≤ 20) (hz : z < 2 ^ 31) (hS : SOK n f sets) : ∀ (d k : Nat) (seen : Nat → Int64), k + d = 2 ^ m → (∀ seen : Nat → Int64, Q (FSF f n z d k) seen) → wp_X7_shatteredSet_b15 (nI z) (nI m) (nI n) sets Q (d + 1) (nI k) seen
  | 0, k, seen, hk, h => by
    have h8 := pow8 hm
    have h0 := Nat.two_pow_pos m
    unfold wp_X7_shatteredSet_b15
    exact allPoints_sp (by omega) (brlt (by omega) (by omega) (fun _ => h seen) (fun g => absurd g (by omega)))
  | d + 1, k, seen, hk, h => by
    have h8 := pow8 hm
    have h0 := Nat.two_pow_pos m
    have hb := bc256 (x := k) (by omega)
    rw [FSF_succ] at h
    unfold wp_X7_shatteredSet_b15
    refine allPoints_sp (by omega) (brlt (by omega) (by omega) (fun g => absurd g (by omega)) (fun _ => bitCount_sp (by omega) ?_))
    rw [nI_1]
    refine brne (by omega) hz (fun q => ?_) (fun q => shatter_sp hn (by omega) hS (fun sn => bI_br0 (fun q2 => ?_) (fun q2 => ?_)))
    · rw [if_neg (fun w => q w.1)] at h
      exact fs7_loop hm hn hz hS d (k + 1) seen (by omega) h
    · rw [if_neg (fun w => by rw [q2] at w; cases w.2)] at h
      exact fs7_loop hm hn hz hS d (k + 1) sn (by omega) h
    · rw [if_pos ⟨q, q2⟩] at h
      exact h sn
theorem fs8_loop {m n z : Nat} {f : Nat → Nat} {mc : Nat → Int32} {Q : Int32 → Prop} (hm : m ≤ 8) (hn : n ≤ 20) (hz : z < 2 ^ 31) (hM : SOK n f mc) (hf : ∀ k, k < n → f k < 2 ^ 31) : ∀ (d k : Nat), k + d = 2 ^ m → Q (FSF f n z d k) → wp_X8_shatteredSet_b18 (nI z) (nI m) (nI n) mc Q (d + 1) (nI k)
  | 0, k, hk, h => by
    have h8 := pow8 hm
    unfold wp_X8_shatteredSet_b18
    rw [shl1_nI (by omega)]
    exact br_t (nI_le (by omega) (by omega)) h
  | d + 1, k, hk, h => by
    have h8 := pow8 hm
    have hb := bc256 (x := k) (by omega)
    rw [FSF_succ] at h
    unfold wp_X8_shatteredSet_b18
    rw [shl1_nI (by omega), nI_1]
    refine br_f (nI_ge (by omega) (by omega)) (sizeOf_sp (by omega) (brne (by omega) hz (fun q => ?_) (fun q => isSh_sp hn (by omega) hM hf (bI_br0 (fun q2 => ?_) (fun q2 => ?_)))))
    · rw [if_neg (fun w => q w.1)] at h
      exact fs8_loop hm hn hz hM hf d (k + 1) (by omega) h
    · rw [if_neg (fun w => by rw [q2] at w; cases w.2)] at h
      exact fs8_loop hm hn hz hM hf d (k + 1) (by omega) h
    · rw [if_pos ⟨q, q2⟩] at h
      exact h
theorem sc7_loop {m n z : Nat} {f : Nat → Nat} {sets : Nat → Int32} {Q : Int32 → (Nat → Int64) → Prop} (hm : m ≤ 8) (hn : n ≤ 20) (hz : z < 2 ^ 31) (hS : SOK n f sets) (h : ∀ seen : Nat → Int64, Q (nI (fb_ct (fun s => decide (bc s = z) && SH f n s) (2 ^ m))) seen) : ∀ (d k : Nat) (seen : Nat → Int64), k + d = 2 ^ m → wp_X7_shatteredCount_b17 (nI z) (nI m) (nI n) sets Q (d + 1) (nI (fb_ct (fun s => decide (bc s = z) && SH f n s) k)) (nI k) seen
  | 0, k, seen, hk => by
    have h8 := pow8 hm
    have h0 := Nat.two_pow_pos m
    have e : k = 2 ^ m := by omega
    unfold wp_X7_shatteredCount_b17
    refine allPoints_sp (by omega) (brlt (by omega) (by omega) (fun _ => ?_) (fun g => absurd g (by omega)))
    rw [e]
    exact h seen
  | d + 1, k, seen, hk => by
    have h8 := pow8 hm
    have h0 := Nat.two_pow_pos m
    have hb := bc256 (x := k) (by omega)
    have t := fun sn => sc7_loop hm hn hz hS h d (k + 1) sn (by omega)
    rw [fb_ct_succ] at t
    unfold wp_X7_shatteredCount_b17
    refine allPoints_sp (by omega) (brlt (by omega) (by omega) (fun g => absurd g (by omega)) (fun _ => bitCount_sp (by omega) ?_))
    rw [nI_1]
    refine brne (by omega) hz (fun q => ?_) (fun q => shatter_sp hn (by omega) hS (fun sn => bI_br0 (fun q2 => ?_) (fun q2 => ?_)))
    · rw [decide_eq_false q] at t
      exact t seen
    · rw [q2, Bool.and_false] at t
      exact t sn
    · rw [decide_eq_true q, q2] at t
      rw [nI_1]
      exact t sn
theorem sc8_loop {m n z : Nat} {f : Nat → Nat} {mc : Nat → Int32} {Q : Int32 → Prop} (hm : m ≤ 8) (hn : n ≤ 20) (hz : z < 2 ^ 31) (hM : SOK n f mc) (hf : ∀ k, k < n → f k < 2 ^ 31) (h : Q (nI (fb_ct (fun s => decide (bc s = z) && SH f n s) (2 ^ m)))) : ∀ (d k : Nat), k + d = 2 ^ m → wp_X8_shatteredCount_b20 (nI z) (nI m) (nI n) mc Q (d + 1) (nI (fb_ct (fun s => decide (bc s = z) && SH f n s) k)) (nI k)
  | 0, k, hk => by
    have h8 := pow8 hm
    have e : k = 2 ^ m := by omega
    unfold wp_X8_shatteredCount_b20
    rw [shl1_nI (by omega)]
    refine br_t (nI_le (by omega) (by omega)) ?_
    rw [e]
    exact h
  | d + 1, k, hk => by
    have h8 := pow8 hm
    have hb := bc256 (x := k) (by omega)
    have t := sc8_loop hm hn hz hM hf h d (k + 1) (by omega)
    rw [fb_ct_succ] at t
    have z0 : ∀ y : Nat, nI y + (0 : Int32) = nI (y + 0) := fun y => nI_add y 0
    unfold wp_X8_shatteredCount_b20
    rw [shl1_nI (by omega), nI_1, nI_1, z0]
    refine br_f (nI_ge (by omega) (by omega)) (sizeOf_sp (by omega) (brne (by omega) hz (fun q => ?_) (fun q => isSh_sp hn (by omega) hM hf (bI_br0 (fun q2 => ?_) (fun q2 => ?_)))))
    · rw [decide_eq_false q] at t
      exact t
    · rw [q2, Bool.and_false] at t
      exact t
    · rw [decide_eq_true q, q2] at t
      exact t
def GRF (f : Nat → Nat) (n z : Nat) : Nat → Nat
  | 0 => 0
  | k + 1 => if bc k = z ∧ GRF f n z k < TC f k n then TC f k n else GRF f n z k
theorem GRF_succ (f : Nat → Nat) (n z k : Nat) : GRF f n z (k + 1) = if bc k = z ∧ GRF f n z k < TC f k n then TC f k n else GRF f n z k := rfl
theorem GRF_le (f : Nat → Nat) (n z : Nat) : ∀ k, GRF f n z k ≤ n
  | 0 => Nat.zero_le _
  | k + 1 => by
    have := GRF_le f n z k
    have := TC_le f k n
    rw [GRF_succ]
    split <;> omega
theorem gr7_loop {m n z : Nat} {f : Nat → Nat} {sets : Nat → Int32} {Q : Int32 → (Nat → Int64) → Prop} (hm : m ≤ 8) (hn : n ≤ 20) (hz : z < 2 ^ 31) (hS : SOK n f sets) (h : ∀ seen : Nat → Int64, Q (nI (GRF f n z (2 ^ m))) seen) : ∀ (d k : Nat) (seen : Nat → Int64), k + d = 2 ^ m → wp_X7_growth_b17 (nI z) (nI m) (nI n) sets Q (d + 1) (nI (GRF f n z k)) (nI k) seen
  | 0, k, seen, hk => by
    have h8 := pow8 hm
    have h0 := Nat.two_pow_pos m
    have e : k = 2 ^ m := by omega
    unfold wp_X7_growth_b17
    refine allPoints_sp (by omega) (brlt (by omega) (by omega) (fun _ => ?_) (fun g => absurd g (by omega)))
    rw [e]
    exact h seen
  | d + 1, k, seen, hk => by
    have h8 := pow8 hm
    have h0 := Nat.two_pow_pos m
    have hb := bc256 (x := k) (by omega)
    have g1 := GRF_le f n z k
    have g2 := TC_le f k n
    have t := fun sn => gr7_loop hm hn hz hS h d (k + 1) sn (by omega)
    rw [GRF_succ] at t
    unfold wp_X7_growth_b17
    refine allPoints_sp (by omega) (brlt (by omega) (by omega) (fun g => absurd g (by omega)) (fun _ => bitCount_sp (by omega) ?_))
    rw [nI_1]
    refine brne (by omega) hz (fun q => ?_) (fun q => countOn_sp hn (by omega) hS (fun sn => ?_))
    · rw [if_neg (fun w => q w.1)] at t
      exact t seen
    · rw [if_max (by omega) (by omega)]
      simp only [q, true_and] at t
      exact t sn
theorem gr8_loop {m n z : Nat} {f : Nat → Nat} {mc : Nat → Int32} {Q : Int32 → Prop} (hm : m ≤ 8) (hn : n ≤ 20) (hz : z < 2 ^ 31) (hM : SOK n f mc) (hf : ∀ k, k < n → f k < 2 ^ 31) (h : Q (nI (GRF f n z (2 ^ m)))) : ∀ (d k : Nat), k + d = 2 ^ m → wp_X8_growth_b20 (nI z) (nI m) (nI n) mc Q (d + 1) (nI (GRF f n z k)) (nI k)
  | 0, k, hk => by
    have h8 := pow8 hm
    have e : k = 2 ^ m := by omega
    unfold wp_X8_growth_b20
    rw [shl1_nI (by omega)]
    refine br_t (nI_le (by omega) (by omega)) ?_
    rw [e]
    exact h
  | d + 1, k, hk => by
    have h8 := pow8 hm
    have hb := bc256 (x := k) (by omega)
    have g1 := GRF_le f n z k
    have g2 := TC_le f k n
    have t := gr8_loop hm hn hz hM hf h d (k + 1) (by omega)
    rw [GRF_succ] at t
    unfold wp_X8_growth_b20 wp_X8_growth_b47
    rw [shl1_nI (by omega), nI_1]
    refine br_f (nI_ge (by omega) (by omega)) (sizeOf_sp (by omega) (brne (by omega) hz (fun q => ?_) (fun q => tracesOn_sp hn hM hf (brle (by omega) (by omega) (fun q2 => ?_) (fun q2 => ?_)))))
    · rw [if_neg (fun w => q w.1)] at t
      exact br_t (nI_pos' (by omega)) t
    · rw [if_neg (fun w => absurd w.2 (by omega))] at t
      exact t
    · rw [if_pos ⟨q, q2⟩] at t
      exact t

set_option maxHeartbeats 2000000 in
theorem pu_dimension : PU_dimension INV := by
  intro N S M  hN hI
  have hkeep := hI.keep
  obtain ⟨⟨points, count, ed, sets, scores, rated, hold⟩, ⟨scnt, codes⟩, D, X, saved, stand, ⟨height, largest, ped, layers, psets⟩, seen, depths, K⟩ := S
  obtain ⟨mm, many, mex, has, sm, smany, sex, bys, mc, ms, mpt, mlb, ty, ln, wh, tw, sc8, ss8, sp8, sl8, lay8, pl8⟩ := M
  obtain ⟨m, n, f, e, pt, lb, hc, hs, hp, hx, ht, hk, hsh⟩ := INV_mk.mp hI
  obtain ⟨⟨hm1, hm8, hn20⟩, rfl, rfl, hS, hB, hDs, hH, rfl, rfl, hM⟩ := hc
  have hf31 : ∀ k, k < n → f k < 2 ^ 31 := fun k hk => Nat.lt_trans (hB.lt hm8 hk) (by decide)
  dsimp only
  refine ⟨2 ^ m + 1, dm7_loop hm8 hn20 hS (2 ^ m) 0 0 seen (by omega) (by decide) (fun sn => ⟨2 ^ m + 1, ?_⟩)⟩
  exact dm8_loop hm8 hn20 hM hf31 (2 ^ m) 0 0 (by omega) (by decide) ⟨rfl, hkeep⟩

set_option maxHeartbeats 2000000 in
theorem pu_shatteredSet : PU_shatteredSet INV := by
  intro N S M a1 hN hI
  have hkeep := hI.keep
  obtain ⟨⟨points, count, ed, sets, scores, rated, hold⟩, ⟨scnt, codes⟩, D, X, saved, stand, ⟨height, largest, ped, layers, psets⟩, seen, depths, K⟩ := S
  obtain ⟨mm, many, mex, has, sm, smany, sex, bys, mc, ms, mpt, mlb, ty, ln, wh, tw, sc8, ss8, sp8, sl8, lay8, pl8⟩ := M
  obtain ⟨m, n, f, e, pt, lb, hc, hs, hp, hx, ht, hk, hsh⟩ := INV_mk.mp hI
  obtain ⟨⟨hm1, hm8, hn20⟩, rfl, rfl, hS, hB, hDs, hH, rfl, rfl, hM⟩ := hc
  have hf31 : ∀ k, k < n → f k < 2 ^ 31 := fun k hk => Nat.lt_trans (hB.lt hm8 hk) (by decide)
  dsimp only
  refine isSize_sp (by omega) ?_
  rcases inr_cases a1 (m + 1) (by omega) with h | ⟨z, hz, rfl, h⟩
  · rw [h]
    refine bn_t rfl (size8_sp (by omega) ?_)
    rw [h]
    exact bn_t rfl ⟨rfl, hkeep⟩
  rw [h]
  refine bn_f (by decide) ⟨2 ^ m + 1, fs7_loop hm8 hn20 (by omega) hS (2 ^ m) 0 seen (by omega) (fun sn => size8_sp (by omega) ?_)⟩
  rw [h]
  refine bn_f (by decide) ⟨2 ^ m + 1, ?_⟩
  exact fs8_loop hm8 hn20 (by omega) hM hf31 (2 ^ m) 0 (by omega) ⟨rfl, hkeep⟩

set_option maxHeartbeats 2000000 in
theorem pu_shatteredCount : PU_shatteredCount INV := by
  intro N S M a1 hN hI
  have hkeep := hI.keep
  obtain ⟨⟨points, count, ed, sets, scores, rated, hold⟩, ⟨scnt, codes⟩, D, X, saved, stand, ⟨height, largest, ped, layers, psets⟩, seen, depths, K⟩ := S
  obtain ⟨mm, many, mex, has, sm, smany, sex, bys, mc, ms, mpt, mlb, ty, ln, wh, tw, sc8, ss8, sp8, sl8, lay8, pl8⟩ := M
  obtain ⟨m, n, f, e, pt, lb, hc, hs, hp, hx, ht, hk, hsh⟩ := INV_mk.mp hI
  obtain ⟨⟨hm1, hm8, hn20⟩, rfl, rfl, hS, hB, hDs, hH, rfl, rfl, hM⟩ := hc
  have hf31 : ∀ k, k < n → f k < 2 ^ 31 := fun k hk => Nat.lt_trans (hB.lt hm8 hk) (by decide)
  dsimp only
  refine isSize_sp (by omega) ?_
  rcases inr_cases a1 (m + 1) (by omega) with h | ⟨z, hz, rfl, h⟩
  · rw [h]
    refine bn_t rfl (size8_sp (by omega) ?_)
    rw [h]
    exact bn_t rfl ⟨rfl, hkeep⟩
  rw [h]
  refine bn_f (by decide) ⟨2 ^ m + 1, sc7_loop hm8 hn20 (by omega) hS (fun sn => size8_sp (by omega) ?_) (2 ^ m) 0 seen (by omega)⟩
  rw [h]
  refine bn_f (by decide) ⟨2 ^ m + 1, ?_⟩
  exact sc8_loop hm8 hn20 (by omega) hM hf31 ⟨rfl, hkeep⟩ (2 ^ m) 0 (by omega)

set_option maxHeartbeats 2000000 in
theorem pu_growth : PU_growth INV := by
  intro N S M a1 hN hI
  have hkeep := hI.keep
  obtain ⟨⟨points, count, ed, sets, scores, rated, hold⟩, ⟨scnt, codes⟩, D, X, saved, stand, ⟨height, largest, ped, layers, psets⟩, seen, depths, K⟩ := S
  obtain ⟨mm, many, mex, has, sm, smany, sex, bys, mc, ms, mpt, mlb, ty, ln, wh, tw, sc8, ss8, sp8, sl8, lay8, pl8⟩ := M
  obtain ⟨m, n, f, e, pt, lb, hc, hs, hp, hx, ht, hk, hsh⟩ := INV_mk.mp hI
  obtain ⟨⟨hm1, hm8, hn20⟩, rfl, rfl, hS, hB, hDs, hH, rfl, rfl, hM⟩ := hc
  have hf31 : ∀ k, k < n → f k < 2 ^ 31 := fun k hk => Nat.lt_trans (hB.lt hm8 hk) (by decide)
  dsimp only
  refine isSize_sp (by omega) ?_
  rcases inr_cases a1 (m + 1) (by omega) with h | ⟨z, hz, rfl, h⟩
  · rw [h]
    refine bn_t rfl (size8_sp (by omega) ?_)
    rw [h]
    exact bn_t rfl ⟨rfl, hkeep⟩
  rw [h]
  refine bn_f (by decide) ⟨2 ^ m + 1, gr7_loop hm8 hn20 (by omega) hS (fun sn => size8_sp (by omega) ?_) (2 ^ m) 0 seen (by omega)⟩
  rw [h]
  refine bn_f (by decide) ⟨2 ^ m + 1, ?_⟩
  exact gr8_loop hm8 hn20 (by omega) hM hf31 ⟨rfl, hkeep⟩ (2 ^ m) 0 (by omega)
