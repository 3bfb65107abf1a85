/-! traces -/
theorem divU (k U L : Nat) (h : L < k) : (k * U + L) / k = U := by
  rw [Nat.mul_add_div (by omega), Nat.div_eq_of_lt h, Nat.add_zero]
theorem lin4 (a b c d p q r s : Nat) : 256 * (256 * (256 * (256 * (256 * (256 * (256 * s + r) + q) + p) + d) + c) + b) + a + (256 * (256 * (256 * (256 * (256 * (256 * s + r) + q) + p) + d) + c) + b) = 65536 * (65536 * (65536 * (256 * s + (r + s)) + (256 * (q + r) + (p + q))) + (256 * (d + p) + (c + d))) + (256 * (b + c) + (a + b)) := by omega
theorem lin5 (a b c d p q r s : Nat) : 65536 * (65536 * (65536 * (256 * s + (r + s)) + (256 * (q + r) + (p + q))) + (256 * (d + p) + (c + d))) + (256 * (b + c) + (a + b)) + (65536 * (65536 * (256 * s + (r + s)) + (256 * (q + r) + (p + q))) + (256 * (d + p) + (c + d))) = 4294967296 * (65536 * (256 * s + (r + s)) + (256 * (q + r + s) + (p + q + (r + s)))) + (65536 * (256 * (d + p + (q + r)) + (c + d + (p + q))) + (256 * (b + c + (d + p)) + (a + b + (c + d)))) := by omega
theorem lin6 (a b c d p q r s : Nat) : 4294967296 * (65536 * (256 * s + (r + s)) + (256 * (q + r + s) + (p + q + (r + s)))) + (65536 * (256 * (d + p + (q + r)) + (c + d + (p + q))) + (256 * (b + c + (d + p)) + (a + b + (c + d)))) + (65536 * (256 * s + (r + s)) + (256 * (q + r + s) + (p + q + (r + s)))) = 128 * (33554432 * (65536 * (256 * s + (r + s)) + (256 * (q + r + s) + (p + q + (r + s)))) + (512 * (256 * (d + p + (q + r)) + (c + d + (p + q))) + 2 * (b + c + (d + p))) + (512 * (256 * s + (r + s)) + 2 * (q + r + s))) + (a + (b + (c + (d + (p + (q + (r + s))))))) := by omega
theorem sum8 {a b c d p q r s : Nat} (ha : a ≤ 8) (hb : b ≤ 8) (hc : c ≤ 8) (hd : d ≤ 8) (hp : p ≤ 8) (hq : q ≤ 8) (hr : r ≤ 8) (hs : s ≤ 8) (y3 y4 y5 y6 : Nat) (h3 : y3 = 256 * (256 * (256 * (256 * (256 * (256 * (256 * s + r) + q) + p) + d) + c) + b) + a) (h4 : y4 = y3 + y3 / 256) (h5 : y5 = y4 + y4 / 65536) (h6 : y6 = y5 + y5 / 4294967296) :
    y6 % 128 = a + (b + (c + (d + (p + (q + (r + s)))))) ∧ y3 < 2 ^ 64 ∧ y4 < 2 ^ 64 ∧ y5 < 2 ^ 64 := by
  have b3 : y3 < 2 ^ 64 := by
    clear h4 h5 h6
    omega
  rw [h3, divU 256 _ a (by omega), lin4] at h4
  have b4 : y4 < 2 ^ 64 := by
    clear h3 h5 h6 b3
    omega
  rw [h4, divU 65536 _ _ (by clear h3 h4 h5 h6 b3 b4; omega), lin5] at h5
  have b5 : y5 < 2 ^ 64 := by
    clear h3 h4 h6 b3 b4
    omega
  rw [h5, divU 4294967296 _ _ (by clear h3 h4 h5 h6 b3 b4 b5; omega), lin6] at h6
  refine ⟨?_, b3, b4, b5⟩
  rw [h6, Nat.mul_add_mod]
  exact Nat.mod_eq_of_lt (by clear h3 h4 h5 h6 b3 b4 b5; omega)
theorem bitCountL_sp {x : Nat} {Q : Int32 → Prop} (hx : x < 2 ^ 64) (h : Q (nI (bc x))) : wp_J13_bitCount_95d88 (lN x) Q := by
  have U : ∀ (n k : Nat), n < 2 ^ 64 → k < 64 → ((lN n).toUInt64 >>> ((nI k).toInt64.toUInt64 &&& Int64.toUInt64 63)).toInt64 = lN (n / 2 ^ k) := fun n k hn hk => wb_shr hn hk
  obtain ⟨hnb, hY⟩ := Y12_nib 8 x (by omega)
  have hy1 : Y1 8 x ≤ x := Nat.sub_le _ _
  have hm55 : m55 8 = 6148914691236517205 := by decide
  have hm33 : m33 8 = 3689348814741910323 := by decide
  have hm0f : m0f 8 = 1085102592571150095 := by decide
  intro y1 e1 y2 e2 y3 e3 y4 e4 y5 e5 y6 e6
  have E1 : y1 = lN (Y1 8 x) := by
    rw [e1]
    have u' : ((lN x).toUInt64 >>> ((1 : Int32).toInt64.toUInt64 &&& Int64.toUInt64 63)).toInt64 = lN (x / 2) := U x 1 hx (by decide)
    rw [u']
    have a : lN (x / 2) &&& (6148914691236517205 : Int64) = lN ((x / 2) &&& m55 8) := by rw [hm55]; exact fb_andL _ _
    rw [a]
    exact lN_sub (Nat.le_trans Nat.and_le_left (by omega))
  have E2 : y2 = lN (Y2 8 (Y1 8 x)) := by
    rw [e2, E1]
    have u' : ((lN (Y1 8 x)).toUInt64 >>> ((2 : Int32).toInt64.toUInt64 &&& Int64.toUInt64 63)).toInt64 = lN (Y1 8 x / 4) := U (Y1 8 x) 2 (by omega) (by decide)
    rw [u']
    have a : ∀ z : Nat, lN z &&& (3689348814741910323 : Int64) = lN (z &&& m33 8) := fun z => by rw [hm33]; exact fb_andL _ _
    rw [a, a]
    exact lN_add _ _
  have hy2 : Y2 8 (Y1 8 x) < 2 ^ 64 := by
    unfold Y2
    have a1 : Y1 8 x &&& m33 8 ≤ m33 8 := Nat.and_le_right
    have a2 : Y1 8 x / 4 &&& m33 8 ≤ m33 8 := Nat.and_le_right
    omega
  have E3 : y3 = lN (BY 8 x) := by
    rw [e3, E2, ← hY]
    have u' : ((lN (Y2 8 (Y1 8 x))).toUInt64 >>> ((4 : Int32).toInt64.toUInt64 &&& Int64.toUInt64 63)).toInt64 = lN (Y2 8 (Y1 8 x) / 16) := U _ 4 hy2 (by decide)
    rw [u', lN_add]
    show lN (Y2 8 (Y1 8 x) + Y2 8 (Y1 8 x) / 16) &&& (1085102592571150095 : Int64) = lN (Y3 8 (Y2 8 (Y1 8 x)))
    unfold Y3
    rw [hm0f]
    exact fb_andL _ _
  obtain ⟨s1, s2, s3, s4⟩ := sum8 (byc_le (x % 256)) (byc_le (x / 256 % 256)) (byc_le (x / 256 / 256 % 256)) (byc_le (x / 256 / 256 / 256 % 256)) (byc_le (x / 256 / 256 / 256 / 256 % 256)) (byc_le (x / 256 / 256 / 256 / 256 / 256 % 256)) (byc_le (x / 256 / 256 / 256 / 256 / 256 / 256 % 256)) (byc_le (x / 256 / 256 / 256 / 256 / 256 / 256 / 256 % 256)) (BY 8 x) (BY 8 x + BY 8 x / 256) (BY 8 x + BY 8 x / 256 + (BY 8 x + BY 8 x / 256) / 65536) _ (by
    show 256 * (256 * (256 * (256 * (256 * (256 * (256 * (256 * 0 + byc (x / 256 / 256 / 256 / 256 / 256 / 256 / 256 % 256)) + byc (x / 256 / 256 / 256 / 256 / 256 / 256 % 256)) + byc (x / 256 / 256 / 256 / 256 / 256 % 256)) + byc (x / 256 / 256 / 256 / 256 % 256)) + byc (x / 256 / 256 / 256 % 256)) + byc (x / 256 / 256 % 256)) + byc (x / 256 % 256)) + byc (x % 256) = _
    omega) rfl rfl rfl
  rw [← bc_64] at s1
  have E4 : y4 = lN (BY 8 x + BY 8 x / 256) := by
    rw [e4, E3]
    have u' : ((lN (BY 8 x)).toUInt64 >>> ((8 : Int32).toInt64.toUInt64 &&& Int64.toUInt64 63)).toInt64 = lN (BY 8 x / 256) := U _ 8 s2 (by decide)
    rw [u']
    exact lN_add _ _
  generalize hz4 : BY 8 x + BY 8 x / 256 = z4 at s1 s3 s4 E4
  have E5 : y5 = lN (z4 + z4 / 65536) := by
    rw [e5, E4]
    have u' : ((lN z4).toUInt64 >>> ((16 : Int32).toInt64.toUInt64 &&& Int64.toUInt64 63)).toInt64 = lN (z4 / 65536) := U _ 16 s3 (by decide)
    rw [u']
    exact lN_add _ _
  generalize hz5 : z4 + z4 / 65536 = z5 at s1 s4 E5
  have E6 : y6 = lN (z5 + z5 / 4294967296) := by
    rw [e6, E5]
    have u' : ((lN z5).toUInt64 >>> ((32 : Int32).toInt64.toUInt64 &&& Int64.toUInt64 63)).toInt64 = lN (z5 / 4294967296) := U _ 32 s4 (by decide)
    rw [u']
    exact lN_add _ _
  rw [E6, lN_i]
  have m : nI (z5 + z5 / 4294967296) &&& nI (2 ^ 7 - 1) = nI ((z5 + z5 / 4294967296) % 2 ^ 7) := fa_mask _ 7
  have m' : nI (z5 + z5 / 4294967296) &&& (127 : Int32) = nI (bc x) := by
    rw [← s1]
    exact m
  rw [m']
  exact h
/-- has v been seen among the traces of the first k? -/
def SEE (f : Nat → Nat) (s : Nat) : Nat → Nat → Bool
  | 0, _ => false
  | k + 1, v => if v = f k &&& s then true else SEE f s k v
theorem SEE_succ (f : Nat → Nat) (s k v : Nat) : SEE f s (k + 1) v = if v = f k &&& s then true else SEE f s k v := rfl
def TC (f : Nat → Nat) (s n : Nat) : Nat := fb_ct (fun k => !SEE f s k (f k &&& s)) n
theorem TC_eq {f : Nat → Nat} {s : Nat} (hs : s < 256) : ∀ n, fb_ct (fun v => SEE f s n v) 256 = TC f s n
  | 0 => by
    show fb_ct (fun _ => false) 256 = 0
    exact fb_ct_zero.mpr (fun _ _ => rfl)
  | n + 1 => by
    have ih := TC_eq hs n (f := f)
    have hi : f n &&& s < 256 := Nat.lt_of_le_of_lt Nat.and_le_right hs
    have u := fb_ct_upd (fun v => SEE f s n v) true hi
    have e : fb_ct (fun v => SEE f s (n + 1) v) 256 = fb_ct (fun k => if k = f n &&& s then true else SEE f s n k) 256 := rfl
    unfold TC
    rw [e, fb_ct_succ (fun k => !SEE f s k (f k &&& s)) n]
    unfold TC at ih
    rw [← ih]
    cases hq : SEE f s n (f n &&& s)
    · rw [hq] at u
      simp only [Bool.false_eq_true, if_false, if_true, Bool.not_false] at u ⊢
      omega
    · rw [hq] at u
      simp only [if_true, Bool.not_true, Bool.false_eq_true, if_false] at u ⊢
      omega
def SWD (f : Nat → Nat) (s k w : Nat) : Nat := MSK (fun b => SEE f s k (64 * w + b)) 64
theorem SWD_lt (f : Nat → Nat) (s k w : Nat) : SWD f s k w < 2 ^ 64 := MSK_lt _ 64
theorem SWD_step {f : Nat → Nat} {s k w : Nat} : SWD f s (k + 1) w = if w = (f k &&& s) / 64 then SWD f s k w ||| 2 ^ ((f k &&& s) % 64) else SWD f s k w := by
  by_cases h : w = (f k &&& s) / 64
  · rw [if_pos h]
    apply eq_of_bits
    intro i
    rw [fb_bit_set]
    unfold SWD
    rw [MSK_bit, MSK_bit, SEE_succ]
    by_cases hi : i < 64
    · rw [decide_eq_true hi, Bool.true_and, Bool.true_and]
      by_cases q : 64 * w + i = f k &&& s
      · rw [if_pos q, decide_eq_true (show i = (f k &&& s) % 64 by omega), Bool.or_true]
      · rw [if_neg q, decide_eq_false (show ¬ i = (f k &&& s) % 64 by omega), Bool.or_false]
    · rw [decide_eq_false hi, Bool.false_and, Bool.false_and, decide_eq_false (show ¬ i = (f k &&& s) % 64 by omega)]
      rfl
  · rw [if_neg h]
    unfold SWD
    apply MSK_cong
    intro b hb
    rw [SEE_succ, if_neg (by omega)]
theorem bc_MSK64 (P : Nat → Bool) : bc (MSK P 64) = fb_ct P 64 := by
  rw [bc_of (MSK_lt P 64) (by decide)]
  apply fb_ct_cong
  intro k hk
  rw [MSK_bit]
  simp [hk]
theorem con61_loop {n s : Nat} {f : Nat → Nat} {x1 cc : Int32} {sets : Nat → Int32} {seen : Nat → Int64} {Q : Int32 → (Nat → Int64) → Prop} (hseen : ∀ w, w < 4 → seen w = lN (SWD f s n w)) (h : Q (nI (fb_ct (fun v => SEE f s n v) 256)) seen) : ∀ (d w : Nat), w + d = 4 → wp_X6_countOn_b61 x1 cc sets Q (d + 1) (nI (fb_ct (fun v => SEE f s n v) (64 * w))) (nI w) seen
  | 0, w, hw => by
    have e : w = 4 := by omega
    subst e
    exact br_t (show nI 4 ≤ nI 4 from nI_le (by omega) (by omega)) h
  | d + 1, w, hw => by
    refine br_f (show ¬ nI 4 ≤ nI w from nI_ge (by omega) (by omega)) ⟨in_nI (by omega) (by decide), ?_⟩
    rw [cl_nI (by omega), hseen w (by omega)]
    refine bitCountL_sp (SWD_lt f s n w) ?_
    have e : bc (SWD f s n w) = fb_ct (fun b => SEE f s n (64 * w + b)) 64 := bc_MSK64 _
    rw [e, nI_add, nI_1, ← fb_ct_split (fun v => SEE f s n v) (64 * w) 64]
    exact con61_loop hseen h d (w + 1) (by omega)
theorem con10_loop {n s : Nat} {f : Nat → Nat} {sets : Nat → Int32} {Q : Int32 → (Nat → Int64) → Prop} (hn : n ≤ 20) (hs : s < 256) (hS : SOK n f sets) (h : ∀ seen : Nat → Int64, Q (nI (TC f s n)) seen) : ∀ (d k : Nat) (seen : Nat → Int64), k + d = n → (∀ w, w < 4 → seen w = lN (SWD f s k w)) → wp_X6_countOn_b10 (nI s) (nI n) sets Q (d + 1) (nI k) seen
  | 0, k, seen, hk, hseen => by
    have e : k = n := by omega
    subst e
    have h' := h seen
    rw [← TC_eq hs] at h'
    exact br_t (nI_le (by omega) (by omega)) ⟨5, con61_loop hseen h' 4 0 (by omega)⟩
  | d + 1, k, seen, hk, hseen => by
    have hv : f k &&& s < 256 := Nat.lt_of_le_of_lt Nat.and_le_right hs
    refine br_f (nI_ge (by omega) (by omega)) ⟨in_nI (by omega) (by decide), ?_⟩
    have e1 : nI (f k &&& s) >>> ((6 : Int32) &&& 31) = nI ((f k &&& s) / 64) := shr_nI (n := f k &&& s) (k := 6) (by omega) (by decide)
    have e2 : nI (f k &&& s) &&& (63 : Int32) = nI ((f k &&& s) % 64) := fa_mask (f k &&& s) 6
    have e3 : (1 : Int64) <<< ((nI ((f k &&& s) % 64)).toInt64 &&& 63) = lN (2 ^ ((f k &&& s) % 64)) := by
      have := wb_shl 1 (k := (f k &&& s) % 64) (by omega)
      rw [Nat.one_mul] at this
      exact this
    rw [cl_nI (by omega), hS k (by omega), fa_and, e1, e2, e3, cl_nI (by omega), hseen _ (by omega), fb_orL, nI_1]
    have i4 : vp_in (nI ((f k &&& s) / 64)) 4 := in_nI (by omega) (by decide)
    refine ⟨i4, i4, con10_loop hn hs hS h d (k + 1) _ (by omega) (fun w hw => ?_)⟩
    unfold vp_updL
    rw [SWD_step]
    by_cases q : w = (f k &&& s) / 64
    · rw [if_pos q, if_pos q, q]
    · rw [if_neg q, if_neg q]; exact hseen w hw
theorem SWD_0 (f : Nat → Nat) (s w : Nat) : SWD f s 0 w = 0 := MSK_zero.mpr (fun _ _ => rfl)
theorem countOn_sp {n s : Nat} {f : Nat → Nat} {sets : Nat → Int32} {seen : Nat → Int64} {Q : Int32 → (Nat → Int64) → Prop} (hn : n ≤ 20) (hs : s < 256) (hS : SOK n f sets) (h : ∀ seen : Nat → Int64, Q (nI (TC f s n)) seen) : wp_X6_countOn (nI s) seen (nI n) sets Q := by
  unfold wp_X6_countOn
  refine fillL_sp (by decide) (fun s0 e0 => ⟨n + 1, con10_loop hn hs hS h n 0 s0 (by omega) (fun w hw => ?_)⟩)
  rw [e0 w, if_pos hw, SWD_0]
  rfl
theorem TC_le (f : Nat → Nat) (s n : Nat) : TC f s n ≤ n := fb_ct_le _ n
def SH (f : Nat → Nat) (n s : Nat) : Bool := decide (TC f s n = 2 ^ bc s)
theorem shatter_sp {n s : Nat} {f : Nat → Nat} {sets : Nat → Int32} {seen : Nat → Int64} {Q : Int32 → (Nat → Int64) → Prop} (hn : n ≤ 20) (hs : s < 256) (hS : SOK n f sets) (h : ∀ seen : Nat → Int64, Q (bI (SH f n s)) seen) : wp_X6_shatter (nI s) seen (nI n) sets Q := by
  have hb := bc256 hs
  have h2 := pow8 hb
  have ht := TC_le f s n
  unfold wp_X6_shatter
  refine bitCount_sp (by omega) ?_
  rw [shl1_nI (by omega)]
  refine brlt (by omega) (by omega) (fun q => ?_) (fun q => countOn_sp hn hs hS (fun sn => brne (by omega) (by omega) (fun q2 => ?_) (fun q2 => ?_)))
  · have e : SH f n s = false := decide_eq_false (by omega)
    rw [e] at h
    exact h seen
  · have e : SH f n s = false := decide_eq_false q2
    rw [e] at h
    exact h sn
  · have e : SH f n s = true := decide_eq_true q2
    rw [e] at h
    exact h sn
theorem tr18_loop {n s k : Nat} {f : Nat → Nat} {mc : Nat → Int32} {mm : Int32} {Q : Int32 → Prop} {k4 : Int32 → Int32 → Prop} (hn : n ≤ 20) (hk : k < n) (hM : SOK n f mc) (hf : ∀ k, k < n → f k < 2 ^ 31) (h : k4 (nI (TC f s (k + 1))) (nI (k + 1))) : ∀ (d j : Nat), j + d = k → wp_X8_tracesOn_b18 (nI s) mm mc Q k4 (d + 1) (nI (TC f s k)) (nI k) (bI (!SEE f s j (f k &&& s))) (nI j)
  | 0, j, hj => by
    have e : j = k := by omega
    subst e
    have e2 : TC f s (j + 1) = TC f s j + (if (!SEE f s j (f j &&& s)) = true then 1 else 0) := fb_ct_succ _ _
    rw [e2] at h
    have z0 : ∀ y : Nat, nI y + (0 : Int32) = nI (y + 0) := fun y => nI_add y 0
    refine br_t (nI_le (by omega) (by omega)) (bI_br0 (fun q => ?_) (fun q => ?_))
    · rw [q] at h
      rw [nI_1, z0]
      exact h
    · rw [q] at h
      rw [nI_1, nI_1]
      exact h
  | d + 1, j, hj => by
    have t := tr18_loop (mm := mm) (Q := Q) hn hk hM hf h d (j + 1) (by omega)
    rw [SEE_succ] at t
    refine br_f (nI_ge (by omega) (by omega)) (bI_br0 (fun q => ?_) (fun q => ⟨in_nI (by omega) (by decide), in_nI (by omega) (by decide), ?_⟩))
    · have q2 : SEE f s j (f k &&& s) = true := by simpa using q
      have e5 : (if f k &&& s = f j &&& s then true else SEE f s j (f k &&& s)) = true := by rw [q2]; split <;> rfl
      rw [e5] at t
      rw [nI_1]
      exact t
    · have q2 : SEE f s j (f k &&& s) = false := by simpa using q
      have l1 := hf k (by omega)
      have l2 := hf j (by omega)
      have l3 : f k &&& s ≤ f k := Nat.and_le_left
      have l4 : f j &&& s ≤ f j := Nat.and_le_left
      rw [nI_1, cl_nI (by omega), cl_nI (by omega), hM k hk, hM j (by omega), fa_and, fa_and]
      refine breq (by omega) (by omega) (fun q3 => ?_) (fun q3 => ?_)
      · rw [if_pos q3.symm] at t
        exact t
      · rw [if_neg (fun w => q3 w.symm), q2] at t
        exact t
theorem tr4_loop {n s : Nat} {f : Nat → Nat} {mc : Nat → Int32} {Q : Int32 → Prop} (hn : n ≤ 20) (hM : SOK n f mc) (hf : ∀ k, k < n → f k < 2 ^ 31) (h : Q (nI (TC f s n))) : ∀ (d k : Nat), k + d = n → wp_X8_tracesOn_b4 (nI s) (nI n) mc Q (d + 1) (nI (TC f s k)) (nI k)
  | 0, k, hk => by
    have e : k = n := by omega
    subst e
    exact br_t (nI_le (by omega) (by omega)) h
  | d + 1, k, hk => br_f (nI_ge (by omega) (by omega)) ⟨k + 1, tr18_loop (k4 := fun x2 x3 => wp_X8_tracesOn_b4 (nI s) (nI n) mc Q (d + 1) x2 x3) hn (by omega) hM hf (tr4_loop hn hM hf h d (k + 1) (by omega)) k 0 (by omega)⟩
theorem tracesOn_sp {n s : Nat} {f : Nat → Nat} {mc : Nat → Int32} {Q : Int32 → Prop} (hn : n ≤ 20) (hM : SOK n f mc) (hf : ∀ k, k < n → f k < 2 ^ 31) (h : Q (nI (TC f s n))) : wp_X8_tracesOn (nI s) (nI n) mc Q := ⟨n + 1, tr4_loop hn hM hf h n 0 (by omega)⟩
theorem isSh_sp {n s : Nat} {f : Nat → Nat} {mc : Nat → Int32} {Q : Int32 → Prop} (hn : n ≤ 20) (hs : s < 256) (hM : SOK n f mc) (hf : ∀ k, k < n → f k < 2 ^ 31) (h : Q (bI (SH f n s))) : wp_X8_isShattered (nI s) (nI n) mc Q := by
  have hb := bc256 hs
  have h2 := pow8 hb
  have ht := TC_le f s n
  unfold wp_X8_isShattered
  refine tracesOn_sp hn hM hf (sizeOf_sp (by omega) ?_)
  rw [shl1_nI (by omega)]
  refine brne (by omega) (by omega) (fun q2 => ?_) (fun q2 => ?_)
  · have e : SH f n s = false := decide_eq_false q2
    rw [e] at h
    exact h
  · have e : SH f n s = true := decide_eq_true q2
    rw [e] at h
    exact h

set_option maxHeartbeats 2000000 in
theorem pu_traceCount : PU_traceCount INV := by
  intro N S M a1 hN hI
  have hkeep := hI.keep
  obtain ⟨⟨points, count, ed, sets, scores, rated, hold⟩, ⟨scnt, codes⟩, D, X, saved, stand, ⟨height, largest, ped, layers, psets⟩, seen, depths, K⟩ := S
  obtain ⟨mm, many, mex, has, sm, smany, sex, bys, mc, ms, mpt, mlb, ty, ln, wh, tw, sc8, ss8, sp8, sl8, lay8, pl8⟩ := M
  obtain ⟨m, n, f, e, pt, lb, hc, hs, hp, hx, ht, hk, hsh⟩ := INV_mk.mp hI
  obtain ⟨⟨hm1, hm8, hn20⟩, rfl, rfl, hS, hB, hDs, hH, rfl, rfl, hM⟩ := hc
  have hf31 : ∀ k, k < n → f k < 2 ^ 31 := fun k hk => Nat.lt_trans (hB.lt hm8 hk) (by decide)
  dsimp only
  have h256 := pow8 hm8
  refine isSet_sp hm8 ?_
  rcases inr_cases a1 (2 ^ m) (by omega) with h | ⟨s, hs1, rfl, h⟩
  · rw [h]
    refine br_t rfl (isSet8_sp hm8 ?_)
    rw [h]
    exact br_t rfl ⟨rfl, hkeep⟩
  rw [h]
  refine br_f (by decide) (countOn_sp hn20 (by omega) hS (fun sn => isSet8_sp hm8 ?_))
  rw [h]
  exact br_f (by decide) (tracesOn_sp hn20 hM hf31 ⟨rfl, hkeep⟩)
