/-! the search for minimum sets -/
theorem ag_iff {a b s : Nat} : a &&& s = b &&& s ↔ ∀ i, s.testBit i = true → a.testBit i = b.testBit i := by
  constructor
  · intro h i hi
    have e := congrArg (fun z => Nat.testBit z i) h
    simp only [Nat.testBit_and, hi, Bool.and_true] at e
    exact e
  · intro h
    apply eq_of_bits
    intro i
    rw [Nat.testBit_and, Nat.testBit_and]
    cases hs : s.testBit i
    · simp
    · rw [h i hs]
/-- the rivals of P that agree with c on s -/
def SD (n : Nat) (f : Nat → Nat) (c : Nat) (P : Nat → Bool) (s : Nat) : Nat := MSK (fun k => P k && decide (f k &&& s = f c &&& s)) n
theorem SD_0 (n : Nat) (f : Nat → Nat) (c : Nat) (P : Nat → Bool) : SD n f c P 0 = MSK P n := MSK_cong (fun k _ => by simp)
theorem ag_step {a b p s : Nat} (hs : s < 2 ^ p) : (a &&& (2 ^ p + s) = b &&& (2 ^ p + s)) ↔ (a &&& s = b &&& s ∧ a.testBit p = b.testBit p) := by
  have e : ∀ i, (2 ^ p + s).testBit i = (decide (p = i) || s.testBit i) := by
    intro i
    have := Nat.two_pow_add_eq_or_of_lt hs 1
    rw [Nat.mul_one] at this
    rw [this, Nat.testBit_or, Nat.testBit_two_pow]
  rw [ag_iff, ag_iff]
  constructor
  · intro h
    refine ⟨fun i hi => h i (by rw [e, hi]; simp), h p (by rw [e]; simp)⟩
  · rintro ⟨h1, h2⟩ i hi
    rw [e] at hi
    rcases Bool.or_eq_true _ _ ▸ hi with q | q
    · have := of_decide_eq_true q
      subst this
      exact h2
    · exact h1 i q
theorem SD_step {n : Nat} {f : Nat → Nat} {c : Nat} {P : Nat → Bool} {p s : Nat} (hs : s < 2 ^ p) : SD n f c P (2 ^ p + s) = SD n f c P s &&& MSK (fun k => (f k).testBit p == (f c).testBit p) n := by
  unfold SD
  rw [MSK_and]
  apply MSK_cong
  intro k _
  have e : decide (f k &&& (2 ^ p + s) = f c &&& (2 ^ p + s)) = decide (f k &&& s = f c &&& s ∧ (f k).testBit p = (f c).testBit p) := decide_eq_decide.mpr (ag_step (a := f k) (b := f c) hs)
  rw [e]
  by_cases hA : f k &&& s = f c &&& s <;> by_cases hx : (f k).testBit p = (f c).testBit p <;> simp [hA, hx]
theorem SD_lt {n : Nat} {f : Nat → Nat} {c : Nat} {P : Nat → Bool} {s : Nat} (hn : n ≤ 20) : SD n f c P s < 2 ^ 20 := MSK_32 hn
theorem weigh_in {m n c p : Nat} {f : Nat → Nat} {P : Nat → Bool} {x1 x2 : Int32} {sets hold : Nat → Int32} {Q : (Nat → Int32) → Prop} {k9 : Int32 → (Nat → Int32) → Prop} (hm : m ≤ 8) (hp : p < m)
    (hk : ∀ st : Nat → Int32, (∀ j, j < 2 ^ (p + 1) → st j = nI (SD n f c P j)) → k9 (nI (p + 1)) st) : ∀ (d l : Nat) (st : Nat → Int32), l + d = 2 ^ p → (∀ j, j < 2 ^ p + l → st j = nI (SD n f c P j)) → wp_X4_weigh_b47 x1 x2 (nI m) (nI n) sets hold Q k9 (d + 1) (nI p) (nI (MSK (fun k => (f k).testBit p == (f c).testBit p) n)) (nI (2 ^ p)) (nI l) st
  | 0, l, st, hl, h => by
    have h8 := pow8 hm
    have h9 : 2 ^ (p + 1) ≤ 2 ^ m := Nat.pow_le_pow_right (by decide) hp
    have h10 : 2 ^ (p + 1) = 2 * 2 ^ p := by rw [Nat.pow_succ]; omega
    refine br_t (nI_le (by omega) (by omega)) ?_
    rw [nI_1]
    exact hk st (fun j hj => h j (by omega))
  | d + 1, l, st, hl, h => by
    have h8 := pow8 hm
    have h9 : 2 ^ (p + 1) ≤ 2 ^ m := Nat.pow_le_pow_right (by decide) hp
    have h10 : 2 ^ (p + 1) = 2 * 2 ^ p := by rw [Nat.pow_succ]; omega
    have e1 : nI (2 ^ p) + nI l = nI (2 ^ p + l) := nI_add _ _
    refine br_f (nI_ge (by omega) (by omega)) ⟨in_nI (by omega) (by decide), ?_⟩
    rw [e1, cl_nI (by omega), cl_nI (by omega), h l (by omega), fa_and, ← SD_step (by omega), nI_1]
    refine ⟨in_nI (by omega) (by decide), weigh_in hm hp hk d (l + 1) _ (by omega) (fun j hj => ?_)⟩
    unfold upd
    by_cases q : j = 2 ^ p + l
    · rw [if_pos q, q]
    · rw [if_neg q]; exact h j (by omega)
theorem weigh_out {m n c : Nat} {f : Nat → Nat} {P : Nat → Bool} {x2 : Int32} {sets hold : Nat → Int32} {Q : (Nat → Int32) → Prop} (hm : m ≤ 8) (hn : n ≤ 20) (hS : SOK n f sets) (hf : ∀ k, k < n → f k < 2 ^ 31) (hH : HOK m n f hold) (hc : c < n)
    (h : ∀ st : Nat → Int32, (∀ j, j < 2 ^ m → st j = nI (SD n f c P j)) → Q st) : ∀ (d p : Nat) (st : Nat → Int32), p + d = m → (∀ j, j < 2 ^ p → st j = nI (SD n f c P j)) → wp_X4_weigh_b9 (nI c) x2 (nI m) (nI n) sets hold Q (d + 1) (nI p) st
  | 0, p, st, hp, hst => by
    have e1 : p = m := by omega
    subst e1
    exact br_t (nI_le (by omega) (by omega)) (h st hst)
  | d + 1, p, st, hp, hst => by
    refine br_f (nI_ge (by omega) (by omega)) (labOf_sp hn hS hc (hf c hc) (by omega) (labelling_sp hm hn hH (by omega) ⟨2 ^ p + 1, ?_⟩))
    rw [shl1_nI (by omega)]
    exact weigh_in (k9 := fun x3 e_stand => wp_X4_weigh_b9 (nI c) x2 (nI m) (nI n) sets hold Q (d + 1) x3 e_stand) hm (by omega) (fun st' hst' => weigh_out hm hn hS hf hH hc h d (p + 1) st' (by omega) hst') (2 ^ p) 0 st (by omega) hst
theorem cl0 : (0 : Int32).toNatClampNeg = 0 := by decide
theorem weigh_sp {m n c : Nat} {f : Nat → Nat} {P : Nat → Bool} {stand sets hold : Nat → Int32} {Q : (Nat → Int32) → Prop} (hm : m ≤ 8) (hn : n ≤ 20) (hS : SOK n f sets) (hf : ∀ k, k < n → f k < 2 ^ 31) (hH : HOK m n f hold) (hc : c < n)
    (h : ∀ st : Nat → Int32, (∀ j, j < 2 ^ m → st j = nI (SD n f c P j)) → Q st) : wp_X4_weigh (nI c) (nI (MSK P n)) stand (nI m) (nI n) sets hold Q := by
  unfold wp_X4_weigh
  rw [cl0]
  refine ⟨in_nI (n := 0) (by decide) (by decide), m + 1, weigh_out (P := P) hm hn hS hf hH hc h m 0 _ (by omega) (fun j hj => ?_)⟩
  have e : j = 0 := by
    rw [Nat.pow_zero] at hj
    omega
  subst e
  unfold upd
  rw [if_pos rfl, SD_0]
def TQ (n : Nat) (f : Nat → Nat) (c : Nat) (P : Nat → Bool) (s : Nat) : Bool := decide (SD n f c P s = 0)
theorem scan_succ (P : Nat → Bool) (d k best : Nat) : scan P (d + 1) k best = scan P d (k + 1) (if P k = true ∧ bc k < bc best then k else best) := rfl
theorem bc256 {x : Nat} (h : x < 256) : bc x ≤ 8 := by
  rw [bc_of (n := 8) h (by decide)]
  exact fb_ct_le _ 8
theorem small_loop {m n c : Nat} {f : Nat → Nat} {P : Nat → Bool} {x1 x2 : Int32} {sets hold st : Nat → Int32} {Q : Int32 → (Nat → Int32) → Prop} (hm : m ≤ 8) (hn : n ≤ 20) (hst : ∀ j, j < 2 ^ m → st j = nI (SD n f c P j)) :
    ∀ (d k best : Nat), k + d = 2 ^ m → best < 2 ^ m → Q (nI (scan (TQ n f c P) d k best)) st → wp_X4_smallest_b17 x1 x2 (nI m) (nI n) sets hold Q (d + 1) (nI best) (nI k) st
  | 0, k, best, hk, hb, h => by
    have h8 := pow8 hm
    have h0 := Nat.two_pow_pos m
    unfold wp_X4_smallest_b17
    exact allPoints_sp (by omega) (brlt (by omega) (by omega) (fun _ => h) (fun g => absurd g (by omega)))
  | d + 1, k, best, hk, hb, h => by
    have h8 := pow8 hm
    have h0 := Nat.two_pow_pos m
    have hsd := SD_lt (f := f) (c := c) (P := P) (s := k) hn
    rw [scan_succ] at h
    unfold wp_X4_smallest_b17
    refine allPoints_sp (by omega) (brlt (by omega) (by omega) (fun g => absurd g (by omega)) (fun _ => ⟨in_nI (by omega) (by decide), ?_⟩))
    rw [cl_nI (by omega), hst k (by omega), nI_1]
    refine brne (b := 0) (by omega) (by decide) (fun q => ?_) (fun q => bitCount_sp (by omega) (bitCount_sp (by omega) ?_))
    · have e : TQ n f c P k = false := decide_eq_false q
      rw [e, if_neg (fun w => absurd w.1 (by decide))] at h
      exact small_loop hm hn hst d (k + 1) best (by omega) hb h
    · have e : TQ n f c P k = true := decide_eq_true q
      have k1 := bc256 (x := k) (by omega)
      have k2 := bc256 (x := best) (by omega)
      refine brle (by omega) (by omega) (fun q2 => ?_) (fun q2 => ?_)
      · rw [if_neg (fun w => absurd w.2 (by omega))] at h
        exact small_loop hm hn hst d (k + 1) best (by omega) hb h
      · rw [if_pos ⟨e, q2⟩] at h
        exact small_loop hm hn hst d (k + 1) k (by omega) (by omega) h
theorem smallest_sp {m n c : Nat} {f : Nat → Nat} {P : Nat → Bool} {stand sets hold : Nat → Int32} {Q : Int32 → (Nat → Int32) → Prop} (hm : m ≤ 8) (hn : n ≤ 20) (hS : SOK n f sets) (hf : ∀ k, k < n → f k < 2 ^ 31) (hH : HOK m n f hold) (hc : c < n)
    (h : ∀ st : Nat → Int32, Q (nI (SM (TQ n f c P) m)) st) : wp_X4_smallest (nI c) (nI (MSK P n)) stand (nI m) (nI n) sets hold Q := by
  unfold wp_X4_smallest
  have h0 := Nat.two_pow_pos m
  exact weigh_sp hm hn hS hf hH hc (fun st hst => allPoints_sp (by omega) ⟨2 ^ m + 1, small_loop hm hn hst (2 ^ m) 0 (2 ^ m - 1) (by omega) (by omega) (h st)⟩)
theorem count_loop {m n c z : Nat} {f : Nat → Nat} {P : Nat → Bool} {x1 x2 : Int32} {sets hold st : Nat → Int32} {Q : Int32 → (Nat → Int32) → Prop} (hm : m ≤ 8) (hn : n ≤ 20) (hz : z < 2 ^ 31) (hst : ∀ j, j < 2 ^ m → st j = nI (SD n f c P j)) (h : Q (nI (fb_ct (fun s => TQ n f c P s && decide (bc s = z)) (2 ^ m))) st) :
    ∀ (d k : Nat), k + d = 2 ^ m → wp_X4_countOfSize_b12 x1 x2 (nI z) (nI m) (nI n) sets hold Q (d + 1) (nI (fb_ct (fun s => TQ n f c P s && decide (bc s = z)) k)) (nI k) st
  | 0, k, hk => by
    have h8 := pow8 hm
    have h0 := Nat.two_pow_pos m
    have e : k = 2 ^ m := by omega
    unfold wp_X4_countOfSize_b12
    refine allPoints_sp (by omega) (brlt (by omega) (by omega) (fun _ => ?_) (fun g => absurd g (by omega)))
    rw [e]
    exact h
  | d + 1, k, hk => by
    have h8 := pow8 hm
    have h0 := Nat.two_pow_pos m
    have hsd := SD_lt (f := f) (c := c) (P := P) (s := k) hn
    have t := count_loop (x1 := x1) (x2 := x2) (sets := sets) (hold := hold) hm hn hz hst h d (k + 1) (by omega)
    rw [fb_ct_succ] at t
    have k1 := bc256 (x := k) (by omega)
    unfold wp_X4_countOfSize_b12
    refine allPoints_sp (by omega) (brlt (by omega) (by omega) (fun g => absurd g (by omega)) (fun _ => ⟨in_nI (by omega) (by decide), ?_⟩))
    rw [cl_nI (by omega), hst k (by omega), nI_1, nI_1]
    refine brne (b := 0) (by omega) (by decide) (fun q => ?_) (fun q => bitCount_sp (by omega) (brne (by omega) hz (fun q2 => ?_) (fun q2 => ?_)))
    · have e : TQ n f c P k = false := decide_eq_false q
      rw [e] at t
      exact t
    · rw [decide_eq_false q2, Bool.and_false] at t
      exact t
    · have e : TQ n f c P k = true := decide_eq_true q
      rw [e, decide_eq_true q2] at t
      exact t
theorem countOf_sp {m n c z : Nat} {f : Nat → Nat} {P : Nat → Bool} {stand sets hold : Nat → Int32} {Q : Int32 → (Nat → Int32) → Prop} (hm : m ≤ 8) (hn : n ≤ 20) (hz : z < 2 ^ 31) (hS : SOK n f sets) (hf : ∀ k, k < n → f k < 2 ^ 31) (hH : HOK m n f hold) (hc : c < n)
    (h : ∀ st : Nat → Int32, Q (nI (fb_ct (fun s => TQ n f c P s && decide (bc s = z)) (2 ^ m))) st) : wp_X4_countOfSize (nI c) (nI (MSK P n)) (nI z) stand (nI m) (nI n) sets hold Q := by
  unfold wp_X4_countOfSize
  exact weigh_sp hm hn hS hf hH hc (fun st hst => ⟨2 ^ m + 1, count_loop hm hn hz hst (h st) (2 ^ m) 0 (by omega)⟩)
/-- the class's rivals and the reference's some -/
theorem TQ_TSb {n : Nat} {f : Nat → Nat} {c R : Nat} {P : Nat → Bool} (h : ∀ k, k < n → P k = (R.testBit k && !decide (k = c))) (s : Nat) : TQ n f c P s = TSb n f c R s := by
  rw [Bool.eq_iff_iff, TSb_iff]
  unfold TQ SD
  rw [decide_eq_true_eq, MSK_zero]
  constructor
  · intro w k hk hc hR e
    have := w k hk
    rw [h k hk, hR, decide_eq_false hc, decide_eq_true e] at this
    cases this
  · intro w k hk
    rw [h k hk]
    cases hR : R.testBit k
    · rfl
    · by_cases hc : k = c
      · rw [decide_eq_true hc]; rfl
      · rw [decide_eq_false hc, decide_eq_false (w k hk hc hR)]; rfl
theorem TSb_full {m n c R : Nat} {f : Nat → Nat} (hB : BND m n f) (hD : DIS n f) (hc : c < n) : TSb n f c R (2 ^ m - 1) = true := by
  rw [TSb_iff]
  intro k hk hkc _ e
  rw [Nat.and_two_pow_sub_one_eq_mod, Nat.and_two_pow_sub_one_eq_mod, Nat.mod_eq_of_lt (hB k hk), Nat.mod_eq_of_lt (hB c hc)] at e
  exact hkc (hD k c hk hc e)
theorem others_MSK (n c : Nat) : dif (2 ^ n - 1) (2 ^ c) = MSK (fun k => !decide (k = c)) n := by
  apply eq_of_bits
  intro i
  rw [dif_bit, MSK_bit, Nat.testBit_two_pow_sub_one, Nat.testBit_two_pow]
  congr 2
  exact decide_eq_decide.mpr ⟨fun h => h.symm, fun h => h.symm⟩
theorem all_bit {n k : Nat} (h : k < n) : (2 ^ n - 1).testBit k = true := by
  rw [Nat.testBit_two_pow_sub_one]
  exact decide_eq_true h
theorem TQ_all {n : Nat} {f : Nat → Nat} {c : Nat} (s : Nat) : TQ n f c (fun k => !decide (k = c)) s = TSb n f c (2 ^ n - 1) s := TQ_TSb (fun k hk => by rw [all_bit hk]; rfl) s
theorem SM_all {m n : Nat} {f : Nat → Nat} {c : Nat} : SM (TQ n f c (fun k => !decide (k = c))) m = SM (TSb n f c (2 ^ n - 1)) m := SM_cong (fun y _ => TQ_all y)
/-- the reference's teaches -/
theorem TSb_succ (k : Nat) (f : Nat → Nat) (c R s : Nat) : TSb (k + 1) f c R s = (TSb k f c R s && (decide (k = c) || !R.testBit k || decide (f k &&& s ≠ f c &&& s))) := by
  unfold TSb
  rw [List.range_succ, List.all_append]
  simp
theorem teaches_loop {n c R s : Nat} {f : Nat → Nat} {mc : Nat → Int32} {Q : Int32 → Prop} (hn : n ≤ 20) (hM : SOK n f mc) (hf : ∀ k, k < n → f k < 2 ^ 31) (hc : c < n) (hR : R < 2 ^ 31) (h : Q (bI (TSb n f c R s))) : ∀ (d k : Nat), k + d = n → wp_X8_teaches_b6 (nI c) (nI s) (nI R) (nI n) mc Q (d + 1) (bI (TSb k f c R s)) (nI k)
  | 0, k, hk => by
    have e : k = n := by omega
    subst e
    exact br_t (nI_le (by omega) (by omega)) ⟨bI_nar _, h⟩
  | d + 1, k, hk => by
    have t := teaches_loop hn hM hf hc hR h d (k + 1) (by omega)
    rw [TSb_succ] at t
    refine br_f (nI_ge (by omega) (by omega)) (bI_br0 (fun q => ?_) (fun q => breq (by omega) (by omega) (fun q2 => ?_) (fun q2 => has8_sp hR (by omega) (bI_br0 (fun q3 => ?_) (fun q3 => ⟨in_nI (by omega) (by decide), in_nI (by omega) (by decide), ?_⟩)))))
    · rw [q] at t
      rw [nI_1]
      exact t
    · rw [q, decide_eq_true q2] at t
      rw [nI_1]
      exact t
    · rw [q, decide_eq_false q2, q3] at t
      rw [nI_1]
      exact t
    · rw [q, decide_eq_false q2, q3] at t
      have l1 := hf k (by omega)
      have l2 := hf c hc
      have l3 : f k &&& s ≤ f k := Nat.and_le_left
      have l4 : f c &&& s ≤ f c := Nat.and_le_left
      rw [nI_1, cl_nI (by omega), cl_nI (by omega), hM k (by omega), hM c hc, fa_and, fa_and]
      refine breq (by omega) (by omega) (fun q4 => ?_) (fun q4 => ?_)
      · rw [decide_eq_false (fun w => w q4)] at t
        exact t
      · rw [decide_eq_true q4] at t
        exact t
theorem teaches_sp {n c R s : Nat} {f : Nat → Nat} {mc : Nat → Int32} {Q : Int32 → Prop} (hn : n ≤ 20) (hM : SOK n f mc) (hf : ∀ k, k < n → f k < 2 ^ 31) (hc : c < n) (hR : R < 2 ^ 31) (h : Q (bI (TSb n f c R s))) : wp_X8_teaches (nI c) (nI s) (nI R) (nI n) mc Q := ⟨n + 1, teaches_loop hn hM hf hc hR h n 0 (by omega)⟩
/-- the first in the order of sizes -/
theorem SM_bs {P : Nat → Bool} {m k : Nat} (hm : m ≤ 8) (hk : k < 256) (h1 : bs k < 2 ^ m) (h2 : P (bs k) = true) (h3 : ∀ j, j < k → bs j < 2 ^ m → P (bs j) = false) (hfull : P (2 ^ m - 1) = true) : bs k = SM P m := by
  have h8 := pow8 hm
  refine SM_eq hm h2 h1 (fun y hy hp => ?_) hfull
  obtain ⟨j, hj, rfl⟩ := bs_has (x := y) (by omega)
  rcases Nat.lt_or_ge j k with g | g
  · rw [h3 j g hy] at hp
    cases hp
  · have := bs_mono (j - k) k (by omega)
    rwa [show k + (j - k) = j by omega] at this
theorem bs_end {P : Nat → Bool} {m : Nat} (hm : m ≤ 8) (h3 : ∀ j, j < 256 → bs j < 2 ^ m → P (bs j) = false) (hfull : P (2 ^ m - 1) = true) : False := by
  have h8 := pow8 hm
  have h0 := Nat.two_pow_pos m
  obtain ⟨j, hj, e⟩ := bs_has (x := 2 ^ m - 1) (by omega)
  have := h3 j hj (by omega)
  rw [e, hfull] at this
  cases this
theorem bs_256 {k : Nat} (h : k < 256) : bs k < 256 := by
  rw [bs_lit]
  exact bs_lt k h
theorem least_loop {m n c R : Nat} {f : Nat → Nat} {bys mc : Nat → Int32} {Q : Int32 → Prop} (hm : m ≤ 8) (hn : n ≤ 20) (ht : I_tab bys) (hM : SOK n f mc) (hf : ∀ k, k < n → f k < 2 ^ 31) (hc : c < n) (hR : R < 2 ^ 31) (hfull : TSb n f c R (2 ^ m - 1) = true) (h : Q (nI (SM (TSb n f c R) m))) :
    ∀ (d k : Nat), k + d = 256 → (∀ j, j < k → bs j < 2 ^ m → TSb n f c R (bs j) = false) → wp_X8_least_b2 (nI c) (nI R) (nI m) (nI n) bys mc Q (d + 1) (nI k)
  | 0, k, hk, h3 => (bs_end (P := TSb n f c R) hm (fun j hj => h3 j (by omega)) hfull).elim
  | d + 1, k, hk, h3 => by
    have h8 := pow8 hm
    have hb := bs_256 (k := k) (by omega)
    refine br_f (show ¬ nI 256 ≤ nI k from nI_ge (by omega) (by omega)) ⟨in_nI (by omega) (by decide), ?_⟩
    rw [cl_nI (by omega), ht k (by omega), shl1_nI (by omega), nI_1]
    have next : (bs k < 2 ^ m → TSb n f c R (bs k) = false) → wp_X8_least_b2 (nI c) (nI R) (nI m) (nI n) bys mc Q (d + 1) (nI (k + 1)) := by
      intro w
      refine least_loop hm hn ht hM hf hc hR hfull h d (k + 1) (by omega) (fun j hj hlt => ?_)
      rcases Nat.lt_or_ge j k with g | g
      · exact h3 j g hlt
      · rw [show j = k by omega] at hlt ⊢; exact w hlt
    refine brle (by omega) (by omega) (fun q => next (fun w => absurd w (by omega))) (fun q => ⟨in_nI (by omega) (by decide), teaches_sp hn hM hf hc hR (bI_br0 (fun q2 => next (fun _ => q2)) (fun q2 => ⟨in_nI (by omega) (by decide), ?_⟩))⟩)
    rw [SM_bs hm (by omega) q q2 h3 hfull]
    exact h
theorem least_sp {m n c R : Nat} {f : Nat → Nat} {bys mc : Nat → Int32} {Q : Int32 → Prop} (hm : m ≤ 8) (hn : n ≤ 20) (ht : I_tab bys) (hM : SOK n f mc) (hf : ∀ k, k < n → f k < 2 ^ 31) (hB : BND m n f) (hD : DIS n f) (hc : c < n) (hR : R < 2 ^ 31) (h : Q (nI (SM (TSb n f c R) m))) : wp_X8_least (nI c) (nI R) (nI m) (nI n) bys mc Q :=
  ⟨257, least_loop hm hn ht hM hf hc hR (TSb_full hB hD hc) h 256 0 (by omega) (fun j hj => absurd hj (Nat.not_lt_zero j))⟩
theorem tsc8_loop {m n c z : Nat} {f : Nat → Nat} {mc : Nat → Int32} {Q : Int32 → Prop} (hm : m ≤ 8) (hn : n ≤ 20) (hz : z < 2 ^ 31) (hM : SOK n f mc) (hf : ∀ k, k < n → f k < 2 ^ 31) (hc : c < n) (h : Q (nI (fb_ct (fun s => TSb n f c (2 ^ n - 1) s && decide (bc s = z)) (2 ^ m)))) :
    ∀ (d k : Nat), k + d = 2 ^ m → wp_X8_teachingSetCount_b32 (nI c) (nI z) (nI m) (nI n) mc Q (d + 1) (nI (fb_ct (fun s => TSb n f c (2 ^ n - 1) s && decide (bc s = z)) k)) (nI k)
  | 0, k, hk => by
    have h8 := pow8 hm
    have e : k = 2 ^ m := by omega
    unfold wp_X8_teachingSetCount_b32
    rw [shl1_nI (by omega)]
    refine br_t (nI_le (by omega) (by omega)) ?_
    rw [e]
    exact h
  | d + 1, k, hk => by
    have h8 := pow8 hm
    have h20 := pow20 hn
    have t := tsc8_loop hm hn hz hM hf hc h d (k + 1) (by omega)
    rw [fb_ct_succ] at t
    have k1 := bc256 (x := k) (by omega)
    have z0 : ∀ y : Nat, nI y + (0 : Int32) = nI (y + 0) := fun y => nI_add y 0
    unfold wp_X8_teachingSetCount_b32
    rw [shl1_nI (by omega), nI_1, nI_1, z0]
    refine br_f (nI_ge (by omega) (by omega)) (sizeOf_sp (by omega) (brne (by omega) hz (fun q => ?_) (fun q => all8_sp (by omega) (teaches_sp hn hM hf hc (by omega) (bI_br0 (fun q2 => ?_) (fun q2 => ?_))))))
    · rw [decide_eq_false q, Bool.and_false] at t
      exact t
    · rw [q2] at t
      exact t
    · rw [q2, decide_eq_true q] at t
      exact t

set_option maxHeartbeats 2000000 in
theorem pu_isTeachingSet : PU_isTeachingSet INV := by
  intro N S M a1 a2 hN hI
  have hkeep := hI.keep
  obtain ⟨⟨points, count, ed, sets, scores, rated, hold⟩, ⟨scnt, codes⟩, D, X, saved, stand, ⟨height, largest, ped, layers, psets⟩, seen, depths, K⟩ := S
  obtain ⟨mm, many, mex, has, sm, smany, sex, bys, mc, ms, mpt, mlb, ty, ln, wh, tw, sc8, ss8, sp8, sl8, lay8, pl8⟩ := M
  obtain ⟨m, n, f, e, pt, lb, hc, hs, hp, hx, ht, hk, hsh⟩ := INV_mk.mp hI
  obtain ⟨⟨hm1, hm8, hn20⟩, rfl, rfl, hS, hB, hDs, hH, rfl, rfl, hM⟩ := hc
  have hf31 : ∀ k, k < n → f k < 2 ^ 31 := fun k hk => Nat.lt_trans (hB.lt hm8 hk) (by decide)
  dsimp only
  have h20 := pow20 hn20
  have h256 := pow8 hm8
  refine has_sp (by omega) ?_
  rcases inr_cases a1 n (by omega) with h | ⟨c, hc, rfl, h⟩
  · rw [h]
    refine bn_t rfl (isConcept_sp (by omega) ?_)
    rw [h]
    exact bn_t rfl ⟨rfl, hkeep⟩
  rw [h]
  
  refine bn_f (by decide) (isSet_sp hm8 ?_)
  rcases inr_cases a2 (2 ^ m) (by omega) with h2 | ⟨s, hs2, rfl, h2⟩
  · rw [h2]
    refine bn_t rfl (isConcept_sp (by omega) ?_)
    rw [h]
    refine bn_f (by decide) (isSet8_sp hm8 ?_)
    rw [h2]
    exact br_t rfl ⟨rfl, hkeep⟩
  rw [h2]
  refine bn_f (by decide) (others_sp (by omega) (by omega) ?_)
  rw [others_MSK]
  refine weigh_sp hm8 hn20 hS hf31 hH hc (fun st hst => ⟨in_nI (by omega) (by decide), ?_⟩)
  rw [cl_nI (by omega), hst s hs2]
  have hlt := SD_lt (f := f) (c := c) (P := fun k => !decide (k = c)) (s := s) hn20
  have e8 : ∀ b : Bool, TSb n f c (2 ^ n - 1) s = b → ∀ {Q : Int32 → Prop}, Q (bI b) → wp_X8_isTeachingSet (nI c) (nI s) (nI m) (nI n) mc Q := by
    intro b eb Q hq
    refine isConcept_sp (by omega) ?_
    rw [h]
    refine bn_f (by decide) (isSet8_sp hm8 ?_)
    rw [h2]
    refine br_f (by decide) (all8_sp (by omega) (teaches_sp hn20 hM hf31 hc (by omega) ?_))
    rw [eb]
    cases b
    · exact br_t rfl hq
    · exact br_f (by decide) hq
  refine brne (b := 0) (by omega) (by decide) (fun q => br_t rfl (e8 false ?_ ⟨rfl, hkeep⟩)) (fun q => br_f (by decide) (e8 true ?_ ⟨rfl, hkeep⟩))
  · rw [← TQ_all]; exact decide_eq_false q
  · rw [← TQ_all]; exact decide_eq_true q

set_option maxHeartbeats 2000000 in
theorem pu_teachingSet : PU_teachingSet INV := by
  intro N S M a1 hN hI
  have hkeep := hI.keep
  obtain ⟨⟨points, count, ed, sets, scores, rated, hold⟩, ⟨scnt, codes⟩, D, X, saved, stand, ⟨height, largest, ped, layers, psets⟩, seen, depths, K⟩ := S
  obtain ⟨mm, many, mex, has, sm, smany, sex, bys, mc, ms, mpt, mlb, ty, ln, wh, tw, sc8, ss8, sp8, sl8, lay8, pl8⟩ := M
  obtain ⟨m, n, f, e, pt, lb, hc, hs, hp, hx, ht, hk, hsh⟩ := INV_mk.mp hI
  obtain ⟨⟨hm1, hm8, hn20⟩, rfl, rfl, hS, hB, hDs, hH, rfl, rfl, hM⟩ := hc
  have hf31 : ∀ k, k < n → f k < 2 ^ 31 := fun k hk => Nat.lt_trans (hB.lt hm8 hk) (by decide)
  dsimp only
  have h20 := pow20 hn20
  refine has_sp (by omega) ?_
  rcases inr_cases a1 n (by omega) with h | ⟨c, hc, rfl, h⟩
  · rw [h]
    refine bn_t rfl (isConcept_sp (by omega) ?_)
    rw [h]
    exact br_t rfl ⟨rfl, hkeep⟩
  rw [h]
  refine bn_f (by decide) (others_sp (by omega) (by omega) ?_)
  rw [others_MSK]
  refine smallest_sp hm8 hn20 hS hf31 hH hc (fun st => isConcept_sp (by omega) ?_)
  rw [h, SM_all]
  exact br_f (by decide) (all8_sp (by omega) (least_sp hm8 hn20 ht hM hf31 hB hDs hc (by omega) ⟨rfl, hkeep⟩))

set_option maxHeartbeats 2000000 in
theorem pu_teachingSetCount : PU_teachingSetCount INV := by
  intro N S M a1 a2 hN hI
  have hkeep := hI.keep
  obtain ⟨⟨points, count, ed, sets, scores, rated, hold⟩, ⟨scnt, codes⟩, D, X, saved, stand, ⟨height, largest, ped, layers, psets⟩, seen, depths, K⟩ := S
  obtain ⟨mm, many, mex, has, sm, smany, sex, bys, mc, ms, mpt, mlb, ty, ln, wh, tw, sc8, ss8, sp8, sl8, lay8, pl8⟩ := M
  obtain ⟨m, n, f, e, pt, lb, hc, hs, hp, hx, ht, hk, hsh⟩ := INV_mk.mp hI
  obtain ⟨⟨hm1, hm8, hn20⟩, rfl, rfl, hS, hB, hDs, hH, rfl, rfl, hM⟩ := hc
  have hf31 : ∀ k, k < n → f k < 2 ^ 31 := fun k hk => Nat.lt_trans (hB.lt hm8 hk) (by decide)
  dsimp only
  have h20 := pow20 hn20
  have h256 := pow8 hm8
  refine has_sp (by omega) ?_
  rcases inr_cases a1 n (by omega) with h | ⟨c, hc, rfl, h⟩
  · rw [h]
    refine bn_t rfl (isConcept_sp (by omega) ?_)
    rw [h]
    exact bn_t rfl ⟨rfl, hkeep⟩
  rw [h]
  
  refine bn_f (by decide) (isSize_sp (by omega) ?_)
  rcases inr_cases a2 (m + 1) (by omega) with h2 | ⟨z, hz, rfl, h2⟩
  · rw [h2]
    refine bn_t rfl (isConcept_sp (by omega) ?_)
    rw [h]
    refine bn_f (by decide) (size8_sp (by omega) ?_)
    rw [h2]
    exact bn_t rfl ⟨rfl, hkeep⟩
  rw [h2]
  refine bn_f (by decide) (others_sp (by omega) (by omega) ?_)
  rw [others_MSK]
  refine countOf_sp hm8 hn20 (by omega) hS hf31 hH hc (fun st => isConcept_sp (by omega) ?_)
  rw [h]
  refine bn_f (by decide) (size8_sp (by omega) ?_)
  rw [h2]
  refine bn_f (by decide) ⟨2 ^ m + 1, tsc8_loop hm8 hn20 (by omega) hM hf31 hc ?_ (2 ^ m) 0 (by omega)⟩
  refine ⟨congrArg nI (fb_ct_cong (fun s _ => ?_)), hkeep⟩
  rw [TQ_all]
