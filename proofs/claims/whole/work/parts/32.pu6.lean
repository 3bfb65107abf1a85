/-! versions, majority, halving -/
theorem nn_nI {x : Int32} (h : ¬ x < 0) : ∃ a, a < 2 ^ 31 ∧ x = nI a := by
  rw [Int32.lt_iff_toInt_lt, toInt0] at h
  have r := fb_rng x
  refine ⟨x.toInt.toNat, by omega, ?_⟩
  rw [fa_eq, nI_toInt (by omega)]
  omega
theorem MSK_and (P R : Nat → Bool) (n : Nat) : MSK P n &&& MSK R n = MSK (fun k => P k && R k) n := by
  apply eq_of_bits
  intro i
  rw [Nat.testBit_and, MSK_bit, MSK_bit, MSK_bit]
  cases decide (i < n) <;> simp
theorem MSK_dif (P R : Nat → Bool) (n : Nat) : dif (MSK P n) (MSK (fun k => P k && R k) n) = MSK (fun k => P k && !R k) n := by
  apply eq_of_bits
  intro i
  rw [dif_bit, MSK_bit, MSK_bit, MSK_bit]
  cases decide (i < n) <;> cases P i <;> cases R i <;> rfl
theorem MSK_not (R : Nat → Bool) (n : Nat) : dif (2 ^ n - 1) (MSK R n) = MSK (fun k => !R k) n := by
  rw [← MSK_full]
  have h := MSK_dif (fun _ => true) R n
  simp only [Bool.true_and] at h
  exact h
theorem MSK_32 {P : Nat → Bool} {n : Nat} (hn : n ≤ 20) : MSK P n < 2 ^ 20 := Nat.lt_of_lt_of_le (MSK_lt P n) (Nat.pow_le_pow_right (by decide) hn)
theorem bc_MSK {P : Nat → Bool} {n : Nat} (hn : n ≤ 20) : bc (MSK P n) = fb_ct P n := by
  rw [bc_of (MSK_lt P n) (by omega)]
  apply fb_ct_cong
  intro k hk
  rw [MSK_bit]
  simp [hk]
theorem ct_two (P R : Nat → Bool) : ∀ n, fb_ct (fun k => P k && R k) n + fb_ct (fun k => P k && !R k) n = fb_ct P n
  | 0 => rfl
  | n + 1 => by
    rw [fb_ct_succ, fb_ct_succ, fb_ct_succ]
    have := ct_two P R n
    cases P n <;> cases R n <;> simp only [Bool.true_and, Bool.false_and, Bool.and_true, Bool.and_false, Bool.not_true, Bool.not_false, if_true, Bool.false_eq_true, if_false] <;> omega
theorem lab_b {l : Nat} (h : l < 2) : nI l = bI (decide (l = 1)) := by
  have : l = 0 ∨ l = 1 := by omega
  rcases this with e | e <;> subst e <;> rfl
theorem labelling_sp {m n p : Nat} {b : Bool} {f : Nat → Nat} {hold : Nat → Int32} {Q : Int32 → Prop} (hm : m ≤ 8) (hn : n ≤ 20) (hH : HOK m n f hold) (hp : p < m) (h : Q (nI (MSK (fun k => (f k).testBit p == b) n))) : wp_X0_labelling (nI p) (bI b) (nI n) hold Q := by
  unfold wp_X0_labelling
  rw [cl_nI (by omega), hH p hp]
  cases b
  · refine bn_f (by decide) (allNumbers_sp (by omega) ⟨in_nI (by omega) (by decide), ?_⟩)
    rw [dif_nI, MSK_not]
    have e : MSK (fun k => (f k).testBit p == false) n = MSK (fun k => !(f k).testBit p) n := MSK_cong (fun k _ => by cases (f k).testBit p <;> rfl)
    rw [← e]
    exact h
  · refine bn_t rfl ⟨in_nI (by omega) (by decide), ?_⟩
    have e : MSK (fun k => (f k).testBit p == true) n = MSK (fun k => (f k).testBit p) n := MSK_cong (fun k _ => by cases (f k).testBit p <;> rfl)
    rw [← e]
    exact h
theorem labOf_sp {n c p : Nat} {f : Nat → Nat} {sets : Nat → Int32} {Q : Int32 → Prop} (hn : n ≤ 20) (hS : SOK n f sets) (hc : c < n) (hf : f c < 2 ^ 31) (hp : p < 32) (h : Q (bI ((f c).testBit p))) : wp_X0_labelOf (nI c) (nI p) sets Q := by
  unfold wp_X0_labelOf
  rw [cl_nI (by omega), hS c hc]
  refine ⟨in_nI (by omega) (by decide), hasBit_sp hf hp (bI_br0 (fun q => ?_) (fun q => ?_))⟩
  · rw [q] at h; exact h
  · rw [q] at h; exact h
/-- does x label the first e examples as they are? -/
def VB (pt lb : Nat → Nat) (x : Nat) : Nat → Bool
  | 0 => true
  | e + 1 => VB pt lb x e && (x.testBit (pt e) == decide (lb e = 1))
theorem VB_succ (pt lb : Nat → Nat) (x e : Nat) : VB pt lb x (e + 1) = (VB pt lb x e && (x.testBit (pt e) == decide (lb e = 1))) := rfl
theorem ver7_loop {m n e : Nat} {f pt lb : Nat → Nat} {hold codes : Nat → Int32} {Q : Int32 → Prop} (hm : m ≤ 8) (hn : n ≤ 20) (he : e ≤ 12) (hH : HOK m n f hold) (hx : ∀ k, k < e → pt k < m ∧ lb k < 2 ∧ codes k = nI (2 * pt k + lb k)) (h : Q (nI (MSK (fun k => VB pt lb (f k) e) n))) :
    ∀ (d i : Nat), i + d = e → wp_X7_versions_b10 (nI n) hold (nI e) codes Q (d + 1) (nI (MSK (fun k => VB pt lb (f k) i) n)) (nI i)
  | 0, i, hi => by
    have e1 : i = e := by omega
    subst e1
    exact br_t (nI_le (by omega) (by omega)) h
  | d + 1, i, hi => by
    obtain ⟨h1, h2, h3⟩ := hx i (by omega)
    refine br_f (nI_ge (by omega) (by omega)) ⟨in_nI (by omega) (by decide), in_nI (by omega) (by decide), ?_⟩
    have e1 : nI (2 * pt i + lb i) >>> ((1 : Int32) &&& 31) = nI (pt i) := by
      have := shr_nI (n := 2 * pt i + lb i) (k := 1) (by omega) (by decide)
      have e2 : (2 * pt i + lb i) / 2 ^ 1 = pt i := by omega
      rw [e2] at this
      exact this
    have e2 : nI (2 * pt i + lb i) &&& (1 : Int32) = bI (decide (lb i = 1)) := by
      have := fa_mask (2 * pt i + lb i) 1
      have e3 : (2 * pt i + lb i) % 2 ^ 1 = lb i := by omega
      rw [e3, lab_b h2] at this
      exact this
    rw [cl_nI (by omega), h3, e1, e2]
    refine labelling_sp hm hn hH h1 ?_
    rw [fa_and, MSK_and, nI_1]
    exact ver7_loop hm hn he hH hx h d (i + 1) (by omega)
theorem ver7_sp {m n e : Nat} {f pt lb : Nat → Nat} {hold codes : Nat → Int32} {Q : Int32 → Prop} (hm : m ≤ 8) (hn : n ≤ 20) (he : e ≤ 12) (hH : HOK m n f hold) (hx : ∀ k, k < e → pt k < m ∧ lb k < 2 ∧ codes k = nI (2 * pt k + lb k)) (h : Q (nI (MSK (fun k => VB pt lb (f k) e) n))) : wp_X7_versions (nI n) hold (nI e) codes Q := by
  unfold wp_X7_versions
  refine allNumbers_sp (by omega) ⟨e + 1, ?_⟩
  rw [← MSK_full]
  exact ver7_loop hm hn he hH hx h e 0 (by omega)
theorem ver8_in {m n e k : Nat} {f pt lb : Nat → Nat} {mc mpt mlb : Nat → Int32} {mm : Int32} {Q : Int32 → Prop} {k4 : Int32 → Int32 → Prop} (hm : m ≤ 8) (hn : n ≤ 20) (he : e ≤ 12) (hk : k < n) (hf : f k < 2 ^ 31) (hM : SOK n f mc) (hx : ∀ k, k < e → pt k < m ∧ lb k < 2 ∧ mpt k = nI (pt k) ∧ mlb k = nI (lb k))
    (h : k4 (nI (MSK (fun k => VB pt lb (f k) e) (k + 1))) (nI (k + 1))) :
    ∀ (d i : Nat), i + d = e → wp_X8_versions_b17 mm (nI e) mc mpt mlb Q k4 (d + 1) (nI (MSK (fun k => VB pt lb (f k) e) k)) (nI k) (bI (VB pt lb (f k) i)) (nI i)
  | 0, i, hi => by
    have e1 : i = e := by omega
    subst e1
    rw [MSK_succ_or] at h
    refine br_t (nI_le (by omega) (by omega)) (bI_br0 (fun q => ?_) (fun q => ?_))
    · rw [nI_1]
      rw [q] at h
      have := fa_or (MSK (fun k => VB pt lb (f k) i) k) 0
      rw [show (0 : Int32) = nI 0 from rfl, this]
      exact h
    · rw [nI_1, shl1_nI (by omega), fa_or]
      rw [q] at h
      exact h
  | d + 1, i, hi => by
    obtain ⟨h1, h2, h3, h4⟩ := hx i (by omega)
    have t := ver8_in (Q := Q) (mm := mm) hm hn he hk hf hM hx h d (i + 1) (by omega)
    rw [VB_succ] at t
    refine br_f (nI_ge (by omega) (by omega)) (bI_br0 (fun q => ?_) (fun q => ⟨in_nI (by omega) (by decide), in_nI (by omega) (by decide), in_nI (by omega) (by decide), ?_⟩))
    · rw [nI_1]
      rw [q] at t
      exact t
    · rw [cl_nI (by omega), cl_nI (by omega), hM k hk, h3, h4, bit_nI hf (by omega), lab_b h2, nI_1]
      rw [q] at t
      cases h5 : (f k).testBit (pt i) <;> cases h6 : decide (lb i = 1) <;> rw [h5, h6] at t
      · exact bn_t rfl t
      · exact bn_f (by decide) t
      · exact bn_f (by decide) t
      · exact bn_t rfl t
theorem ver8_out {m n e : Nat} {f pt lb : Nat → Nat} {mc mpt mlb : Nat → Int32} {Q : Int32 → Prop} (hm : m ≤ 8) (hn : n ≤ 20) (he : e ≤ 12) (hf : ∀ k, k < n → f k < 2 ^ 31) (hM : SOK n f mc) (hx : ∀ k, k < e → pt k < m ∧ lb k < 2 ∧ mpt k = nI (pt k) ∧ mlb k = nI (lb k))
    (h : Q (nI (MSK (fun k => VB pt lb (f k) e) n))) :
    ∀ (d k : Nat), k + d = n → wp_X8_versions_b4 (nI n) (nI e) mc mpt mlb Q (d + 1) (nI (MSK (fun k => VB pt lb (f k) e) k)) (nI k)
  | 0, k, hk => by
    have e1 : k = n := by omega
    subst e1
    exact br_t (nI_le (by omega) (by omega)) h
  | d + 1, k, hk => br_f (nI_ge (by omega) (by omega)) ⟨e + 1, ver8_in (k4 := fun x1 x2 => wp_X8_versions_b4 (nI n) (nI e) mc mpt mlb Q (d + 1) x1 x2) hm hn he (by omega) (hf k (by omega)) hM hx (ver8_out hm hn he hf hM hx h d (k + 1) (by omega)) e 0 (by omega)⟩
theorem ver8_sp {m n e : Nat} {f pt lb : Nat → Nat} {mc mpt mlb : Nat → Int32} {Q : Int32 → Prop} (hm : m ≤ 8) (hn : n ≤ 20) (he : e ≤ 12) (hf : ∀ k, k < n → f k < 2 ^ 31) (hM : SOK n f mc) (hx : ∀ k, k < e → pt k < m ∧ lb k < 2 ∧ mpt k = nI (pt k) ∧ mlb k = nI (lb k))
    (h : Q (nI (MSK (fun k => VB pt lb (f k) e) n))) : wp_X8_versions (nI n) (nI e) mc mpt mlb Q := ⟨n + 1, ver8_out hm hn he hf hM hx h n 0 (by omega)⟩
/-- the number of the index-th version, from c passed -/
def RV (V : Nat) (a : Nat) : Nat → Nat → Nat → Int32
  | 0, _, _ => -6
  | d + 1, k, c => if V.testBit k = true then (if c = a then nI k else RV V a d (k + 1) (c + 1)) else RV V a d (k + 1) c
theorem RV_succ (V a d k c : Nat) : RV V a (d + 1) k c = if V.testBit k = true then (if c = a then nI k else RV V a d (k + 1) (c + 1)) else RV V a d (k + 1) c := rfl
theorem vn7_loop {V n a : Nat} {hold codes : Nat → Int32} {sc : Int32} {Q : Int32 → Prop} (hn : n ≤ 20) (hV : V < 2 ^ 31) (ha : a < 2 ^ 31) : ∀ (d k c : Nat), k + d = n → c ≤ k → Q (RV V a d k c) → wp_X7_version_b10 (nI a) (nI n) hold sc codes Q (d + 1) (nI V) (nI c) (nI k)
  | 0, k, c, hk, _, h => br_t (nI_le (by omega) (by omega)) h
  | d + 1, k, c, hk, hc, h => by
    rw [RV_succ] at h
    refine br_f (nI_ge (by omega) (by omega)) (hasBit_sp hV (by omega) (bI_br0 (fun q => ?_) (fun q => ?_)))
    · rw [q, if_neg (by decide)] at h
      rw [nI_1]
      exact vn7_loop hn hV ha d (k + 1) c (by omega) (by omega) h
    · rw [q, if_pos rfl] at h
      refine brne (by omega) ha (fun g => ?_) (fun g => ?_)
      · rw [if_neg g] at h
        rw [nI_1, nI_1]
        exact vn7_loop hn hV ha d (k + 1) (c + 1) (by omega) (by omega) h
      · rw [if_pos g] at h
        exact h
theorem vn7_neg {V n : Nat} {x : Int32} {hold codes : Nat → Int32} {sc : Int32} {Q : Int32 → Prop} (hn : n ≤ 20) (hV : V < 2 ^ 31) (hx : x < 0) (h : Q (-6)) : ∀ (d k c : Nat), k + d = n → c ≤ k → wp_X7_version_b10 x (nI n) hold sc codes Q (d + 1) (nI V) (nI c) (nI k)
  | 0, k, c, hk, _ => br_t (nI_le (by omega) (by omega)) h
  | d + 1, k, c, hk, hc => by
    refine br_f (nI_ge (by omega) (by omega)) (hasBit_sp hV (by omega) (bI_br0 (fun q => ?_) (fun q => ?_)))
    · rw [nI_1]
      exact vn7_neg hn hV hx h d (k + 1) c (by omega) (by omega)
    · refine bn_f (fun g => ?_) ?_
      · rw [← g, Int32.lt_iff_toInt_lt, nI_toInt (by omega), toInt0] at hx
        omega
      · rw [nI_1, nI_1]
        exact vn7_neg hn hV hx h d (k + 1) (c + 1) (by omega) (by omega)
theorem vn8_loop {V n a : Nat} {mc mpt mlb : Nat → Int32} {me : Int32} {Q : Int32 → Prop} (hn : n ≤ 20) (hV : V < 2 ^ 31) (ha : a < 2 ^ 31) : ∀ (d k c : Nat), k + d = n → c ≤ a → Q (RV V a d k c) → wp_X8_version_b10 (nI a) (nI n) me mc mpt mlb Q (d + 1) (nI V) (nI (a - c)) (nI k)
  | 0, k, c, hk, _, h => br_t (nI_le (by omega) (by omega)) h
  | d + 1, k, c, hk, hc, h => by
    rw [RV_succ] at h
    refine br_f (nI_ge (by omega) (by omega)) (br_f (nI_pos ha) (has8_sp hV (by omega) (bI_br0 (fun q => ?_) (fun q => ?_))))
    · rw [q, if_neg (by decide)] at h
      rw [nI_1]
      exact vn8_loop hn hV ha d (k + 1) c (by omega) hc h
    · rw [q, if_pos rfl] at h
      refine brne (b := 0) (by omega) (by decide) (fun g => ?_) (fun g => ?_)
      · rw [if_neg (by omega)] at h
        have e1 : nI (a - c) + (-1 : Int32) = nI (a - (c + 1)) := by
          have := pk_m1 (a - (c + 1))
          rw [show a - (c + 1) + 1 = a - c by omega] at this
          exact this
        rw [nI_1, e1]
        exact vn8_loop hn hV ha d (k + 1) (c + 1) (by omega) (by omega) h
      · rw [if_pos (by omega)] at h
        exact h
theorem lead_sp {m n p : Nat} {P : Nat → Bool} {f : Nat → Nat} {hold : Nat → Int32} {Q : Int32 → Prop} (hm : m ≤ 8) (hn : n ≤ 20) (hH : HOK m n f hold) (hp : p < m) (h : Q (nI (fb_ct (fun k => P k && (f k).testBit p) n) - nI (fb_ct (fun k => P k && !(f k).testBit p) n))) : wp_X0_leadOfOnes (nI (MSK P n)) (nI p) (nI n) hold Q := by
  unfold wp_X0_leadOfOnes
  refine labelling_sp (b := true) hm hn hH hp ?_
  rw [fa_and, MSK_and]
  have b1 := MSK_32 (P := fun k => P k && ((f k).testBit p == true)) hn
  have b2 := MSK_32 (P := fun k => P k && ((f k).testBit p == false)) hn
  refine bitCount_sp (by omega) (labelling_sp (b := false) hm hn hH hp ?_)
  rw [fa_and, MSK_and]
  refine bitCount_sp (by omega) ?_
  rw [bc_MSK hn, bc_MSK hn]
  have e1 : fb_ct (fun k => P k && ((f k).testBit p == true)) n = fb_ct (fun k => P k && (f k).testBit p) n := fb_ct_cong (fun k _ => by cases (f k).testBit p <;> rfl)
  have e2 : fb_ct (fun k => P k && ((f k).testBit p == false)) n = fb_ct (fun k => P k && !(f k).testBit p) n := fb_ct_cong (fun k _ => by cases (f k).testBit p <;> rfl)
  rw [e1, e2]
  exact h
theorem with_loop {n p : Nat} {P : Nat → Bool} {f : Nat → Nat} {mc : Nat → Int32} {Q : Int32 → Prop} (hn : n ≤ 20) (hp : p < 32) (hf : ∀ k, k < n → f k < 2 ^ 31) (hM : SOK n f mc) (h : Q (nI (MSK (fun k => P k && (f k).testBit p) n))) : ∀ (d k : Nat), k + d = n → wp_X8_with_b5 (nI (MSK P n)) (nI p) (nI n) mc Q (d + 1) (nI (MSK (fun k => P k && (f k).testBit p) k)) (nI k)
  | 0, k, hk => by
    have e1 : k = n := by omega
    subst e1
    exact br_t (nI_le (by omega) (by omega)) h
  | d + 1, k, hk => by
    have b1 := MSK_32 (P := P) hn
    have t := with_loop hn hp hf hM h d (k + 1) (by omega)
    rw [MSK_succ_or] at t
    have eP : (MSK P n).testBit k = P k := by rw [MSK_bit]; simp [show k < n by omega]
    have z : ∀ y : Nat, nI y ||| (0 : Int32) = nI (y ||| 0) := fun y => fa_or y 0
    refine br_f (nI_ge (by omega) (by omega)) (has8_sp (by omega) (by omega) ?_)
    rw [eP]
    refine bI_br0 (fun q => ?_) (fun q => ⟨in_nI (by omega) (by decide), ?_⟩)
    · rw [q] at t
      rw [nI_1, z]
      exact t
    · rw [cl_nI (by omega), hM k (by omega)]
      refine has8_sp (hf k (by omega)) hp (bI_br0 (fun q2 => ?_) (fun q2 => ?_))
      · rw [q, q2] at t
        rw [nI_1, z]
        exact t
      · rw [q, q2] at t
        rw [nI_1, shl1_nI (by omega), fa_or]
        exact t
theorem with_sp {n p : Nat} {P : Nat → Bool} {f : Nat → Nat} {mc : Nat → Int32} {Q : Int32 → Prop} (hn : n ≤ 20) (hp : p < 32) (hf : ∀ k, k < n → f k < 2 ^ 31) (hM : SOK n f mc) (h : Q (nI (MSK (fun k => P k && (f k).testBit p) n))) : wp_X8_with (nI (MSK P n)) (nI p) (nI n) mc Q := ⟨n + 1, with_loop hn hp hf hM h n 0 (by omega)⟩
theorem sub_eq0 {a b : Nat} (ha : a < 2 ^ 30) (hb : b < 2 ^ 30) : nI a - nI b = 0 ↔ a = b := by
  rw [fa_eq, pk_sub_toInt ha hb, toInt0]
  omega
theorem sub_le0 {a b : Nat} (ha : a < 2 ^ 30) (hb : b < 2 ^ 30) : nI a - nI b ≤ 0 ↔ a ≤ b := by
  rw [fa_le, pk_sub_toInt ha hb, toInt0]
  omega
/-- halving: who is left, how many mistakes -/
def HM (f : Nat → Nat) (n c : Nat) : Nat → Nat → (Nat → Bool) → Nat → Nat
  | 0, _, _, w => w
  | d + 1, p, P, w => HM f n c d (p + 1) (fun k => P k && ((f k).testBit p == (f c).testBit p)) (w + if decide (fb_ct (fun k => P k && !(f k).testBit p) n < fb_ct (fun k => P k && (f k).testBit p) n) = (f c).testBit p then 0 else 1)
theorem HM_succ (f : Nat → Nat) (n c d p : Nat) (P : Nat → Bool) (w : Nat) : HM f n c (d + 1) p P w = HM f n c d (p + 1) (fun k => P k && ((f k).testBit p == (f c).testBit p)) (w + if decide (fb_ct (fun k => P k && !(f k).testBit p) n < fb_ct (fun k => P k && (f k).testBit p) n) = (f c).testBit p then 0 else 1) := rfl
theorem hm7_loop {m n c : Nat} {f : Nat → Nat} {sets hold : Nat → Int32} {Q : Int32 → Prop} (hm : m ≤ 8) (hn : n ≤ 20) (hS : SOK n f sets) (hf : ∀ k, k < n → f k < 2 ^ 31) (hH : HOK m n f hold) (hc : c < n) : ∀ (d p : Nat) (P : Nat → Bool) (w : Nat), p + d = m → Q (nI (HM f n c d p P w)) → wp_X7_halvingMistakes_b27 (nI c) (nI m) (nI n) sets hold Q (d + 1) (nI (MSK P n)) (nI w) (nI p)
  | 0, p, P, w, hp, h => br_t (nI_le (by omega) (by omega)) h
  | d + 1, p, P, w, hp, h => by
    rw [HM_succ] at h
    have c1 := fb_ct_le (fun k => P k && (f k).testBit p) n
    have c2 := fb_ct_le (fun k => P k && !(f k).testBit p) n
    refine br_f (nI_ge (by omega) (by omega)) (lead_sp hm hn hH (by omega) ?_)
    rw [sub_le0 (by omega) (by omega)]
    have fin : ∀ w', w' = w + (if decide (fb_ct (fun k => P k && !(f k).testBit p) n < fb_ct (fun k => P k && (f k).testBit p) n) = (f c).testBit p then 0 else 1) → wp_X7_halvingMistakes_b81 (nI c) (nI m) (nI n) sets hold Q (fun (x2 : Int32) (x3 : Int32) (x4 : Int32) => wp_X7_halvingMistakes_b27 (nI c) (nI m) (nI n) sets hold Q (d + 1) x2 x3 x4) (nI (MSK P n)) (nI w') (nI p) (bI ((f c).testBit p)) := by
      intro w' ew
      unfold wp_X7_halvingMistakes_b81
      refine labelling_sp hm hn hH (by omega) ?_
      rw [fa_and, MSK_and, nI_1]
      rw [← ew] at h
      exact hm7_loop hm hn hS hf hH hc d (p + 1) _ w' (by omega) h
    have mid : ∀ b : Bool, b = decide (fb_ct (fun k => P k && !(f k).testBit p) n < fb_ct (fun k => P k && (f k).testBit p) n) → wp_X7_halvingMistakes_b57 (nI c) (nI m) (nI n) sets hold Q (fun (x2 : Int32) (x3 : Int32) (x4 : Int32) => wp_X7_halvingMistakes_b27 (nI c) (nI m) (nI n) sets hold Q (d + 1) x2 x3 x4) (nI (MSK P n)) (nI w) (nI p) (bI b) := by
      intro b eb
      rw [← eb] at fin
      unfold wp_X7_halvingMistakes_b57
      refine labOf_sp hn hS hc (hf c hc) (by omega) ?_
      rw [nI_1]
      cases h1 : (f c).testBit p <;> cases b <;> rw [h1] at fin
      · exact br_t rfl (fin w rfl)
      · exact br_f (by decide) (fin (w + 1) rfl)
      · exact br_f (by decide) (fin (w + 1) rfl)
      · exact br_t rfl (fin w rfl)
    exact ⟨fun g => mid false (decide_eq_false (by omega)).symm, fun g => mid true (decide_eq_true (by omega)).symm⟩
theorem hm8_loop {m n c : Nat} {f : Nat → Nat} {mc : Nat → Int32} {Q : Int32 → Prop} (hm : m ≤ 8) (hn : n ≤ 20) (hM : SOK n f mc) (hf : ∀ k, k < n → f k < 2 ^ 31) (hc : c < n) : ∀ (d p : Nat) (P : Nat → Bool) (w : Nat), p + d = m → Q (nI (HM f n c d p P w)) → wp_X8_halvingMistakes_b21 (nI c) (nI m) (nI n) mc Q (d + 1) (nI (MSK P n)) (nI w) (nI p)
  | 0, p, P, w, hp, h => br_t (nI_le (by omega) (by omega)) h
  | d + 1, p, P, w, hp, h => by
    rw [HM_succ] at h
    have c1 := fb_ct_le (fun k => P k && (f k).testBit p) n
    have c2 := fb_ct_le (fun k => P k && !(f k).testBit p) n
    have c3 := ct_two P (fun k => (f k).testBit p) n
    refine br_f (nI_ge (by omega) (by omega)) (with_sp hn (by omega) hf hM (sizeOf_sp (MSK_32 hn) (sizeOf_sp (MSK_32 hn) ?_)))
    rw [bc_MSK hn, bc_MSK hn, show ∀ y : Nat, (2 : Int32) * nI y = nI (2 * y) from fun y => pk_mul 2 y, cle (by omega) (by omega)]
    have fin : ∀ t : Nat, t = (if decide (fb_ct (fun k => P k && !(f k).testBit p) n < fb_ct (fun k => P k && (f k).testBit p) n) = (f c).testBit p then 0 else 1) → wp_X8_halvingMistakes_b86 (nI c) (nI m) (nI n) mc Q (fun (x2 : Int32) (x3 : Int32) (x4 : Int32) => wp_X8_halvingMistakes_b21 (nI c) (nI m) (nI n) mc Q (d + 1) x2 x3 x4) (nI (MSK P n)) (nI p) (nI (MSK (fun k => P k && (f k).testBit p) n)) (bI ((f c).testBit p)) (nI t) (nI w) := by
      intro t et
      unfold wp_X8_halvingMistakes_b86
      rw [← et] at h
      have r := hm8_loop hm hn hM hf hc d (p + 1) _ (w + t) (by omega) h
      rw [nI_add, nI_1, dif_nI, MSK_dif]
      refine bI_br0 (fun q => ?_) (fun q => ?_)
      · rw [q] at r
        have e1 : MSK (fun k => P k && ((f k).testBit p == false)) n = MSK (fun k => P k && !(f k).testBit p) n := MSK_cong (fun k _ => by cases (f k).testBit p <;> rfl)
        rw [e1] at r
        exact r
      · rw [q] at r
        have e1 : MSK (fun k => P k && ((f k).testBit p == true)) n = MSK (fun k => P k && (f k).testBit p) n := MSK_cong (fun k _ => by cases (f k).testBit p <;> rfl)
        rw [e1] at r
        exact r
    have mid : ∀ b : Bool, b = decide (fb_ct (fun k => P k && !(f k).testBit p) n < fb_ct (fun k => P k && (f k).testBit p) n) → wp_X8_halvingMistakes_b58 (nI c) (nI m) (nI n) mc Q (fun (x2 : Int32) (x3 : Int32) (x4 : Int32) => wp_X8_halvingMistakes_b21 (nI c) (nI m) (nI n) mc Q (d + 1) x2 x3 x4) (nI (MSK P n)) (nI w) (nI p) (nI (MSK (fun k => P k && (f k).testBit p) n)) (bI b) := by
      intro b eb
      rw [← eb] at fin
      unfold wp_X8_halvingMistakes_b58
      rw [cl_nI (by omega), hM c hc]
      refine ⟨in_nI (by omega) (by decide), has8_sp (hf c hc) (by omega) ?_⟩
      cases h1 : (f c).testBit p <;> cases b <;> rw [h1] at fin
      · exact br_t rfl (fin 0 rfl)
      · exact br_f (by decide) (fin 1 rfl)
      · exact br_f (by decide) (fin 1 rfl)
      · exact br_t rfl (fin 0 rfl)
    exact ⟨fun g => mid false (decide_eq_false (by omega)).symm, fun g => mid true (decide_eq_true (by omega)).symm⟩

set_option maxHeartbeats 2000000 in
theorem pu_versionCount : PU_versionCount INV := by
  intro N S M  hN hI
  have hkeep := hI.keep
  obtain ⟨⟨points, count, ed, sets, scores, rated, hold⟩, ⟨scnt, codes⟩, D, X, saved, stand, ⟨height, largest, ped, layers, psets⟩, seen, depths, K⟩ := S
  obtain ⟨mm, many, mex, has, sm, smany, sex, bys, mc, ms, mpt, mlb, ty, ln, wh, tw, sc8, ss8, sp8, sl8, lay8, pl8⟩ := M
  obtain ⟨m, n, f, e, pt, lb, hc, hs, hp, hx, ht, hk, hsh⟩ := INV_mk.mp hI
  obtain ⟨⟨hm1, hm8, hn20⟩, rfl, rfl, hS, hB, hDs, hH, rfl, rfl, hM⟩ := hc
  have hf31 : ∀ k, k < n → f k < 2 ^ 31 := fun k hk => Nat.lt_trans (hB.lt hm8 hk) (by decide)
  dsimp only
  obtain ⟨he12, rfl, rfl, hxx⟩ := hx
  have hx7 : ∀ k, k < e → pt k < m ∧ lb k < 2 ∧ codes k = nI (2 * pt k + lb k) := fun k hk => ⟨(hxx k hk).1, (hxx k hk).2.1, (hxx k hk).2.2.1⟩
  have hx8 : ∀ k, k < e → pt k < m ∧ lb k < 2 ∧ mpt k = nI (pt k) ∧ mlb k = nI (lb k) := fun k hk => ⟨(hxx k hk).1, (hxx k hk).2.1, (hxx k hk).2.2.2⟩
  have hV := MSK_32 (P := fun k => VB pt lb (f k) e) hn20
  
  exact ver7_sp hm8 hn20 he12 hH hx7 (bitCount_sp (by omega) (ver8_sp hm8 hn20 he12 hf31 hM hx8 (sizeOf_sp hV ⟨rfl, hkeep⟩)))

set_option maxHeartbeats 2000000 in
theorem pu_version : PU_version INV := by
  intro N S M a1 hN hI
  have hkeep := hI.keep
  obtain ⟨⟨points, count, ed, sets, scores, rated, hold⟩, ⟨scnt, codes⟩, D, X, saved, stand, ⟨height, largest, ped, layers, psets⟩, seen, depths, K⟩ := S
  obtain ⟨mm, many, mex, has, sm, smany, sex, bys, mc, ms, mpt, mlb, ty, ln, wh, tw, sc8, ss8, sp8, sl8, lay8, pl8⟩ := M
  obtain ⟨m, n, f, e, pt, lb, hc, hs, hp, hx, ht, hk, hsh⟩ := INV_mk.mp hI
  obtain ⟨⟨hm1, hm8, hn20⟩, rfl, rfl, hS, hB, hDs, hH, rfl, rfl, hM⟩ := hc
  have hf31 : ∀ k, k < n → f k < 2 ^ 31 := fun k hk => Nat.lt_trans (hB.lt hm8 hk) (by decide)
  dsimp only
  obtain ⟨he12, rfl, rfl, hxx⟩ := hx
  have hx7 : ∀ k, k < e → pt k < m ∧ lb k < 2 ∧ codes k = nI (2 * pt k + lb k) := fun k hk => ⟨(hxx k hk).1, (hxx k hk).2.1, (hxx k hk).2.2.1⟩
  have hx8 : ∀ k, k < e → pt k < m ∧ lb k < 2 ∧ mpt k = nI (pt k) ∧ mlb k = nI (lb k) := fun k hk => ⟨(hxx k hk).1, (hxx k hk).2.1, (hxx k hk).2.2.2⟩
  have hV := MSK_32 (P := fun k => VB pt lb (f k) e) hn20
  
  refine ver7_sp hm8 hn20 he12 hH hx7 ⟨n + 1, ?_⟩
  by_cases hneg : a1 < 0
  · refine vn7_neg hn20 (by omega) hneg ?_ n 0 0 (by omega) (Nat.le_refl 0)
    refine ver8_sp hm8 hn20 he12 hf31 hM hx8 ⟨1, ?_⟩
    exact br_c (fun _ => ⟨rfl, hkeep⟩) (fun _ => br_t hneg ⟨rfl, hkeep⟩)
  · obtain ⟨a, ha, rfl⟩ := nn_nI hneg
    refine vn7_loop hn20 (by omega) ha n 0 0 (by omega) (Nat.le_refl 0) ?_
    exact ver8_sp hm8 hn20 he12 hf31 hM hx8 ⟨n + 1, vn8_loop hn20 (by omega) ha n 0 0 (by omega) (Nat.zero_le _) ⟨rfl, hkeep⟩⟩

set_option maxHeartbeats 2000000 in
theorem pu_majority : PU_majority INV := by
  intro N S M a1 hN hI
  have hkeep := hI.keep
  obtain ⟨⟨points, count, ed, sets, scores, rated, hold⟩, ⟨scnt, codes⟩, D, X, saved, stand, ⟨height, largest, ped, layers, psets⟩, seen, depths, K⟩ := S
  obtain ⟨mm, many, mex, has, sm, smany, sex, bys, mc, ms, mpt, mlb, ty, ln, wh, tw, sc8, ss8, sp8, sl8, lay8, pl8⟩ := M
  obtain ⟨m, n, f, e, pt, lb, hc, hs, hp, hx, ht, hk, hsh⟩ := INV_mk.mp hI
  obtain ⟨⟨hm1, hm8, hn20⟩, rfl, rfl, hS, hB, hDs, hH, rfl, rfl, hM⟩ := hc
  have hf31 : ∀ k, k < n → f k < 2 ^ 31 := fun k hk => Nat.lt_trans (hB.lt hm8 hk) (by decide)
  dsimp only
  obtain ⟨he12, rfl, rfl, hxx⟩ := hx
  have hx7 : ∀ k, k < e → pt k < m ∧ lb k < 2 ∧ codes k = nI (2 * pt k + lb k) := fun k hk => ⟨(hxx k hk).1, (hxx k hk).2.1, (hxx k hk).2.2.1⟩
  have hx8 : ∀ k, k < e → pt k < m ∧ lb k < 2 ∧ mpt k = nI (pt k) ∧ mlb k = nI (lb k) := fun k hk => ⟨(hxx k hk).1, (hxx k hk).2.1, (hxx k hk).2.2.2⟩
  have hV := MSK_32 (P := fun k => VB pt lb (f k) e) hn20
  
  refine isPoint_sp (by omega) ?_
  rcases inr_cases a1 m (by omega) with h | ⟨p, hp', rfl, h⟩
  · rw [h]
    refine bn_t rfl (point8_sp (by omega) ?_)
    rw [h]
    exact bn_t rfl ⟨rfl, hkeep⟩
  rw [h]
  refine bn_f (by decide) (ver7_sp hm8 hn20 he12 hH hx7 ?_)
  have c1 := fb_ct_le (fun k => VB pt lb (f k) e && (f k).testBit p) n
  have c2 := fb_ct_le (fun k => VB pt lb (f k) e && !(f k).testBit p) n
  have c3 := ct_two (fun k => VB pt lb (f k) e) (fun k => (f k).testBit p) n
  refine bn_c (fun g => lead_sp hm8 hn20 hH hp' ?_) (fun g => ?_)
  · rw [sub_eq0 (by omega) (by omega), sub_le0 (by omega) (by omega)]
    have e8 : ∀ {Q : Int32 → Prop}, (fb_ct (fun k => VB pt lb (f k) e && (f k).testBit p) n ≤ fb_ct (fun k => VB pt lb (f k) e && !(f k).testBit p) n → fb_ct (fun k => VB pt lb (f k) e && !(f k).testBit p) n ≤ fb_ct (fun k => VB pt lb (f k) e && (f k).testBit p) n → Q 2) → (fb_ct (fun k => VB pt lb (f k) e && (f k).testBit p) n ≤ fb_ct (fun k => VB pt lb (f k) e && !(f k).testBit p) n → ¬ fb_ct (fun k => VB pt lb (f k) e && !(f k).testBit p) n ≤ fb_ct (fun k => VB pt lb (f k) e && (f k).testBit p) n → Q 0) → (¬ fb_ct (fun k => VB pt lb (f k) e && (f k).testBit p) n ≤ fb_ct (fun k => VB pt lb (f k) e && !(f k).testBit p) n → Q 1) → wp_X8_majority (nI p) (nI m) (nI n) (nI e) mc mpt mlb Q := by
      intro Q q2 q0 q1
      refine point8_sp (by omega) ?_
      rw [h]
      refine bn_f (by decide) (ver8_sp hm8 hn20 he12 hf31 hM hx8 (bn_f g (with_sp hn20 (by omega) hf31 hM (sizeOf_sp (MSK_32 hn20) (sizeOf_sp hV ?_)))))
      rw [bc_MSK hn20, bc_MSK hn20, pk_sub (by omega)]
      have e1 : fb_ct (fun k => VB pt lb (f k) e) n - fb_ct (fun k => VB pt lb (f k) e && (f k).testBit p) n = fb_ct (fun k => VB pt lb (f k) e && !(f k).testBit p) n := by omega
      rw [e1, cle (by omega) (by omega), cle (by omega) (by omega)]
      exact ⟨fun w => ⟨fun w2 => q2 w w2, fun w2 => q0 w w2⟩, q1⟩
    refine bn_c (fun w => br_c (fun w2 => ?_) (fun w2 => ?_)) (fun w => ?_)
    · exact e8 (fun w3 w4 => absurd (by omega) w) (fun _ _ => ⟨rfl, hkeep⟩) (fun w3 => absurd w2 w3)
    · exact e8 (fun w3 w4 => absurd w3 w2) (fun w3 _ => absurd w3 w2) (fun _ => ⟨rfl, hkeep⟩)
    · exact e8 (fun w3 w4 => ⟨rfl, hkeep⟩) (fun _ w3 => absurd (by omega) w3) (fun w3 => absurd (by omega) w3)
  · refine point8_sp (by omega) ?_
    rw [h]
    exact bn_f (by decide) (ver8_sp hm8 hn20 he12 hf31 hM hx8 (bn_t g ⟨rfl, hkeep⟩))

set_option maxHeartbeats 2000000 in
theorem pu_halvingMistakes : PU_halvingMistakes INV := by
  intro N S M a1 hN hI
  have hkeep := hI.keep
  obtain ⟨⟨points, count, ed, sets, scores, rated, hold⟩, ⟨scnt, codes⟩, D, X, saved, stand, ⟨height, largest, ped, layers, psets⟩, seen, depths, K⟩ := S
  obtain ⟨mm, many, mex, has, sm, smany, sex, bys, mc, ms, mpt, mlb, ty, ln, wh, tw, sc8, ss8, sp8, sl8, lay8, pl8⟩ := M
  obtain ⟨m, n, f, e, pt, lb, hc, hs, hp, hx, ht, hk, hsh⟩ := INV_mk.mp hI
  obtain ⟨⟨hm1, hm8, hn20⟩, rfl, rfl, hS, hB, hDs, hH, rfl, rfl, hM⟩ := hc
  have hf31 : ∀ k, k < n → f k < 2 ^ 31 := fun k hk => Nat.lt_trans (hB.lt hm8 hk) (by decide)
  dsimp only
  refine has_sp (by omega) ?_
  rcases inr_cases a1 n (by omega) with h | ⟨c, hc, rfl, h⟩
  · rw [h]
    refine bn_t rfl (isConcept_sp (by omega) ?_)
    rw [h]
    exact bn_t rfl ⟨rfl, hkeep⟩
  rw [h]
  refine bn_f (by decide) (allNumbers_sp (by omega) ⟨m + 1, ?_⟩)
  rw [← MSK_full]
  refine hm7_loop hm8 hn20 hS hf31 hH hc m 0 _ 0 (by omega) (isConcept_sp (by omega) ?_)
  rw [h]
  refine bn_f (by decide) (all8_sp (by omega) ⟨m + 1, ?_⟩)
  rw [← MSK_full]
  exact hm8_loop hm8 hn20 hM hf31 hc m 0 _ 0 (by omega) ⟨rfl, hkeep⟩
