/-! small words of the pure part -/
theorem bn_t {c A B : Prop} (h : c) (b : B) : (¬ c → A) ∧ (c → B) := ⟨fun g => absurd h g, fun _ => b⟩
theorem bn_f {c A B : Prop} (h : ¬ c) (a : A) : (¬ c → A) ∧ (c → B) := ⟨fun _ => a, fun g => absurd g h⟩
theorem bn_c {c A B : Prop} (a : ¬ c → A) (b : c → B) : (¬ c → A) ∧ (c → B) := ⟨a, b⟩
def bI (b : Bool) : Int32 := if b then 1 else 0
theorem bI_t : bI true = 1 := rfl
theorem bI_f : bI false = 0 := rfl
theorem bI_0 (b : Bool) : bI b = 0 ↔ b = false := by cases b <;> decide
theorem bI_1 (b : Bool) : bI b = 1 ↔ b = true := by cases b <;> decide
theorem bI_nar (b : Bool) : narrow .boolean (.int (bI b)) = .int (bI b) := by cases b <;> rfl
theorem bI_nar2 (b : Bool) : vp_nar .boolean (bI b) = bI b := by cases b <;> rfl
/-- a branch on a truth -/
theorem bI_br0 {b : Bool} {A B : Prop} (hf : b = false → A) (ht : b = true → B) : (bI b = 0 → A) ∧ (¬ bI b = 0 → B) := by
  cases b
  · exact ⟨fun _ => hf rfl, fun h => absurd rfl h⟩
  · exact ⟨fun h => absurd h (by decide), fun _ => ht rfl⟩
theorem bI_br1 {b : Bool} {A B : Prop} (ht : b = true → A) (hf : b = false → B) : (¬ bI b = 0 → A) ∧ (bI b = 0 → B) := by
  cases b
  · exact ⟨fun h => absurd rfl h, fun _ => hf rfl⟩
  · exact ⟨fun _ => ht rfl, fun h => absurd h (by decide)⟩
theorem shl_nI {n k : Nat} (hk : k < 32) (h : n * 2 ^ k < 2 ^ 32) : nI n <<< (nI k &&& 31) = nI (n * 2 ^ k) := pk_shlN (nI k &&& 31) k (s_l k hk) h
theorem shl1_nI {k : Nat} (hk : k < 32) : (1 : Int32) <<< (nI k &&& 31) = nI (2 ^ k) := by
  have h : nI 1 <<< (nI k &&& 31) = nI (1 * 2 ^ k) := shl_nI hk (by rw [Nat.one_mul]; exact Nat.pow_lt_pow_right (by decide) hk)
  rw [Nat.one_mul] at h
  exact h
theorem shr_nI {n k : Nat} (h : n < 2 ^ 31) (hk : k < 32) : nI n >>> (nI k &&& 31) = nI (n / 2 ^ k) := pk_shrN h (nI k &&& 31) k (s_l k hk)
theorem full_nI {k : Nat} (hk : k < 32) : ((1 : Int32) <<< (nI k &&& 31)) - (1 : Int32) = nI (2 ^ k - 1) := by
  rw [shl1_nI hk]
  exact pk_sub (b := 1) Nat.one_le_two_pow
theorem bit_nI {x p : Nat} (hx : x < 2 ^ 31) (hp : p < 32) : (nI x >>> (nI p &&& 31)) &&& (1 : Int32) = bI (x.testBit p) := by
  rw [shr_nI hx hp]
  have h : nI (x / 2 ^ p) &&& nI (2 ^ 1 - 1) = nI ((x / 2 ^ p) % 2 ^ 1) := fa_mask (x / 2 ^ p) 1
  have e : x.testBit p = decide (x / 2 ^ p % 2 = 1) := Nat.testBit_eq_decide_div_mod_eq
  rw [e]
  refine Eq.trans h ?_
  rcases Nat.mod_two_eq_zero_or_one (x / 2 ^ p) with g | g
  · rw [show (2 : Nat) ^ 1 = 2 from rfl, g]; rfl
  · rw [show (2 : Nat) ^ 1 = 2 from rfl, g]; rfl
theorem lt31 {n : Nat} (h : n < 1000000) : n < 2 ^ 31 := by omega
/-- comparisons of small numbers -/
theorem cle {a b : Nat} (ha : a < 2 ^ 31) (hb : b < 2 ^ 31) : nI a ≤ nI b ↔ a ≤ b := nI_leI ha hb
theorem clt {a b : Nat} (ha : a < 2 ^ 31) (hb : b < 2 ^ 31) : nI a < nI b ↔ a < b := nI_ltI ha hb
theorem ceq {a b : Nat} (ha : a < 2 ^ 31) (hb : b < 2 ^ 31) : nI a = nI b ↔ a = b := nI_eq ha hb
theorem brle {a b : Nat} {A B : Prop} (ha : a < 2 ^ 31) (hb : b < 2 ^ 31) (f : a ≤ b → A) (g : b < a → B) : (nI a ≤ nI b → A) ∧ (¬ nI a ≤ nI b → B) :=
  ⟨fun h => f ((cle ha hb).mp h), fun h => g (Nat.lt_of_not_le (fun q => h ((cle ha hb).mpr q)))⟩
theorem brlt {a b : Nat} {A B : Prop} (ha : a < 2 ^ 31) (hb : b < 2 ^ 31) (f : a < b → A) (g : b ≤ a → B) : (nI a < nI b → A) ∧ (¬ nI a < nI b → B) :=
  ⟨fun h => f ((clt ha hb).mp h), fun h => g (Nat.le_of_not_lt (fun q => h ((clt ha hb).mpr q)))⟩
theorem breq {a b : Nat} {A B : Prop} (ha : a < 2 ^ 31) (hb : b < 2 ^ 31) (f : a = b → A) (g : a ≠ b → B) : (nI a = nI b → A) ∧ (¬ nI a = nI b → B) :=
  ⟨fun h => f ((ceq ha hb).mp h), fun h => g (fun q => h (by rw [q]))⟩
theorem brne {a b : Nat} {A B : Prop} (ha : a < 2 ^ 31) (hb : b < 2 ^ 31) (g : a ≠ b → A) (f : a = b → B) : (¬ nI a = nI b → A) ∧ (nI a = nI b → B) :=
  ⟨fun h => g (fun q => h (by rw [q])), fun h => f ((ceq ha hb).mp h)⟩
theorem cl_nI {n : Nat} (h : n < 2 ^ 31) : (nI n).toNatClampNeg = n := nI_clamp h
theorem in_nI {n N : Nat} (h : n < N) (hN : N < 2 ^ 31) : vp_in (nI n) N := vp_in_nI h hN
/-- arguments of any value, in a range or not -/
def inr (x : Int32) (k : Nat) : Bool := decide (0 ≤ x.toInt ∧ x.toInt < (k : Int))
theorem inr_cases (x : Int32) (k : Nat) (hk : k < 2 ^ 31) : inr x k = false ∨ ∃ j, j < k ∧ x = nI j ∧ inr x k = true := by
  by_cases h : 0 ≤ x.toInt ∧ x.toInt < (k : Int)
  · right
    obtain ⟨j, hj, e⟩ := vp_in_of (vp_in_iff.mpr h) hk
    exact ⟨j, hj, e, decide_eq_true h⟩
  · left
    exact decide_eq_false h
theorem toInt0 : (0 : Int32).toInt = 0 := by decide
/-- x < 0, or n at most x, or in -/
theorem inr_br {x : Int32} {n : Nat} {Q : Int32 → Prop} (hn : n < 2 ^ 31) (h : Q (bI (inr x n))) : ((x < 0) → Q 0) ∧ ((¬ x < 0) → ((nI n ≤ x) → Q 0) ∧ ((¬ nI n ≤ x) → Q 1)) := by
  simp only [Int32.lt_iff_toInt_lt, Int32.le_iff_toInt_le, toInt0, nI_toInt hn]
  unfold inr at h
  refine ⟨fun h1 => ?_, fun h1 => ⟨fun h2 => ?_, fun h2 => ?_⟩⟩
  · rwa [decide_eq_false (by omega)] at h
  · rwa [decide_eq_false (by omega)] at h
  · rwa [decide_eq_true (by omega)] at h
theorem inr_br2 {x : Int32} {n : Nat} {Q : Int32 → Prop} (hn : n + 1 < 2 ^ 31) (h : Q (bI (inr x (n + 1)))) : ((x < 0) → Q 0) ∧ ((¬ x < 0) → ((nI n < x) → Q 0) ∧ ((¬ nI n < x) → Q 1)) := by
  simp only [Int32.lt_iff_toInt_lt, toInt0, nI_toInt (show n < 2 ^ 31 by omega)]
  unfold inr at h
  refine ⟨fun h1 => ?_, fun h1 => ⟨fun h2 => ?_, fun h2 => ?_⟩⟩
  · rwa [decide_eq_false (by omega)] at h
  · rwa [decide_eq_false (by omega)] at h
  · rwa [decide_eq_true (by omega)] at h
/-- masks of numbers: the bits of those k below n with P k -/
def MSK (P : Nat → Bool) : Nat → Nat
  | 0 => 0
  | n + 1 => MSK P n + (if P n then 2 ^ n else 0)
theorem MSK_lt (P : Nat → Bool) : ∀ n, MSK P n < 2 ^ n
  | 0 => Nat.zero_lt_one
  | n + 1 => by
    have h := MSK_lt P n
    unfold MSK
    have e : (2 : Nat) ^ (n + 1) = 2 ^ n + 2 ^ n := by rw [Nat.pow_succ]; omega
    rw [e]
    split <;> omega
theorem MSK_succ_or (P : Nat → Bool) (n : Nat) : MSK P (n + 1) = MSK P n ||| (if P n then 2 ^ n else 0) := by
  show MSK P n + (if P n then 2 ^ n else 0) = _
  cases h : P n
  · simp
  · simp only [if_true]
    have e := Nat.two_pow_add_eq_or_of_lt (MSK_lt P n) 1
    rw [Nat.mul_one] at e
    rw [Nat.add_comm, e, Nat.or_comm]
theorem MSK_bit (P : Nat → Bool) (k : Nat) : ∀ n, (MSK P n).testBit k = (decide (k < n) && P k)
  | 0 => by simp [MSK]
  | n + 1 => by
    rw [MSK_succ_or, Nat.testBit_or, MSK_bit P k n]
    rcases Nat.lt_trichotomy k n with h | h | h
    · have h2 : ¬ n = k := by omega
      cases P n <;> simp [h, h2, Nat.lt_succ_of_lt h, Nat.testBit_two_pow]
    · subst h
      cases h3 : P k <;> simp [h3, Nat.testBit_two_pow]
    · have h2 : ¬ n = k := by omega
      have h4 : ¬ k < n := by omega
      have h5 : ¬ k < n + 1 := by omega
      cases P n <;> simp [h2, h4, h5, Nat.testBit_two_pow]
theorem MSK_cong {P R : Nat → Bool} : ∀ {n : Nat}, (∀ k, k < n → P k = R k) → MSK P n = MSK R n
  | 0, _ => rfl
  | n + 1, h => by
    show MSK P n + _ = MSK R n + _
    rw [MSK_cong (fun k hk => h k (by omega)), h n (by omega)]
theorem MSK_zero {P : Nat → Bool} {n : Nat} : MSK P n = 0 ↔ ∀ k, k < n → P k = false := by
  constructor
  · intro h k hk
    have e := MSK_bit P k n
    rw [h] at e
    simpa [hk] using e.symm
  · intro h
    induction n with
    | zero => rfl
    | succ n ih =>
      show MSK P n + _ = 0
      rw [ih (fun k hk => h k (by omega)), h n (by omega)]
      rfl
theorem MSK_full (n : Nat) : MSK (fun _ => true) n = 2 ^ n - 1 := by
  induction n with
  | zero => rfl
  | succ n ih =>
    show MSK _ n + _ = _
    rw [ih, Nat.pow_succ]
    have : 0 < 2 ^ n := Nat.two_pow_pos n
    simp only [if_true]
    omega
theorem eq_of_bits {a b : Nat} (h : ∀ i, a.testBit i = b.testBit i) : a = b := Nat.eq_of_testBit_eq h
theorem bit_ge {x n k : Nat} (h : x < 2 ^ n) (hk : n ≤ k) : x.testBit k = false := Nat.testBit_lt_two_pow (Nat.lt_of_lt_of_le h (Nat.pow_le_pow_right (by decide) hk))
/-- a mask below 2^n is the mask of its own bits -/
theorem MSK_self {x n : Nat} (h : x < 2 ^ n) : MSK (fun k => x.testBit k) n = x := by
  apply eq_of_bits
  intro i
  rw [MSK_bit]
  by_cases hi : i < n
  · simp [hi]
  · rw [bit_ge h (Nat.le_of_not_lt hi)]; simp [hi]
theorem pow20 {n : Nat} (h : n ≤ 20) : 2 ^ n ≤ 1048576 := by
  have := Nat.pow_le_pow_right (n := 2) (by decide) h
  simpa using this
theorem pow8 {n : Nat} (h : n ≤ 8) : 2 ^ n ≤ 256 := by
  have := Nat.pow_le_pow_right (n := 2) (by decide) h
  simpa using this
/-- numbers and not: a without the bits of b -/
def dif (a b : Nat) : Nat := a ^^^ (a &&& b)
theorem dif_bit (a b k : Nat) : (dif a b).testBit k = (a.testBit k && !b.testBit k) := by
  unfold dif
  rw [Nat.testBit_xor, Nat.testBit_and]
  cases a.testBit k <;> cases b.testBit k <;> rfl
theorem dif_le (a b : Nat) : dif a b ≤ a := by
  apply Nat.le_of_testBit
  intro i hi
  rw [dif_bit] at hi
  simp only [Bool.and_eq_true] at hi
  exact hi.1
theorem dif_nI {a b : Nat} : nI a &&& (nI b ^^^ (-1 : Int32)) = nI (dif a b) := by
  apply b_ext
  intro i hi
  rw [b_and, b_xor, b_m1 i hi]
  have e : ∀ z : Nat, bt (nI z) i = z.testBit i := fun z => by
    show (BitVec.ofNat 32 z).getLsbD i = _
    rw [BitVec.getLsbD_ofNat]
    simp [hi]
  rw [e, e, e, dif_bit]
  cases b.testBit i <;> simp
