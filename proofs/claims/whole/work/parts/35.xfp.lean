/-! doubles: NaN, comparing, the quotient of two ints -/
theorem f_tails : FP.Core.Fmt.tails FP.Core.b64 = 4503599627370496 := by decide +kernel
theorem f_exps : FP.Core.Fmt.exps FP.Core.b64 = 2048 := by decide +kernel
theorem f_qmin : FP.Core.Fmt.qmin FP.Core.b64 = -1074 := by decide +kernel
theorem f_qmax : FP.Core.Fmt.qmax FP.Core.b64 = 971 := by decide +kernel
theorem f_p : (2 : Nat) ^ FP.Core.b64.p = 9007199254740992 := by decide +kernel
theorem dec_nan (n : Nat) : FP.Core.decode FP.Core.b64 n = .nan ↔ n / 4503599627370496 % 2048 = 2047 ∧ n % 4503599627370496 ≠ 0 := by
  unfold FP.Core.decode FP.Core.fieldE FP.Core.fieldT
  rw [f_tails, f_exps]
  by_cases h : n / 4503599627370496 % 2048 = 2048 - 1
  · rw [if_pos h]
    by_cases h2 : n % 4503599627370496 = 0
    · rw [if_pos h2]
      exact ⟨fun e => (by cases e), fun e => absurd h2 e.2⟩
    · rw [if_neg h2]
      exact ⟨fun _ => ⟨h, h2⟩, fun _ => rfl⟩
  · rw [if_neg h]
    by_cases h3 : n / 4503599627370496 % 2048 = 0
    · rw [if_pos h3]
      exact ⟨fun e => (by cases e), fun e => absurd e.1 h⟩
    · rw [if_neg h3]
      exact ⟨fun e => (by cases e), fun e => absurd e.1 h⟩
theorem dec_fin (n : Nat) (h : n / 4503599627370496 % 2048 < 2047) : ∃ s c q, FP.Core.decode FP.Core.b64 n = .fin s c q ∧ (c = 0 ↔ n / 4503599627370496 % 2048 = 0 ∧ n % 4503599627370496 = 0) := by
  unfold FP.Core.decode FP.Core.fieldE FP.Core.fieldT
  rw [f_tails, f_exps, if_neg (by omega)]
  by_cases h3 : n / 4503599627370496 % 2048 = 0
  · rw [if_pos h3]
    exact ⟨_, _, _, rfl, ⟨fun e => ⟨h3, e⟩, fun e => e.2⟩⟩
  · rw [if_neg h3]
    exact ⟨_, _, _, rfl, ⟨fun e => absurd e (by omega), fun e => absurd e.1 h3⟩⟩
theorem nan_iff (b : UInt64) : isNaN64 b = true ↔ FP.Core.decode FP.Core.b64 b.toNat = .nan := by
  rw [dec_nan]
  unfold isNaN64
  rw [decide_eq_true_eq, gt_iff_lt, UInt64.lt_iff_toNat_lt, UInt64.toNat_and]
  have e := Nat.and_two_pow_sub_one_eq_mod b.toNat 63
  have e1 : (0x7fffffffffffffff : UInt64).toNat = 2 ^ 63 - 1 := by decide
  have e2 : (0x7ff0000000000000 : UInt64).toNat = 9218868437227405312 := by decide
  rw [e1, e2, e]
  omega
theorem order_none (x y : FP.Core.Datum) : FP.Core.order x y = none ↔ x = .nan ∨ y = .nan := by
  cases x <;> cases y <;> simp [FP.Core.order]
theorem cmpZ_swap (a b : Int) : compare b a = (compare a b).swap := by
  simp only [compare, compareOfLessAndEq]
  rcases Int.lt_trichotomy a b with h | h | h
  · rw [if_neg (show ¬ b < a by omega), if_neg (show ¬ b = a by omega), if_pos h]
    rfl
  · subst h
    rw [if_neg (show ¬ a < a by omega), if_pos rfl]
    rfl
  · rw [if_pos h, if_neg (show ¬ a < b by omega), if_neg (show ¬ a = b by omega)]
    rfl
theorem order_swap (x y : FP.Core.Datum) : FP.Core.order y x = (FP.Core.order x y).map Ordering.swap := by
  cases x with
  | nan => cases y <;> rfl
  | inf s =>
    cases y with
    | nan => rfl
    | inf t => exact congrArg some (cmpZ_swap _ _)
    | fin t d r => exact congrArg some (cmpZ_swap _ _)
  | fin s c q =>
    cases y with
    | nan => rfl
    | inf t => exact congrArg some (cmpZ_swap _ _)
    | fin t d r =>
      show some (compare (FP.Core.signed t (FP.Core.inUnits d r (min r q))) (FP.Core.signed s (FP.Core.inUnits c q (min r q)))) = _
      rw [Int.min_comm r q]
      exact congrArg some (cmpZ_swap _ _)
theorem dcmp_sw (a b : UInt64) : FP.dcmp b a = (FP.dcmp a b).map Ordering.swap := order_swap _ _
theorem dcmp_no (a b : UInt64) : FP.dcmp a b = none ↔ isNaN64 a = true ∨ isNaN64 b = true := by
  rw [nan_iff, nan_iff]
  exact order_none _ _
theorem d2l_nan {b : UInt64} (h : isNaN64 b = true) : FP.d2l b = 0 := by
  show FP.Core.toL (FP.Core.decode FP.Core.b64 b.toNat) = 0
  rw [(nan_iff b).mp h]
  rfl
theorem d2l_0 : FP.d2l 0 = 0 := by decide +kernel
theorem VR_d2l {a b : UInt64} (h : VR a b) : FP.d2l a = FP.d2l b := by
  rcases h with h | ⟨h1, h2⟩
  · rw [h]
  · rw [h1, d2l_nan h2, d2l_0]
/-- a datum that an encoding can hold -/
def Dok : FP.Core.Datum → Prop
  | .nan => False
  | .inf _ => True
  | .fin _ c q => c < 9007199254740992 ∧ q ≤ 971
theorem enc_fin {s : Bool} {c : Nat} {q : Int} (hc : c < 9007199254740992) (hq : q ≤ 971) : FP.Core.encode FP.Core.b64 (.fin s c q) < 2 ^ 64 ∧ FP.Core.encode FP.Core.b64 (.fin s c q) / 4503599627370496 % 2048 < 2047 ∧ ((FP.Core.encode FP.Core.b64 (.fin s c q) / 4503599627370496 % 2048 = 0 ∧ FP.Core.encode FP.Core.b64 (.fin s c q) % 4503599627370496 = 0) ↔ c = 0) := by
  have hs : s.toNat ≤ 1 := by cases s <;> decide
  unfold FP.Core.encode
  dsimp only
  rw [f_tails, f_qmin]
  by_cases h : c < 4503599627370496
  · rw [if_pos h]
    unfold FP.Core.assemble
    rw [f_tails, f_exps]
    refine ⟨by omega, by omega, ?_⟩
    constructor
    · rintro ⟨h1, h2⟩
      omega
    · rintro rfl
      omega
  · rw [if_neg h]
    unfold FP.Core.assemble
    rw [f_tails, f_exps]
    have hE : (q - -1074).toNat + 1 ≤ 2046 := by omega
    generalize (q - -1074).toNat = E at hE
    refine ⟨by omega, by omega, ?_⟩
    constructor
    · rintro ⟨h1, h2⟩
      omega
    · intro e
      omega
theorem enc_ok {d : FP.Core.Datum} (h : Dok d) : FP.Core.encode FP.Core.b64 d < 2 ^ 64 ∧ FP.Core.decode FP.Core.b64 (FP.Core.encode FP.Core.b64 d) ≠ .nan := by
  cases d with
  | nan => exact h.elim
  | inf s =>
    have hs : s.toNat ≤ 1 := by cases s <;> decide
    rw [ne_eq, dec_nan]
    unfold FP.Core.encode FP.Core.assemble
    dsimp only
    rw [f_tails, f_exps]
    refine ⟨by omega, fun w => ?_⟩
    omega
  | fin s c q =>
    obtain ⟨h1, h2, -⟩ := enc_fin (s := s) h.1 h.2
    refine ⟨h1, fun w => ?_⟩
    rw [dec_nan] at w
    omega
theorem bound_ok {s : Bool} {c : Nat} {q : Int} (hc : c < 9007199254740992) : Dok (FP.Core.bound FP.Core.b64 s c q) := by
  unfold FP.Core.bound
  rw [f_qmax]
  by_cases h : q ≤ 971
  · rw [if_pos h]; exact ⟨hc, h⟩
  · rw [if_neg h]; exact trivial
theorem settle_ok {s : Bool} {c : Nat} {q : Int} : Dok (FP.Core.settle FP.Core.b64 s c q) := by
  unfold FP.Core.settle
  rw [f_p, f_tails]
  by_cases h : c < 9007199254740992
  · rw [if_pos h]; exact bound_ok h
  · rw [if_neg h]; exact bound_ok (by decide)
theorem ratio_ok {s : Bool} {a b : Nat} {e : Int} : Dok (FP.Core.roundRatio FP.Core.b64 s a b e) := by
  unfold FP.Core.roundRatio
  by_cases h : a = 0
  · rw [if_pos h, f_qmin]; exact ⟨by decide, by decide⟩
  · rw [if_neg h]; exact settle_ok
theorem ofNat_toNat {n : Nat} (h : n < 2 ^ 64) : (UInt64.ofNat n).toNat = n := by
  rw [UInt64.toNat_ofNat']
  exact Nat.mod_eq_of_lt h
theorem i2d_dec (a : Int32) : ∃ s c q, FP.Core.decode FP.Core.b64 (FP.i2d a).toNat = .fin s c q ∧ (c = 0 ↔ a = 0) := by
  have hr := fb_rng a
  have ha0 : a = 0 ↔ a.toInt.natAbs = 0 := by
    rw [fa_eq, toInt0]
    omega
  have key : ∃ s c q, FP.Core.round FP.Core.b64 (FP.Core.ofInt a.toInt) = .fin s c q ∧ c < 9007199254740992 ∧ q ≤ 971 ∧ (c = 0 ↔ a = 0) := by
    show ∃ s c q, FP.Core.roundRatio FP.Core.b64 (decide (a.toInt < 0)) a.toInt.natAbs 1 0 = .fin s c q ∧ _
    rw [ha0]
    have hN : a.toInt.natAbs ≤ 2147483648 := by omega
    generalize a.toInt.natAbs = N at hN
    unfold FP.Core.roundRatio
    by_cases h0 : N = 0
    · rw [if_pos h0, f_qmin]
      exact ⟨_, _, _, rfl, by decide, by decide, ⟨fun _ => h0, fun _ => rfl⟩⟩
    · rw [if_neg h0]
      have hl : N.log2 ≤ 31 := by
        have : N.log2 < 32 := (Nat.log2_lt h0).mpr (by omega)
        omega
      have hQ : FP.Core.quantum FP.Core.b64 N 1 0 ≤ 0 := by
        unfold FP.Core.quantum FP.Core.leading
        rw [f_qmin]
        have e1 : Nat.log2 1 = 0 := by decide
        have e2 : (FP.Core.b64.p : Int) = 53 := by decide
        rw [e1, e2]
        dsimp only
        split <;> omega
      generalize FP.Core.quantum FP.Core.b64 N 1 0 = Q at hQ
      unfold FP.Core.roundAt FP.Core.unitsNum FP.Core.unitsDen
      have e1 : (Q - 0).toNat = 0 := by omega
      rw [e1, Nat.pow_zero, Nat.mul_one]
      have hM : N * 2 ^ (0 - Q).toNat ≠ 0 := by
        have := Nat.two_pow_pos (0 - Q).toNat
        exact Nat.mul_ne_zero h0 (by omega)
      generalize N * 2 ^ (0 - Q).toNat = M at hM
      have e2 : FP.Core.nearest M 1 = M := by
        unfold FP.Core.nearest
        rw [Nat.mod_one, if_pos (by decide), Nat.div_one]
      rw [e2]
      unfold FP.Core.settle FP.Core.bound
      rw [f_p, f_tails, f_qmax]
      by_cases h1 : M < 9007199254740992
      · rw [if_pos h1, if_pos (by omega)]
        exact ⟨_, _, _, rfl, h1, by omega, ⟨fun e => absurd e hM, fun e => absurd e h0⟩⟩
      · rw [if_neg h1, if_pos (by omega)]
        exact ⟨_, _, _, rfl, by decide, by omega, ⟨fun e => absurd e (by decide), fun e => absurd e h0⟩⟩
  obtain ⟨s, c, q, e, h1, h2, h3⟩ := key
  obtain ⟨g1, g2, g3⟩ := enc_fin (s := s) h1 h2
  have e1 : (FP.i2d a).toNat = FP.Core.encode FP.Core.b64 (.fin s c q) := by
    show (UInt64.ofNat (FP.Core.encode FP.Core.b64 (FP.Core.round FP.Core.b64 (FP.Core.ofInt a.toInt)))).toNat = _
    rw [e, ofNat_toNat g1]
  rw [e1]
  obtain ⟨s', c', q', e', h'⟩ := dec_fin _ g2
  exact ⟨s', c', q', e', by rw [h', g3, h3]⟩
theorem div_num {a b : Int32} (h : ¬ (a = 0 ∧ b = 0)) : isNaN64 (FP.ddiv (FP.i2d a) (FP.i2d b)) = false := by
  obtain ⟨s, c, q, ea, ha⟩ := i2d_dec a
  obtain ⟨t, d, r, eb, hb⟩ := i2d_dec b
  have hok : Dok (FP.Core.quotient FP.Core.b64 (.fin s c q) (.fin t d r)) := by
    unfold FP.Core.quotient
    dsimp only
    by_cases hd : d = 0
    · rw [if_pos hd, if_neg (fun w => h ⟨ha.mp w, hb.mp hd⟩)]
      exact trivial
    · rw [if_neg hd]
      exact ratio_ok
  obtain ⟨g1, g2⟩ := enc_ok hok
  cases w : isNaN64 (FP.ddiv (FP.i2d a) (FP.i2d b))
  · rfl
  · rw [nan_iff] at w
    exfalso
    apply g2
    have e1 : (FP.ddiv (FP.i2d a) (FP.i2d b)).toNat = FP.Core.encode FP.Core.b64 (FP.Core.quotient FP.Core.b64 (.fin s c q) (.fin t d r)) := by
      show (UInt64.ofNat (FP.Core.encode FP.Core.b64 (FP.Core.quotient FP.Core.b64 (FP.Core.decode FP.Core.b64 (FP.i2d a).toNat) (FP.Core.decode FP.Core.b64 (FP.i2d b).toNat)))).toNat = _
      rw [ea, eb, ofNat_toNat g1]
    rw [e1] at w
    exact w
theorem div_00 : isNaN64 (FP.ddiv (FP.i2d 0) (FP.i2d 0)) = true := by decide +kernel
