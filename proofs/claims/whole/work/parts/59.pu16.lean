/-! queries: depths as numbers -/
def ASK (D : (Nat → Bool) → Nat) (f : Nat → Nat) (n : Nat) (P : Nat → Bool) (p : Nat) : Nat := if fb_ct (fun k => P k && (f k).testBit p) n = 0 ∨ fb_ct (fun k => P k && !(f k).testBit p) n = 0 then 9 else 1 + (if D (fun k => P k && (f k).testBit p) < D (fun k => P k && !(f k).testBit p) then D (fun k => P k && !(f k).testBit p) else D (fun k => P k && (f k).testBit p))
def LST (g : Nat → Nat) : Nat → Nat
  | 0 => 9
  | k + 1 => if g k < LST g k then g k else LST g k
theorem LST_succ (g : Nat → Nat) (k : Nat) : LST g (k + 1) = if g k < LST g k then g k else LST g k := rfl
def DEP (m n : Nat) (f : Nat → Nat) : Nat → (Nat → Bool) → Nat
  | 0 => fun _ => 0
  | d + 1 => fun P => if fb_ct P n ≤ 1 then 0 else LST (ASK (DEP m n f d) f n P) m
theorem DEP_succ (m n : Nat) (f : Nat → Nat) (d : Nat) (P : Nat → Bool) : DEP m n f (d + 1) P = if fb_ct P n ≤ 1 then 0 else LST (ASK (DEP m n f d) f n P) m := rfl
theorem LST_le (g : Nat → Nat) : ∀ k, LST g k ≤ 9
  | 0 => Nat.le_refl 9
  | k + 1 => by
    have := LST_le g k
    rw [LST_succ]
    split <;> omega
theorem LST_anti (g : Nat → Nat) (k : Nat) : ∀ d, LST g (k + d) ≤ LST g k
  | 0 => Nat.le_refl _
  | d + 1 => by
    have := LST_anti g k d
    rw [show k + (d + 1) = k + d + 1 by omega, LST_succ]
    split <;> omega
theorem LST_pos {g : Nat → Nat} (h : ∀ p, 1 ≤ g p) : ∀ k, 1 ≤ LST g k
  | 0 => (by decide : 1 ≤ 9)
  | k + 1 => by
    have := LST_pos h k
    have := h k
    rw [LST_succ]
    split <;> omega
theorem LST_cong {g h : Nat → Nat} : ∀ {k : Nat}, (∀ p, p < k → g p = h p) → LST g k = LST h k
  | 0, _ => rfl
  | k + 1, e => by rw [LST_succ, LST_succ, LST_cong (k := k) (fun p hp => e p (by omega)), e k (by omega)]
theorem LST_at (g : Nat → Nat) : ∀ k, LST g k = 9 ∨ ∃ p, p < k ∧ LST g k = g p
  | 0 => Or.inl rfl
  | k + 1 => by
    rw [LST_succ]
    by_cases c : g k < LST g k
    · rw [if_pos c]; exact Or.inr ⟨k, by omega, rfl⟩
    · rw [if_neg c]
      rcases LST_at g k with q | ⟨p, hp, q⟩
      · exact Or.inl q
      · exact Or.inr ⟨p, by omega, q⟩
theorem LST_all (g : Nat → Nat) {p k : Nat} (h : p < k) : LST g k ≤ g p := by
  have a := LST_anti g (p + 1) (k - (p + 1))
  rw [show p + 1 + (k - (p + 1)) = k by omega, LST_succ] at a
  split at a <;> omega
theorem DEP_le (m n : Nat) (f : Nat → Nat) (d : Nat) (P : Nat → Bool) : DEP m n f d P ≤ 9 := by
  cases d with
  | zero => exact Nat.zero_le 9
  | succ d =>
    rw [DEP_succ]
    split
    · exact Nat.zero_le 9
    · exact LST_le _ _
theorem ASK_pos (D : (Nat → Bool) → Nat) (f : Nat → Nat) (n : Nat) (P : Nat → Bool) (p : Nat) : 1 ≤ ASK D f n P p := by
  unfold ASK
  split
  · decide
  · exact Nat.le_add_right 1 _
theorem ASK_le {D : (Nat → Bool) → Nat} (hD : ∀ A, D A ≤ 9) (f : Nat → Nat) (n : Nat) (P : Nat → Bool) (p : Nat) : ASK D f n P p ≤ 10 := by
  have a := hD (fun k => P k && (f k).testBit p)
  have b := hD (fun k => P k && !(f k).testBit p)
  unfold ASK
  split
  · decide
  · split <;> omega
theorem ASK_cong {D D' : (Nat → Bool) → Nat} {f : Nat → Nat} {n p : Nat} {P R : Nat → Bool} (h : ∀ k, k < n → P k = R k) (hD : ∀ A B : Nat → Bool, (∀ k, k < n → A k = B k) → D A = D' B) : ASK D f n P p = ASK D' f n R p := by
  have e1 : ∀ k, k < n → (P k && (f k).testBit p) = (R k && (f k).testBit p) := fun k hk => by rw [h k hk]
  have e2 : ∀ k, k < n → (P k && !(f k).testBit p) = (R k && !(f k).testBit p) := fun k hk => by rw [h k hk]
  unfold ASK
  rw [fb_ct_cong e1, fb_ct_cong e2, hD _ _ e1, hD _ _ e2]
theorem DEP_stab {m n : Nat} {f : Nat → Nat} : ∀ (d e : Nat) (P : Nat → Bool), fb_ct P n ≤ d → fb_ct P n ≤ e → DEP m n f d P = DEP m n f e P
  | 0, 0, _, _, _ => rfl
  | 0, e + 1, P, h, _ => by
    show 0 = DEP m n f (e + 1) P
    rw [DEP_succ, if_pos (by omega)]
  | d + 1, 0, P, _, h => by
    show DEP m n f (d + 1) P = 0
    rw [DEP_succ, if_pos (by omega)]
  | d + 1, e + 1, P, h1, h2 => by
    rw [DEP_succ, DEP_succ]
    by_cases c : fb_ct P n ≤ 1
    · rw [if_pos c, if_pos c]
    · rw [if_neg c, if_neg c]
      refine LST_cong (fun p hp => ?_)
      have c3 := ct_two P (fun k => (f k).testBit p) n
      unfold ASK
      by_cases z : fb_ct (fun k => P k && (f k).testBit p) n = 0 ∨ fb_ct (fun k => P k && !(f k).testBit p) n = 0
      · rw [if_pos z, if_pos z]
      · rw [if_neg z, if_neg z, DEP_stab d e (fun k => P k && (f k).testBit p) (by omega) (by omega), DEP_stab d e (fun k => P k && !(f k).testBit p) (by omega) (by omega)]
theorem DD_eq {m n : Nat} {f : Nat → Nat} {P : Nat → Bool} (h : fb_ct P n ≤ 20) : DEP m n f 20 P = if fb_ct P n ≤ 1 then 0 else LST (ASK (DEP m n f 20) f n P) m :=
  (DEP_stab 20 21 P h (by omega)).trans (DEP_succ m n f 20 P)
theorem DD_pow {m n : Nat} {f : Nat → Nat} : ∀ (d : Nat) (P : Nat → Bool), fb_ct P n ≤ d → d ≤ 20 → fb_ct P n ≤ 2 ^ DEP m n f d P
  | 0, P, h, _ => Nat.le_trans h (Nat.zero_le _)
  | d + 1, P, h, hd => by
    rw [DEP_succ]
    by_cases c : fb_ct P n ≤ 1
    · rw [if_pos c]; exact c
    · rw [if_neg c]
      have p9 : (2 : Nat) ^ 9 = 512 := by decide
      rcases LST_at (ASK (DEP m n f d) f n P) m with q | ⟨p, hp, q⟩
      · rw [q, p9]; omega
      · rw [q]
        have c3 := ct_two P (fun k => (f k).testBit p) n
        unfold ASK
        by_cases z : fb_ct (fun k => P k && (f k).testBit p) n = 0 ∨ fb_ct (fun k => P k && !(f k).testBit p) n = 0
        · rw [if_pos z, p9]; omega
        · rw [if_neg z]
          have a1 := DD_pow (m := m) (n := n) (f := f) d (fun k => P k && (f k).testBit p) (by omega) (by omega)
          have a2 := DD_pow (m := m) (n := n) (f := f) d (fun k => P k && !(f k).testBit p) (by omega) (by omega)
          generalize DEP m n f d (fun k => P k && (f k).testBit p) = x at a1 ⊢
          generalize DEP m n f d (fun k => P k && !(f k).testBit p) = y at a2 ⊢
          by_cases g : x < y
          · rw [if_pos g, Nat.pow_add, Nat.pow_one]
            have := Nat.pow_le_pow_right (n := 2) (by decide) (Nat.le_of_lt g)
            omega
          · rw [if_neg g, Nat.pow_add, Nat.pow_one]
            have := Nat.pow_le_pow_right (n := 2) (by decide) (Nat.le_of_not_lt g)
            omega
theorem msk0 {P : Nat → Bool} {n : Nat} (hn : n ≤ 20) : nI (MSK P n) = 0 ↔ fb_ct P n = 0 := by
  have b := MSK_32 (P := P) hn
  rw [show (0 : Int32) = nI 0 from rfl, ceq (by omega) (by decide), MSK_zero, fb_ct_zero]
theorem mskeq {P : Nat → Bool} {f : Nat → Nat} {n p : Nat} (hn : n ≤ 20) : nI (MSK (fun k => P k && (f k).testBit p) n) = nI (MSK P n) ↔ fb_ct (fun k => P k && !(f k).testBit p) n = 0 := by
  have b1 := MSK_32 (P := P) hn
  have b2 := MSK_32 (P := (fun k => P k && (f k).testBit p)) hn
  have c3 := ct_two P (fun k => (f k).testBit p) n
  rw [ceq (by omega) (by omega)]
  constructor
  · intro h
    have h2 := congrArg bc h
    rw [bc_MSK hn, bc_MSK hn] at h2
    omega
  · intro h
    refine MSK_cong (fun k hk => ?_)
    have h2 := fb_ct_zero.mp h k hk
    revert h2
    cases P k <;> cases (f k).testBit p <;> simp
/-! the reference -/
theorem mD_loop {m : Nat} {g : Nat → Nat} {x1 : Int32} {K : Int32 → Int32 → (Int32 → Prop) → Prop} {Q : Int32 → Prop} (hm : m ≤ 8) (hg : ∀ p, g p ≤ 10) (hK : ∀ p, p < m → ∀ Q' : Int32 → Prop, Q' (nI (g p)) → K x1 (nI p) Q') (h : Q (nI (LST g m))) : ∀ (d k : Nat), k + d = m → wp_X8_depth_b15 K x1 (nI m) Q (d + 1) (nI (LST g k)) (nI k)
  | 0, k, hk => by
    have e1 : k = m := by omega
    unfold wp_X8_depth_b15
    refine br_t (nI_le (by omega) (by omega)) ?_
    rw [e1]
    exact h
  | d + 1, k, hk => by
    have b := LST_le g k
    have b2 := hg k
    have t := mD_loop hm hg hK h d (k + 1) (by omega)
    rw [LST_succ] at t
    unfold wp_X8_depth_b15
    refine br_f (nI_ge (by omega) (by omega)) (hK k (by omega) _ ?_)
    rw [nI_1]
    refine brle (by omega) (by omega) (fun q => ?_) (fun q => ?_)
    · rw [if_neg (by omega)] at t; exact t
    · rw [if_pos q] at t; exact t
theorem asked_sp {n p : Nat} {P : Nat → Bool} {f : Nat → Nat} {mc : Nat → Int32} {K : Int32 → (Int32 → Prop) → Prop} {Q : Int32 → Prop} (hn : n ≤ 20) (hp : p < 32) (hf : ∀ k, k < n → f k < 2 ^ 31) (hM : SOK n f mc) (D : (Nat → Bool) → Nat) (hD : ∀ A, D A ≤ 9)
    (hK : ∀ A : Nat → Bool, fb_ct A n < fb_ct P n → ∀ Q' : Int32 → Prop, Q' (nI (D A)) → K (nI (MSK A n)) Q') (h : Q (nI (ASK D f n P p))) : wp_X8_asked K (nI (MSK P n)) (nI p) (nI n) mc Q := by
  have c3 := ct_two P (fun k => (f k).testBit p) n
  have b1 := hD (fun k => P k && (f k).testBit p)
  have b2 := hD (fun k => P k && !(f k).testBit p)
  unfold wp_X8_asked
  refine with_sp hn hp hf hM ?_
  rw [dif_nI, MSK_dif]
  unfold ASK at h
  refine br_c (fun z => ?_) (fun z => bn_c (fun w => ?_) (fun w => ?_))
  · rw [if_pos (Or.inl ((msk0 hn).mp z))] at h; exact h
  · have z1 : ¬ fb_ct (fun k => P k && (f k).testBit p) n = 0 := fun e => z ((msk0 hn).mpr e)
    have w1 : ¬ fb_ct (fun k => P k && !(f k).testBit p) n = 0 := fun e => w ((mskeq hn).mpr e)
    rw [if_neg (not_or.mpr ⟨z1, w1⟩), ← nI_add] at h
    refine hK _ (by omega) _ (hK _ (by omega) _ ?_)
    refine brle (by omega) (by omega) (fun q => ?_) (fun q => ?_)
    · have e : (if D (fun k => P k && (f k).testBit p) < D (fun k => P k && !(f k).testBit p) then D (fun k => P k && !(f k).testBit p) else D (fun k => P k && (f k).testBit p)) = D (fun k => P k && !(f k).testBit p) := by split <;> omega
      rw [e] at h
      exact h
    · rw [if_neg (by omega)] at h
      exact h
  · rw [if_pos (Or.inr ((mskeq hn).mp w))] at h; exact h
theorem mD_step {m n : Nat} {P : Nat → Bool} {f : Nat → Nat} {mc : Nat → Int32} {K : Int32 → (Int32 → Prop) → Prop} {Q : Int32 → Prop} (hm : m ≤ 8) (hn : n ≤ 20) (hf : ∀ k, k < n → f k < 2 ^ 31) (hM : SOK n f mc)
    (hK : ∀ A : Nat → Bool, fb_ct A n < fb_ct P n → 1 < fb_ct P n → ∀ Q' : Int32 → Prop, Q' (nI (DEP m n f 20 A)) → K (nI (MSK A n)) Q') (h : Q (nI (DEP m n f 20 P))) : wp_X8_depth (fun a b Q => wp_X8_asked K a b (nI n) mc Q) (nI (MSK P n)) (nI m) Q := by
  have c := fb_ct_le P n
  rw [DD_eq (by omega)] at h
  unfold wp_X8_depth
  refine sizeOf_sp (MSK_32 hn) ?_
  rw [bc_MSK hn]
  refine brlt (a := 1) (by decide) (by omega) (fun q => ⟨m + 1, ?_⟩) (fun q => ?_)
  · rw [if_neg (by omega)] at h
    exact mD_loop hm (ASK_le (DEP_le m n f 20) f n P) (fun p hp Q' h' => asked_sp hn (by omega) hf hM (DEP m n f 20) (DEP_le m n f 20) (fun A hA Q2 h2 => hK A hA q Q2 h2) h') h m 0 (by omega)
  · rw [if_pos q] at h
    exact h
theorem mD_sp {m n : Nat} {f : Nat → Nat} {mc : Nat → Int32} (hm : m ≤ 8) (hn : n ≤ 20) (hf : ∀ k, k < n → f k < 2 ^ 31) (hM : SOK n f mc) : ∀ (d : Nat) (P : Nat → Bool) (Q : Int32 → Prop), fb_ct P n ≤ d + 1 → Q (nI (DEP m n f 20 P)) → W_mD (nI m) (nI n) mc (d + 1) (nI (MSK P n)) Q
  | 0, P, Q, hd, h => mD_step hm hn hf hM (fun A hA h1 Q' h' => absurd h1 (by omega)) h
  | d + 1, P, Q, hd, h => mD_step hm hn hf hM (fun A hA h1 Q' h' => mD_sp hm hn hf hM d A Q' (by omega) h') h

/-! the class: codes of answers -/
def CODE (g : Nat → Nat) : Nat → Nat
  | 0 => 0
  | k + 1 => CODE g k + g k * 3 ^ k
theorem CODE_succ (g : Nat → Nat) (k : Nat) : CODE g (k + 1) = CODE g k + g k * 3 ^ k := rfl
theorem CODE_lt {g : Nat → Nat} : ∀ {k : Nat}, (∀ p, p < k → g p < 3) → CODE g k < 3 ^ k
  | 0, _ => (by decide : 0 < 3 ^ 0)
  | k + 1, h => by
    have a := CODE_lt (k := k) (fun p hp => h p (by omega))
    have b : g k * 3 ^ k ≤ 2 * 3 ^ k := Nat.mul_le_mul_right _ (by have := h k (by omega); omega)
    rw [CODE_succ, Nat.pow_succ]
    omega
theorem CODE_cong {g h : Nat → Nat} : ∀ {k : Nat}, (∀ p, p < k → g p = h p) → CODE g k = CODE h k
  | 0, _ => rfl
  | k + 1, e => by rw [CODE_succ, CODE_succ, CODE_cong (k := k) (fun p hp => e p (by omega)), e k (by omega)]
theorem dig_eq {T a b x y : Nat} (ha : a < T) (hb : b < T) (hx : x < 3) (hy : y < 3) (h : a + x * T = b + y * T) : x = y := by
  have hx : x = 0 ∨ x = 1 ∨ x = 2 := by omega
  have hy : y = 0 ∨ y = 1 ∨ y = 2 := by omega
  rcases hx with rfl | rfl | rfl <;> rcases hy with rfl | rfl | rfl <;> omega
theorem CODE_inj {g h : Nat → Nat} : ∀ {k : Nat}, (∀ p, p < k → g p < 3) → (∀ p, p < k → h p < 3) → CODE g k = CODE h k → ∀ p, p < k → g p = h p
  | 0, _, _, _, p, hp => absurd hp (Nat.not_lt_zero p)
  | k + 1, hg, hh, e, p, hp => by
    rw [CODE_succ, CODE_succ] at e
    have a := CODE_lt (k := k) (fun p hp => hg p (by omega))
    have b := CODE_lt (k := k) (fun p hp => hh p (by omega))
    have c := dig_eq a b (hg k (by omega)) (hh k (by omega)) e
    rw [c] at e
    rcases Nat.lt_or_ge p k with q | q
    · exact CODE_inj (k := k) (fun p hp => hg p (by omega)) (fun p hp => hh p (by omega)) (Nat.add_right_cancel e) p q
    · rw [show p = k by omega]; exact c
theorem up_self (g : Nat → Nat) (p v : Nat) : va_up g p v p = v := by unfold va_up; rw [if_pos rfl]
theorem up_other (g : Nat → Nat) {p q : Nat} (v : Nat) (h : q ≠ p) : va_up g p v q = g q := by unfold va_up; rw [if_neg h]
theorem CODE_up {g : Nat → Nat} {p v : Nat} (h0 : g p = 0) : ∀ {k : Nat}, p < k → CODE (va_up g p v) k = CODE g k + v * 3 ^ p
  | 0, h => absurd h (Nat.not_lt_zero p)
  | k + 1, h => by
    rw [CODE_succ, CODE_succ]
    by_cases e : k = p
    · rw [e, up_self, h0, CODE_cong (g := va_up g p v) (h := g) (fun q hq => up_other g v (by omega))]
      omega
    · rw [up_other g v e, CODE_up h0 (k := k) (by omega)]
      omega
theorem dig_up {m p v : Nat} {g : Nat → Nat} (hg : ∀ q, q < m → g q < 3) (hv : v < 3) : ∀ q, q < m → va_up g p v q < 3 := by
  intro q hq
  by_cases e : q = p
  · rw [e, up_self]; exact hv
  · rw [up_other g v e]; exact hg q hq
def NZ (g : Nat → Nat) (m : Nat) : Nat := fb_ct (fun p => decide (g p ≠ 0)) m
theorem NZ_le (g : Nat → Nat) (m : Nat) : NZ g m ≤ m := fb_ct_le _ m
theorem NZ_up {m p v : Nat} {g : Nat → Nat} (hp : p < m) (h0 : g p = 0) (hv : v ≠ 0) : NZ (va_up g p v) m = NZ g m + 1 := by
  have h := fb_ct_upd (fun p => decide (g p ≠ 0)) true hp
  have e : fb_ct (fun k => if k = p then true else decide (g k ≠ 0)) m = NZ (va_up g p v) m := by
    unfold NZ
    refine fb_ct_cong (fun k _ => ?_)
    by_cases e : k = p
    · rw [if_pos e, e, up_self]; exact (decide_eq_true hv).symm
    · rw [if_neg e, up_other g v e]
  have z : (if decide (g p ≠ 0) = true then 1 else 0) = 0 := by rw [h0]; rfl
  rw [e, z, Nat.add_zero, if_pos rfl] at h
  exact h
/-- who fits to the answers g -/
def CSr (f : Nat → Nat) (k : Nat) (g : Nat → Nat) : Nat → Bool
  | 0 => true
  | p + 1 => CSr f k g p && (decide (g p = 0) || ((f k).testBit p == decide (g p = 2)))
theorem CSr_succ (f : Nat → Nat) (k : Nat) (g : Nat → Nat) (p : Nat) : CSr f k g (p + 1) = (CSr f k g p && (decide (g p = 0) || ((f k).testBit p == decide (g p = 2)))) := rfl
theorem CSr_iff {f : Nat → Nat} {k : Nat} {g : Nat → Nat} : ∀ {m : Nat}, CSr f k g m = true ↔ ∀ p, p < m → (g p = 0 ∨ (f k).testBit p = decide (g p = 2))
  | 0 => ⟨fun _ p hp => absurd hp (Nat.not_lt_zero p), fun _ => rfl⟩
  | m + 1 => by
    rw [CSr_succ, Bool.and_eq_true, Bool.or_eq_true, decide_eq_true_eq, beq_iff_eq, CSr_iff (m := m)]
    constructor
    · intro h p hp
      rcases Nat.lt_or_ge p m with q | q
      · exact h.1 p q
      · rw [show p = m by omega]; exact h.2
    · intro h
      exact ⟨fun p hp => h p (by omega), h m (by omega)⟩
def CS (m : Nat) (f : Nat → Nat) (V : Nat → Bool) (g : Nat → Nat) (k : Nat) : Bool := V k && CSr f k g m
theorem CS_all {m : Nat} {f : Nat → Nat} {V : Nat → Bool} {g : Nat → Nat} {k : Nat} (h : CS m f V g k = true) : ∀ p, p < m → (g p = 0 ∨ (f k).testBit p = decide (g p = 2)) := by
  unfold CS at h
  rw [Bool.and_eq_true, CSr_iff] at h
  exact h.2
theorem CS_bit {m p : Nat} {f : Nat → Nat} {V : Nat → Bool} {g : Nat → Nat} {k : Nat} (h : CS m f V g k = true) (hp : p < m) (h0 : g p ≠ 0) : (f k).testBit p = decide (g p = 2) := (CS_all h p hp).elim (fun q => absurd q h0) (fun q => q)
theorem CS_cong {m : Nat} {f : Nat → Nat} {V : Nat → Bool} {g h : Nat → Nat} (e : ∀ p, p < m → g p = h p) : CS m f V g = CS m f V h := by
  funext k
  unfold CS
  congr 1
  rw [Bool.eq_iff_iff, CSr_iff, CSr_iff]
  constructor
  · intro q p hp; rw [← e p hp]; exact q p hp
  · intro q p hp; rw [e p hp]; exact q p hp
theorem CS_none {m : Nat} {f : Nat → Nat} {V : Nat → Bool} : CS m f V (fun _ => 0) = V := by
  funext k
  unfold CS
  cases V k
  · rfl
  · exact CSr_iff.mpr (fun p _ => Or.inl rfl)
theorem CS_up {m p : Nat} {f : Nat → Nat} {V : Nat → Bool} {g : Nat → Nat} (hp : p < m) (h0 : g p = 0) (b : Bool) : CS m f V (va_up g p (if b then 2 else 1)) = fun k => CS m f V g k && ((f k).testBit p == b) := by
  have v0 : (if b then 2 else 1) ≠ 0 := by cases b <;> decide
  have v2 : decide ((if b then 2 else 1) = 2) = b := by cases b <;> rfl
  generalize (if b then 2 else 1) = v at v0 v2 ⊢
  funext k
  unfold CS
  rw [Bool.and_assoc]
  congr 1
  rw [Bool.eq_iff_iff, Bool.and_eq_true, CSr_iff, CSr_iff]
  constructor
  · intro h
    refine ⟨fun q hq => ?_, ?_⟩
    · by_cases e : q = p
      · rw [e]; exact Or.inl h0
      · have t := h q hq
        rw [up_other g v e] at t
        exact t
    · have t := h p hp
      rw [up_self] at t
      rcases t with t | t
      · exact absurd t v0
      · rw [t, v2]; cases b <;> rfl
  · intro h q hq
    by_cases e : q = p
    · rw [e, up_self, v2]
      exact Or.inr (eq_of_beq h.2)
    · rw [up_other g v e]
      exact h.1 q hq
theorem CS_2 {m p : Nat} {f : Nat → Nat} {V : Nat → Bool} {g : Nat → Nat} (hp : p < m) (h0 : g p = 0) : CS m f V (va_up g p 2) = (fun k => CS m f V g k && (f k).testBit p) :=
  (CS_up hp h0 true).trans (funext fun k => by show (CS m f V g k && ((f k).testBit p == true)) = (CS m f V g k && (f k).testBit p); cases (f k).testBit p <;> rfl)
theorem CS_1 {m p : Nat} {f : Nat → Nat} {V : Nat → Bool} {g : Nat → Nat} (hp : p < m) (h0 : g p = 0) : CS m f V (va_up g p 1) = (fun k => CS m f V g k && !(f k).testBit p) :=
  (CS_up hp h0 false).trans (funext fun k => by show (CS m f V g k && ((f k).testBit p == false)) = (CS m f V g k && !(f k).testBit p); cases (f k).testBit p <;> rfl)
theorem CS_half {m n p : Nat} {f : Nat → Nat} {V : Nat → Bool} {g : Nat → Nat} (hp : p < m) (h0 : g p ≠ 0) : fb_ct (fun k => CS m f V g k && (f k).testBit p) n = 0 ∨ fb_ct (fun k => CS m f V g k && !(f k).testBit p) n = 0 := by
  by_cases e : g p = 2
  · refine Or.inr (fb_ct_zero.mpr (fun k _ => ?_))
    cases hc : CS m f V g k
    · rfl
    · have hb : (f k).testBit p = true := by rw [CS_bit hc hp h0]; exact decide_eq_true e
      rw [hb]
      decide
  · refine Or.inl (fb_ct_zero.mpr (fun k _ => ?_))
    cases hc : CS m f V g k
    · rfl
    · have hb : (f k).testBit p = false := by rw [CS_bit hc hp h0]; exact decide_eq_false e
      rw [hb]
      decide
theorem ct_one {P : Nat → Bool} {n : Nat} (h : ∀ i j, i < n → j < n → P i = true → P j = true → i = j) : fb_ct P n ≤ 1 := by
  rcases Nat.lt_or_ge 1 (fb_ct P n) with q | q
  · obtain ⟨i, hi, pi, ei⟩ := fb_ct_kth (p := P) (n := n) (k := 0) (by omega)
    obtain ⟨j, hj, pj, ej⟩ := fb_ct_kth q
    have e := h i j hi hj pi pj
    rw [e] at ei
    omega
  · exact q
theorem ct_some {P : Nat → Bool} {n : Nat} (h : 1 < fb_ct P n) : ∃ i j, i < n ∧ j < n ∧ i ≠ j ∧ P i = true ∧ P j = true := by
  obtain ⟨i, hi, pi, ei⟩ := fb_ct_kth (p := P) (n := n) (k := 0) (by omega)
  obtain ⟨j, hj, pj, ej⟩ := fb_ct_kth h
  exact ⟨i, j, hi, hj, fun e => by rw [e] at ei; omega, pi, pj⟩
theorem same_bits {m n i j : Nat} {f : Nat → Nat} (hB : BND m n f) (hD : DIS n f) (hi : i < n) (hj : j < n) (h : ∀ p, p < m → (f i).testBit p = (f j).testBit p) : i = j := by
  refine hD i j hi hj (eq_of_bits (fun p => ?_))
  rcases Nat.lt_or_ge p m with q | q
  · exact h p q
  · rw [bit_ge (hB i hi) q, bit_ge (hB j hj) q]
theorem CS_one {m n : Nat} {f : Nat → Nat} {V : Nat → Bool} {g : Nat → Nat} (hB : BND m n f) (hD : DIS n f) (h : m ≤ NZ g m) : fb_ct (CS m f V g) n ≤ 1 := by
  have a := NZ_le g m
  have e : NZ g m = m := by omega
  have nz : ∀ p, p < m → g p ≠ 0 := fun p hp => of_decide_eq_true (fb_ct_all.mp e p hp)
  exact ct_one (fun i j hi hj ci cj => same_bits hB hD hi hj (fun p hp => by rw [CS_bit ci hp (nz p hp), CS_bit cj hp (nz p hp)]))
/-- the depth is at most the number of points that are not asked -/
theorem DD_points {m n : Nat} {f : Nat → Nat} {V : Nat → Bool} (hn : n ≤ 20) (hB : BND m n f) (hD : DIS n f) : ∀ (d : Nat) (g : Nat → Nat), m ≤ NZ g m + d → DEP m n f 20 (CS m f V g) ≤ d
  | 0, g, h => by
    have c := fb_ct_le (CS m f V g) n
    rw [DD_eq (by omega), if_pos (CS_one (V := V) (g := g) hB hD (by omega))]
    exact Nat.le_refl 0
  | d + 1, g, h => by
    have c := fb_ct_le (CS m f V g) n
    rw [DD_eq (by omega)]
    by_cases q : fb_ct (CS m f V g) n ≤ 1
    · rw [if_pos q]; exact Nat.zero_le _
    · rw [if_neg q]
      obtain ⟨i, j, hi, hj, hij, ci, cj⟩ := ct_some (Nat.lt_of_not_le q)
      have ex : ∃ p, p < m ∧ (f i).testBit p ≠ (f j).testBit p := by
        refine Classical.byContradiction (fun w => hij (same_bits hB hD hi hj (fun p hp => Classical.byContradiction (fun w2 => w ⟨p, hp, w2⟩))))
      obtain ⟨p, hp, hne⟩ := ex
      have h0 : g p = 0 := Classical.byContradiction (fun w => hne (by rw [CS_bit ci hp w, CS_bit cj hp w]))
      refine Nat.le_trans (LST_all _ hp) ?_
      have a2 := DD_points hn hB hD (V := V) d (va_up g p 2) (by rw [NZ_up hp h0 (by decide)]; omega)
      have a1 := DD_points hn hB hD (V := V) d (va_up g p 1) (by rw [NZ_up hp h0 (by decide)]; omega)
      rw [CS_2 hp h0] at a2
      rw [CS_1 hp h0] at a1
      have z : ¬ (fb_ct (fun k => CS m f V g k && (f k).testBit p) n = 0 ∨ fb_ct (fun k => CS m f V g k && !(f k).testBit p) n = 0) := by
        intro z
        have sp : ∀ x, CS m f V g x = true → (CS m f V g x && (f x).testBit p) = false → (f x).testBit p = false := fun x cx q => by rw [cx] at q; exact q
        have sn : ∀ x, CS m f V g x = true → (CS m f V g x && !(f x).testBit p) = false → (f x).testBit p = true := fun x cx q => by
          rw [cx] at q
          revert q
          cases (f x).testBit p <;> simp
        rcases z with z | z
        · exact hne (by rw [sp i ci (fb_ct_zero.mp z i hi), sp j cj (fb_ct_zero.mp z j hj)])
        · exact hne (by rw [sn i ci (fb_ct_zero.mp z i hi), sn j cj (fb_ct_zero.mp z j hj)])
      unfold ASK
      rw [if_neg z]
      split <;> omega
/-- four bits of a long, from the bit s on -/
def NB (w : Int64) (s : Nat) : Nat := w.toBitVec.toNat / 2 ^ s % 16
theorem NB_bit (w : Int64) (s i : Nat) : (NB w s).testBit i = (decide (i < 4) && w.toBitVec.toNat.testBit (i + s)) := by
  unfold NB
  rw [show (16 : Nat) = 2 ^ 4 from rfl, Nat.testBit_mod_two_pow, Nat.testBit_div_two_pow]
theorem NB_0 (s : Nat) : NB 0 s = 0 := by
  unfold NB
  rw [show (0 : Int64).toBitVec.toNat = 0 from rfl, Nat.zero_div]
theorem lit15 (i : Nat) : (15#64).getLsbD i = decide (i < 4) := by
  rcases Nat.lt_or_ge i 64 with h | h
  · exact (by decide +kernel : ∀ i, i < 64 → (15#64).getLsbD i = decide (i < 4)) i h
  · rw [BitVec.getLsbD_of_ge _ _ h, decide_eq_false (by omega)]
theorem sr15 {w : Int64} {s : Nat} (hs : s ≤ 60) : (w >>> ((nI s).toInt64 &&& 63)) &&& (15 : Int64) = lN (NB w s) := by
  rw [wb_c s (by omega)]
  apply wb_inj
  rw [Int64.toBitVec_and, Int64.toBitVec_shiftRight, wb_tb, wb_sm s (by omega), wb_tb]
  apply BitVec.eq_of_getLsbD_eq
  intro i hi
  have es : (BitVec.ofNat 64 s).toNat = s := by rw [BitVec.toNat_ofNat, Nat.mod_eq_of_lt (by omega)]
  rw [BitVec.getLsbD_and, BitVec.sshiftRight_eq', es, BitVec.getLsbD_sshiftRight, BitVec.getLsbD_ofNat, NB_bit, show (15 : Int64).toBitVec = 15#64 from rfl, lit15]
  by_cases h : i < 4
  · have h1 : s + i < 64 := by omega
    rw [if_pos h1, Nat.add_comm i s, BitVec.testBit_toNat]
    simp [h, hi, Nat.not_le.mpr hi]
  · simp [h]
theorem or_nat (w : Int64) {x : Nat} (hx : x < 2 ^ 64) : (w ||| lN x).toBitVec.toNat = w.toBitVec.toNat ||| x := by
  rw [Int64.toBitVec_or, BitVec.toNat_or, wb_tn hx]
theorem vsh_lt {v k : Nat} (hv : v < 16) (hk : k < 16) : v * 2 ^ (4 * k) < 2 ^ 64 := by
  have h1 : v * 2 ^ (4 * k) < 16 * 2 ^ (4 * k) := Nat.mul_lt_mul_of_lt_of_le hv (Nat.le_refl _) (Nat.two_pow_pos _)
  have h2 : 16 * 2 ^ (4 * k) = 2 ^ (4 + 4 * k) := (Nat.pow_add 2 4 (4 * k)).symm
  have h3 : 2 ^ (4 + 4 * k) ≤ 2 ^ 64 := Nat.pow_le_pow_right (by decide) (by omega)
  rw [h2] at h1
  exact Nat.lt_of_lt_of_le h1 h3
theorem NB_same {w : Int64} {v a : Nat} (hv : v < 16) (ha : a < 16) : NB (w ||| lN (v * 2 ^ (4 * a))) (4 * a) = NB w (4 * a) ||| v := by
  apply eq_of_bits
  intro i
  rw [Nat.testBit_or, NB_bit, NB_bit, or_nat w (vsh_lt hv ha), Nat.testBit_or, Nat.testBit_mul_two_pow, Nat.add_sub_cancel, decide_eq_true (Nat.le_add_left (4 * a) i)]
  by_cases h : i < 4
  · simp [h]
  · rw [bit_ge (x := v) (n := 4) hv (by omega)]
    simp [h]
theorem NB_other {w : Int64} {v a b : Nat} (hv : v < 16) (ha : a < 16) (hab : b ≠ a) : NB (w ||| lN (v * 2 ^ (4 * a))) (4 * b) = NB w (4 * b) := by
  apply eq_of_bits
  intro i
  rw [NB_bit, NB_bit, or_nat w (vsh_lt hv ha), Nat.testBit_or, Nat.testBit_mul_two_pow]
  by_cases h : i < 4
  · have z : (decide (4 * a ≤ i + 4 * b) && v.testBit (i + 4 * b - 4 * a)) = false := by
      by_cases q : 4 * a ≤ i + 4 * b
      · rw [bit_ge (x := v) (n := 4) hv (by omega), Bool.and_false]
      · rw [decide_eq_false q, Bool.false_and]
    rw [z, Bool.or_false]
  · rw [decide_eq_false h, Bool.false_and, Bool.false_and]
/-- the depth plus 1 that the row holds for a code, or 0 -/
def NIB (dep : Nat → Int64) (c : Nat) : Nat := NB (dep (c / 16)) (4 * (c % 16))
def PUT (dep : Nat → Int64) (c v : Nat) : Nat → Int64 := vp_updL dep (c / 16) (dep (c / 16) ||| lN (v * 2 ^ (4 * (c % 16))))
theorem NIB_put {dep : Nat → Int64} {c v : Nat} (hv : v < 16) (k : Nat) : NIB (PUT dep c v) k = if k = c then NIB dep c ||| v else NIB dep k := by
  unfold NIB PUT
  by_cases e : k / 16 = c / 16
  · rw [e, pk_uLs]
    by_cases e2 : k = c
    · rw [if_pos e2, e2]
      exact NB_same hv (Nat.mod_lt _ (by decide))
    · rw [if_neg e2]
      exact NB_other hv (Nat.mod_lt _ (by decide)) (by omega)
  · rw [pk_uLn e, if_neg (fun q => e (by rw [q]))]
theorem place_nI (c : Nat) : (nI c &&& (15 : Int32)) <<< ((2 : Int32) &&& 31) = nI (4 * (c % 16)) := by
  have e1 : nI c &&& (15 : Int32) = nI (c % 16) := fa_mask c 4
  have e2 : nI (c % 16) <<< ((2 : Int32) &&& 31) = nI (c % 16 * 2 ^ 2) := shl_nI (n := c % 16) (k := 2) (by decide) (by omega)
  rw [e1, e2, Nat.mul_comm]
theorem word_nI {c : Nat} (hc : c < 6561) : nI c >>> ((4 : Int32) &&& 31) = nI (c / 16) := shr_nI (n := c) (k := 4) (by omega) (by decide)
theorem known_sp {c : Nat} {dep : Nat → Int64} {Q : Int32 → Prop} (hc : c < 6561) (h : Q (nI (NIB dep c) - (1 : Int32))) : wp_X2_knownDepth (nI c) dep Q := by
  show vp_in (nI c >>> ((4 : Int32) &&& 31)) 411 ∧ Q ((((dep (nI c >>> ((4 : Int32) &&& 31)).toNatClampNeg) >>> (((nI c &&& (15 : Int32)) <<< ((2 : Int32) &&& 31)).toInt64 &&& 63) &&& (15 : Int64)).toInt32) - (1 : Int32))
  rw [place_nI, word_nI hc, cl_nI (by omega), sr15 (by omega), lN_i]
  exact ⟨in_nI (by omega) (by decide), h⟩
theorem keep_sp {c d : Nat} {dep : Nat → Int64} {Q : (Nat → Int64) → Prop} (hc : c < 6561) (hd : d ≤ 9) (h : Q (PUT dep c (d + 1))) : wp_X2_keepDepth (nI c) (nI d) dep Q := by
  have e : (nI d).toInt64 + (1 : Int64) = lN (d + 1) := by
    rw [nI_l (by omega)]
    exact lN_add d 1
  show vp_in (nI c >>> ((4 : Int32) &&& 31)) 411 ∧ vp_in (nI c >>> ((4 : Int32) &&& 31)) 411 ∧ Q (vp_updL dep (nI c >>> ((4 : Int32) &&& 31)).toNatClampNeg ((dep (nI c >>> ((4 : Int32) &&& 31)).toNatClampNeg) ||| ((((nI d).toInt64) + (1 : Int64)) <<< (((nI c &&& (15 : Int32)) <<< ((2 : Int32) &&& 31)).toInt64 &&& 63))))
  rw [place_nI, word_nI hc, cl_nI (by omega), e, wb_shl (d + 1) (by omega)]
  exact ⟨in_nI (by omega) (by decide), in_nI (by omega) (by decide), h⟩
/-- the row of the depths holds what is known -/
def MEM (m n : Nat) (f : Nat → Nat) (V : Nat → Bool) (dep : Nat → Int64) : Prop := ∀ g : Nat → Nat, (∀ p, p < m → g p < 3) → NIB dep (CODE g m) = 0 ∨ NIB dep (CODE g m) = DEP m n f 20 (CS m f V g) + 1
theorem MEM.put {m n : Nat} {f : Nat → Nat} {V : Nat → Bool} {dep : Nat → Int64} {g : Nat → Nat} (h : MEM m n f V dep) (hg : ∀ p, p < m → g p < 3) : MEM m n f V (PUT dep (CODE g m) (DEP m n f 20 (CS m f V g) + 1)) := by
  intro k hk
  have hb := DEP_le m n f 20 (CS m f V g)
  have hv : DEP m n f 20 (CS m f V g) + 1 < 16 := by omega
  rw [NIB_put hv]
  by_cases e : CODE k m = CODE g m
  · rw [if_pos e, CS_cong (CODE_inj hk hg e)]
    refine Or.inr ?_
    rcases h g hg with q | q
    · rw [q, Nat.zero_or]
    · rw [q, Nat.or_self]
  · rw [if_neg e]
    exact h k hk
theorem MEM.new {m n : Nat} {f : Nat → Nat} {V : Nat → Bool} {dep : Nat → Int64} (hm : 3 ^ m ≤ 6561) (h : ∀ j, j < 411 → dep j = 0) : MEM m n f V dep := fun g hg => Or.inl (by
  have hc := CODE_lt hg
  unfold NIB
  rw [h _ (by omega), NB_0])
theorem nI_dn (x : Nat) : nI (x + 1) - (1 : Int32) = nI x := pk_sub (a := x + 1) (b := 1) (by omega)
theorem pow3 {m : Nat} (h : m ≤ 8) : 3 ^ m ≤ 6561 := by
  have := Nat.pow_le_pow_right (n := 3) (by decide) h
  simpa using this
theorem dBy_sp {m n d p : Nat} {f : Nat → Nat} {V : Nat → Bool} {g : Nat → Nat} {hold : Nat → Int32} {dep : Nat → Int64} {Q : Int32 → (Nat → Int64) → Prop} (hm : m ≤ 8) (hn : n ≤ 20) (hH : HOK m n f hold) (hp : p < m) (hg : ∀ p, p < m → g p < 3) (hd : m < NZ g m + 1 + d)
    (IH : ∀ (g : Nat → Nat) (dep : Nat → Int64) (Q : Int32 → (Nat → Int64) → Prop), (∀ p, p < m → g p < 3) → m < NZ g m + d → MEM m n f V dep → (∀ dep', MEM m n f V dep' → Q (nI (DEP m n f 20 (CS m f V g))) dep') → W_dO (nI m) (nI n) hold d (nI (MSK (CS m f V g) n)) (nI (CODE g m)) (nI (NZ g m)) dep Q)
    (hM : MEM m n f V dep) (h : ∀ dep', MEM m n f V dep' → Q (nI (ASK (DEP m n f 20) f n (CS m f V g) p)) dep') : wp_X2_depthBy (W_dO (nI m) (nI n) hold d) (nI p) (nI (MSK (CS m f V g) n)) (nI (CODE g m)) (nI (NZ g m)) dep (nI n) hold Q := by
  have b1 := DEP_le m n f 20 (fun k => CS m f V g k && (f k).testBit p)
  have b2 := DEP_le m n f 20 (fun k => CS m f V g k && !(f k).testBit p)
  unfold wp_X2_depthBy
  refine labelling_sp (b := true) hm hn hH hp ?_
  rw [fa_and, MSK_and]
  have e1 : MSK (fun k => CS m f V g k && ((f k).testBit p == true)) n = MSK (fun k => CS m f V g k && (f k).testBit p) n := MSK_cong (fun k _ => by cases (f k).testBit p <;> rfl)
  rw [e1, dif_nI, MSK_dif]
  unfold ASK at h
  refine br_c (fun z => ?_) (fun z => bn_c (fun w => ?_) (fun w => ?_))
  · rw [if_pos (Or.inl ((msk0 hn).mp z))] at h; exact h dep hM
  · have z1 : ¬ fb_ct (fun k => CS m f V g k && (f k).testBit p) n = 0 := fun e => z ((msk0 hn).mpr e)
    have w1 : ¬ fb_ct (fun k => CS m f V g k && !(f k).testBit p) n = 0 := fun e => w ((msk0 hn).mpr e)
    have h0 : g p = 0 := Classical.byContradiction (fun c => (CS_half hp c).elim z1 w1)
    rw [if_neg (not_or.mpr ⟨z1, w1⟩)] at h
    have i2 : ∀ (dep : Nat → Int64) (Q : Int32 → (Nat → Int64) → Prop), MEM m n f V dep → (∀ dep', MEM m n f V dep' → Q (nI (DEP m n f 20 (fun k => CS m f V g k && (f k).testBit p))) dep') → W_dO (nI m) (nI n) hold d (nI (MSK (fun k => CS m f V g k && (f k).testBit p) n)) (nI (CODE g m + 2 * 3 ^ p)) (nI (NZ g m + 1)) dep Q := by
      intro dep Q a b
      have t := IH (va_up g p 2) dep Q (dig_up hg (by decide)) (by rw [NZ_up hp h0 (by decide)]; exact hd) a
      rw [CS_2 hp h0, CODE_up h0 hp, NZ_up hp h0 (by decide)] at t
      exact t b
    have i1 : ∀ (dep : Nat → Int64) (Q : Int32 → (Nat → Int64) → Prop), MEM m n f V dep → (∀ dep', MEM m n f V dep' → Q (nI (DEP m n f 20 (fun k => CS m f V g k && !(f k).testBit p))) dep') → W_dO (nI m) (nI n) hold d (nI (MSK (fun k => CS m f V g k && !(f k).testBit p) n)) (nI (CODE g m + 1 * 3 ^ p)) (nI (NZ g m + 1)) dep Q := by
      intro dep Q a b
      have t := IH (va_up g p 1) dep Q (dig_up hg (by decide)) (by rw [NZ_up hp h0 (by decide)]; exact hd) a
      rw [CS_1 hp h0, CODE_up h0 hp, NZ_up hp h0 (by decide)] at t
      exact t b
    have e2 : nI (CODE g m) + (2 : Int32) * POW p = nI (CODE g m + 2 * 3 ^ p) := by
      rw [show (2 : Int32) * POW p = nI (2 * 3 ^ p) from pk_mul 2 (3 ^ p), nI_add]
    have e3 : nI (CODE g m) + POW p = nI (CODE g m + 1 * 3 ^ p) := by
      rw [show POW p = nI (3 ^ p) from rfl, nI_add, Nat.one_mul]
    rw [cl_nI (by omega), e2, e3, nI_1]
    refine ⟨in_nI (by omega) (by decide), i2 dep _ hM (fun d3 m3 => ⟨in_nI (by omega) (by decide), i1 d3 _ m3 (fun d5 m5 => ?_)⟩)⟩
    rw [if_max (by omega) (by omega)]
    have t := h d5 m5
    rw [← nI_add] at t
    exact t
  · rw [if_pos (Or.inr ((msk0 hn).mp w))] at h; exact h dep hM
theorem lst_loop {m S : Nat} {G : Nat → Nat} {x1 x2 x3 : Int32} {R : (Nat → Int64) → Prop} {K : Int32 → Int32 → Int32 → Int32 → (Nat → Int64) → (Int32 → (Nat → Int64) → Prop) → Prop} {Q : Int32 → (Nat → Int64) → Prop} (hm : m ≤ 8) (h1 : ∀ p, 1 ≤ G p) (h10 : ∀ p, G p ≤ 10) (hS : S ≤ 20) (hpow : S ≤ 2 ^ LST G m)
    (hK : ∀ p, p < m → ∀ (dep : Nat → Int64) (Q' : Int32 → (Nat → Int64) → Prop), R dep → (∀ dep', R dep' → Q' (nI (G p)) dep') → K (nI p) x1 x2 x3 dep Q') (h : ∀ dep, R dep → Q (nI (LST G m)) dep) : ∀ (d k : Nat) (dep : Nat → Int64), k + d = m → R dep → wp_X2_leastDepth_b13 K x1 x2 x3 (nI m) Q (d + 1) (nI S) (nI (LST G k)) (nI k) dep
  | 0, k, dep, hk, hd => by
    have e1 : k = m := by omega
    unfold wp_X2_leastDepth_b13
    refine br_t (nI_le (by omega) (by omega)) ?_
    rw [e1]
    exact h dep hd
  | d + 1, k, dep, hk, hd => by
    have b1 := LST_le G k
    have b2 := LST_pos h1 k
    have b3 := h10 k
    have e : nI (LST G k) - (1 : Int32) = nI (LST G k - 1) := pk_sub (b := 1) b2
    have p8 : 2 ^ (LST G k - 1) ≤ 256 := pow8 (by omega)
    unfold wp_X2_leastDepth_b13
    rw [e, shl1_nI (by omega)]
    refine br_f (nI_ge (by omega) (by omega)) (brlt (by omega) (by omega) (fun q => ?_) (fun q => hK k (by omega) dep _ hd (fun d2 h2 => ?_)))
    · have a := LST_anti G k (d + 1)
      rw [hk] at a
      have c : LST G m = LST G k := by
        rcases Nat.lt_or_ge (LST G m) (LST G k) with w | w
        · have := Nat.pow_le_pow_right (n := 2) (by decide) (show LST G m ≤ LST G k - 1 by omega)
          omega
        · omega
      have t := h dep hd
      rw [c] at t
      exact t
    · rw [if_min (by omega) (by omega), nI_1, ← LST_succ G k]
      exact lst_loop hm h1 h10 hS hpow hK h d (k + 1) d2 (by omega) h2
theorem dO_sp {m n : Nat} {f : Nat → Nat} {V : Nat → Bool} {hold : Nat → Int32} (hm : m ≤ 8) (hn : n ≤ 20) (hB : BND m n f) (hD : DIS n f) (hH : HOK m n f hold) : ∀ (d : Nat) (g : Nat → Nat) (dep : Nat → Int64) (Q : Int32 → (Nat → Int64) → Prop), (∀ p, p < m → g p < 3) → m < NZ g m + d → MEM m n f V dep → (∀ dep', MEM m n f V dep' → Q (nI (DEP m n f 20 (CS m f V g))) dep') → W_dO (nI m) (nI n) hold d (nI (MSK (CS m f V g) n)) (nI (CODE g m)) (nI (NZ g m)) dep Q
  | 0, g, dep, Q, hg, hd, hM, h => absurd (NZ_le g m) (by omega)
  | d + 1, g, dep, Q, hg, hd, hM, h => by
    have a := NZ_le g m
    have c := fb_ct_le (CS m f V g) n
    have hc := CODE_lt hg
    have h3 := pow3 hm
    have hk32 := MSK_32 (P := CS m f V g) hn
    have hDD := DD_eq (m := m) (n := n) (f := f) (P := CS m f V g) (by omega)
    show wp_X2_depthOf (fun a b c q Q => wp_X2_leastDepth (fun a b c e q Q => wp_X2_depthBy (W_dO (nI m) (nI n) hold d) a b c e q (nI n) hold Q) a b c q (nI m) Q) (nI (MSK (CS m f V g) n)) (nI (CODE g m)) (nI (NZ g m)) dep (nI m) Q
    unfold wp_X2_depthOf
    refine brle (by omega) (by omega) (fun q => ?_) (fun q => bitCount_sp (by omega) ?_)
    · rw [if_pos (CS_one hB hD q)] at hDD
      rw [hDD] at h
      exact h dep hM
    · rw [bc_MSK hn]
      refine brlt (a := 1) (by decide) (by omega) (fun q2 => known_sp (by omega) ?_) (fun q2 => ?_)
      · have hb := DEP_le m n f 20 (CS m f V g)
        rcases hM g hg with k | k
        · rw [if_neg (by omega)] at hDD
          rw [k]
          refine ⟨fun _ => ?_, fun w => absurd (by decide) w⟩
          show wp_X2_leastDepth (fun a b c e q Q => wp_X2_depthBy (W_dO (nI m) (nI n) hold d) a b c e q (nI n) hold Q) (nI (MSK (CS m f V g) n)) (nI (CODE g m)) (nI (NZ g m)) dep (nI m) _
          unfold wp_X2_leastDepth
          refine bitCount_sp (by omega) ⟨m + 1, ?_⟩
          rw [bc_MSK hn]
          refine lst_loop (G := ASK (DEP m n f 20) f n (CS m f V g)) (R := MEM m n f V) hm (ASK_pos _ f n _) (ASK_le (DEP_le m n f 20) f n _) (by omega) ?_ (fun p hp dep2 Q2 m2 k2 => ?_) (fun d2 m2 => ?_) m 0 dep (by omega) hM
          · rw [← hDD]
            exact DD_pow 20 _ (by omega) (Nat.le_refl 20)
          · exact dBy_sp hm hn hH hp hg (by omega) (fun g2 dep2 Q2 a1 a2 a3 a4 => dO_sp hm hn hB hD hH d g2 dep2 Q2 a1 a2 a3 a4) m2 k2
          · rw [← hDD]
            exact keep_sp (by omega) hb (h _ (m2.put hg))
        · rw [k, nI_dn]
          exact ⟨fun w => absurd w (nI_nm1 (by omega)), fun _ => h dep hM⟩
      · rw [if_pos q2] at hDD
        rw [hDD] at h
        exact h dep hM
theorem NZ_0 (m : Nat) : NZ (fun _ => 0) m = 0 := fb_ct_zero.mpr (fun _ _ => rfl)
theorem CODE_0 : ∀ m, CODE (fun _ => 0) m = 0
  | 0 => rfl
  | m + 1 => by rw [CODE_succ, CODE_0 m]; omega
theorem dep_sp {m n : Nat} {f : Nat → Nat} {V : Nat → Bool} {hold : Nat → Int32} {dep : Nat → Int64} {Q : Int32 → (Nat → Int64) → Prop} (hm : m ≤ 8) (hn : n ≤ 20) (hB : BND m n f) (hD : DIS n f) (hH : HOK m n f hold) (h : ∀ dep', MEM m n f V dep' → Q (nI (DEP m n f 20 V)) dep') : wp_X2_depth (nI (MSK V n)) dep (nI m) (nI n) hold Q := by
  unfold wp_X2_depth
  refine fillL_sp (by decide) (fun dep2 h2 => ?_)
  have t := dO_sp (V := V) hm hn hB hD hH 9 (fun _ => 0) dep2 Q (fun _ _ => by decide) (by rw [NZ_0]; omega) (MEM.new (pow3 hm) (fun j hj => by rw [h2 j, if_pos hj]))
  rw [CS_none, CODE_0, NZ_0] at t
  exact t h
theorem dB9_sp {m n p : Nat} {f : Nat → Nat} {V : Nat → Bool} {hold : Nat → Int32} {dep : Nat → Int64} {Q : Int32 → (Nat → Int64) → Prop} (hm : m ≤ 8) (hn : n ≤ 20) (hB : BND m n f) (hD : DIS n f) (hH : HOK m n f hold) (hp : p < m) (hM : MEM m n f V dep) (h : ∀ dep', MEM m n f V dep' → Q (nI (ASK (DEP m n f 20) f n V p)) dep') : wp_X2_dB9 (nI p) (nI (MSK V n)) (0 : Int32) (0 : Int32) dep (nI m) (nI n) hold Q := by
  have t := dBy_sp (V := V) (d := 8) (g := fun _ => 0) (Q := Q) hm hn hH hp (fun _ _ => by decide) (by rw [NZ_0]; omega) (fun g2 dep2 Q2 a1 a2 a3 a4 => dO_sp hm hn hB hD hH 8 g2 dep2 Q2 a1 a2 a3 a4) hM
  rw [CS_none, CODE_0, NZ_0] at t
  exact t h

/-! the first best point -/
def FQ (G : Nat → Nat) (L : Nat) : Nat → Nat → Int32
  | 0, _ => -6
  | d + 1, k => if G k = L then nI k else FQ G L d (k + 1)
theorem FQ_succ (G : Nat → Nat) (L d k : Nat) : FQ G L (d + 1) k = if G k = L then nI k else FQ G L d (k + 1) := rfl
def RQ (G : Nat → Nat) : Nat → Nat → Nat → Nat → Nat
  | 0, _, b, _ => b
  | d + 1, k, b, l => if G k < l then RQ G d (k + 1) k (G k) else RQ G d (k + 1) b l
theorem RQ_succ (G : Nat → Nat) (d k b l : Nat) : RQ G (d + 1) k b l = if G k < l then RQ G d (k + 1) k (G k) else RQ G d (k + 1) b l := rfl
theorem RQ_A {G : Nat → Nat} {L : Nat} : ∀ (d k b : Nat), (∀ p, k ≤ p → p < k + d → L ≤ G p) → RQ G d k b L = b
  | 0, _, _, _ => rfl
  | d + 1, k, b, h => by
    rw [RQ_succ, if_neg (by have := h k (Nat.le_refl k) (by omega); omega)]
    exact RQ_A d (k + 1) b (fun p h1 h2 => h p (by omega) (by omega))
theorem RQ_B {G : Nat → Nat} {L : Nat} : ∀ (d k b l : Nat), (∀ p, k ≤ p → p < k + d → L ≤ G p) → L < l → (∃ p, k ≤ p ∧ p < k + d ∧ G p = L) → nI (RQ G d k b l) = FQ G L d k
  | 0, k, _, _, _, _, ⟨p, h1, h2, _⟩ => absurd h2 (by omega)
  | d + 1, k, b, l, h, hl, hex => by
    have hk := h k (Nat.le_refl k) (by omega)
    have h' : ∀ p, k + 1 ≤ p → p < k + 1 + d → L ≤ G p := fun p h1 h2 => h p (by omega) (by omega)
    rw [RQ_succ, FQ_succ]
    by_cases e : G k = L
    · rw [if_pos e, if_pos (by omega), e, RQ_A d (k + 1) k h']
    · have hex2 : ∃ p, k + 1 ≤ p ∧ p < k + 1 + d ∧ G p = L := by
        obtain ⟨p, h1, h2, h3⟩ := hex
        refine ⟨p, ?_, by omega, h3⟩
        rcases Nat.lt_or_ge k p with q | q
        · omega
        · exact absurd (by rw [show k = p by omega]; exact h3) e
      rw [if_neg e]
      by_cases q : G k < l
      · rw [if_pos q]
        exact RQ_B d (k + 1) k (G k) h' (by omega) hex2
      · rw [if_neg q]
        exact RQ_B d (k + 1) b l h' hl hex2
theorem FQ_none {G : Nat → Nat} {L : Nat} (h : ∀ p, G p ≠ L) : ∀ d k, FQ G L d k = -6
  | 0, _ => rfl
  | d + 1, k => by rw [FQ_succ, if_neg (h k)]; exact FQ_none h d (k + 1)
theorem best_loop {m n D : Nat} {f : Nat → Nat} {V : Nat → Bool} {hold : Nat → Int32} {Q : Int32 → (Nat → Int64) → Prop} (hm : m ≤ 8) (hn : n ≤ 20) (hB : BND m n f) (hD : DIS n f) (hH : HOK m n f hold) (hL : D ≤ 9) : ∀ (d k : Nat) (dep : Nat → Int64), k + d = m → MEM m n f V dep → (∀ dep', Q (FQ (ASK (DEP m n f 20) f n V) D d k) dep') → wp_X2_best_b8 (nI (MSK V n)) (nI m) (nI n) hold Q (d + 1) (nI D) (nI k) dep
  | 0, k, dep, hk, hd, h => by
    unfold wp_X2_best_b8
    exact br_t (nI_le (by omega) (by omega)) (h dep)
  | d + 1, k, dep, hk, hd, h => by
    have b := ASK_le (DEP_le m n f 20) f n V k
    rw [FQ_succ] at h
    unfold wp_X2_best_b8
    refine br_f (nI_ge (by omega) (by omega)) (dB9_sp hm hn hB hD hH (by omega) hd (fun d2 m2 => ?_))
    rw [nI_1]
    refine brne (by omega) (by omega) (fun q => ?_) (fun q => ?_)
    · rw [if_neg q] at h
      exact best_loop hm hn hB hD hH hL d (k + 1) d2 (by omega) m2 h
    · rw [if_pos q] at h
      exact h d2
theorem bq_loop {m n : Nat} {f : Nat → Nat} {V : Nat → Bool} {me : Int32} {mc mpt mlb : Nat → Int32} {Q : Int32 → Prop} (hm : m ≤ 8) (hn : n ≤ 20) (hf : ∀ k, k < n → f k < 2 ^ 31) (hM : SOK n f mc) : ∀ (d k b l : Nat), k + d = m → l ≤ 10 → Q (nI (RQ (ASK (DEP m n f 20) f n V) d k b l)) → wp_X8_bestQuery_b31 (nI m) (nI n) me mc mpt mlb Q (d + 1) (nI (MSK V n)) (nI b) (nI l) (nI k)
  | 0, k, b, l, hk, hl, h => by
    unfold wp_X8_bestQuery_b31
    exact br_t (nI_le (by omega) (by omega)) h
  | d + 1, k, b, l, hk, hl, h => by
    have c := fb_ct_le V n
    have b10 := ASK_le (DEP_le m n f 20) f n V k
    rw [RQ_succ] at h
    unfold wp_X8_bestQuery_b31
    refine br_f (nI_ge (by omega) (by omega)) (asked_sp hn (by omega) hf hM (DEP m n f 20) (DEP_le m n f 20) (fun A hA Q2 h2 => mD_sp hm hn hf hM 18 A Q2 (by omega) h2) ?_)
    unfold wp_X8_bestQuery_b61
    rw [nI_1]
    refine brle (by omega) (by omega) (fun q => ?_) (fun q => ?_)
    · rw [if_neg (by omega)] at h
      exact br_t (nI_le q (by omega)) (bq_loop hm hn hf hM d (k + 1) b l (by omega) hl h)
    · rw [if_pos q] at h
      exact br_f (nI_ge q (by omega)) (bq_loop hm hn hf hM d (k + 1) k _ (by omega) (by omega) h)

set_option maxHeartbeats 2000000 in
theorem pu_queryDepth : PU_queryDepth INV := by
  intro N S M  hN hI
  have hkeep := hI.keep
  obtain ⟨⟨points, count, ed, sets, scores, rated, hold⟩, ⟨scnt, codes⟩, D, X, saved, stand, ⟨height, largest, ped, layers, psets⟩, seen, depths, K⟩ := S
  obtain ⟨mm, many, mex, has, sm, smany, sex, bys, mc, ms, mpt, mlb, ty, ln, wh, tw, sc8, ss8, sp8, sl8, lay8, pl8⟩ := M
  obtain ⟨m, n, f, e, pt, lb, hc, hs, hp, hx, ht, hk, hsh⟩ := INV_mk.mp hI
  obtain ⟨⟨hm1, hm8, hn20⟩, rfl, rfl, hS, hB, hDs, hH, rfl, rfl, hM⟩ := hc
  have hf31 : ∀ k, k < n → f k < 2 ^ 31 := fun k hk => Nat.lt_trans (hB.lt hm8 hk) (by decide)
  dsimp only
  obtain ⟨he12, rfl, rfl, hxx⟩ := hx
  have hx7 : ∀ k, k < e → pt k < m ∧ lb k < 2 ∧ codes k = nI (2 * pt k + lb k) := fun k hk => ⟨(hxx k hk).1, (hxx k hk).2.1, (hxx k hk).2.2.1⟩
  have hx8 : ∀ k, k < e → pt k < m ∧ lb k < 2 ∧ mpt k = nI (pt k) ∧ mlb k = nI (lb k) := fun k hk => ⟨(hxx k hk).1, (hxx k hk).2.1, (hxx k hk).2.2.2⟩
  have hV := MSK_32 (P := fun k => VB pt lb (f k) e) hn20
  have hct := fb_ct_le (fun k => VB pt lb (f k) e) n
  refine ver7_sp hm8 hn20 he12 hH hx7 ?_
  
  refine bn_c (fun w => dep_sp hm8 hn20 hB hDs hH (fun dep _ => ?_)) (fun w => ?_)
  · exact ver8_sp hm8 hn20 he12 hf31 hM hx8 (bn_f w (mD_sp hm8 hn20 hf31 hM 19 _ _ (by omega) ⟨rfl, hkeep⟩))
  · exact ver8_sp hm8 hn20 he12 hf31 hM hx8 (bn_t w ⟨rfl, hkeep⟩)

set_option maxHeartbeats 2000000 in
theorem pu_bestQuery : PU_bestQuery INV := by
  intro N S M  hN hI
  have hkeep := hI.keep
  obtain ⟨⟨points, count, ed, sets, scores, rated, hold⟩, ⟨scnt, codes⟩, D, X, saved, stand, ⟨height, largest, ped, layers, psets⟩, seen, depths, K⟩ := S
  obtain ⟨mm, many, mex, has, sm, smany, sex, bys, mc, ms, mpt, mlb, ty, ln, wh, tw, sc8, ss8, sp8, sl8, lay8, pl8⟩ := M
  obtain ⟨m, n, f, e, pt, lb, hc, hs, hp, hx, ht, hk, hsh⟩ := INV_mk.mp hI
  obtain ⟨⟨hm1, hm8, hn20⟩, rfl, rfl, hS, hB, hDs, hH, rfl, rfl, hM⟩ := hc
  have hf31 : ∀ k, k < n → f k < 2 ^ 31 := fun k hk => Nat.lt_trans (hB.lt hm8 hk) (by decide)
  dsimp only
  obtain ⟨he12, rfl, rfl, hxx⟩ := hx
  have hx7 : ∀ k, k < e → pt k < m ∧ lb k < 2 ∧ codes k = nI (2 * pt k + lb k) := fun k hk => ⟨(hxx k hk).1, (hxx k hk).2.1, (hxx k hk).2.2.1⟩
  have hx8 : ∀ k, k < e → pt k < m ∧ lb k < 2 ∧ mpt k = nI (pt k) ∧ mlb k = nI (lb k) := fun k hk => ⟨(hxx k hk).1, (hxx k hk).2.1, (hxx k hk).2.2.2⟩
  have hV := MSK_32 (P := fun k => VB pt lb (f k) e) hn20
  have hct := fb_ct_le (fun k => VB pt lb (f k) e) n
  refine ver7_sp hm8 hn20 he12 hH hx7 ?_
  
  refine bn_c (fun w => ?_) (fun w => ?_)
  · have hw : ¬ fb_ct (fun k => VB pt lb (f k) e) n = 0 := fun z => w ((msk0 hn20).mpr z)
    have hDD := DD_eq (m := m) (n := n) (f := f) (P := fun k => VB pt lb (f k) e) (by omega)
    refine dep_sp hm8 hn20 hB hDs hH (fun dep hm => ⟨m + 1, ?_⟩)
    refine best_loop hm8 hn20 hB hDs hH (DEP_le m n f 20 _) m 0 dep (by omega) hm (fun dep2 => ?_)
    refine ver8_sp hm8 hn20 he12 hf31 hM hx8 (bn_f w (sizeOf_sp hV ?_))
    rw [bc_MSK hn20]
    refine brne (b := 1) (by omega) (by decide) (fun q => ?_) (fun q => ?_)
    · rw [if_neg (by omega)] at hDD
      have a := DD_points (V := fun k => VB pt lb (f k) e) hn20 hB hDs m (fun _ => 0) (by omega)
      rw [CS_none, hDD] at a
      have hat : ∃ p, 0 ≤ p ∧ p < 0 + m ∧ ASK (DEP m n f 20) f n (fun k => VB pt lb (f k) e) p = LST (ASK (DEP m n f 20) f n (fun k => VB pt lb (f k) e)) m := by
        rcases LST_at (ASK (DEP m n f 20) f n (fun k => VB pt lb (f k) e)) m with z | ⟨p, hp', z⟩
        · omega
        · exact ⟨p, Nat.zero_le p, by omega, z.symm⟩
      refine ⟨m + 1, bq_loop hm8 hn20 hf31 hM m 0 0 10 (by omega) (Nat.le_refl 10) ?_⟩
      rw [RQ_B (L := LST (ASK (DEP m n f 20) f n (fun k => VB pt lb (f k) e)) m) m 0 0 10 (fun p _ hp' => LST_all _ (by omega)) (by omega) hat, hDD]
      exact ⟨rfl, hkeep⟩
    · rw [if_pos (by omega)] at hDD
      rw [hDD, FQ_none (fun p => by have := ASK_pos (DEP m n f 20) f n (fun k => VB pt lb (f k) e) p; omega)]
      exact ⟨rfl, hkeep⟩
  · exact ver8_sp hm8 hn20 he12 hf31 hM hx8 (bn_t w ⟨rfl, hkeep⟩)
