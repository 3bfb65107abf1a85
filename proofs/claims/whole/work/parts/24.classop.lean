/-! the class's own row of sets, its holders, and what changes them -/
def SOK (n : Nat) (f : Nat → Nat) (sets : Nat → Int32) : Prop := ∀ k, k < n → sets k = nI (f k)
def BND (m n : Nat) (f : Nat → Nat) : Prop := ∀ k, k < n → f k < 2 ^ m
def DIS (n : Nat) (f : Nat → Nat) : Prop := ∀ i j, i < n → j < n → f i = f j → i = j
def HOK (m n : Nat) (f : Nat → Nat) (hold : Nat → Int32) : Prop := ∀ p, p < m → hold p = nI (MSK (fun k => (f k).testBit p) n)
theorem BND.lt {m n : Nat} {f : Nat → Nat} (h : BND m n f) (hm : m ≤ 8) {k : Nat} (hk : k < n) : f k < 256 := Nat.lt_of_lt_of_le (h k hk) (pow8 hm)
theorem index_loop {k m v : Nat} {sets hold : Nat → Int32} {Q : (Nat → Int32) → Prop} (hm : m ≤ 8) (hk : k < 20) (hs : sets k = nI v) (hv : v < 2 ^ 31)
    (h : ∀ h' : Nat → Int32, (∀ p, h' p = if p < m ∧ v.testBit p = true then hold p ||| nI (2 ^ k) else hold p) → Q h') : ∀ (d p : Nat) (h' : Nat → Int32), p + d = m → (∀ j, h' j = if j < p ∧ v.testBit j = true then hold j ||| nI (2 ^ k) else hold j) → wp_X0_index_b2 (nI k) (nI m) sets Q (d + 1) (nI p) h'
  | 0, p, h', hp, hh => br_t (nI_le (by omega) (by omega)) (h h' (fun j => by rw [hh j, show p = m by omega]))
  | d + 1, p, h', hp, hh => by
    refine br_f (nI_ge (by omega) (by omega)) ⟨in_nI hk (by decide), ?_⟩
    rw [cl_nI (by omega), hs]
    refine hasBit_sp hv (by omega) ?_
    refine bI_br0 (fun hb => ?_) (fun hb => ⟨in_nI (by omega) (by decide), in_nI (by omega) (by decide), ?_⟩)
    · rw [nI_1]
      refine index_loop hm hk hs hv h d (p + 1) h' (by omega) (fun j => ?_)
      rw [hh j]
      by_cases e : j = p
      · subst e; simp [hb]
      · have : j < p ↔ j < p + 1 := by omega
        simp only [this]
    · rw [cl_nI (by omega), nI_1, shl1_nI (by omega)]
      refine index_loop hm hk hs hv h d (p + 1) _ (by omega) (fun j => ?_)
      unfold upd
      by_cases e : j = p
      · subst e
        rw [if_pos rfl, if_pos ⟨by omega, hb⟩, hh j, if_neg (by omega)]
      · rw [if_neg e, hh j]
        have : j < p ↔ j < p + 1 := by omega
        simp only [this]
theorem index_sp {k m v : Nat} {sets hold : Nat → Int32} {Q : (Nat → Int32) → Prop} (hm : m ≤ 8) (hk : k < 20) (hs : sets k = nI v) (hv : v < 2 ^ 31)
    (h : ∀ h' : Nat → Int32, (∀ p, h' p = if p < m ∧ v.testBit p = true then hold p ||| nI (2 ^ k) else hold p) → Q h') : wp_X0_index (nI k) (nI m) sets hold Q :=
  ⟨m + 1, index_loop hm hk hs hv h m 0 hold (by omega) (fun j => by rw [if_neg (by omega)])⟩
theorem HOK.push {m n v : Nat} {f : Nat → Nat} {hold h' : Nat → Int32} (hH : HOK m n f hold) (hv : f n = v) (hh : ∀ p, h' p = if p < m ∧ v.testBit p = true then hold p ||| nI (2 ^ n) else hold p) : HOK m (n + 1) f h' := by
  intro p hp
  rw [hh p, MSK_succ_or, ← fa_or, hv, hH p hp]
  cases v.testBit p
  · simp only [Bool.false_eq_true, and_false, if_false]
    rw [fa_or, Nat.or_zero]
  · simp [hp]
theorem reindex_loop {m n : Nat} {ed : Int32} {f : Nat → Nat} {sets : Nat → Int32} {Q : Int32 → (Nat → Int32) → Prop} (hm : m ≤ 8) (hn : n ≤ 20) (hs : SOK n f sets) (hf : ∀ k, k < n → f k < 2 ^ 31)
    (h : ∀ h' : Nat → Int32, HOK m n f h' → Q (ed + 1) h') : ∀ (d k : Nat) (h' : Nat → Int32), k + d = n → HOK m k f h' → wp_X0_reindex_b10 (nI m) (nI n) sets Q (d + 1) (nI k) ed h'
  | 0, k, h', hk, hh => br_t (nI_le (by omega) (by omega)) (h h' (by rw [show n = k by omega]; exact hh))
  | d + 1, k, h', hk, hh => by
    refine br_f (nI_ge (by omega) (by omega)) ?_
    refine index_sp hm (by omega) (hs k (by omega)) (hf k (by omega)) (fun h2 e2 => ?_)
    rw [nI_1]
    exact reindex_loop hm hn hs hf h d (k + 1) h2 (by omega) (hh.push rfl e2)
theorem reindex_sp {m n : Nat} {ed : Int32} {f : Nat → Nat} {sets hold : Nat → Int32} {Q : Int32 → (Nat → Int32) → Prop} (hm : m ≤ 8) (hn : n ≤ 20) (hs : SOK n f sets) (hf : ∀ k, k < n → f k < 2 ^ 31)
    (h : ∀ h' : Nat → Int32, HOK m n f h' → Q (ed + 1) h') : wp_X0_reindex (nI m) (nI n) ed sets hold Q := by
  unfold wp_X0_reindex
  refine fillI_sp (by decide) (fun h0 e0 => ⟨n + 1, reindex_loop hm hn hs hf h n 0 h0 (by omega) (fun p hp => ?_)⟩)
  rw [e0 p, if_pos (by omega)]
  rfl
theorem begin_sp {m0 m : Nat} {p0 c0 ed : Int32} {sets hold : Nat → Int32} {Q : Int32 → Int32 → Int32 → (Nat → Int32) → Prop} (hm : m ≤ 8) (h : ∀ h' : Nat → Int32, HOK m 0 (fun _ => 0) h' → Q (nI m) 0 (ed + 1) h') : wp_X0_begin (nI m) p0 c0 ed sets hold Q := by
  unfold wp_X0_begin
  exact reindex_sp (n := 0) (f := fun _ => 0) hm (by decide) (fun k hk => absurd hk (by omega)) (fun k hk => absurd hk (by omega)) (fun h' e => h h' e)
theorem nar0 : vp_nar .boolean (0 : Int32) = 0 := rfl
theorem nar1 : vp_nar .boolean (1 : Int32) = 1 := rfl
/-- the class with one set more -/
theorem SOK.push {n v : Nat} {f : Nat → Nat} {sets : Nat → Int32} (h : SOK n f sets) : SOK (n + 1) (va_up f n v) (upd sets n (nI v)) := by
  intro k hk
  unfold upd va_up
  by_cases e : k = n
  · rw [if_pos e, if_pos e]
  · rw [if_neg e, if_neg e]; exact h k (by omega)
theorem HOK.cong {m n : Nat} {f g : Nat → Nat} {hold : Nat → Int32} (h : HOK m n f hold) (e : ∀ k, k < n → f k = g k) : HOK m n g hold := by
  intro p hp
  rw [h p hp]
  congr 1
  exact MSK_cong (fun k hk => by rw [e k hk])
theorem fnd_iff {n v : Nat} {f : Nat → Nat} {sets : Nat → Int32} (hn : n ≤ 20) (hs : SOK n f sets) (hf : ∀ k, k < n → f k < 2 ^ 31) (hv : v < 2 ^ 31) : FND sets (nI v) n 0 = -6 ↔ ∀ k, k < n → f k ≠ v := by
  rw [FND_none (by omega)]
  constructor
  · intro h k hk e
    exact h k (by omega) (by omega) (by rw [hs k hk, e])
  · intro h k _ hk e
    rw [hs k (by omega), ceq (hf k (by omega)) hv] at e
    exact h k (by omega) e
theorem addIfNew_sp {m n v : Nat} {ed : Int32} {f : Nat → Nat} {sets rated hold : Nat → Int32} {scores : Nat → UInt64} {Q : Int32 → Int32 → Int32 → (Nat → Int32) → (Nat → UInt64) → (Nat → Int32) → (Nat → Int32) → Prop} (hm : m ≤ 8) (hn : n ≤ 20) (hs : SOK n f sets) (hf : ∀ k, k < n → f k < 2 ^ 31) (hH : HOK m n f hold) (hv : v < 2 ^ 31)
    (h0 : ¬ (n < 20 ∧ ∀ k, k < n → f k ≠ v) → Q 0 (nI n) ed sets scores rated hold)
    (h1 : n < 20 → (∀ k, k < n → f k ≠ v) → ∀ h' : Nat → Int32, HOK m (n + 1) (va_up f n v) h' → Q 1 (nI (n + 1)) (ed + 1) (upd sets n (nI v)) (vf_upd scores n FP.dconst0) (upd rated n 0) h') : wp_X0_addIfNew (nI v) (nI m) (nI n) ed sets scores rated hold Q := by
  unfold wp_X0_addIfNew
  refine brle (a := 20) (by decide) (by omega) (fun h => h0 (by omega)) (fun h => find_sp (by omega) ?_)
  refine br_c (fun e => ?_) (fun e => ?_)
  · have e2 := (fnd_iff (by omega) hs hf hv).mp e
    refine ⟨in_nI h (by decide), ?_⟩
    unfold wp_X0_unrate
    rw [cl_nI (by omega), nI_1]
    refine ⟨in_nI h (by decide), in_nI h (by decide), ?_⟩
    refine index_sp (v := v) hm h (by unfold upd; rw [if_pos rfl]) hv (fun h' eh => ?_)
    refine h1 h e2 h' ?_
    refine HOK.push (hold := hold) ?_ (by unfold va_up; rw [if_pos rfl]) eh
    exact hH.cong (fun k hk => by unfold va_up; rw [if_neg (by omega)])
  · exact h0 (fun q => e ((fnd_iff (by omega) hs hf hv).mpr q.2))
