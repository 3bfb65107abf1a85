/-! intervals -/
abbrev ST2 : Type := Nat × (Nat → Nat)
def AD1 (st : ST2) (v : Nat) : ST2 := if st.1 < 20 ∧ ∀ k, k < st.1 → st.2 k ≠ v then (st.1 + 1, va_up st.2 st.1 v) else st
def vij (i j : Nat) : Nat := 2 * 2 ^ j - 2 ^ i
def ADI (i : Nat) : Nat → Nat → ST2 → ST2
  | 0, _, st => st
  | d + 1, j, st => ADI i d (j + 1) (AD1 st (vij i j))
def ADO (m : Nat) : Nat → Nat → ST2 → ST2
  | 0, _, st => st
  | d + 1, i, st => ADO m d (i + 1) (ADI i (m - i) i st)
def STK (m n0 : Nat) (f0 : Nat → Nat) (st : ST2) : Prop := n0 ≤ st.1 ∧ st.1 ≤ 20 ∧ BND m st.1 st.2 ∧ DIS st.1 st.2 ∧ (st.1 = n0 → st.2 = f0)
def CLR (m n0 : Nat) (f0 : Nat → Nat) (rated : Nat → Int32) (scores : Nat → UInt64) (ed0 : Int32) (st : ST2) (ed : Int32) (s : Nat → Int32) (c : Nat → UInt64) (r h : Nat → Int32) : Prop :=
  STK m n0 f0 st ∧ SOK st.1 st.2 s ∧ HOK m st.1 st.2 h ∧ (∀ k, k < n0 → c k = scores k ∧ r k = rated k) ∧ (∀ k, n0 ≤ k → k < st.1 → r k = 0) ∧ ed = ed0 + nI (st.1 - n0)
def MLR (m n0 : Nat) (f0 : Nat → Nat) (ms : Nat → UInt64) (st : ST2) (s : Nat → Int32) (z : Nat → UInt64) : Prop :=
  STK m n0 f0 st ∧ SOK st.1 st.2 s ∧ (∀ k, k < n0 → z k = ms k) ∧ (∀ k, n0 ≤ k → k < st.1 → isNaN64 (z k) = true)
theorem STK.add {m n0 v : Nat} {f0 : Nat → Nat} {st : ST2} (h : STK m n0 f0 st) (hv : v < 2 ^ m) : STK m n0 f0 (AD1 st v) := by
  obtain ⟨h1, h2, h3, h4, h5⟩ := h
  unfold AD1
  by_cases c : st.1 < 20 ∧ ∀ k, k < st.1 → st.2 k ≠ v
  · rw [if_pos c]
    exact ⟨by dsimp only; omega, by dsimp only; omega, h3.push hv, h4.push c.2, fun q => absurd q (by dsimp only; omega)⟩
  · rw [if_neg c]; exact ⟨h1, h2, h3, h4, h5⟩
theorem vij_lt {m i j : Nat} (h : j < m) : vij i j < 2 ^ m := by
  unfold vij
  have h1 : 2 ^ (j + 1) ≤ 2 ^ m := Nat.pow_le_pow_right (by decide) h
  have h2 := Nat.two_pow_pos i
  have h3 := Nat.two_pow_pos m
  rw [Nat.pow_succ] at h1
  omega
theorem vij_nI {i j : Nat} (hi : i ≤ j) (hj : j < 8) : ((2 : Int32) <<< (nI j &&& 31)) - ((1 : Int32) <<< (nI i &&& 31)) = nI (vij i j) := by
  have h1 : 2 ^ j ≤ 256 := pow8 (by omega)
  have h2 : 2 ^ i ≤ 2 ^ j := Nat.pow_le_pow_right (by decide) hi
  have e : (2 : Int32) <<< (nI j &&& 31) = nI (2 * 2 ^ j) := shl_nI (n := 2) (by omega) (by omega)
  rw [e, shl1_nI (by omega)]
  exact pk_sub (by omega)
theorem vij_or {i j : Nat} (hi : i ≤ j) : (2 ^ j - 2 ^ i) ||| 2 ^ j = vij i j := by
  have h2 : 2 ^ i ≤ 2 ^ j := Nat.pow_le_pow_right (by decide) hi
  have h3 := Nat.two_pow_pos i
  have e := Nat.two_pow_add_eq_or_of_lt (i := j) (b := 2 ^ j - 2 ^ i) (by omega) 1
  rw [Nat.mul_one] at e
  rw [Nat.or_comm, ← e]
  unfold vij
  omega
theorem CLR.add {m n0 v : Nat} {f0 : Nat → Nat} {rated : Nat → Int32} {scores : Nat → UInt64} {ed0 : Int32} {st : ST2} {ed : Int32} {s : Nat → Int32} {c : Nat → UInt64} {r hd : Nat → Int32} {Q : Int32 → Int32 → Int32 → (Nat → Int32) → (Nat → UInt64) → (Nat → Int32) → (Nat → Int32) → Prop} (hm : m ≤ 8) (h : CLR m n0 f0 rated scores ed0 st ed s c r hd) (hv : v < 2 ^ m)
    (kk : ∀ (r1 ed' : Int32) (s' : Nat → Int32) (c' : Nat → UInt64) (r' h' : Nat → Int32), CLR m n0 f0 rated scores ed0 (AD1 st v) ed' s' c' r' h' → Q r1 (nI (AD1 st v).1) ed' s' c' r' h') : wp_X0_addIfNew (nI v) (nI m) (nI st.1) ed s c r hd Q := by
  have h0 := h
  obtain ⟨hst, h1, h2, h3, h4, h5⟩ := h
  obtain ⟨a1, a2, a3, a4, a5⟩ := hst
  have h256 := pow8 hm
  refine addIfNew_sp hm a2 h1 (fun k hk => Nat.lt_trans (a3.lt hm hk) (by decide)) h2 (by omega) (fun hno => ?_) (fun hlt hnew h' hh => ?_)
  · have e : AD1 st v = st := by unfold AD1; rw [if_neg hno]
    rw [e] at kk
    exact kk 0 ed s c r hd h0
  · have hadd := STK.add (v := v) ⟨a1, a2, a3, a4, a5⟩ hv
    have e : AD1 st v = (st.1 + 1, va_up st.2 st.1 v) := by unfold AD1; rw [if_pos ⟨hlt, hnew⟩]
    rw [e] at kk hadd
    refine kk 1 _ _ _ _ h' ⟨hadd, h1.push, hh, fun k hk => ?_, fun k hk hk2 => ?_, ?_⟩
    · unfold upd vf_upd
      rw [if_neg (by omega), if_neg (by omega)]
      exact h3 k hk
    · unfold upd
      by_cases q : k = st.1
      · rw [if_pos q]
      · rw [if_neg q]
        dsimp only at hk2
        exact h4 k hk (by omega)
    · dsimp only
      rw [h5, show st.1 + 1 - n0 = (st.1 - n0) + 1 by omega, nI_succ, Int32.add_assoc]
theorem int7_in {m n0 i : Nat} {f0 : Nat → Nat} {rated : Nat → Int32} {scores : Nat → UInt64} {ed0 x1 : Int32} {Q : Int32 → Int32 → Int32 → (Nat → Int32) → (Nat → UInt64) → (Nat → Int32) → (Nat → Int32) → Prop} {k10 : Int32 → Int32 → Int32 → Int32 → (Nat → Int32) → (Nat → UInt64) → (Nat → Int32) → (Nat → Int32) → Prop} (hm : m ≤ 8) :
    ∀ (d j : Nat) (st : ST2) (ed : Int32) (s : Nat → Int32) (c : Nat → UInt64) (r h : Nat → Int32), j + d = m → i ≤ j → CLR m n0 f0 rated scores ed0 st ed s c r h → (∀ (ed' : Int32) (s' : Nat → Int32) (c' : Nat → UInt64) (r' h' : Nat → Int32), CLR m n0 f0 rated scores ed0 (ADI i d j st) ed' s' c' r' h' → k10 x1 (nI (i + 1)) (nI (ADI i d j st).1) ed' s' c' r' h') → wp_X7_addIntervals_b23 (nI m) Q k10 (d + 1) x1 (nI i) (nI j) (nI st.1) ed s c r h
  | 0, j, st, ed, s, c, r, h, hj, hij, hc, kk => by
    refine br_t (nI_le (by omega) (by omega)) ?_
    rw [nI_1]
    exact kk ed s c r h hc
  | d + 1, j, st, ed, s, c, r, h, hj, hij, hc, kk => by
    refine br_f (nI_ge (by omega) (by omega)) ?_
    rw [vij_nI hij (by omega)]
    refine hc.add hm (vij_lt (by omega)) (fun r1 ed' s' c' r' h' hc' => ?_)
    rw [nI_1]
    exact int7_in hm d (j + 1) _ ed' s' c' r' h' (by omega) (by omega) hc' kk
theorem int7_out {m n0 : Nat} {f0 : Nat → Nat} {rated : Nat → Int32} {scores : Nat → UInt64} {ed0 : Int32} {Q : Int32 → Int32 → Int32 → (Nat → Int32) → (Nat → UInt64) → (Nat → Int32) → (Nat → Int32) → Prop} (hm : m ≤ 8) :
    ∀ (d i : Nat) (st : ST2) (ed : Int32) (s : Nat → Int32) (c : Nat → UInt64) (r h : Nat → Int32), i + d = m → CLR m n0 f0 rated scores ed0 st ed s c r h → (∀ (ed' : Int32) (s' : Nat → Int32) (c' : Nat → UInt64) (r' h' : Nat → Int32), CLR m n0 f0 rated scores ed0 (ADO m d i st) ed' s' c' r' h' → Q (nI (ADO m d i st).1 - nI n0) (nI (ADO m d i st).1) ed' s' c' r' h') → wp_X7_addIntervals_b10 (nI m) Q (d + 1) (nI n0) (nI i) (nI st.1) ed s c r h
  | 0, i, st, ed, s, c, r, h, hi, hc, kk => br_t (nI_le (by omega) (by omega)) (kk ed s c r h hc)
  | d + 1, i, st, ed, s, c, r, h, hi, hc, kk => by
    refine br_f (nI_ge (by omega) (by omega)) ⟨(m - i) + 1, int7_in hm (m - i) i st ed s c r h (by omega) (Nat.le_refl i) hc (fun ed' s' c' r' h' hc' => ?_)⟩
    exact int7_out hm d (i + 1) _ ed' s' c' r' h' (by omega) hc' kk
theorem MLR.add {m n0 v : Nat} {f0 : Nat → Nat} {ms : Nat → UInt64} {st : ST2} {s : Nat → Int32} {z : Nat → UInt64} (h : MLR m n0 f0 ms st s z) (hv : v < 2 ^ m) (hlt : st.1 < 20) (hnew : ∀ k, k < st.1 → st.2 k ≠ v) : AD1 st v = (st.1 + 1, va_up st.2 st.1 v) ∧ MLR m n0 f0 ms (AD1 st v) (upd s st.1 (nI v)) (vf_upd z st.1 (9221120237041090560 : UInt64)) := by
  obtain ⟨hst, h1, h2, h3⟩ := h
  have e : AD1 st v = (st.1 + 1, va_up st.2 st.1 v) := by unfold AD1; rw [if_pos ⟨hlt, hnew⟩]
  refine ⟨e, hst.add hv, ?_, fun k hk => ?_, fun k hk hk2 => ?_⟩
  · rw [e]; exact h1.push
  · unfold vf_upd
    have := hst.1
    rw [if_neg (by omega)]; exact h2 k hk
  · unfold vf_upd
    rw [e] at hk2
    dsimp only at hk2
    by_cases q : k = st.1
    · rw [if_pos q]; exact nanK
    · rw [if_neg q]; exact h3 k hk (by omega)
theorem int8_in {m n0 i : Nat} {f0 : Nat → Nat} {ms : Nat → UInt64} {x1 : Int32} {Q : Int32 → Int32 → (Nat → Int32) → (Nat → UInt64) → Prop} {k7 : Int32 → Int32 → Int32 → (Nat → Int32) → (Nat → UInt64) → Prop} (hm : m ≤ 8) :
    ∀ (d j : Nat) (st : ST2) (s : Nat → Int32) (z : Nat → UInt64), j + d = m → i ≤ j → MLR m n0 f0 ms st s z → (∀ (s' : Nat → Int32) (z' : Nat → UInt64), MLR m n0 f0 ms (ADI i d j st) s' z' → k7 x1 (nI (i + 1)) (nI (ADI i d j st).1) s' z') → wp_X8_addIntervals_b20 (nI m) Q k7 (d + 1) x1 (nI i) (nI (2 ^ j - 2 ^ i)) (nI j) (nI st.1) s z
  | 0, j, st, s, z, hj, hij, hc, kk => by
    refine br_t (nI_le (by omega) (by omega)) ?_
    rw [nI_1]
    exact kk s z hc
  | d + 1, j, st, s, z, hj, hij, hc, kk => by
    refine br_f (nI_ge (by omega) (by omega)) ?_
    have hst := hc.1
    have h256 := pow8 hm
    have hv : vij i j < 2 ^ m := vij_lt (by omega)
    have ev : nI (2 ^ j - 2 ^ i) ||| ((1 : Int32) <<< (nI j &&& 31)) = nI (vij i j) := by rw [shl1_nI (by omega), fa_or, vij_or hij]
    have ev2 : vij i j = 2 ^ (j + 1) - 2 ^ i := by unfold vij; rw [Nat.pow_succ]; omega
    have next : ∀ (s' : Nat → Int32) (z' : Nat → UInt64) (cnt : Int32), cnt = nI (AD1 st (vij i j)).1 → MLR m n0 f0 ms (AD1 st (vij i j)) s' z' → wp_X8_addIntervals_b20 (nI m) Q k7 (d + 1) x1 (nI i) (nI (vij i j)) (nI (j + 1)) cnt s' z' := by
      intro s' z' cnt ec hc'
      rw [ec]
      have t := int8_in (x1 := x1) (Q := Q) (k7 := k7) hm d (j + 1) (AD1 st (vij i j)) s' z' (by omega) (by omega) hc' kk
      rw [← ev2] at t
      exact t
    rw [ev, nI_1]
    refine brle (a := 20) (by decide) (by have := hst.2.1; omega) (fun g => ?_) (fun g => place_sp hst.2.1 ?_)
    · have e : AD1 st (vij i j) = st := by unfold AD1; rw [if_neg (by omega)]
      exact next s z _ (by rw [e]) (by rw [e]; exact hc)
    · have hfn := fnd_iff (v := vij i j) hst.2.1 hc.2.1 (fun k hk => Nat.lt_trans (hst.2.2.1.lt hm hk) (by decide)) (by omega)
      refine bn_c (fun q => ?_) (fun q => ?_)
      · have e : AD1 st (vij i j) = st := by unfold AD1; rw [if_neg (fun w => q (hfn.mpr w.2))]
        exact next s z _ (by rw [e]) (by rw [e]; exact hc)
      · obtain ⟨e, hc'⟩ := hc.add hv g (hfn.mp q)
        refine comes_sp g ?_
        exact next _ _ _ (by rw [e]) hc'
theorem int8_out {m n0 : Nat} {f0 : Nat → Nat} {ms : Nat → UInt64} {Q : Int32 → Int32 → (Nat → Int32) → (Nat → UInt64) → Prop} (hm : m ≤ 8) :
    ∀ (d i : Nat) (st : ST2) (s : Nat → Int32) (z : Nat → UInt64), i + d = m → MLR m n0 f0 ms st s z → (∀ (s' : Nat → Int32) (z' : Nat → UInt64), MLR m n0 f0 ms (ADO m d i st) s' z' → Q (nI (ADO m d i st).1 - nI n0) (nI (ADO m d i st).1) s' z') → wp_X8_addIntervals_b7 (nI m) Q (d + 1) (nI n0) (nI i) (nI st.1) s z
  | 0, i, st, s, z, hi, hc, kk => br_t (nI_le (by omega) (by omega)) (kk s z hc)
  | d + 1, i, st, s, z, hi, hc, kk => by
    refine br_f (nI_ge (by omega) (by omega)) ⟨(m - i) + 1, ?_⟩
    have h := int8_in (x1 := nI n0) (Q := Q) (k7 := fun x1 x2 m_many m_concept m_score => wp_X8_addIntervals_b7 (nI m) Q (d + 1) x1 x2 m_many m_concept m_score) hm (m - i) i st s z (by omega) (Nat.le_refl i) hc (fun s' z' hc' => int8_out hm d (i + 1) _ s' z' (by omega) hc' kk)
    rw [Nat.sub_self] at h
    exact h

set_option maxHeartbeats 2000000 in
theorem pu_addIntervals : PU_addIntervals INV := by
  intro N S M  hN hI
  have hkeep := hI.keep
  obtain ⟨⟨points, count, ed, sets, scores, rated, hold⟩, ⟨scnt, codes⟩, D, X, saved, stand, ⟨height, largest, ped, layers, psets⟩, seen, depths, K⟩ := S
  obtain ⟨mm, many, mex, has, sm, smany, sex, bys, mc, ms, mpt, mlb, ty, ln, wh, tw, sc8, ss8, sp8, sl8, lay8, pl8⟩ := M
  obtain ⟨m, n, f, e, pt, lb, hc, hs, hp, hx, ht, hk, hsh⟩ := INV_mk.mp hI
  obtain ⟨⟨hm1, hm8, hn20⟩, rfl, rfl, hS, hB, hDs, hH, rfl, rfl, hM⟩ := hc
  have hf31 : ∀ k, k < n → f k < 2 ^ 31 := fun k hk => Nat.lt_trans (hB.lt hm8 hk) (by decide)
  dsimp only
  have st0 : STK m n f (n, f) := ⟨Nat.le_refl n, hn20, hB, hDs, fun _ => rfl⟩
  refine ⟨m + 1, int7_out (n0 := n) (f0 := f) (rated := rated) (scores := scores) (ed0 := ed) hm8 m 0 (n, f) ed sets scores rated hold (by omega) ⟨st0, hS, hH, fun k hk => ⟨rfl, rfl⟩, fun k h1 h2 => absurd h2 (by dsimp only; omega), ?_⟩ (fun ed' s' c' r' h' hc => ?_)⟩
  · dsimp only
    rw [Nat.sub_self]
    exact (Int32.add_zero ed).symm
  refine ⟨m + 1, int8_out (n0 := n) (f0 := f) (ms := ms) hm8 m 0 (n, f) mc ms (by omega) ⟨st0, hM, fun k hk => rfl, fun k h1 h2 => absurd h2 (by dsimp only; omega)⟩ (fun s8 z8 h8 => ⟨rfl, ?_⟩)⟩
  generalize ADO m m 0 (n, f) = st at hc h8 ⊢
  obtain ⟨n2, f2⟩ := st
  obtain ⟨⟨k1, k2, k3, k4, k5⟩, g1, g2, g3, g4, g5⟩ := hc
  obtain ⟨-, q1, q2, q3⟩ := h8
  dsimp only at k1 k2 k3 k4 k5 g1 g2 g4 g5 q1 q3
  refine INV_mk.mpr ⟨m, n2, f2, e, pt, lb, ⟨⟨hm1, hm8, k2⟩, rfl, rfl, g1, k3, k4, g2, rfl, rfl, q1⟩, fun j hj => ?_, ?_, hx, ht, hk, hsh⟩
  · rcases Nat.lt_or_ge j n with w | w
    · rw [(g3 j w).1, (g3 j w).2, q2 j w]; exact hs j w
    · exact Or.inr ⟨g4 j w hj, q3 j w hj⟩
  · rcases Nat.lt_or_ge n n2 with w | w
    · exact hp.new (n2 - n) (by omega) (by omega) g5
    · have e1 : n2 = n := by omega
      subst e1
      rw [k5 rfl]
      rw [Nat.sub_self] at g5
      have e2 : ed' = ed := by rw [g5]; exact Int32.add_zero ed
      rw [e2]
      exact hp.up

/-! closed under intersection -/
def ICl (n : Nat) (g : Nat → Int32) : Prop := ∀ a, a < n → ∀ b, b < a → FND g (g a &&& g b) n 0 ≠ -6
theorem ic7_in {n a : Nat} {g : Nat → Int32} {Q : Int32 → Prop} {k2 : Int32 → Prop} (hn : n ≤ 20) (ha : a < n) (hk : (∀ b, b < a → FND g (g a &&& g b) n 0 ≠ -6) → k2 (nI (a + 1))) (hf : ¬ ICl n g → Q 0) : ∀ (d b : Nat), b + d = a → (∀ b', b' < b → FND g (g a &&& g b') n 0 ≠ -6) → wp_X7_isIntersectionClosed_b15 (nI n) g Q k2 (d + 1) (nI a) (nI b)
  | 0, b, hb, h => by
    refine br_t (nI_le (by omega) (by omega)) ?_
    rw [nI_1]
    exact hk (fun b' hb' => h b' (by omega))
  | d + 1, b, hb, h => by
    refine br_f (nI_ge (by omega) (by omega)) ⟨in_nI (by omega) (by decide), in_nI (by omega) (by decide), ?_⟩
    rw [cl_nI (by omega), cl_nI (by omega), nI_1]
    refine find_sp hn (bn_c (fun q => ?_) (fun q => ?_))
    · refine ic7_in hn ha hk hf d (b + 1) (by omega) (fun b' hb' => ?_)
      rcases Nat.lt_or_ge b' b with w | w
      · exact h b' w
      · rw [show b' = b by omega]; exact q
    · exact hf (fun w => w a ha b (by omega) q)
theorem ic7_out {n : Nat} {g : Nat → Int32} {Q : Int32 → Prop} (hn : n ≤ 20) (ht : ICl n g → Q 1) (hf : ¬ ICl n g → Q 0) : ∀ (d a : Nat), a + d = n → (∀ a', a' < a → ∀ b, b < a' → FND g (g a' &&& g b) n 0 ≠ -6) → wp_X7_isIntersectionClosed_b2 (nI n) g Q (d + 1) (nI a)
  | 0, a, ha, h => br_t (nI_le (by omega) (by omega)) (ht (fun a' ha' => h a' (by omega)))
  | d + 1, a, ha, h => by
    refine br_f (nI_ge (by omega) (by omega)) ⟨a + 1, ic7_in hn (by omega) (fun w => ?_) hf a 0 (by omega) (fun b' hb' => absurd hb' (by omega))⟩
    refine ic7_out hn ht hf d (a + 1) (by omega) (fun a' ha' => ?_)
    rcases Nat.lt_or_ge a' a with v | v
    · exact h a' v
    · rw [show a' = a by omega]; exact w
theorem ic8_in {n a : Nat} {g : Nat → Int32} {C : Prop} {Q : Int32 → Prop} {k4 : Int32 → Int32 → Prop} (hn : n ≤ 20) (ha : a < n) (hk : C → (∀ b, b < a → FND g (g a &&& g b) n 0 ≠ -6) → k4 1 (nI (a + 1))) (hk0 : ¬ ICl n g → k4 0 (nI (a + 1))) : ∀ (d b : Nat) (x : Int32), b + d = a → ((x = 1 ∧ C ∧ ∀ b', b' < b → FND g (g a &&& g b') n 0 ≠ -6) ∨ (x = 0 ∧ ¬ ICl n g)) → wp_X8_isIntersectionClosed_b14 (nI n) g Q k4 (d + 1) x (nI a) (nI b)
  | 0, b, x, hb, h => by
    refine br_t (nI_le (by omega) (by omega)) ?_
    rw [nI_1]
    rcases h with ⟨rfl, hC, h⟩ | ⟨rfl, h⟩
    · exact hk hC (fun b' hb' => h b' (by omega))
    · exact hk0 h
  | d + 1, b, x, hb, h => by
    refine br_f (nI_ge (by omega) (by omega)) ?_
    rw [nI_1]
    rcases h with ⟨rfl, hC, h⟩ | ⟨rfl, h⟩
    · refine br_f (by decide) ⟨in_nI (by omega) (by decide), in_nI (by omega) (by decide), ?_⟩
      rw [cl_nI (by omega), cl_nI (by omega)]
      refine place_sp hn (br_c (fun q => ?_) (fun q => ?_))
      · exact ic8_in hn ha hk hk0 d (b + 1) 0 (by omega) (Or.inr ⟨rfl, fun w => w a ha b (by omega) q⟩)
      · refine ic8_in hn ha hk hk0 d (b + 1) 1 (by omega) (Or.inl ⟨rfl, hC, fun b' hb' => ?_⟩)
        rcases Nat.lt_or_ge b' b with w | w
        · exact h b' w
        · rw [show b' = b by omega]; exact q
    · exact br_t rfl (ic8_in hn ha hk hk0 d (b + 1) 0 (by omega) (Or.inr ⟨rfl, h⟩))
theorem ic8_out {n : Nat} {g : Nat → Int32} {Q : Int32 → Prop} (hn : n ≤ 20) (ht : ICl n g → Q 1) (hf : ¬ ICl n g → Q 0) : ∀ (d a : Nat) (x : Int32), a + d = n → ((x = 1 ∧ ∀ a', a' < a → ∀ b, b < a' → FND g (g a' &&& g b) n 0 ≠ -6) ∨ (x = 0 ∧ ¬ ICl n g)) → wp_X8_isIntersectionClosed_b4 (nI n) g Q (d + 1) x (nI a)
  | 0, a, x, ha, h => by
    refine br_t (nI_le (by omega) (by omega)) ?_
    rcases h with ⟨rfl, h⟩ | ⟨rfl, h⟩
    · exact br_f (by decide) (ht (fun a' ha' => h a' (by omega)))
    · exact br_t rfl (hf h)
  | d + 1, a, x, ha, h => by
    refine br_f (nI_ge (by omega) (by omega)) ⟨a + 1, ?_⟩
    rcases h with ⟨rfl, h⟩ | ⟨rfl, h⟩
    · refine ic8_in (C := True) hn (by omega) (fun _ w => ?_) (fun w => ?_) a 0 1 (by omega) (Or.inl ⟨rfl, trivial, fun b' hb' => absurd hb' (by omega)⟩)
      · refine ic8_out hn ht hf d (a + 1) 1 (by omega) (Or.inl ⟨rfl, fun a' ha' => ?_⟩)
        rcases Nat.lt_or_ge a' a with v | v
        · exact h a' v
        · rw [show a' = a by omega]; exact w
      · exact ic8_out hn ht hf d (a + 1) 0 (by omega) (Or.inr ⟨rfl, w⟩)
    · exact ic8_in (C := False) hn (by omega) (fun q _ => q.elim) (fun w => ic8_out hn ht hf d (a + 1) 0 (by omega) (Or.inr ⟨rfl, w⟩)) a 0 0 (by omega) (Or.inr ⟨rfl, h⟩)
theorem ICl_cong {n : Nat} {g g2 : Nat → Int32} (h : ∀ k, k < n → g k = g2 k) (hc : ICl n g) : ICl n g2 := by
  intro a ha b hb
  rw [← h a ha, ← h b (by omega), ← FND_cong (g := g) (fun j _ hj => h j (by omega))]
  exact hc a ha b hb

set_option maxHeartbeats 2000000 in
theorem pu_isIntersectionClosed : PU_isIntersectionClosed INV := by
  intro N S M  hN hI
  have hkeep := hI.keep
  obtain ⟨⟨points, count, ed, sets, scores, rated, hold⟩, ⟨scnt, codes⟩, D, X, saved, stand, ⟨height, largest, ped, layers, psets⟩, seen, depths, K⟩ := S
  obtain ⟨mm, many, mex, has, sm, smany, sex, bys, mc, ms, mpt, mlb, ty, ln, wh, tw, sc8, ss8, sp8, sl8, lay8, pl8⟩ := M
  obtain ⟨m, n, f, e, pt, lb, hc, hs, hp, hx, ht, hk, hsh⟩ := INV_mk.mp hI
  obtain ⟨⟨hm1, hm8, hn20⟩, rfl, rfl, hS, hB, hDs, hH, rfl, rfl, hM⟩ := hc
  have hf31 : ∀ k, k < n → f k < 2 ^ 31 := fun k hk => Nat.lt_trans (hB.lt hm8 hk) (by decide)
  dsimp only
  have hSM : ∀ k, k < n → sets k = mc k := fun k hk => by rw [hS k hk, hM k hk]
  have hMS : ∀ k, k < n → mc k = sets k := fun k hk => (hSM k hk).symm
  refine ⟨n + 1, ic7_out hn20 (fun w => ?_) (fun w => ?_) n 0 (by omega) (fun a' ha' => absurd ha' (by omega))⟩
  · exact ⟨n + 1, ic8_out hn20 (fun _ => ⟨rfl, hkeep⟩) (fun w2 => absurd (ICl_cong hSM w) w2) n 0 1 (by omega) (Or.inl ⟨rfl, fun a' ha' => absurd ha' (by omega)⟩)⟩
  · exact ⟨n + 1, ic8_out hn20 (fun w2 => absurd (ICl_cong hMS w2) w) (fun _ => ⟨rfl, hkeep⟩) n 0 1 (by omega) (Or.inl ⟨rfl, fun a' ha' => absurd ha' (by omega)⟩)⟩
