/-! restriction -/
def ctb (set p : Nat) : Nat := fb_ct (fun j => set.testBit j) p
def SQ (set c : Nat) : Nat → Nat
  | 0 => 0
  | p + 1 => SQ set c p + (if set.testBit p = true ∧ c.testBit p = true then 2 ^ ctb set p else 0)
theorem SQ_succ (set c p : Nat) : SQ set c (p + 1) = SQ set c p + (if set.testBit p = true ∧ c.testBit p = true then 2 ^ ctb set p else 0) := rfl
theorem SQ_lt (set c : Nat) : ∀ p, SQ set c p < 2 ^ ctb set p
  | 0 => Nat.zero_lt_one
  | p + 1 => by
    have ih := SQ_lt set c p
    have e : ctb set (p + 1) = ctb set p + (if set.testBit p then 1 else 0) := fb_ct_succ _ _
    rw [SQ_succ, e]
    by_cases c1 : set.testBit p = true
    · rw [if_pos c1, Nat.pow_succ]
      split <;> omega
    · rw [if_neg c1, if_neg (fun q => c1 q.1)]
      exact ih
theorem ctb_le (set p : Nat) : ctb set p ≤ p := fb_ct_le _ p
theorem ctb_succ (set p : Nat) : ctb set (p + 1) = ctb set p + (if set.testBit p then 1 else 0) := fb_ct_succ _ _
theorem squeeze_loop {set c : Nat} {Q : Int32 → Prop} (hs : set < 2 ^ 31) (hc : c < 2 ^ 31) (h : Q (nI (SQ set c 8))) : ∀ (d p : Nat), p + d = 8 → wp_X0_squeeze_b7 (nI c) (nI set) Q (d + 1) (nI (SQ set c p)) (nI (ctb set p)) (nI p)
  | 0, p, hp => by
    have e : p = 8 := by omega
    subst e
    exact br_t (show nI 8 ≤ nI 8 from nI_le (by omega) (by omega)) h
  | d + 1, p, hp => by
    have hcp := ctb_le set p
    refine br_f (show ¬ nI 8 ≤ nI p from nI_ge (by omega) (by omega)) (hasBit_sp hs (by omega) (bI_br0 (fun q => ?_) (fun q => hasBit_sp hc (by omega) (bI_br0 (fun q2 => ?_) (fun q2 => ?_)))))
    · rw [nI_1]
      have t := squeeze_loop hs hc h d (p + 1) (by omega)
      rw [SQ_succ, ctb_succ, q] at t
      simpa using t
    · rw [nI_1, nI_1]
      have t := squeeze_loop hs hc h d (p + 1) (by omega)
      rw [SQ_succ, ctb_succ, q, q2] at t
      simpa using t
    · rw [nI_1, nI_1, shl1_nI (by omega), fa_or]
      have t := squeeze_loop hs hc h d (p + 1) (by omega)
      rw [SQ_succ, ctb_succ, q, q2] at t
      have e := Nat.two_pow_add_eq_or_of_lt (SQ_lt set c p) 1
      rw [Nat.mul_one] at e
      have e5 : SQ set c p ||| 2 ^ ctb set p = SQ set c p + 2 ^ ctb set p := by rw [Nat.or_comm, ← e, Nat.add_comm]
      rw [e5]
      simpa using t
theorem squeeze_sp {set c : Nat} {Q : Int32 → Prop} (hs : set < 2 ^ 31) (hc : c < 2 ^ 31) (h : Q (nI (SQ set c 8))) : wp_X0_squeeze (nI c) (nI set) Q := ⟨9, squeeze_loop hs hc h 8 0 (by omega)⟩
theorem within_loop {set c m : Nat} {Q : Int32 → Prop} (hm : m ≤ 8) (hs : set < 2 ^ 31) (hc : c < 2 ^ 31) (h : Q (nI (SQ set c m))) : ∀ (p v : Nat), p ≤ m → SQ set c m = SQ set c p + 2 ^ ctb set p * v → wp_X8_within_b10 (nI c) (nI set) (nI m) Q (p + 1) (nI v) (nI p + (-1 : Int32))
  | 0, v, hp, e => by
    refine br_t (by decide) ?_
    have e2 : SQ set c m = v := by
      have e3 : SQ set c 0 + 2 ^ ctb set 0 * v = v := by
        show 0 + 2 ^ 0 * v = v
        omega
      omega
    rw [← e2]
    exact h
  | p + 1, v, hp, e => by
    have em : nI (p + 1) + (-1 : Int32) = nI p := pk_m1 p
    unfold wp_X8_within_b10
    rw [em]
    refine br_f (nI_pos (by omega)) (has8_sp hs (by omega) (bI_br0 (fun q => ?_) (fun q => ?_)))
    · refine within_loop hm hs hc h p v (by omega) ?_
      rw [e, SQ_succ, ctb_succ, q]
      simp
    · rw [bit_nI hc (by omega), bI_nI, two_nI]
      refine within_loop hm hs hc h p _ (by omega) ?_
      rw [e, SQ_succ]
      have e4 : 2 ^ (ctb set p + 1) * v = 2 ^ ctb set p * (2 * v) := by rw [Nat.pow_succ, Nat.mul_assoc]
      rw [ctb_succ, q, if_pos rfl, e4, Nat.mul_add]
      cases c.testBit p
      · simp
      · simp only [and_self, if_true, Bool.toNat_true, Nat.mul_one]
        omega
theorem SQ_same {set c m : Nat} (hset : set < 2 ^ m) : ∀ d, SQ set c (m + d) = SQ set c m
  | 0 => rfl
  | d + 1 => by
    show SQ set c (m + d) + (if set.testBit (m + d) = true ∧ c.testBit (m + d) = true then 2 ^ ctb set (m + d) else 0) = SQ set c m
    rw [SQ_same hset d, bit_ge hset (Nat.le_add_right m d)]
    simp
theorem within_sp {set c m : Nat} {Q : Int32 → Prop} (hm : m ≤ 8) (hset : set < 2 ^ m) (hc : c < 2 ^ 31) (h : Q (nI (SQ set c 8))) : wp_X8_within (nI c) (nI set) (nI m) Q := by
  have h256 := pow8 hm
  have e := SQ_same (c := c) hset (8 - m)
  rw [show m + (8 - m) = 8 by omega] at e
  rw [e] at h
  refine ⟨m + 1, ?_⟩
  have e2 : nI m - (1 : Int32) = nI m + (-1 : Int32) := Int32.sub_eq_add_neg _ _
  rw [e2]
  exact within_loop hm (by omega) hc h m 0 (Nat.le_refl m) (by omega)
/-- what is kept: count, sets, old numbers -/
abbrev ST3 : Type := Nat × (Nat → Nat) × (Nat → Nat)
def RS1 (st : ST3) (k v : Nat) : ST3 := if ∀ i, i < st.1 → st.2.1 i ≠ v then (st.1 + 1, va_up st.2.1 st.1 v, va_up st.2.2 st.1 k) else st
def RSF (set : Nat) (f : Nat → Nat) : Nat → Nat → ST3 → ST3
  | 0, _, st => st
  | d + 1, k, st => RSF set f d (k + 1) (RS1 st k (SQ set (f k) 8))
def RSK (m' k : Nat) (st : ST3) : Prop := st.1 ≤ k ∧ BND m' st.1 st.2.1 ∧ DIS st.1 st.2.1 ∧ ∀ i, i < st.1 → st.2.2 i < k
theorem RSK.step {m' k v : Nat} {st : ST3} (h : RSK m' k st) (hv : v < 2 ^ m') : RSK m' (k + 1) (RS1 st k v) := by
  obtain ⟨h1, h2, h3, h4⟩ := h
  unfold RS1
  by_cases c : ∀ i, i < st.1 → st.2.1 i ≠ v
  · rw [if_pos c]
    refine ⟨by dsimp only; omega, h2.push hv, h3.push c, fun i hi => ?_⟩
    dsimp only at hi ⊢
    unfold va_up
    by_cases q : i = st.1
    · rw [if_pos q]; omega
    · rw [if_neg q]; have := h4 i (by omega); omega
  · rw [if_neg c]
    exact ⟨by omega, h2, h3, fun i hi => by have := h4 i hi; omega⟩
/-- a row whose kept places hold the old values of the kept numbers, and whose later places are untouched -/
def KPT {α : Type} (k : Nat) (st : ST3) (g0 g : Nat → α) : Prop := (∀ i, i < st.1 → g i = g0 (st.2.2 i)) ∧ ∀ j, k ≤ j → g j = g0 j
theorem KPT.skip {α : Type} {k : Nat} {st : ST3} {g0 g : Nat → α} (h : KPT k st g0 g) : KPT (k + 1) st g0 g := ⟨h.1, fun j hj => h.2 j (by omega)⟩
theorem KPT.put {α : Type} {k v : Nat} {st : ST3} {g0 g g2 : Nat → α} (h : KPT k st g0 g) (hk : st.1 ≤ k) (h2 : ∀ j, g2 j = if j = st.1 then g k else g j) : KPT (k + 1) (st.1 + 1, va_up st.2.1 st.1 v, va_up st.2.2 st.1 k) g0 g2 := by
  refine ⟨fun i hi => ?_, fun j hj => ?_⟩
  · dsimp only at hi ⊢
    rw [h2 i]
    unfold va_up
    by_cases q : i = st.1
    · rw [if_pos q, if_pos q]; exact h.2 k (Nat.le_refl k)
    · rw [if_neg q, if_neg q]; exact h.1 i (by omega)
  · rw [h2 j, if_neg (by omega)]; exact h.2 j (by omega)
theorem nar7_loop {n set : Nat} {f : Nat → Nat} {ed pts : Int32} {s0 r0 hold : Nat → Int32} {c0 : Nat → UInt64} {Q : Int32 → Int32 → Int32 → (Nat → Int32) → (Nat → UInt64) → (Nat → Int32) → (Nat → Int32) → Prop} (hn : n ≤ 20) (hset : set < 256) (hS : SOK n f s0) (hf : ∀ k, k < n → f k < 2 ^ 31) (hr : ∀ k, k < n → vp_nar .boolean (r0 k) = r0 k)
    (h : ∀ (st : ST3) (s : Nat → Int32) (c : Nat → UInt64) (r h' : Nat → Int32), st = RSF set f n 0 (0, fun _ => 0, fun _ => 0) → RSK (bc set) n st → SOK st.1 st.2.1 s → KPT n st c0 c → KPT n st r0 r → HOK (bc set) st.1 st.2.1 h' → Q (nI (bc set)) (nI st.1) (ed + 1) s c r h') :
    ∀ (d k : Nat) (st : ST3) (s : Nat → Int32) (c : Nat → UInt64) (r : Nat → Int32), k + d = n → RSF set f d k st = RSF set f n 0 (0, fun _ => 0, fun _ => 0) → RSK (bc set) k st → SOK st.1 st.2.1 s → (∀ j, k ≤ j → s j = s0 j) → KPT k st c0 c → KPT k st r0 r → wp_X0_narrow_b12 (nI set) Q (d + 1) (nI n) (nI k) pts (nI st.1) ed s c r hold
  | 0, k, st, s, c, r, hk, hst, h1, h2, h3, h4, h5 => by
    have e : k = n := by omega
    subst e
    have hb8 : bc set ≤ 8 := by
      have := bc_of (x := set) (n := 8) hset (by decide)
      rw [this]
      exact fb_ct_le _ 8
    refine br_t (nI_le (by omega) (by omega)) (bitCount_sp (by omega) ?_)
    exact reindex_sp hb8 (by have := h1.1; omega) h2 (fun j hj => Nat.lt_trans (h1.2.1.lt hb8 hj) (by decide)) (fun h' e' => h st s c r h' hst h1 h2 h4 h5 e')
  | d + 1, k, st, s, c, r, hk, hst, h1, h2, h3, h4, h5 => by
    have hb8 : bc set = ctb set 8 := bc_of (x := set) (n := 8) hset (by decide)
    have hb8' : bc set ≤ 8 := by rw [hb8]; exact ctb_le _ _
    have hv : SQ set (f k) 8 < 2 ^ bc set := by rw [hb8]; exact SQ_lt _ _ _
    have h256 := pow8 hb8'
    have hk1 := h1.1
    refine br_f (nI_ge (by omega) (by omega)) ⟨in_nI (by omega) (by decide), ?_⟩
    rw [cl_nI (by omega), h3 k (Nat.le_refl k), hS k (by omega)]
    refine squeeze_sp (by omega) (hf k (by omega)) (find_sp (by omega) ?_)
    have hfn := fnd_iff (v := SQ set (f k) 8) (by omega) h2 (fun j hj => Nat.lt_trans (h1.2.1.lt hb8' hj) (by decide)) (by omega)
    rw [nI_1]
    have hst' : RSF set f d (k + 1) (RS1 st k (SQ set (f k) 8)) = RSF set f n 0 (0, fun _ => 0, fun _ => 0) := hst
    have hstep := h1.step (v := SQ set (f k) 8) hv
    refine bn_c (fun q => ?_) (fun q => ?_)
    · have e : RS1 st k (SQ set (f k) 8) = st := by unfold RS1; rw [if_neg (fun w => q (hfn.mpr w))]
      rw [e] at hst' hstep
      exact nar7_loop hn hset hS hf hr h d (k + 1) st s c r (by omega) hst' hstep h2 (fun j hj => h3 j (by omega)) h4.skip h5.skip
    · have e : RS1 st k (SQ set (f k) 8) = (st.1 + 1, va_up st.2.1 st.1 (SQ set (f k) 8), va_up st.2.2 st.1 k) := by unfold RS1; rw [if_pos (hfn.mp q)]
      rw [e] at hst' hstep
      refine move_sp (by omega) (by omega) (by rw [h5.2 k (Nat.le_refl k)]; exact hr k (by omega)) ?_
      rw [nI_1]
      refine nar7_loop hn hset hS hf hr h d (k + 1) (st.1 + 1, va_up st.2.1 st.1 (SQ set (f k) 8), va_up st.2.2 st.1 k) _ _ _ (by omega) hst' hstep h2.push (fun j hj => ?_) (h4.put hk1 (fun j => rfl)) (h5.put hk1 (fun j => rfl))
      unfold upd
      rw [if_neg (by omega)]
      exact h3 j (by omega)
theorem res8_loop {m n set : Nat} {f : Nat → Nat} {mex : Int32} {s0 : Nat → Int32} {z0 : Nat → UInt64} {Q : Int32 → Int32 → Int32 → Int32 → (Nat → Int32) → (Nat → UInt64) → Prop} (hm : m ≤ 8) (hn : n ≤ 20) (hset : set < 2 ^ m) (hS : SOK n f s0) (hf : ∀ k, k < n → f k < 2 ^ 31)
    (h : ∀ (st : ST3) (s : Nat → Int32) (z : Nat → UInt64), st = RSF set f n 0 (0, fun _ => 0, fun _ => 0) → SOK st.1 st.2.1 s → KPT n st z0 z → Q (nI st.1) (nI (bc set)) (nI st.1) 0 s z) :
    ∀ (d k : Nat) (st : ST3) (s : Nat → Int32) (z : Nat → UInt64), k + d = n → RSF set f d k st = RSF set f n 0 (0, fun _ => 0, fun _ => 0) → RSK (bc set) k st → SOK st.1 st.2.1 s → (∀ j, k ≤ j → s j = s0 j) → KPT k st z0 z → wp_X8_restrict_b26 (nI set) Q (d + 1) (nI n) (nI k) (nI m) (nI st.1) mex s z
  | 0, k, st, s, z, hk, hst, h1, h2, h3, h4 => by
    have e : k = n := by omega
    subst e
    have h256 := pow8 hm
    exact br_t (nI_le (by omega) (by omega)) (sizeOf_sp (by omega) (h st s z hst h2 h4))
  | d + 1, k, st, s, z, hk, hst, h1, h2, h3, h4 => by
    have h2m := pow8 hm
    have hb8 : bc set = ctb set 8 := bc_of (x := set) (n := 8) (Nat.lt_of_lt_of_le hset h2m) (by decide)
    have hb8' : bc set ≤ 8 := by rw [hb8]; exact ctb_le _ _
    have hv : SQ set (f k) 8 < 2 ^ bc set := by rw [hb8]; exact SQ_lt _ _ _
    have h256 := pow8 hb8'
    have hk1 := h1.1
    refine br_f (nI_ge (by omega) (by omega)) ⟨in_nI (by omega) (by decide), ?_⟩
    rw [cl_nI (by omega), h3 k (Nat.le_refl k), hS k (by omega)]
    refine within_sp hm hset (hf k (by omega)) (place_sp (by omega) ?_)
    have hfn := fnd_iff (v := SQ set (f k) 8) (by omega) h2 (fun j hj => Nat.lt_trans (h1.2.1.lt hb8' hj) (by decide)) (by omega)
    rw [nI_1]
    have hst' : RSF set f d (k + 1) (RS1 st k (SQ set (f k) 8)) = RSF set f n 0 (0, fun _ => 0, fun _ => 0) := hst
    have hstep := h1.step (v := SQ set (f k) 8) hv
    refine bn_c (fun q => ?_) (fun q => ?_)
    · have e : RS1 st k (SQ set (f k) 8) = st := by unfold RS1; rw [if_neg (fun w => q (hfn.mpr w))]
      rw [e] at hst' hstep
      exact res8_loop hm hn hset hS hf h d (k + 1) st s z (by omega) hst' hstep h2 (fun j hj => h3 j (by omega)) h4.skip
    · have e : RS1 st k (SQ set (f k) 8) = (st.1 + 1, va_up st.2.1 st.1 (SQ set (f k) 8), va_up st.2.2 st.1 k) := by unfold RS1; rw [if_pos (hfn.mp q)]
      rw [e] at hst' hstep
      rw [cl_nI (by omega), nI_1]
      have i : vp_in (nI st.1) 20 := in_nI (by omega) (by decide)
      have i2 : vp_in (nI k) 20 := in_nI (by omega) (by decide)
      refine ⟨i, i2, i, res8_loop hm hn hset hS hf h d (k + 1) (st.1 + 1, va_up st.2.1 st.1 (SQ set (f k) 8), va_up st.2.2 st.1 k) _ _ (by omega) hst' hstep h2.push (fun j hj => ?_) (h4.put hk1 (fun j => rfl))⟩
      unfold upd
      rw [if_neg (by omega)]
      exact h3 j (by omega)
theorem RSK0 (m' : Nat) : RSK m' 0 (0, fun _ => 0, fun _ => 0) := ⟨Nat.le_refl 0, fun k hk => absurd hk (Nat.not_lt_zero k), fun i j hi => absurd hi (Nat.not_lt_zero i), fun i hi => absurd hi (Nat.not_lt_zero i)⟩
theorem KPT0 {α : Type} (g : Nat → α) : KPT 0 (0, fun _ => 0, fun _ => 0) g g := ⟨fun i hi => absurd hi (Nat.not_lt_zero i), fun _ _ => rfl⟩
theorem bc_pos {m set : Nat} (hm : m ≤ 8) (h : set < 2 ^ m) (h0 : set ≠ 0) : 1 ≤ bc set ∧ bc set ≤ m := by
  rw [bc_of h (by omega)]
  refine ⟨?_, fb_ct_le _ m⟩
  rcases Nat.eq_zero_or_pos (fb_ct (fun k => set.testBit k) m) with e | e
  · exfalso
    apply h0
    apply eq_of_bits
    intro i
    rw [Nat.zero_testBit]
    by_cases q : i < m
    · exact fb_ct_zero.mp e i q
    · exact bit_ge h (by omega)
  · exact e

set_option maxHeartbeats 2000000 in
theorem pu_restrict : PU_restrict INV := by
  intro N S M a1 hN hI
  have hkeep := hI.keep
  obtain ⟨⟨points, count, ed, sets, scores, rated, hold⟩, ⟨scnt, codes⟩, D, X, saved, stand, ⟨height, largest, ped, layers, psets⟩, seen, depths, K⟩ := S
  obtain ⟨mm, many, mex, has, sm, smany, sex, bys, mc, ms, mpt, mlb, ty, ln, wh, tw, sc8, ss8, sp8, sl8, lay8, pl8⟩ := M
  obtain ⟨m, n, f, e, pt, lb, hc, hs, hp, hx, ht, hk, hsh⟩ := INV_mk.mp hI
  obtain ⟨⟨hm1, hm8, hn20⟩, rfl, rfl, hS, hB, hDs, hH, rfl, rfl, hM⟩ := hc
  have hf31 : ∀ k, k < n → f k < 2 ^ 31 := fun k hk => Nat.lt_trans (hB.lt hm8 hk) (by decide)
  dsimp only
  have h256 := pow8 hm8
  have bad8 : (inr a1 (2 ^ m) = false ∨ a1 = 0) → wp_X8_restrict a1 (nI m) (nI n) mex mc ms (fun (r8 nm_m nm_many nm_examples : Int32) (nm_concept : Nat → Int32) (nm_score : Nat → UInt64) => (-1 : Int32) = r8 ∧ INV (N + 1) ((nI m, nI n, ed, sets, scores, rated, hold), (scnt, codes), D, X, saved, stand, (height, largest, ped, layers, psets), seen, depths, K) (nm_m, nm_many, nm_examples, has, sm, smany, sex, bys, nm_concept, nm_score, mpt, mlb, ty, ln, wh, tw, sc8, ss8, sp8, sl8, lay8, pl8)) := by
    intro hb
    refine isSet8_sp hm8 ?_
    cases hi : inr a1 (2 ^ m)
    · exact br_t rfl ⟨rfl, hkeep⟩
    · refine br_f (by decide) (bn_t ?_ ⟨rfl, hkeep⟩)
      rcases hb with hb | hb
      · rw [hb] at hi; cases hi
      · exact hb
  refine br_c (fun h0 => bad8 (Or.inr h0)) (fun h0 => isSet_sp hm8 ?_)
  rcases inr_cases a1 (2 ^ m) (by omega) with h | ⟨s, hsm, rfl, h⟩
  · rw [h]
    exact bn_t rfl (bad8 (Or.inl h))
  have hs0 : s ≠ 0 := fun q => h0 (by rw [q]; rfl)
  have hbc := bc_pos hm8 hsm hs0
  rw [h]
  refine bn_f (by decide) ⟨n + 1, nar7_loop (f := f) hn20 (by omega) hS hf31 (fun k hk => (hs k hk).nar) (fun st s' c' r' h' est hK1 g1 g2 g3 g4 => ?_) n 0 (0, fun _ => 0, fun _ => 0) sets scores rated (by omega) rfl (RSK0 _) (fun k hk => absurd hk (Nat.not_lt_zero k)) (fun j _ => rfl) (KPT0 _) (KPT0 _)⟩
  unfold wp_X3_forget
  refine isSet8_sp hm8 ?_
  rw [h]
  refine br_f (by decide) (bn_f h0 ⟨n + 1, res8_loop (f := f) hm8 hn20 hsm hM hf31 (fun st2 s8 z8 est2 q1 q2 => ?_) n 0 (0, fun _ => 0, fun _ => 0) mc ms (by omega) rfl (RSK0 _) (fun k hk => absurd hk (Nat.not_lt_zero k)) (fun j _ => rfl) (KPT0 _)⟩)
  have e2 : st2 = st := by rw [est, est2]
  subst e2
  refine ⟨rfl, ?_⟩
  obtain ⟨w1, w2, w3, w4⟩ := hK1
  refine INV_mk.mpr ⟨bc s, st2.1, st2.2.1, 0, pt, lb, ⟨⟨hbc.1, by omega, by omega⟩, rfl, rfl, g1, w2, w3, g4, rfl, rfl, q1⟩, fun k hk => ?_, hp.new 1 (by decide) (by decide) rfl, I_smp.none, ht, hk, hsh⟩
  rw [g2.1 k hk, g3.1 k hk, q2.1 k hk]
  exact hs _ (w4 k hk)
