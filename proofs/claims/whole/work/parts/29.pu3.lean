theorem bI_nI (b : Bool) : bI b = nI b.toNat := by cases b <;> rfl
theorem labelOf_sp {k p : Nat} {v : Nat} {sets : Nat → Int32} {Q : Int32 → Prop} (hk : k < 20) (hs : sets k = nI v) (hv : v < 2 ^ 31) (hp : p < 32) (h : Q (bI (v.testBit p))) : wp_X0_labelOf (nI k) (nI p) sets Q := by
  unfold wp_X0_labelOf
  rw [cl_nI (by omega), hs]
  refine ⟨in_nI hk (by decide), hasBit_sp hv hp (bI_br0 (fun e => ?_) (fun e => ?_))⟩
  · rw [e] at h; exact h
  · rw [e] at h; exact h
/-- examples appended for the points of a set -/
def AE (set v : Nat) : Nat → Nat → (Nat × (Nat → Nat) × (Nat → Nat)) → (Nat × (Nat → Nat) × (Nat → Nat))
  | 0, _, st => st
  | d + 1, p, st => AE set v d (p + 1) (if set.testBit p = true then (st.1 + 1, va_up st.2.1 st.1 p, va_up st.2.2 st.1 (v.testBit p).toNat) else st)
theorem ct_shift (P : Nat → Bool) (p d : Nat) : fb_ct (fun j => P (p + j)) (d + 1) = (if P p then 1 else 0) + fb_ct (fun j => P (p + 1 + j)) d := by
  have h := fb_ct_split (fun j => P (p + j)) 1 d
  rw [Nat.add_comm 1 d] at h
  rw [h]
  congr 1
  · show 0 + _ = _
    rw [Nat.zero_add]
    rfl
  · exact fb_ct_cong (fun k _ => by rw [Nat.add_assoc p 1 k])
theorem AE_ok {m set v : Nat} : ∀ (d p : Nat) (st : Nat × (Nat → Nat) × (Nat → Nat)), p + d ≤ m → (∀ k, k < st.1 → st.2.1 k < m ∧ st.2.2 k < 2) → ∀ k, k < (AE set v d p st).1 → (AE set v d p st).2.1 k < m ∧ (AE set v d p st).2.2 k < 2
  | 0, _, _, _, h => h
  | d + 1, p, st, hp, h => by
    unfold AE
    refine AE_ok d (p + 1) _ (by omega) ?_
    by_cases c : set.testBit p = true
    · rw [if_pos c]
      intro k hk
      dsimp only at hk ⊢
      unfold va_up
      by_cases q : k = st.1
      · rw [if_pos q, if_pos q]
        exact ⟨by omega, by cases v.testBit p <;> decide⟩
      · rw [if_neg q, if_neg q]; exact h k (by omega)
    · rw [if_neg c]; exact h
theorem AE_le {set v : Nat} : ∀ (d p : Nat) (st : Nat × (Nat → Nat) × (Nat → Nat)), (AE set v d p st).1 = st.1 + fb_ct (fun j => set.testBit (p + j)) d
  | 0, _, _ => rfl
  | d + 1, p, st => by
    unfold AE
    rw [AE_le d (p + 1), ct_shift]
    by_cases c : set.testBit p = true
    · rw [if_pos c, if_pos c]; dsimp only; omega
    · rw [if_neg c, if_neg c]; omega
def CX (st : Nat × (Nat → Nat) × (Nat → Nat)) (codes : Nat → Int32) : Prop := ∀ k, k < st.1 → codes k = nI (2 * st.2.1 k + st.2.2 k)
def MX (st : Nat × (Nat → Nat) × (Nat → Nat)) (mpt mlb : Nat → Int32) : Prop := ∀ k, k < st.1 → mpt k = nI (st.2.1 k) ∧ mlb k = nI (st.2.2 k)
theorem addEx7 {m n k set v : Nat} {sets : Nat → Int32} {Q : Int32 → Int32 → (Nat → Int32) → Prop} (hm : m ≤ 8) (hk : k < 20) (hs : sets k = nI v) (hv : v < 2 ^ 31) (hset : set < 2 ^ 31) : ∀ (d p : Nat) (st : Nat × (Nat → Nat) × (Nat → Nat)) (codes : Nat → Int32), p + d = m → st.1 + fb_ct (fun j => set.testBit (p + j)) d ≤ 12 → CX st codes → (∀ c' : Nat → Int32, CX (AE set v d p st) c' → Q (nI (AE set v d p st).1) (nI (AE set v d p st).1) c') → wp_X7_addExamples_b46 (nI k) (nI set) (nI m) (nI n) sets Q (d + 1) (nI p) (nI st.1) codes
  | 0, p, st, codes, hp, hb, hc, h => br_t (nI_le (by omega) (by omega)) (h codes hc)
  | d + 1, p, st, codes, hp, hb, hc, h => by
    refine br_f (nI_ge (by omega) (by omega)) (hasBit_sp hset (by omega) ?_)
    rw [ct_shift] at hb
    unfold AE at h
    refine bI_br0 (fun c => ?_) (fun c => ?_)
    · rw [nI_1]
      rw [c] at hb h
      exact addEx7 hm hk hs hv hset d (p + 1) st codes (by omega) (by simpa using hb) hc h
    · rw [c] at hb h
      simp only [if_true] at hb h
      refine labelOf_sp hk hs hv (by omega) ?_
      rw [bI_nI]
      refine append_sp (by omega) ?_
      rw [nI_1]
      refine addEx7 hm hk hs hv hset d (p + 1) (st.1 + 1, va_up st.2.1 st.1 p, va_up st.2.2 st.1 (v.testBit p).toNat) _ (by omega) (by dsimp only; omega) (fun j hj => ?_) h
      unfold upd va_up
      dsimp only at hj ⊢
      by_cases q : j = st.1
      · rw [if_pos q, if_pos q, if_pos q]
      · rw [if_neg q, if_neg q, if_neg q]; exact hc j (by omega)
theorem addEx8 {m n k set v : Nat} {mc : Nat → Int32} {Q : Int32 → Int32 → (Nat → Int32) → (Nat → Int32) → Prop} (hm : m ≤ 8) (hk : k < 20) (hs : mc k = nI v) (hv : v < 2 ^ 31) (hset : set < 2 ^ 31) : ∀ (d p : Nat) (st : Nat × (Nat → Nat) × (Nat → Nat)) (mpt mlb : Nat → Int32), p + d = m → st.1 + fb_ct (fun j => set.testBit (p + j)) d ≤ 12 → MX st mpt mlb → (∀ a b : Nat → Int32, MX (AE set v d p st) a b → Q (nI (AE set v d p st).1) (nI (AE set v d p st).1) a b) → wp_X8_addExamples_b40 (nI k) (nI set) (nI m) (nI n) mc Q (d + 1) (nI p) (nI st.1) mpt mlb
  | 0, p, st, mpt, mlb, hp, hb, hc, h => br_t (nI_le (by omega) (by omega)) (h mpt mlb hc)
  | d + 1, p, st, mpt, mlb, hp, hb, hc, h => by
    refine br_f (nI_ge (by omega) (by omega)) (has8_sp hset (by omega) ?_)
    rw [ct_shift] at hb
    unfold AE at h
    refine bI_br0 (fun c => ?_) (fun c => ?_)
    · rw [nI_1]
      rw [c] at hb h
      exact addEx8 hm hk hs hv hset d (p + 1) st mpt mlb (by omega) (by simpa using hb) hc h
    · rw [c] at hb h
      simp only [if_true] at hb h
      refine ⟨in_nI hk (by decide), ?_⟩
      rw [cl_nI (by omega), hs, bit_nI hv (by omega), bI_nI]
      refine shown_sp (by omega) ?_
      rw [nI_1]
      refine addEx8 hm hk hs hv hset d (p + 1) (st.1 + 1, va_up st.2.1 st.1 p, va_up st.2.2 st.1 (v.testBit p).toNat) _ _ (by omega) (by dsimp only; omega) (fun j hj => ?_) h
      unfold upd va_up
      dsimp only at hj ⊢
      by_cases q : j = st.1
      · rw [if_pos q, if_pos q, if_pos q, if_pos q]; exact ⟨rfl, rfl⟩
      · rw [if_neg q, if_neg q, if_neg q, if_neg q]; exact hc j (by omega)

set_option maxHeartbeats 2000000 in
theorem pu_addExamples : PU_addExamples INV := by
  intro N S M a1 a2 hN hI
  have hkeep := hI.keep
  obtain ⟨⟨points, count, ed, sets, scores, rated, hold⟩, ⟨scnt, codes⟩, D, X, saved, stand, ⟨height, largest, ped, layers, psets⟩, seen, depths, K⟩ := S
  obtain ⟨mm, many, mex, has, sm, smany, sex, bys, mc, ms, mpt, mlb, ty, ln, wh, tw, sc8, ss8, sp8, sl8, lay8, pl8⟩ := M
  obtain ⟨m, n, f, e, pt, lb, hc, hs, hp, hx, ht, hk, hsh⟩ := INV_mk.mp hI
  obtain ⟨⟨hm1, hm8, hn20⟩, rfl, rfl, hS, hB, hDs, hH, rfl, rfl, hM⟩ := hc
  have hf31 : ∀ k, k < n → f k < 2 ^ 31 := fun k hk => Nat.lt_trans (hB.lt hm8 hk) (by decide)
  dsimp only
  have hx0 := hx
  obtain ⟨he, rfl, rfl, hx2⟩ := hx
  refine has_sp (by omega) ?_
  rcases inr_cases a1 n (by omega) with h | ⟨k, hkn, rfl, h⟩
  · rw [h]
    refine bn_t rfl (isConcept_sp (by omega) ?_)
    rw [h]
    exact bn_t rfl ⟨rfl, hkeep⟩
  rw [h]
  refine bn_f (by decide) (isSet_sp hm8 ?_)
  have h256 := pow8 hm8
  rcases inr_cases a2 (2 ^ m) (by omega) with h2 | ⟨s, hsm, rfl, h2⟩
  · rw [h2]
    refine bn_t rfl (isConcept_sp (by omega) ?_)
    rw [h]
    refine bn_f (by decide) (isSet8_sp hm8 ?_)
    rw [h2]
    exact bn_t rfl ⟨rfl, hkeep⟩
  rw [h2]
  refine bn_f (by decide) (bitCount_sp (by omega) ?_)
  have hbc : bc s = fb_ct (fun j => s.testBit (0 + j)) m := by
    rw [bc_of hsm (by omega)]
    exact fb_ct_cong (fun j _ => by rw [Nat.zero_add])
  have hble := bc_le s
  unfold wp_X3_hasRoomFor
  rw [nI_add]
  have hsk := hS k hkn
  have hmk := hM k hkn
  refine brlt (a := 12) (by decide) (by omega) (fun g => ?_) (fun g => ?_)
  · refine bn_t rfl (isConcept_sp (by omega) ?_)
    rw [h]
    refine bn_f (by decide) (isSet8_sp hm8 ?_)
    rw [h2]
    refine bn_f (by decide) (sizeOf_sp (by omega) ?_)
    rw [nI_add]
    exact br_f (show ¬ nI (e + bc s) ≤ nI 12 from nI_ge g (by omega)) ⟨rfl, hkeep⟩
  · refine bn_f (by decide) ⟨m + 1, addEx7 (v := f k) hm8 (by omega) hsk (hf31 k hkn) (by omega) m 0 (e, pt, lb) codes (by omega) (by dsimp only; omega) (fun j hj => (hx2 j hj).2.2.1) (fun c' hc' => ?_)⟩
    refine isConcept_sp (by omega) ?_
    rw [h]
    refine bn_f (by decide) (isSet8_sp hm8 ?_)
    rw [h2]
    refine bn_f (by decide) (sizeOf_sp (by omega) ?_)
    rw [nI_add]
    refine br_t (show nI (e + bc s) ≤ nI 12 from nI_le g (by decide)) ⟨m + 1, addEx8 (v := f k) hm8 (by omega) hmk (hf31 k hkn) (by omega) m 0 (e, pt, lb) mpt mlb (by omega) (by dsimp only; omega) (fun j hj => ⟨(hx2 j hj).2.2.2.1, (hx2 j hj).2.2.2.2⟩) (fun a' b' hab => ⟨rfl, ?_⟩)⟩
    have hlen := AE_le (set := s) (v := f k) m 0 (e, pt, lb)
    have hok := AE_ok (m := m) (set := s) (v := f k) m 0 (e, pt, lb) (by omega) (fun j hj => ⟨(hx2 j hj).1, (hx2 j hj).2.1⟩)
    generalize AE s (f k) m 0 (e, pt, lb) = st at hlen hok hc' hab ⊢
    obtain ⟨e2, pt2, lb2⟩ := st
    dsimp only at hlen
    exact INV_mk.mpr ⟨m, n, f, e2, pt2, lb2, ⟨⟨hm1, hm8, hn20⟩, rfl, rfl, hS, hB, hDs, hH, rfl, rfl, hM⟩, hs, hp.up, ⟨by omega, rfl, rfl, fun j hj => ⟨(hok j hj).1, (hok j hj).2, hc' j hj, (hab j hj).1, (hab j hj).2⟩⟩, ht, hk, hsh⟩

theorem move_sp {a b : Nat} {v : Int32} {sets rated : Nat → Int32} {scores : Nat → UInt64} {Q : (Nat → Int32) → (Nat → UInt64) → (Nat → Int32) → Prop} (ha : a < 20) (hb : b < 20) (hr : vp_nar .boolean (rated a) = rated a) (h : Q (upd sets b v) (vf_upd scores b (scores a)) (upd rated b (rated a))) : wp_X0_move (nI a) (nI b) v sets scores rated Q := by
  unfold wp_X0_move
  rw [cl_nI (by omega), cl_nI (by omega), hr]
  have i : vp_in (nI a) 20 := in_nI ha (by decide)
  have i2 : vp_in (nI b) 20 := in_nI hb (by decide)
  exact ⟨i2, i, i2, i, i2, h⟩
/-- a row with the places from c on shifted down, up to k -/
def SHF {α : Type} (c k : Nat) (g0 g : Nat → α) : Prop := ∀ j, g j = if c ≤ j ∧ j < k then g0 (j + 1) else g0 j
theorem SHF.up {α : Type} {c k : Nat} {g0 g g2 : Nat → α} (h : SHF c k g0 g) (hc : c ≤ k) (h2 : ∀ j, g2 j = if j = k then g (k + 1) else g j) : SHF c (k + 1) g0 g2 := by
  intro j
  rw [h2 j]
  by_cases e : j = k
  · rw [if_pos e, h (k + 1), if_neg (by omega), if_pos (by omega), e]
  · rw [if_neg e, h j]
    by_cases e2 : c ≤ j ∧ j < k
    · rw [if_pos e2, if_pos (by omega)]
    · rw [if_neg e2, if_neg (by omega)]
def rmf (f : Nat → Nat) (c : Nat) : Nat → Nat := fun j => if c ≤ j then f (j + 1) else f j
theorem rmf_SOK {n c : Nat} {f : Nat → Nat} {s0 s : Nat → Int32} (hS : SOK (n + 1) f s0) (h : SHF c n s0 s) : SOK n (rmf f c) s := by
  intro k hk
  rw [h k]
  unfold rmf
  by_cases e : c ≤ k
  · rw [if_pos ⟨e, hk⟩, if_pos e]; exact hS _ (by omega)
  · rw [if_neg (by omega), if_neg e]; exact hS _ (by omega)
theorem drop_loop {m n c : Nat} {f : Nat → Nat} {ed : Int32} {s0 r0 hold : Nat → Int32} {c0 : Nat → UInt64} {Q : Int32 → Int32 → (Nat → Int32) → (Nat → UInt64) → (Nat → Int32) → (Nat → Int32) → Prop} (hm : m ≤ 8) (hn : n + 1 ≤ 20) (hS : SOK (n + 1) f s0) (hf : ∀ k, k < n + 1 → f k < 2 ^ 31) (hr : ∀ k, k < n + 1 → vp_nar .boolean (r0 k) = r0 k)
    (h : ∀ (s : Nat → Int32) (cc : Nat → UInt64) (r h' : Nat → Int32), SHF c n s0 s → SHF c n c0 cc → SHF c n r0 r → HOK m n (rmf f c) h' → Q (nI n) (ed + 1) s cc r h') :
    ∀ (d k : Nat) (s : Nat → Int32) (cc : Nat → UInt64) (r : Nat → Int32), k + d = n → c ≤ k → SHF c k s0 s → SHF c k c0 cc → SHF c k r0 r → wp_X0_drop_b4 (nI c) (nI m) Q (d + 1) (nI (k + 1)) (nI (n + 1)) ed s cc r hold
  | 0, k, s, cc, r, hk, hck, h1, h2, h3 => by
    have e : k = n := by omega
    subst e
    refine br_t (nI_le (by omega) (by omega)) ?_
    have e1 : nI (k + 1) - (1 : Int32) = nI k := nI_pred k
    rw [e1]
    refine reindex_sp hm (by omega) (rmf_SOK hS h1) (fun j hj => ?_) (fun h' e' => h s cc r h' h1 h2 h3 e')
    unfold rmf
    split
    · exact hf _ (by omega)
    · exact hf _ (by omega)
  | d + 1, k, s, cc, r, hk, hck, h1, h2, h3 => by
    refine br_f (nI_ge (by omega) (by omega)) ⟨in_nI (by omega) (by decide), ?_⟩
    have e1 : nI (k + 1) - (1 : Int32) = nI k := nI_pred k
    have er : r (k + 1) = r0 (k + 1) := by rw [h3 (k + 1), if_neg (by omega)]
    rw [e1, cl_nI (by omega), nI_1]
    refine move_sp (by omega) (by omega) (by rw [er]; exact hr _ (by omega)) ?_
    exact drop_loop hm hn hS hf hr h d (k + 1) _ _ _ (by omega) (by omega) (h1.up hck (fun j => rfl)) (h2.up hck (fun j => rfl)) (h3.up hck (fun j => rfl))
theorem drop_sp {m n c : Nat} {f : Nat → Nat} {ed : Int32} {s0 r0 hold : Nat → Int32} {c0 : Nat → UInt64} {Q : Int32 → Int32 → (Nat → Int32) → (Nat → UInt64) → (Nat → Int32) → (Nat → Int32) → Prop} (hm : m ≤ 8) (hn : n + 1 ≤ 20) (hc : c ≤ n) (hS : SOK (n + 1) f s0) (hf : ∀ k, k < n + 1 → f k < 2 ^ 31) (hr : ∀ k, k < n + 1 → vp_nar .boolean (r0 k) = r0 k)
    (h : ∀ (s : Nat → Int32) (cc : Nat → UInt64) (r h' : Nat → Int32), SHF c n s0 s → SHF c n c0 cc → SHF c n r0 r → HOK m n (rmf f c) h' → Q (nI n) (ed + 1) s cc r h') : wp_X0_drop (nI c) (nI m) (nI (n + 1)) ed s0 c0 r0 hold Q := by
  refine ⟨(n - c) + 1, ?_⟩
  rw [nI_1]
  exact drop_loop hm hn hS hf hr h (n - c) c s0 c0 r0 (by omega) (Nat.le_refl c) (fun j => by rw [if_neg (by omega)]) (fun j => by rw [if_neg (by omega)]) (fun j => by rw [if_neg (by omega)])
theorem rem8_loop {n c : Nat} {x : Int32} {m0 : Nat → Int32} {z0 : Nat → UInt64} {Q : Int32 → Int32 → (Nat → Int32) → (Nat → UInt64) → Prop} (hn : n + 1 ≤ 20)
    (h : ∀ (s : Nat → Int32) (z : Nat → UInt64), SHF c n m0 s → SHF c n z0 z → Q (nI n) (nI n) s z) :
    ∀ (d k : Nat) (s : Nat → Int32) (z : Nat → UInt64), k + d = n → c ≤ k → SHF c k m0 s → SHF c k z0 z → wp_X8_removeConcept_b13 x Q (d + 1) (nI k) (nI (n + 1)) s z
  | 0, k, s, z, hk, hck, h1, h2 => by
    have e : k = n := by omega
    subst e
    have e1 : nI (k + 1) - (1 : Int32) = nI k := nI_pred k
    unfold wp_X8_removeConcept_b13
    rw [e1]
    exact br_t (nI_le (Nat.le_refl k) (by omega)) (h s z h1 h2)
  | d + 1, k, s, z, hk, hck, h1, h2 => by
    have e1 : nI (n + 1) - (1 : Int32) = nI n := nI_pred n
    unfold wp_X8_removeConcept_b13
    rw [e1]
    refine br_f (nI_ge (by omega) (by omega)) ?_
    rw [nI_1, cl_nI (by omega), cl_nI (by omega)]
    have i : vp_in (nI k) 20 := in_nI (by omega) (by decide)
    have i2 : vp_in (nI (k + 1)) 20 := in_nI (by omega) (by decide)
    exact ⟨i2, i, i2, i, rem8_loop hn h d (k + 1) _ _ (by omega) (by omega) (h1.up hck (fun j => rfl)) (h2.up hck (fun j => rfl))⟩

set_option maxHeartbeats 2000000 in
theorem pu_removeConcept : PU_removeConcept INV := by
  intro N S M a1 hN hI
  have hkeep := hI.keep
  obtain ⟨⟨points, count, ed, sets, scores, rated, hold⟩, ⟨scnt, codes⟩, D, X, saved, stand, ⟨height, largest, ped, layers, psets⟩, seen, depths, K⟩ := S
  obtain ⟨mm, many, mex, has, sm, smany, sex, bys, mc, ms, mpt, mlb, ty, ln, wh, tw, sc8, ss8, sp8, sl8, lay8, pl8⟩ := M
  obtain ⟨m, n, f, e, pt, lb, hc, hs, hp, hx, ht, hk, hsh⟩ := INV_mk.mp hI
  obtain ⟨⟨hm1, hm8, hn20⟩, rfl, rfl, hS, hB, hDs, hH, rfl, rfl, hM⟩ := hc
  have hf31 : ∀ k, k < n → f k < 2 ^ 31 := fun k hk => Nat.lt_trans (hB.lt hm8 hk) (by decide)
  dsimp only
  refine has_sp (by omega) ?_
  rcases inr_cases a1 n (by omega) with h | ⟨k, hkn, rfl, h⟩
  · rw [h]
    refine bn_t rfl (isConcept_sp (by omega) ?_)
    rw [h]
    exact bn_t rfl ⟨rfl, hkeep⟩
  obtain ⟨n0, rfl⟩ : ∃ n0, n = n0 + 1 := ⟨n - 1, by omega⟩
  rw [h]
  refine bn_f (by decide) (drop_sp hm8 hn20 (by omega) hS hf31 (fun j hj => (hs j hj).nar) (fun s' c' r' h' g1 g2 g3 g4 => ?_))
  refine isConcept_sp (by omega) ?_
  rw [h]
  refine bn_f (by decide) ⟨(n0 - k) + 1, rem8_loop hn20 (fun s8 z8 q1 q2 => ⟨rfl, ?_⟩) (n0 - k) k mc ms (by omega) (Nat.le_refl k) (fun j => by rw [if_neg (by omega)]) (fun j => by rw [if_neg (by omega)])⟩
  refine INV_mk.mpr ⟨m, n0, rmf f k, e, pt, lb, ⟨⟨hm1, hm8, by omega⟩, rfl, rfl, rmf_SOK hS g1, fun j hj => ?_, fun i j hi hj he => ?_, g4, rfl, rfl, rmf_SOK hM q1⟩, fun j hj => ?_, hp.new 1 (by decide) (by decide) rfl, hx, ht, hk, hsh⟩
  · unfold rmf
    split
    · exact hB _ (by omega)
    · exact hB _ (by omega)
  · unfold rmf at he
    by_cases ei : k ≤ i
    · by_cases ej : k ≤ j
      · rw [if_pos ei, if_pos ej] at he
        have := hDs _ _ (by omega) (by omega) he
        omega
      · rw [if_pos ei, if_neg ej] at he
        have := hDs _ _ (by omega) (by omega) he
        omega
    · by_cases ej : k ≤ j
      · rw [if_neg ei, if_pos ej] at he
        have := hDs _ _ (by omega) (by omega) he
        omega
      · rw [if_neg ei, if_neg ej] at he
        exact hDs _ _ (by omega) (by omega) he
  · rw [g2 j, g3 j, q2 j]
    by_cases c : k ≤ j ∧ j < n0
    · rw [if_pos c, if_pos c, if_pos c]; exact hs _ (by omega)
    · rw [if_neg c, if_neg c, if_neg c]; exact hs _ (by omega)

theorem xor_full {m v : Nat} (h : v < 2 ^ m) : v ^^^ (2 ^ m - 1) = 2 ^ m - 1 - v := by
  apply eq_of_bits
  intro i
  have e : 2 ^ m - 1 - v = 2 ^ m - (v + 1) := by omega
  rw [e, Nat.testBit_two_pow_sub_succ h, Nat.testBit_xor, Nat.testBit_two_pow_sub_one]
  by_cases q : i < m
  · simp [q]
  · rw [bit_ge h (by omega)]; simp [q]
theorem flip_loop {m n : Nat} {f : Nat → Nat} {ed : Int32} {s0 hold : Nat → Int32} {Q : Int32 → (Nat → Int32) → (Nat → Int32) → Prop} (hm : m ≤ 8) (hn : n ≤ 20) (hS : SOK n f s0) (hB : BND m n f)
    (h : ∀ (s h' : Nat → Int32), SOK n (fun k => 2 ^ m - 1 - f k) s → HOK m n (fun k => 2 ^ m - 1 - f k) h' → Q (ed + 1) s h') :
    ∀ (d k : Nat) (s : Nat → Int32), k + d = n → (∀ j, s j = if j < k then nI (2 ^ m - 1 - f j) else s0 j) → wp_X0_flip_b2 (nI m) (nI n) Q (d + 1) (nI k) ed s hold
  | 0, k, s, hk, h1 => by
    have e : k = n := by omega
    subst e
    refine br_t (nI_le (by omega) (by omega)) ?_
    have hs : SOK k (fun k => 2 ^ m - 1 - f k) s := fun j hj => by rw [h1 j, if_pos hj]
    have := pow8 hm
    exact reindex_sp hm hn hs (fun j hj => by omega) (fun h' e' => h s h' hs e')
  | d + 1, k, s, hk, h1 => by
    refine br_f (nI_ge (by omega) (by omega)) ⟨in_nI (by omega) (by decide), allPoints_sp (by omega) ⟨in_nI (by omega) (by decide), ?_⟩⟩
    rw [cl_nI (by omega), nI_1]
    refine flip_loop hm hn hS hB h d (k + 1) _ (by omega) (fun j => ?_)
    unfold upd
    by_cases e : j = k
    · rw [if_pos e, if_pos (by omega), h1 k, if_neg (by omega), hS k (by omega), fb_xorI, xor_full (hB k (by omega)), e]
    · rw [if_neg e, h1 j]
      by_cases e2 : j < k
      · rw [if_pos e2, if_pos (by omega)]
      · rw [if_neg e2, if_neg (by omega)]
theorem compl8_loop {m n : Nat} {f : Nat → Nat} {s0 : Nat → Int32} {Q : Int32 → (Nat → Int32) → Prop} (hm : m ≤ 8) (hn : n ≤ 20) (hS : SOK n f s0) (hB : BND m n f)
    (h : ∀ s : Nat → Int32, SOK n (fun k => 2 ^ m - 1 - f k) s → Q (nI n) s) :
    ∀ (d k : Nat) (s : Nat → Int32), k + d = n → (∀ j, s j = if j < k then nI (2 ^ m - 1 - f j) else s0 j) → wp_X8_complementAll_b2 (nI m) (nI n) Q (d + 1) (nI k) s
  | 0, k, s, hk, h1 => by
    have e : k = n := by omega
    subst e
    exact br_t (nI_le (by omega) (by omega)) (h s (fun j hj => by rw [h1 j, if_pos hj]))
  | d + 1, k, s, hk, h1 => by
    refine br_f (nI_ge (by omega) (by omega)) ⟨in_nI (by omega) (by decide), in_nI (by omega) (by decide), ?_⟩
    rw [cl_nI (by omega), nI_1, full_nI (by omega)]
    refine compl8_loop hm hn hS hB h d (k + 1) _ (by omega) (fun j => ?_)
    unfold upd
    by_cases e : j = k
    · have := hB k (by omega)
      rw [if_pos e, if_pos (by omega), h1 k, if_neg (by omega), hS k (by omega), pk_sub (by omega), e]
    · rw [if_neg e, h1 j]
      by_cases e2 : j < k
      · rw [if_pos e2, if_pos (by omega)]
      · rw [if_neg e2, if_neg (by omega)]

set_option maxHeartbeats 2000000 in
theorem pu_complementAll : PU_complementAll INV := by
  intro N S M  hN hI
  have hkeep := hI.keep
  obtain ⟨⟨points, count, ed, sets, scores, rated, hold⟩, ⟨scnt, codes⟩, D, X, saved, stand, ⟨height, largest, ped, layers, psets⟩, seen, depths, K⟩ := S
  obtain ⟨mm, many, mex, has, sm, smany, sex, bys, mc, ms, mpt, mlb, ty, ln, wh, tw, sc8, ss8, sp8, sl8, lay8, pl8⟩ := M
  obtain ⟨m, n, f, e, pt, lb, hc, hs, hp, hx, ht, hk, hsh⟩ := INV_mk.mp hI
  obtain ⟨⟨hm1, hm8, hn20⟩, rfl, rfl, hS, hB, hDs, hH, rfl, rfl, hM⟩ := hc
  have hf31 : ∀ k, k < n → f k < 2 ^ 31 := fun k hk => Nat.lt_trans (hB.lt hm8 hk) (by decide)
  dsimp only
  refine ⟨n + 1, flip_loop hm8 hn20 hS hB (fun s' h' g1 g2 => ?_) n 0 sets (by omega) (fun j => by rw [if_neg (by omega)])⟩
  refine ⟨n + 1, compl8_loop hm8 hn20 hM hB (fun s8 q1 => ⟨rfl, ?_⟩) n 0 mc (by omega) (fun j => by rw [if_neg (by omega)])⟩
  refine INV_mk.mpr ⟨m, n, fun k => 2 ^ m - 1 - f k, e, pt, lb, ⟨⟨hm1, hm8, hn20⟩, rfl, rfl, g1, fun j hj => ?_, fun i j hi hj he => ?_, g2, rfl, rfl, q1⟩, hs, hp.new 1 (by decide) (by decide) rfl, hx, ht, hk, hsh⟩
  · have := hB j hj
    dsimp only
    omega
  · have h1 := hB i hi
    have h2 := hB j hj
    dsimp only at he
    exact hDs i j hi hj (by omega)
