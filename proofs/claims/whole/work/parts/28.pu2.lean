theorem cp_step {α : Type} {a g b : Nat → α} {k : Nat} (h : ∀ j, a j = if j < k then g j else b j) (j : Nat) : (if j = k then g k else a j) = if j < k + 1 then g j else b j := by
  by_cases e : j = k
  · subst e; rw [if_pos rfl, if_pos (by omega)]
  · rw [if_neg e, h j]
    by_cases e2 : j < k
    · rw [if_pos e2, if_pos (by omega)]
    · rw [if_neg e2, if_neg (by omega)]
theorem SR.nar {r : Int32} {a b : UInt64} (h : SR r a b) : vp_nar .boolean r = r := by
  rcases h with ⟨rfl, -⟩ | ⟨rfl, -⟩ <;> rfl
theorem take_loop {m n : Nat} {f : Nat → Nat} {ed : Int32} {ds dr hold : Nat → Int32} {dc : Nat → UInt64} {Q : Int32 → Int32 → Int32 → (Nat → Int32) → (Nat → UInt64) → (Nat → Int32) → (Nat → Int32) → Prop} (hm : m ≤ 8) (hn : n ≤ 20) (hS : SOK n f ds) (hf : ∀ k, k < n → f k < 2 ^ 31) (hr : ∀ k, k < n → vp_nar .boolean (dr k) = dr k)
    (h : ∀ (sets' : Nat → Int32) (scores' : Nat → UInt64) (rated' hold' : Nat → Int32), SOK n f sets' → (∀ k, k < n → scores' k = dc k) → (∀ k, k < n → rated' k = dr k) → HOK m n f hold' → Q (nI m) (nI n) (ed + 1) sets' scores' rated' hold') :
    ∀ (d k : Nat) (s : Nat → Int32) (c : Nat → UInt64) (r : Nat → Int32), k + d = n → (∀ j, j < k → s j = ds j) → (∀ j, j < k → c j = dc j) → (∀ j, j < k → r j = dr j) → wp_X0_take_b18 (nI m) (nI n) ds dc dr Q (d + 1) (nI k) (nI m) (nI n) ed s c r hold
  | 0, k, s, c, r, hk, h1, h2, h3 => by
    have e : k = n := by omega
    subst e
    refine br_t (nI_le (by omega) (by omega)) ?_
    have hs' : SOK k f s := fun j hj => by rw [h1 j hj]; exact hS j hj
    exact reindex_sp hm hn hs' hf (fun h' e' => h s c r h' hs' h2 h3 e')
  | d + 1, k, s, c, r, hk, h1, h2, h3 => by
    refine br_f (nI_ge (by omega) (by omega)) ?_
    rw [cl_nI (by omega), nI_1, hr k (by omega)]
    have i : vp_in (nI k) 20 := in_nI (by omega) (by decide)
    refine ⟨i, i, i, i, i, i, take_loop hm hn hS hf hr h d (k + 1) _ _ _ (by omega) (fun j hj => ?_) (fun j hj => ?_) (fun j hj => ?_)⟩
    · unfold upd
      by_cases e : j = k
      · rw [if_pos e, e]
      · rw [if_neg e]; exact h1 j (by omega)
    · unfold vf_upd
      by_cases e : j = k
      · rw [if_pos e, e]
      · rw [if_neg e]; exact h2 j (by omega)
    · unfold upd
      by_cases e : j = k
      · rw [if_pos e, e]
      · rw [if_neg e]; exact h3 j (by omega)
theorem take_sp {m n : Nat} {f : Nat → Nat} {cp cc ed : Int32} {ds dr cs cr hold : Nat → Int32} {dc csc : Nat → UInt64} {Q : Int32 → Int32 → Int32 → (Nat → Int32) → (Nat → UInt64) → (Nat → Int32) → (Nat → Int32) → Prop} (hm : m ≤ 8) (hn : n ≤ 20) (hS : SOK n f ds) (hf : ∀ k, k < n → f k < 2 ^ 31) (hr : ∀ k, k < n → vp_nar .boolean (dr k) = dr k)
    (h : ∀ (sets' : Nat → Int32) (scores' : Nat → UInt64) (rated' hold' : Nat → Int32), SOK n f sets' → (∀ k, k < n → scores' k = dc k) → (∀ k, k < n → rated' k = dr k) → HOK m n f hold' → Q (nI m) (nI n) (ed + 1) sets' scores' rated' hold') : wp_X0_take cp cc ed cs csc cr hold (nI m) (nI n) ds dc dr Q :=
  ⟨n + 1, take_loop hm hn hS hf hr h n 0 cs csc cr (by omega) (fun j hj => absurd hj (by omega)) (fun j hj => absurd hj (by omega)) (fun j hj => absurd hj (by omega))⟩
theorem c12 : (12 : Int32).toNatClampNeg = 12 := by decide
theorem c0 : (0 : Int32).toNatClampNeg = 0 := by decide
theorem take3_sp {sc tc : Int32} {s t : Nat → Int32} {Q : Int32 → (Nat → Int32) → Prop} (h : ∀ c' : Nat → Int32, (∀ k, k < 12 → c' k = t k) → Q tc c') : wp_X3_take sc s tc t Q := by
  unfold wp_X3_take
  rw [c12, c0]
  refine ⟨by decide, by decide, by decide, by decide, by decide, h _ (fun k hk => ?_)⟩
  unfold va_cpy
  rw [if_pos ⟨by omega, by omega⟩, Nat.zero_add, Nat.sub_zero]
theorem snapB {mm many mex has sm smany sex : Int32} {mc mpt mlb : Nat → Int32} {ms : Nat → UInt64} {sc : Nat → Int32} {ss : Nat → UInt64} {Q : Int32 → Int32 → Int32 → Int32 → Int32 → (Nat → Int32) → (Nat → UInt64) → (Nat → Int32) → (Nat → Int32) → Prop}
    (h : ∀ sp sl : Nat → Int32, (∀ j, j < 12 → sp j = mpt j) → (∀ j, j < 12 → sl j = mlb j) → Q many has sm smany sex sc ss sp sl) : ∀ (d k : Nat) (sp sl : Nat → Int32), k + d = 12 → (∀ j, j < k → sp j = mpt j) → (∀ j, j < k → sl j = mlb j) → wp_X8_snapshot_b69 mm many mex mc ms mpt mlb Q (d + 1) (nI k) has sm smany sex sc ss sp sl
  | 0, k, sp, sl, hk, h1, h2 => br_t (show nI 12 ≤ nI k from nI_le (by omega) (by omega)) (h sp sl (fun j hj => h1 j (by omega)) (fun j hj => h2 j (by omega)))
  | d + 1, k, sp, sl, hk, h1, h2 => by
    refine br_f (show ¬ nI 12 ≤ nI k from nI_ge (by omega) (by omega)) ?_
    rw [cl_nI (by omega), nI_1]
    have i : vp_in (nI k) 12 := in_nI (by omega) (by decide)
    refine ⟨i, i, i, i, snapB h d (k + 1) _ _ (by omega) (fun j hj => ?_) (fun j hj => ?_)⟩
    · unfold upd
      by_cases e : j = k
      · rw [if_pos e, e]
      · rw [if_neg e]; exact h1 j (by omega)
    · unfold upd
      by_cases e : j = k
      · rw [if_pos e, e]
      · rw [if_neg e]; exact h2 j (by omega)
theorem snapA {mm many mex has sm smany sex : Int32} {mc mpt mlb : Nat → Int32} {ms : Nat → UInt64} {sp0 sl0 : Nat → Int32} {Q : Int32 → Int32 → Int32 → Int32 → Int32 → (Nat → Int32) → (Nat → UInt64) → (Nat → Int32) → (Nat → Int32) → Prop}
    (h : ∀ (sc : Nat → Int32) (ss : Nat → UInt64) (sp sl : Nat → Int32), (∀ j, j < 20 → sc j = mc j) → (∀ j, j < 20 → ss j = ms j) → (∀ j, j < 12 → sp j = mpt j) → (∀ j, j < 12 → sl j = mlb j) → Q many has sm smany sex sc ss sp sl) : ∀ (d k : Nat) (sc : Nat → Int32) (ss : Nat → UInt64), k + d = 20 → (∀ j, j < k → sc j = mc j) → (∀ j, j < k → ss j = ms j) → wp_X8_snapshot_b31 mm many mex mc ms mpt mlb Q (d + 1) (nI k) has sm smany sex sc ss sp0 sl0
  | 0, k, sc, ss, hk, h1, h2 => br_t (show nI 20 ≤ nI k from nI_le (by omega) (by omega)) ⟨13, snapB (fun sp sl h3 h4 => h sc ss sp sl (fun j hj => h1 j (by omega)) (fun j hj => h2 j (by omega)) h3 h4) 12 0 sp0 sl0 (by omega) (fun j hj => absurd hj (by omega)) (fun j hj => absurd hj (by omega))⟩
  | d + 1, k, sc, ss, hk, h1, h2 => by
    refine br_f (show ¬ nI 20 ≤ nI k from nI_ge (by omega) (by omega)) ?_
    rw [cl_nI (by omega), nI_1]
    have i : vp_in (nI k) 20 := in_nI (by omega) (by decide)
    refine ⟨i, i, i, i, snapA h d (k + 1) _ _ (by omega) (fun j hj => ?_) (fun j hj => ?_)⟩
    · unfold upd
      by_cases e : j = k
      · rw [if_pos e, e]
      · rw [if_neg e]; exact h1 j (by omega)
    · unfold vf_upd
      by_cases e : j = k
      · rw [if_pos e, e]
      · rw [if_neg e]; exact h2 j (by omega)
theorem resB {has sm smany sex mm many mex : Int32} {sc sp sl : Nat → Int32} {ss : Nat → UInt64} {mc : Nat → Int32} {ms : Nat → UInt64} {Q : Int32 → Int32 → Int32 → Int32 → (Nat → Int32) → (Nat → UInt64) → (Nat → Int32) → (Nat → Int32) → Prop}
    (h : ∀ mpt mlb : Nat → Int32, (∀ j, j < 12 → mpt j = sp j) → (∀ j, j < 12 → mlb j = sl j) → Q many mm many mex mc ms mpt mlb) : ∀ (d k : Nat) (mpt mlb : Nat → Int32), k + d = 12 → (∀ j, j < k → mpt j = sp j) → (∀ j, j < k → mlb j = sl j) → wp_X8_restore_b74 has sm smany sex sc ss sp sl Q (d + 1) (nI k) mm many mex mc ms mpt mlb
  | 0, k, mpt, mlb, hk, h1, h2 => br_t (show nI 12 ≤ nI k from nI_le (by omega) (by omega)) (h mpt mlb (fun j hj => h1 j (by omega)) (fun j hj => h2 j (by omega)))
  | d + 1, k, mpt, mlb, hk, h1, h2 => by
    refine br_f (show ¬ nI 12 ≤ nI k from nI_ge (by omega) (by omega)) ?_
    rw [cl_nI (by omega), nI_1]
    have i : vp_in (nI k) 12 := in_nI (by omega) (by decide)
    refine ⟨i, i, i, i, resB h d (k + 1) _ _ (by omega) (fun j hj => ?_) (fun j hj => ?_)⟩
    · unfold upd
      by_cases e : j = k
      · rw [if_pos e, e]
      · rw [if_neg e]; exact h1 j (by omega)
    · unfold upd
      by_cases e : j = k
      · rw [if_pos e, e]
      · rw [if_neg e]; exact h2 j (by omega)
theorem resA {has sm smany sex mm many mex : Int32} {sc sp sl : Nat → Int32} {ss : Nat → UInt64} {mpt0 mlb0 : Nat → Int32} {Q : Int32 → Int32 → Int32 → Int32 → (Nat → Int32) → (Nat → UInt64) → (Nat → Int32) → (Nat → Int32) → Prop}
    (h : ∀ (mc : Nat → Int32) (ms : Nat → UInt64) (mpt mlb : Nat → Int32), (∀ j, j < 20 → mc j = sc j) → (∀ j, j < 20 → ms j = ss j) → (∀ j, j < 12 → mpt j = sp j) → (∀ j, j < 12 → mlb j = sl j) → Q many mm many mex mc ms mpt mlb) : ∀ (d k : Nat) (mc : Nat → Int32) (ms : Nat → UInt64), k + d = 20 → (∀ j, j < k → mc j = sc j) → (∀ j, j < k → ms j = ss j) → wp_X8_restore_b36 has sm smany sex sc ss sp sl Q (d + 1) (nI k) mm many mex mc ms mpt0 mlb0
  | 0, k, mc, ms, hk, h1, h2 => br_t (show nI 20 ≤ nI k from nI_le (by omega) (by omega)) ⟨13, resB (fun mpt mlb h3 h4 => h mc ms mpt mlb (fun j hj => h1 j (by omega)) (fun j hj => h2 j (by omega)) h3 h4) 12 0 mpt0 mlb0 (by omega) (fun j hj => absurd hj (by omega)) (fun j hj => absurd hj (by omega))⟩
  | d + 1, k, mc, ms, hk, h1, h2 => by
    refine br_f (show ¬ nI 20 ≤ nI k from nI_ge (by omega) (by omega)) ?_
    rw [cl_nI (by omega), nI_1]
    have i : vp_in (nI k) 20 := in_nI (by omega) (by decide)
    refine ⟨i, i, i, i, resA h d (k + 1) _ _ (by omega) (fun j hj => ?_) (fun j hj => ?_)⟩
    · unfold upd
      by_cases e : j = k
      · rw [if_pos e, e]
      · rw [if_neg e]; exact h1 j (by omega)
    · unfold vf_upd
      by_cases e : j = k
      · rw [if_pos e, e]
      · rw [if_neg e]; exact h2 j (by omega)
theorem I_smp.copy {m e : Nat} {pt lb : Nat → Nat} {cnt mcnt : Int32} {codes mpt mlb codes' mpt' mlb' : Nat → Int32} (h : I_smp m e pt lb cnt codes mcnt mpt mlb) (h1 : ∀ k, k < 12 → codes' k = codes k) (h2 : ∀ k, k < 12 → mpt' k = mpt k) (h3 : ∀ k, k < 12 → mlb' k = mlb k) : I_smp m e pt lb cnt codes' mcnt mpt' mlb' := by
  obtain ⟨a, b, c, d⟩ := h
  refine ⟨a, b, c, fun k hk => ?_⟩
  rw [h1 k (by omega), h2 k (by omega), h3 k (by omega)]
  exact d k hk

set_option maxHeartbeats 2000000 in
theorem pu_snapshot : PU_snapshot INV := by
  intro N S M  hN hI
  have hkeep := hI.keep
  obtain ⟨⟨points, count, ed, sets, scores, rated, hold⟩, ⟨scnt, codes⟩, D, X, saved, stand, ⟨height, largest, ped, layers, psets⟩, seen, depths, K⟩ := S
  obtain ⟨mm, many, mex, has, sm, smany, sex, bys, mc, ms, mpt, mlb, ty, ln, wh, tw, sc8, ss8, sp8, sl8, lay8, pl8⟩ := M
  obtain ⟨m, n, f, e, pt, lb, hc, hs, hp, hx, ht, hk, hsh⟩ := INV_mk.mp hI
  obtain ⟨⟨hm1, hm8, hn20⟩, rfl, rfl, hS, hB, hDs, hH, rfl, rfl, hM⟩ := hc
  have hf31 : ∀ k, k < n → f k < 2 ^ 31 := fun k hk => Nat.lt_trans (hB.lt hm8 hk) (by decide)
  dsimp only
  obtain ⟨dp, dcn, ded, dse, dsc, dra, dho⟩ := D
  obtain ⟨xc, xs⟩ := X
  refine take_sp hm8 hn20 hS hf31 (fun k hk => (hs k hk).nar) (fun s' c' r' h' e1 e2 e3 e4 => ?_)
  refine take3_sp (fun c2 e5 => ?_)
  refine ⟨21, snapA (fun sc ss sp sl g1 g2 g3 g4 => ⟨rfl, ?_⟩) 20 0 _ _ (by omega) (fun j hj => absurd hj (by omega)) (fun j hj => absurd hj (by omega))⟩
  refine INV_mk.mpr ⟨m, n, f, _, pt, lb, ⟨⟨hm1, hm8, hn20⟩, rfl, rfl, hS, hB, hDs, hH, rfl, rfl, hM⟩, hs, hp.up, hx, ht, hk, Or.inr ⟨rfl, rfl, m, n, f, _, pt, lb, ⟨hm1, hm8, hn20⟩, rfl, rfl, e1, hB, hDs, rfl, rfl, fun k hk => ?_, fun k hk => ?_, hx.copy e5 g3 g4⟩⟩
  · rw [g1 k (by omega)]; exact hM k hk
  · show SR (r' k) (c' k) (ss k)
    rw [e2 k hk, e3 k hk, g2 k (by omega)]
    exact hs k hk

set_option maxHeartbeats 2000000 in
theorem pu_restore : PU_restore INV := by
  intro N S M  hN hI
  have hkeep := hI.keep
  obtain ⟨⟨points, count, ed, sets, scores, rated, hold⟩, ⟨scnt, codes⟩, D, X, saved, stand, ⟨height, largest, ped, layers, psets⟩, seen, depths, K⟩ := S
  obtain ⟨mm, many, mex, has, sm, smany, sex, bys, mc, ms, mpt, mlb, ty, ln, wh, tw, sc8, ss8, sp8, sl8, lay8, pl8⟩ := M
  obtain ⟨m, n, f, e, pt, lb, hc, hs, hp, hx, ht, hk, hsh⟩ := INV_mk.mp hI
  obtain ⟨⟨hm1, hm8, hn20⟩, rfl, rfl, hS, hB, hDs, hH, rfl, rfl, hM⟩ := hc
  have hf31 : ∀ k, k < n → f k < 2 ^ 31 := fun k hk => Nat.lt_trans (hB.lt hm8 hk) (by decide)
  dsimp only
  obtain ⟨dp, dcn, ded, dse, dsc, dra, dho⟩ := D
  obtain ⟨xc, xs⟩ := X
  rcases hsh with ⟨rfl, rfl⟩ | ⟨rfl, rfl, m', n', f', e', pt', lb', ⟨hm1', hm8', hn20'⟩, h1, h2, hS', hB', hDs', rfl, rfl, hM', hs', hx'⟩
  · exact bn_t rfl (bn_t rfl ⟨rfl, hkeep⟩)
  · dsimp only at h1 h2
    subst h1
    subst h2
    have hf31' : ∀ k, k < n' → f' k < 2 ^ 31 := fun k hk => Nat.lt_trans (hB'.lt hm8' hk) (by decide)
    refine bn_f (by decide) (take_sp hm8' hn20' hS' hf31' (fun k hk => (hs' k hk).nar) (fun s' c' r' h' e1 e2 e3 e4 => ?_))
    refine take3_sp (fun c2 e5 => ?_)
    refine bn_f (by decide) ⟨21, resA (fun mc2 ms2 mpt2 mlb2 g1 g2 g3 g4 => ⟨rfl, ?_⟩) 20 0 _ _ (by omega) (fun j hj => absurd hj (by omega)) (fun j hj => absurd hj (by omega))⟩
    refine INV_mk.mpr ⟨m', n', f', e', pt', lb', ⟨⟨hm1', hm8', hn20'⟩, rfl, rfl, e1, hB', hDs', e4, rfl, rfl, fun k hk => ?_⟩, fun k hk => ?_, hp.new 1 (by decide) (by decide) rfl, hx'.copy e5 g3 g4, ht, hk, Or.inr ⟨rfl, rfl, m', n', f', e', pt', lb', ⟨hm1', hm8', hn20'⟩, rfl, rfl, hS', hB', hDs', rfl, rfl, hM', hs', hx'⟩⟩
    · rw [g1 k (by omega)]; exact hM' k hk
    · rw [e2 k hk, e3 k hk, g2 k (by omega)]
      exact hs' k hk

set_option maxHeartbeats 2000000 in
theorem pu_clearSample : PU_clearSample INV := by
  intro N S M  hN hI
  have hkeep := hI.keep
  obtain ⟨⟨points, count, ed, sets, scores, rated, hold⟩, ⟨scnt, codes⟩, D, X, saved, stand, ⟨height, largest, ped, layers, psets⟩, seen, depths, K⟩ := S
  obtain ⟨mm, many, mex, has, sm, smany, sex, bys, mc, ms, mpt, mlb, ty, ln, wh, tw, sc8, ss8, sp8, sl8, lay8, pl8⟩ := M
  obtain ⟨m, n, f, e, pt, lb, hc, hs, hp, hx, ht, hk, hsh⟩ := INV_mk.mp hI
  obtain ⟨⟨hm1, hm8, hn20⟩, rfl, rfl, hS, hB, hDs, hH, rfl, rfl, hM⟩ := hc
  have hf31 : ∀ k, k < n → f k < 2 ^ 31 := fun k hk => Nat.lt_trans (hB.lt hm8 hk) (by decide)
  dsimp only
  obtain ⟨he, rfl, rfl, hx2⟩ := hx
  exact ⟨rfl, INV_mk.mpr ⟨m, n, f, 0, pt, lb, ⟨⟨hm1, hm8, hn20⟩, rfl, rfl, hS, hB, hDs, hH, rfl, rfl, hM⟩, hs, hp.up, I_smp.none, ht, hk, hsh⟩⟩

theorem two_nI (p l : Nat) : (2 : Int32) * nI p + nI l = nI (2 * p + l) := by
  have h : nI 2 * nI p = nI (2 * p) := pk_mul 2 p
  have h2 : (2 : Int32) * nI p = nI (2 * p) := h
  rw [h2, nI_add]
theorem I_smp.push {m e : Nat} {pt lb : Nat → Nat} {codes mpt mlb : Nat → Int32} {p l : Nat} (h : I_smp m e pt lb (nI e) codes (nI e) mpt mlb) (he : e < 12) (hp : p < m) (hl : l < 2) : I_smp m (e + 1) (va_up pt e p) (va_up lb e l) (nI (e + 1)) (upd codes e (nI (2 * p + l))) (nI (e + 1)) (upd mpt e (nI p)) (upd mlb e (nI l)) := by
  obtain ⟨-, -, -, d⟩ := h
  refine ⟨by omega, rfl, rfl, fun k hk => ?_⟩
  unfold upd va_up
  by_cases q : k = e
  · rw [if_pos q, if_pos q, if_pos q, if_pos q, if_pos q]; exact ⟨hp, hl, rfl, rfl, rfl⟩
  · rw [if_neg q, if_neg q, if_neg q, if_neg q, if_neg q]; exact d k (by omega)
theorem append_sp {e p l : Nat} {codes : Nat → Int32} {Q : Int32 → (Nat → Int32) → Prop} (he : e < 12) (h : Q (nI (e + 1)) (upd codes e (nI (2 * p + l)))) : wp_X3_append (nI p) (nI l) (nI e) codes Q := by
  unfold wp_X3_append
  rw [cl_nI (by omega), nI_1, two_nI]
  exact ⟨in_nI he (by decide), h⟩
theorem shown_sp {e : Nat} {x y : Int32} {mpt mlb : Nat → Int32} {Q : Int32 → (Nat → Int32) → (Nat → Int32) → Prop} (he : e < 12) (h : Q (nI (e + 1)) (upd mpt e x) (upd mlb e y)) : wp_X8_shown x y (nI e) mpt mlb Q := by
  unfold wp_X8_shown
  rw [cl_nI (by omega), nI_1]
  exact ⟨in_nI he (by decide), in_nI he (by decide), h⟩

set_option maxHeartbeats 2000000 in
theorem pu_example : PU_example INV := by
  intro N S M a1 hN hI
  have hkeep := hI.keep
  obtain ⟨⟨points, count, ed, sets, scores, rated, hold⟩, ⟨scnt, codes⟩, D, X, saved, stand, ⟨height, largest, ped, layers, psets⟩, seen, depths, K⟩ := S
  obtain ⟨mm, many, mex, has, sm, smany, sex, bys, mc, ms, mpt, mlb, ty, ln, wh, tw, sc8, ss8, sp8, sl8, lay8, pl8⟩ := M
  obtain ⟨m, n, f, e, pt, lb, hc, hs, hp, hx, ht, hk, hsh⟩ := INV_mk.mp hI
  obtain ⟨⟨hm1, hm8, hn20⟩, rfl, rfl, hS, hB, hDs, hH, rfl, rfl, hM⟩ := hc
  have hf31 : ∀ k, k < n → f k < 2 ^ 31 := fun k hk => Nat.lt_trans (hB.lt hm8 hk) (by decide)
  dsimp only
  obtain ⟨he, rfl, rfl, hx2⟩ := hx
  have key : ∀ (b : Bool), inr a1 e = b → (b = false → True) := fun _ _ _ => trivial
  rcases inr_cases a1 e (by omega) with h | ⟨j, hj, rfl, h⟩
  · have g : (a1 < 0) ∨ (¬ a1 < 0 ∧ nI e ≤ a1) := by
      unfold inr at h
      rw [decide_eq_false_iff_not] at h
      rw [Int32.lt_iff_toInt_lt, Int32.le_iff_toInt_le, toInt0, nI_toInt (by omega)]
      omega
    have k8 : wp_X8_example a1 (nI e) mpt mlb (fun (r8 : Int32) => (-6 : Int32) = r8 ∧ INV (N + 1) ((nI m, nI n, ed, sets, scores, rated, hold), (nI e, codes), D, X, saved, stand, (height, largest, ped, layers, psets), seen, depths, K) (nI m, nI n, nI e, has, sm, smany, sex, bys, mc, ms, mpt, mlb, ty, ln, wh, tw, sc8, ss8, sp8, sl8, lay8, pl8)) := by
      refine point8_sp (by omega) ?_
      rw [h]
      exact br_t rfl ⟨rfl, hkeep⟩
    rcases g with g | ⟨g, g2⟩
    · exact br_t g k8
    · exact br_f g (br_t g2 k8)
  · refine br_f (nI_pos (by omega)) (br_f (nI_ge hj (by omega)) ⟨in_nI (by omega) (by decide), ?_⟩)
    refine point8_sp (by omega) ?_
    rw [h]
    obtain ⟨q1, q2, q3, q4, q5⟩ := hx2 j hj
    refine br_f (by decide) ⟨in_nI (by omega) (by decide), in_nI (by omega) (by decide), ?_, hkeep⟩
    rw [cl_nI (by omega), q3, q4, q5, two_nI]

set_option maxHeartbeats 2000000 in
theorem pu_addExample : PU_addExample INV := by
  intro N S M a1 a2 hN hI
  have hkeep := hI.keep
  obtain ⟨⟨points, count, ed, sets, scores, rated, hold⟩, ⟨scnt, codes⟩, D, X, saved, stand, ⟨height, largest, ped, layers, psets⟩, seen, depths, K⟩ := S
  obtain ⟨mm, many, mex, has, sm, smany, sex, bys, mc, ms, mpt, mlb, ty, ln, wh, tw, sc8, ss8, sp8, sl8, lay8, pl8⟩ := M
  obtain ⟨m, n, f, e, pt, lb, hc, hs, hp, hx, ht, hk, hsh⟩ := INV_mk.mp hI
  obtain ⟨⟨hm1, hm8, hn20⟩, rfl, rfl, hS, hB, hDs, hH, rfl, rfl, hM⟩ := hc
  have hf31 : ∀ k, k < n → f k < 2 ^ 31 := fun k hk => Nat.lt_trans (hB.lt hm8 hk) (by decide)
  dsimp only
  have hx0 := hx
  obtain ⟨he, rfl, rfl, hx2⟩ := hx
  refine isPoint_sp (by omega) ?_
  rcases inr_cases a1 m (by omega) with h | ⟨p, hpm, rfl, h⟩
  · rw [h]
    refine bn_t rfl (point8_sp (by omega) ?_)
    rw [h]
    exact bn_t rfl ⟨rfl, hkeep⟩
  rw [h]
  have bad : inr a2 2 = false → wp_X8_addExample (nI p) a2 (nI m) (nI e) mpt mlb (fun (r8 nm_examples : Int32) (nm_examplePoint nm_exampleLabel : Nat → Int32) => (-1 : Int32) = r8 ∧ INV (N + 1) ((nI m, nI n, ed, sets, scores, rated, hold), (nI e, codes), D, X, saved, stand, (height, largest, ped, layers, psets), seen, depths, K) (nI m, nI n, nm_examples, has, sm, smany, sex, bys, mc, ms, nm_examplePoint, nm_exampleLabel, ty, ln, wh, tw, sc8, ss8, sp8, sl8, lay8, pl8)) := by
    intro h2
    refine point8_sp (by omega) ?_
    rw [h]
    refine bn_f (by decide) (two8_sp ?_)
    rw [h2]
    exact bn_t rfl ⟨rfl, hkeep⟩
  refine bn_f (by decide) ?_
  rcases inr_cases a2 2 (by omega) with h2 | ⟨l, hl, rfl, h2⟩
  · have h3 := h2
    unfold inr at h3
    rw [decide_eq_false_iff_not] at h3
    rw [Int32.lt_iff_toInt_lt, Int32.le_iff_toInt_le, toInt0, i1]
    refine ⟨fun _ => bad h2, fun g => ⟨fun g2 => absurd (by omega) h3, fun _ => bad h2⟩⟩
  refine br_f (nI_pos (by omega)) (br_t (show nI l ≤ nI 1 from nI_le (by omega) (by decide)) ?_)
  unfold wp_X3_hasRoomFor
  rw [nI_1]
  refine brlt (a := 12) (by decide) (by omega) (fun g => ?_) (fun g => ?_)
  · refine bn_t rfl (point8_sp (by omega) ?_)
    rw [h]
    refine bn_f (by decide) (two8_sp ?_)
    rw [h2]
    refine bn_f (by decide) (bn_t (by rw [show e = 12 by omega]; rfl) ⟨rfl, hkeep⟩)
  · refine bn_f (by decide) (append_sp (by omega) (point8_sp (by omega) ?_))
    rw [h]
    refine bn_f (by decide) (two8_sp ?_)
    rw [h2]
    refine bn_f (by decide) (bn_f (fun q => ?_) (shown_sp (by omega) ⟨rfl, ?_⟩))
    · have : e = 12 := (ceq (b := 12) (by omega) (by decide)).mp q
      omega
    · exact INV_mk.mpr ⟨m, n, f, e + 1, va_up pt e p, va_up lb e l, ⟨⟨hm1, hm8, hn20⟩, rfl, rfl, hS, hB, hDs, hH, rfl, rfl, hM⟩, hs, hp.up, hx0.push (by omega) hpm hl, ht, hk, hsh⟩
