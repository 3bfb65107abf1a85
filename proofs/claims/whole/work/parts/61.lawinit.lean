/-! the start: the reference's row of sets by size, and the relation at the beginning -/
def FX (t : Nat) : List Nat := (List.range 256).filter (fun y => bc y == t)
def PX (s x : Nat) : List Nat := (List.range s).flatMap FX ++ (List.range x).filter (fun y => bc y == s)
theorem PX_step (s x : Nat) : PX s (x + 1) = PX s x ++ (if bc x = s then [x] else []) := by
  unfold PX
  rw [List.range_succ (n := x), List.filter_append, ← List.append_assoc]
  congr 1
  by_cases h : bc x = s
  · rw [if_pos h]; simp [h]
  · rw [if_neg h]; simp [h]
theorem PX_next (s : Nat) : PX s 256 = PX (s + 1) 0 := by
  unfold PX
  rw [List.range_succ (n := s), List.flatMap_append]
  show (List.range s).flatMap FX ++ FX s = (List.range s).flatMap FX ++ [s].flatMap FX ++ []
  simp
theorem PX_pre1 (s : Nat) : ∀ (d x : Nat), ∃ r, PX s x ++ r = PX s (x + d)
  | 0, x => ⟨[], by simp⟩
  | d + 1, x => by
    obtain ⟨r, h⟩ := PX_pre1 s d x
    have e := PX_step s (x + d)
    exact ⟨r ++ (if bc (x + d) = s then [x + d] else []), by rw [← List.append_assoc, h]; exact e.symm⟩
theorem PX_pre2 : ∀ (d s : Nat), ∃ r, PX s 0 ++ r = PX (s + d) 0
  | 0, s => ⟨[], by simp⟩
  | d + 1, s => by
    obtain ⟨r, h⟩ := PX_pre1 s 256 0
    obtain ⟨q, h2⟩ := PX_pre2 d (s + 1)
    rw [Nat.zero_add, PX_next] at h
    exact ⟨r ++ q, by rw [← List.append_assoc, h, h2, show s + 1 + d = s + (d + 1) by omega]⟩
theorem PX_9 : PX 9 0 = BSL := by
  show (List.range 9).flatMap FX ++ [] = (List.range 9).flatMap FX
  exact List.append_nil _
theorem PX_len {s x : Nat} (hs : s ≤ 8) (hx : x < 256) (h : bc x = s) : (PX s x).length < 256 := by
  obtain ⟨r, e1⟩ := PX_pre1 s (256 - (x + 1)) (x + 1)
  obtain ⟨q, e2⟩ := PX_pre2 (9 - (s + 1)) (s + 1)
  rw [show x + 1 + (256 - (x + 1)) = 256 by omega, PX_next] at e1
  rw [show s + 1 + (9 - (s + 1)) = 9 by omega, PX_9, BSL_lit] at e2
  have l1 := congrArg List.length e1
  have l2 := congrArg List.length e2
  rw [PX_step, if_pos h] at l1
  rw [BSL_len] at l2
  simp only [List.length_append, List.length_cons, List.length_nil] at l1 l2
  omega
theorem ini_in {s : Nat} {ty : Nat → Int32} {Q : (Nat → Int32) → (Nat → Int32) → Prop} {k154 : Int32 → Int32 → (Nat → Int32) → (Nat → Int32) → Prop} (hs : s ≤ 8) (h : ∀ g : Nat → Int32, (∀ (k v : Nat), (PX (s + 1) 0)[k]? = some v → g k = nI v) → k154 (nI (PX (s + 1) 0).length) (nI (s + 1)) g ty) :
    ∀ (d x : Nat) (g : Nat → Int32), x + d = 256 → (∀ (k v : Nat), (PX s x)[k]? = some v → g k = nI v) → wp_X8_initL_b162 Q k154 (d + 1) (nI (PX s x).length) (nI s) (nI x) g ty
  | 0, x, g, hx, hg => by
    have e : x = 256 := by omega
    subst e
    unfold wp_X8_initL_b162
    rw [PX_next] at hg ⊢
    rw [nI_1]
    exact br_t (nI_le (a := 256) (by omega) (by omega)) (h g hg)
  | d + 1, x, g, hx, hg => by
    unfold wp_X8_initL_b162
    have st := PX_step s x
    have hb := bc256 (x := x) (by omega)
    refine br_f (nI_ge (b := 256) (by omega) (by omega)) (sizeOf_sp (by omega) ?_)
    rw [nI_1 x]
    refine brne (by omega) (by omega) (fun q => ?_) (fun q => ?_)
    · rw [if_neg q, List.append_nil] at st
      have t := ini_in (Q := Q) hs h d (x + 1) g (by omega) (by rw [st]; exact hg)
      rw [st] at t
      exact t
    · rw [if_pos q] at st
      have hl := PX_len hs (by omega) q
      have el : (PX s (x + 1)).length = (PX s x).length + 1 := by rw [st]; simp
      refine ⟨in_nI hl (by decide), ?_⟩
      have t := ini_in (Q := Q) hs h d (x + 1) (upd g (PX s x).length (nI x)) (by omega) (fun k v hk => by
        rw [st] at hk
        by_cases e : k < (PX s x).length
        · rw [List.getElem?_append_left e] at hk
          rw [upd_other _ _ (by omega)]
          exact hg k v hk
        · rw [List.getElem?_append_right (by omega)] at hk
          by_cases e2 : k = (PX s x).length
          · rw [e2, Nat.sub_self] at hk
            rw [e2, upd_self]
            have e4 : some x = some v := hk
            have e3 : x = v := Option.some.inj e4
            rw [e3]
          · obtain ⟨j, ej⟩ : ∃ j, k - (PX s x).length = j + 1 := ⟨k - (PX s x).length - 1, by omega⟩
            rw [ej] at hk
            first | (cases hk; done) | (simp at hk; done))
      rw [el] at t
      rw [nI_1, cl_nI (by omega)]
      exact t
theorem ini_out {ty : Nat → Int32} {Q : (Nat → Int32) → (Nat → Int32) → Prop} (h : ∀ g : Nat → Int32, (∀ k, k < 256 → g k = nI (bs k)) → Q g ty) : ∀ (d s : Nat) (g : Nat → Int32), s + d = 9 → (∀ (k v : Nat), (PX s 0)[k]? = some v → g k = nI v) → wp_X8_initL_b154 Q (d + 1) (nI (PX s 0).length) (nI s) g ty
  | 0, s, g, hs, hg => by
    have e : s = 9 := by omega
    subst e
    unfold wp_X8_initL_b154
    refine brlt (a := 8) (by decide) (by decide) (fun _ => h g (fun k hk => ?_)) (fun q => absurd q (by decide))
    have hlen : BSL.length = 256 := by rw [BSL_lit]; exact BSL_len
    have e1 : BSL[k]? = some (bs k) := by
      unfold bs
      rw [List.getD_eq_getElem?_getD, List.getElem?_eq_getElem (by omega)] <;> rfl
    rw [PX_9] at hg
    exact hg k (bs k) e1
  | d + 1, s, g, hs, hg => by
    unfold wp_X8_initL_b154
    refine brlt (a := 8) (by decide) (by omega) (fun q => absurd q (by omega)) (fun q => ⟨257, ?_⟩)
    exact ini_in (k154 := fun x1 x2 m_bySize m_type => wp_X8_initL_b154 Q (d + 1) x1 x2 m_bySize m_type) (by omega) (fun g2 h2 => ini_out h d (s + 1) g2 (by omega) h2) 256 0 g (by omega) hg
theorem ini_type {by0 : Nat → Int32} {Q : (Nat → Int32) → (Nat → Int32) → Prop} (h : ∀ g ty : Nat → Int32, (∀ k, k < 256 → g k = nI (bs k)) → (∀ j, j < 4 → ty j = -1) → Q g ty) : ∀ (d k : Nat) (ty : Nat → Int32), k + d = 4 → (∀ j, j < k → ty j = -1) → wp_X8_initL_b132 Q (d + 1) (nI k) by0 ty
  | 0, k, ty, hk, ht => by
    unfold wp_X8_initL_b132
    refine br_t (nI_le (a := 4) (by omega) (by omega)) ⟨10, ?_⟩
    have t := ini_out (ty := ty) (Q := Q) (fun g hg => h g ty hg (fun j hj => ht j (by omega))) 9 0 by0 (by decide) (fun k v hk => by first | (cases hk; done) | (simp [PX] at hk; done))
    rw [show (PX 0 0).length = 0 from rfl] at t
    exact t
  | d + 1, k, ty, hk, ht => by
    unfold wp_X8_initL_b132
    rw [nI_1, cl_nI (by omega)]
    refine br_f (nI_ge (b := 4) (by omega) (by omega)) ⟨in_nI (by omega) (by decide), ini_type h d (k + 1) _ (by omega) (fun j hj => ?_)⟩
    by_cases e : j = k
    · rw [e, upd_self]
    · rw [upd_other _ _ e]; exact ht j (by omega)
theorem ini_sp {Q : (Nat → Int32) → (Nat → Int32) → Prop} (h : ∀ g ty : Nat → Int32, (∀ k, k < 256 → g k = nI (bs k)) → (∀ j, j < 4 → ty j = -1) → Q g ty) : wp_X8_initL (fun _ => 0) (fun _ => 0) Q := ⟨5, ini_type h 4 0 _ (by decide) (fun j hj => absurd hj (by omega))⟩
def S0 : TSt := ((3, 0, 0, fun _ => 0, fun _ => 0, fun _ => 0, fun _ => 0), (0, fun _ => 0), (3, 0, 0, fun _ => 0, fun _ => 0, fun _ => 0, fun _ => 0), (0, fun _ => 0), 0, fun _ => 0, (0, 0, 0, fun _ => 0, fun _ => 0), fun _ => 0, fun _ => 0, fun _ => (-1, 0, fun _ => 0, fun _ => 0))
def M0 (g ty : Nat → Int32) : MSt := (3, 0, 0, 0, 0, 0, 0, g, fun _ => 0, fun _ => 0, fun _ => 0, fun _ => 0, ty, fun _ => 0, fun _ => 0, fun _ => 0, fun _ => 0, fun _ => 0, fun _ => 0, fun _ => 0, fun _ => 0, fun _ => 0)
theorem PL_end (m n : Nat) (f : Nat → Nat) (d : Nat) (r : PR) : PL m n f (d + 1) 0 r = r := by
  unfold PL
  rw [if_pos rfl]
theorem PLAN_0 (m : Nat) (f : Nat → Nat) : PLAN m 0 f = (0, fun _ => 0, fun _ => 0, 0) := PL_end m 0 f 19 _
theorem inv_start {g ty : Nat → Int32} (hg : ∀ k, k < 256 → g k = nI (bs k)) (ht : ∀ j, j < 4 → ty j = -1) : INV 0 S0 (M0 g ty) := by
  refine ⟨3, 0, fun _ => 0, 0, fun _ => 0, fun _ => 0, ⟨⟨by decide, by decide, by decide⟩, rfl, rfl, fun k hk => absurd hk (Nat.not_lt_zero k), fun k hk => absurd hk (Nat.not_lt_zero k), fun i j hi => absurd hi (Nat.not_lt_zero i), fun p hp => rfl, rfl, rfl, fun k hk => absurd hk (Nat.not_lt_zero k)⟩, fun k hk => absurd hk (Nat.not_lt_zero k), ⟨0, 0, rfl, by decide, rfl, Nat.le_refl 0, fun _ => ?_⟩, ⟨by decide, rfl, rfl, fun k hk => absurd hk (Nat.not_lt_zero k)⟩, hg, fun j hj => Or.inl ⟨rfl, rfl, ht j hj⟩, Or.inl ⟨rfl, rfl⟩⟩
  unfold POK
  rw [PLAN_0]
  exact ⟨rfl, rfl, fun k hk => absurd hk (Nat.not_lt_zero k)⟩
