/-! sets of points by size, minimum sets, the plan: as numbers -/
/-- does the set tell c from all other k of R? -/
def TSb (n : Nat) (f : Nat → Nat) (c R set : Nat) : Bool := (List.range n).all (fun k => decide (k = c) || !R.testBit k || decide (f k &&& set ≠ f c &&& set))
theorem TSb_iff {n : Nat} {f : Nat → Nat} {c R set : Nat} : TSb n f c R set = true ↔ ∀ k, k < n → k ≠ c → R.testBit k = true → f k &&& set ≠ f c &&& set := by
  unfold TSb
  rw [List.all_eq_true]
  constructor
  · intro h k hk hc hR
    have := h k (List.mem_range.mpr hk)
    simp only [Bool.or_eq_true, decide_eq_true_eq, Bool.not_eq_true', ne_eq] at this
    rcases this with (q | q) | q
    · exact absurd q hc
    · rw [hR] at q; cases q
    · exact q
  · intro h k hk
    have hk := List.mem_range.mp hk
    simp only [Bool.or_eq_true, decide_eq_true_eq, Bool.not_eq_true', ne_eq]
    by_cases hc : k = c
    · exact Or.inl (Or.inl hc)
    · cases hR : R.testBit k
      · exact Or.inl (Or.inr rfl)
      · exact Or.inr (h k hk hc hR)
/-- the scan over all sets for the smallest with P: first the fewest points, then the lowest -/
def scan (P : Nat → Bool) : Nat → Nat → Nat → Nat
  | 0, _, best => best
  | d + 1, k, best => scan P d (k + 1) (if P k = true ∧ bc k < bc best then k else best)
def SM (P : Nat → Bool) (m : Nat) : Nat := scan P (2 ^ m) 0 (2 ^ m - 1)
def lexle (a b : Nat) : Prop := bc a < bc b ∨ (bc a = bc b ∧ a ≤ b)
theorem scan_ok (P : Nat → Bool) (F : Nat) (hF : ∀ k, k < F - 1 → bc k < bc (F - 1)) : ∀ (d k best : Nat), P best = true → best < F → (best < k ∨ best = F - 1) → k + d = F → (∀ y, y < k → P y = true → lexle best y) →
    P (scan P d k best) = true ∧ scan P d k best < F ∧ ∀ y, y < F → P y = true → lexle (scan P d k best) y
  | 0, k, best, h1, h2, h3, h4, h5 => ⟨h1, h2, fun y hy hp => h5 y (by omega) hp⟩
  | d + 1, k, best, h1, h2, h3, h4, h5 => by
    unfold scan
    by_cases c : P k = true ∧ bc k < bc best
    · rw [if_pos c]
      refine scan_ok P F hF d (k + 1) k c.1 (by omega) (Or.inl (by omega)) (by omega) (fun y hy hp => ?_)
      rcases Nat.lt_or_ge y k with g | g
      · rcases h5 y g hp with q | q
        · exact Or.inl (by omega)
        · exact Or.inl (by omega)
      · rw [show y = k by omega]; exact Or.inr ⟨rfl, Nat.le_refl _⟩
    · rw [if_neg c]
      have key : P k = true → lexle best k := by
        intro hp
        have hb : ¬ bc k < bc best := fun q => c ⟨hp, q⟩
        rcases Nat.lt_or_ge (bc best) (bc k) with g | g
        · exact Or.inl g
        · rcases h3 with h3 | h3
          · exact Or.inr ⟨by omega, by omega⟩
          · by_cases hk : k = F - 1
            · exact Or.inr ⟨by omega, by omega⟩
            · have := hF k (by omega)
              rw [h3] at hb
              omega
      refine scan_ok P F hF d (k + 1) best h1 h2 (by omega) (by omega) (fun y hy hp => ?_)
      rcases Nat.lt_or_ge y k with g | g
      · exact h5 y g hp
      · rw [show y = k by omega] at hp ⊢; exact key hp
theorem full_max : ∀ m, m < 9 → ∀ k, k < 2 ^ m - 1 → bc k < bc (2 ^ m - 1) := by decide +kernel
theorem SM_ok {P : Nat → Bool} {m : Nat} (hm : m ≤ 8) (h : P (2 ^ m - 1) = true) : P (SM P m) = true ∧ SM P m < 2 ^ m ∧ ∀ y, y < 2 ^ m → P y = true → lexle (SM P m) y := by
  have := Nat.two_pow_pos m
  exact scan_ok P (2 ^ m) (full_max m (by omega)) (2 ^ m) 0 (2 ^ m - 1) h (by omega) (Or.inr rfl) (by omega) (fun y hy => absurd hy (by omega))
theorem lex_anti {a b : Nat} (h1 : lexle a b) (h2 : lexle b a) : a = b := by
  rcases h1 with h1 | h1 <;> rcases h2 with h2 | h2 <;> omega
/-- whoever is least is SM -/
theorem SM_eq {P : Nat → Bool} {m x : Nat} (hm : m ≤ 8) (h1 : P x = true) (h2 : x < 2 ^ m) (h3 : ∀ y, y < 2 ^ m → P y = true → lexle x y) (hfull : P (2 ^ m - 1) = true) : x = SM P m := by
  obtain ⟨a, b, c⟩ := SM_ok hm hfull
  exact lex_anti (h3 _ b a) (c x h2 h1)
theorem scan_lt {P : Nat → Bool} : ∀ (d k best F : Nat), best < F → k + d ≤ F → scan P d k best < F
  | 0, _, _, _, h, _ => h
  | d + 1, k, best, F, h, h2 => by
    unfold scan
    refine scan_lt d (k + 1) _ F ?_ (by omega)
    split <;> omega
theorem SM_lt (P : Nat → Bool) (m : Nat) : SM P m < 2 ^ m := scan_lt _ _ _ _ (by have := Nat.two_pow_pos m; omega) (by omega)
theorem SM_cong {P R : Nat → Bool} {m : Nat} (h : ∀ y, y < 2 ^ m → P y = R y) : SM P m = SM R m := by
  unfold SM
  have key : ∀ d k b, k + d ≤ 2 ^ m → scan P d k b = scan R d k b := by
    intro d
    induction d with
    | zero => intros; rfl
    | succ d ih =>
      intro k b hk
      unfold scan
      rw [h k (by omega)]
      exact ih _ _ (by omega)
  exact key _ _ _ (by omega)
/-- all sets of points in the order of their sizes -/
def BSL : List Nat := (List.range 9).flatMap (fun s => (List.range 256).filter (fun x => bc x == s))
def bs (k : Nat) : Nat := BSL.getD k 0
def BSLit : List Nat := [0, 1, 2, 4, 8, 16, 32, 64, 128, 3, 5, 6, 9, 10, 12, 17, 18, 20, 24, 33, 34, 36, 40, 48, 65, 66, 68, 72, 80, 96, 129, 130, 132, 136, 144, 160, 192, 7, 11, 13, 14, 19, 21, 22, 25, 26, 28, 35, 37, 38, 41, 42, 44, 49, 50, 52, 56, 67, 69, 70, 73, 74, 76, 81, 82, 84, 88, 97, 98, 100, 104, 112, 131, 133, 134, 137, 138, 140, 145, 146, 148, 152, 161, 162, 164, 168, 176, 193, 194, 196, 200, 208, 224, 15, 23, 27, 29, 30, 39, 43, 45, 46, 51, 53, 54, 57, 58, 60, 71, 75, 77, 78, 83, 85, 86, 89, 90, 92, 99, 101, 102, 105, 106, 108, 113, 114, 116, 120, 135, 139, 141, 142, 147, 149, 150, 153, 154, 156, 163, 165, 166, 169, 170, 172, 177, 178, 180, 184, 195, 197, 198, 201, 202, 204, 209, 210, 212, 216, 225, 226, 228, 232, 240, 31, 47, 55, 59, 61, 62, 79, 87, 91, 93, 94, 103, 107, 109, 110, 115, 117, 118, 121, 122, 124, 143, 151, 155, 157, 158, 167, 171, 173, 174, 179, 181, 182, 185, 186, 188, 199, 203, 205, 206, 211, 213, 214, 217, 218, 220, 227, 229, 230, 233, 234, 236, 241, 242, 244, 248, 63, 95, 111, 119, 123, 125, 126, 159, 175, 183, 187, 189, 190, 207, 215, 219, 221, 222, 231, 235, 237, 238, 243, 245, 246, 249, 250, 252, 127, 191, 223, 239, 247, 251, 253, 254, 255]
set_option maxRecDepth 20000 in
theorem BSL_lit : BSL = BSLit := by decide +kernel
theorem bs_lit (k : Nat) : bs k = BSLit.getD k 0 := by unfold bs; rw [BSL_lit]
theorem bs_lt : ∀ k, k < 256 → BSLit.getD k 0 < 256 := by decide +kernel
theorem bs_step : ∀ k, k < 255 → bc (BSLit.getD k 0) < bc (BSLit.getD (k + 1) 0) ∨ (bc (BSLit.getD k 0) = bc (BSLit.getD (k + 1) 0) ∧ BSLit.getD k 0 < BSLit.getD (k + 1) 0) := by decide +kernel
theorem bs_all : ∀ x, x < 256 → BSLit.contains x = true := by decide +kernel
theorem BSL_len : BSLit.length = 256 := by decide +kernel
theorem bs_has {x : Nat} (h : x < 256) : ∃ k, k < 256 ∧ bs k = x := by
  have := bs_all x h
  rw [List.contains_eq_mem, decide_eq_true_eq] at this
  obtain ⟨k, hk, e⟩ := List.getElem_of_mem this
  refine ⟨k, by rw [BSL_len] at hk; exact hk, ?_⟩
  rw [bs_lit, List.getD_eq_getElem?_getD, List.getElem?_eq_getElem hk, e]
  rfl
theorem bs_mono : ∀ (d k : Nat), k + d < 256 → lexle (bs k) (bs (k + d))
  | 0, k, _ => Or.inr ⟨rfl, Nat.le_refl _⟩
  | d + 1, k, h => by
    have ih := bs_mono d k (by omega)
    have st := bs_step (k + d) (by omega)
    rw [← bs_lit, ← bs_lit] at st
    rw [show k + (d + 1) = k + d + 1 by omega]
    unfold lexle at *
    omega
