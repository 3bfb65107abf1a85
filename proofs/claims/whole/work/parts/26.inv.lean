/-! the plan as numbers; the relation between the class's state and the reference's -/
/-- in a round with the concepts of L left: the minimum set of k, the least size, who stays -/
def RS (m n : Nat) (f : Nat → Nat) (L k : Nat) : Nat := SM (TSb n f k L) m
def RM (m n : Nat) (f : Nat → Nat) (L : Nat) : Nat → Nat
  | 0 => m + 1
  | k + 1 => if L.testBit k = true ∧ bc (RS m n f L k) < RM m n f L k then bc (RS m n f L k) else RM m n f L k
def RLf (m n : Nat) (f : Nat → Nat) (L : Nat) : Nat := MSK (fun k => L.testBit k && decide (RM m n f L n < bc (RS m n f L k))) n
/-- rounds: height, layers, sets, largest -/
abbrev PR : Type := Nat × (Nat → Nat) × (Nat → Nat) × Nat
def PL (m n : Nat) (f : Nat → Nat) : Nat → Nat → PR → PR
  | 0, _, r => r
  | d + 1, L, r => if L = 0 then r else PL m n f d (RLf m n f L) (r.1 + 1, fun k => if L.testBit k then r.1 else r.2.1 k, fun k => if L.testBit k then RS m n f L k else r.2.2.1 k, if r.2.2.2 < RM m n f L n then RM m n f L n else r.2.2.2)
def PLAN (m n : Nat) (f : Nat → Nat) : PR := PL m n f 20 (2 ^ n - 1) (0, fun _ => 0, fun _ => 0, 0)
def POK (m n : Nat) (f : Nat → Nat) (height largest : Int32) (layers sets : Nat → Int32) : Prop := height = nI (PLAN m n f).1 ∧ largest = nI (PLAN m n f).2.2.2 ∧ ∀ k, k < n → layers k = nI ((PLAN m n f).2.1 k) ∧ sets k = nI ((PLAN m n f).2.2.1 k)
/-- a score that is a number in both, or NaN in the reference and unrated in the class -/
def SR (r : Int32) (a b : UInt64) : Prop := (r = 1 ∧ a = b ∧ isNaN64 b = false) ∨ (r = 0 ∧ isNaN64 b = true)
def SCR (n : Nat) (rated : Nat → Int32) (scores ms : Nat → UInt64) : Prop := ∀ k, k < n → SR (rated k) (scores k) (ms k)
def I_cls (m n : Nat) (f : Nat → Nat) (points count : Int32) (sets hold : Nat → Int32) (mm many : Int32) (mc : Nat → Int32) : Prop :=
  (1 ≤ m ∧ m ≤ 8 ∧ n ≤ 20) ∧ points = nI m ∧ count = nI n ∧ SOK n f sets ∧ BND m n f ∧ DIS n f ∧ HOK m n f hold ∧ mm = nI m ∧ many = nI n ∧ SOK n f mc
def I_pln (N m n : Nat) (f : Nat → Nat) (ed ped height largest : Int32) (layers sets : Nat → Int32) : Prop :=
  ∃ E E' : Nat, ed = nI E ∧ E ≤ 64 * N ∧ ped = nI E' ∧ E' ≤ E ∧ (E' = E → POK m n f height largest layers sets)
def I_smp (m e : Nat) (pt lb : Nat → Nat) (cnt : Int32) (codes : Nat → Int32) (mcnt : Int32) (mpt mlb : Nat → Int32) : Prop :=
  e ≤ 12 ∧ cnt = nI e ∧ mcnt = nI e ∧ ∀ k, k < e → pt k < m ∧ lb k < 2 ∧ codes k = nI (2 * pt k + lb k) ∧ mpt k = nI (pt k) ∧ mlb k = nI (lb k)
def I_tab (by_ : Nat → Int32) : Prop := ∀ k, k < 256 → by_ k = nI (bs k)
/-- an element held as a double: the same, or 0 where the reference has a NaN -/
def VR (a b : UInt64) : Prop := a = b ∨ (a = 0 ∧ isNaN64 b = true)
def KOK (j : Nat) (K : KSt) (ty ln : Nat → Int32) (wh : Nat → Int64) (tw : Nat → UInt64) : Prop :=
  (K.1 = -1 ∧ K.2.1 = 0 ∧ ty j = -1) ∨ ∃ t z : Nat, t < 4 ∧ z ≤ 40 ∧ K.1 = nI t ∧ ty j = nI t ∧ K.2.1 = nI z ∧ ln j = nI z ∧ (t < 3 → ∀ i, i < z → K.2.2.1 i = wh (40 * j + i)) ∧ (t = 3 → ∀ i, i < z → VR (K.2.2.2 i) (tw (40 * j + i)))
def I_slt (K : Nat → KSt) (ty ln : Nat → Int32) (wh : Nat → Int64) (tw : Nat → UInt64) : Prop := ∀ j, j < 4 → KOK j (K j) ty ln wh tw
def I_sht (D : CSt) (X : SSt) (saved has sm smany sex : Int32) (sc : Nat → Int32) (ss : Nat → UInt64) (sp sl : Nat → Int32) : Prop :=
  (saved = 0 ∧ has = 0) ∨ (saved = 1 ∧ has = 1 ∧ ∃ (m n : Nat) (f : Nat → Nat) (e : Nat) (pt lb : Nat → Nat), (1 ≤ m ∧ m ≤ 8 ∧ n ≤ 20) ∧ D.1 = nI m ∧ D.2.1 = nI n ∧ SOK n f D.2.2.2.1 ∧ BND m n f ∧ DIS n f ∧ sm = nI m ∧ smany = nI n ∧ SOK n f sc ∧ SCR n D.2.2.2.2.2.1 D.2.2.2.2.1 ss ∧ I_smp m e pt lb X.1 X.2 sex sp sl)
def INV (N : Nat) (S : TSt) (M : MSt) : Prop := ∃ (m n : Nat) (f : Nat → Nat) (e : Nat) (pt lb : Nat → Nat),
  I_cls m n f S.1.1 S.1.2.1 S.1.2.2.2.1 S.1.2.2.2.2.2.2 M.1 M.2.1 M.2.2.2.2.2.2.2.2.1 ∧ SCR n S.1.2.2.2.2.2.1 S.1.2.2.2.2.1 M.2.2.2.2.2.2.2.2.2.1 ∧ I_pln N m n f S.1.2.2.1 S.2.2.2.2.2.2.1.2.2.1 S.2.2.2.2.2.2.1.1 S.2.2.2.2.2.2.1.2.1 S.2.2.2.2.2.2.1.2.2.2.1 S.2.2.2.2.2.2.1.2.2.2.2 ∧ I_smp m e pt lb S.2.1.1 S.2.1.2 M.2.2.1 M.2.2.2.2.2.2.2.2.2.2.1 M.2.2.2.2.2.2.2.2.2.2.2.1 ∧ I_tab M.2.2.2.2.2.2.2.1 ∧ I_slt S.2.2.2.2.2.2.2.2.2 M.2.2.2.2.2.2.2.2.2.2.2.2.1 M.2.2.2.2.2.2.2.2.2.2.2.2.2.1 M.2.2.2.2.2.2.2.2.2.2.2.2.2.2.1 M.2.2.2.2.2.2.2.2.2.2.2.2.2.2.2.1 ∧ I_sht S.2.2.1 S.2.2.2.1 S.2.2.2.2.1 M.2.2.2.1 M.2.2.2.2.1 M.2.2.2.2.2.1 M.2.2.2.2.2.2.1 M.2.2.2.2.2.2.2.2.2.2.2.2.2.2.2.2.1 M.2.2.2.2.2.2.2.2.2.2.2.2.2.2.2.2.2.1 M.2.2.2.2.2.2.2.2.2.2.2.2.2.2.2.2.2.2.1 M.2.2.2.2.2.2.2.2.2.2.2.2.2.2.2.2.2.2.2.1
theorem I_pln.up {N m n : Nat} {f : Nat → Nat} {ed ped height largest : Int32} {layers sets : Nat → Int32} (h : I_pln N m n f ed ped height largest layers sets) : I_pln (N + 1) m n f ed ped height largest layers sets := by
  obtain ⟨E, E', a, b, c⟩ := h
  exact ⟨E, E', a, by omega, c⟩
/-- a change of the class: the edition grows, so the plan is old -/
theorem I_pln.new {N m n m' n' : Nat} {f f' : Nat → Nat} {ed ped height largest ed' : Int32} {layers sets : Nat → Int32} (h : I_pln N m n f ed ped height largest layers sets) (k : Nat) (hk : 0 < k) (hk2 : k ≤ 64) (he : ed' = ed + nI k) : I_pln (N + 1) m' n' f' ed' ped height largest layers sets := by
  obtain ⟨E, E', a, b, c, d, -⟩ := h
  refine ⟨E + k, E', by rw [he, a, nI_add], by omega, c, by omega, fun q => absurd q (by omega)⟩
/-- what a call leaves as it was -/
theorem INV.keep {N : Nat} {S : TSt} {M : MSt} (h : INV N S M) : INV (N + 1) S M := by
  obtain ⟨m, n, f, e, pt, lb, h1, h2, h3, h4⟩ := h
  exact ⟨m, n, f, e, pt, lb, h1, h2, h3.up, h4⟩
