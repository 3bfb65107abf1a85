/-! Integer.bitCount and Long.bitCount: byte by byte -/
theorem and_split {k u v w z : Nat} (hv : v < 2 ^ k) (hz : z < 2 ^ k) : (2 ^ k * u + v) &&& (2 ^ k * w + z) = 2 ^ k * (u &&& w) + (v &&& z) := by
  have hvz : v &&& z < 2 ^ k := Nat.lt_of_le_of_lt Nat.and_le_left hv
  apply Nat.eq_of_testBit_eq
  intro i
  rw [Nat.testBit_and, Nat.testBit_two_pow_mul_add u hv, Nat.testBit_two_pow_mul_add w hz, Nat.testBit_two_pow_mul_add (u &&& w) hvz]
  by_cases h : i < k
  · simp [h]
  · simp [h]
def m55 : Nat → Nat
  | 0 => 0
  | n + 1 => 256 * m55 n + 85
def m33 : Nat → Nat
  | 0 => 0
  | n + 1 => 256 * m33 n + 51
def m0f : Nat → Nat
  | 0 => 0
  | n + 1 => 256 * m0f n + 15
def Y1 (n x : Nat) : Nat := x - ((x / 2) &&& m55 n)
def Y2 (n x : Nat) : Nat := (x &&& m33 n) + ((x / 4) &&& m33 n)
def Y3 (n x : Nat) : Nat := (x + x / 16) &&& m0f n
theorem and_split8 {u v w z : Nat} (hv : v < 256) (hz : z < 256) : (256 * u + v) &&& (256 * w + z) = 256 * (u &&& w) + (v &&& z) := and_split (k := 8) hv hz
theorem k55 : ∀ c, c < 2 → ∀ v, v < 256 → (128 * c + v / 2) &&& 85 = (v / 2) &&& 85 := by decide +kernel
theorem k33 : ∀ c, c < 4 → ∀ v, v < 256 → (64 * c + v / 4) &&& 51 = (v / 4) &&& 51 := by decide +kernel
theorem k0f : ∀ c, c < 5 → ∀ a, a < 5 → ∀ b, b < 5 → ((16 * a + b) + (16 * c + a)) &&& 15 = a + b := by decide +kernel
theorem Y1_step (n u v : Nat) (hv : v < 256) : Y1 (n + 1) (256 * u + v) = 256 * Y1 n u + (v - ((v / 2) &&& 85)) := by
  unfold Y1
  have e : (256 * u + v) / 2 = 256 * (u / 2) + (128 * (u % 2) + v / 2) := by omega
  have h1 : 128 * (u % 2) + v / 2 < 256 := by omega
  rw [e, show m55 (n + 1) = 256 * m55 n + 85 from rfl, and_split8 h1 (by decide), k55 (u % 2) (by omega) v hv]
  have a1 : (u / 2) &&& m55 n ≤ u / 2 := Nat.and_le_left
  have a2 : (v / 2) &&& 85 ≤ v / 2 := Nat.and_le_left
  omega
theorem Y2_step (n u v : Nat) (hv : v < 256) : Y2 (n + 1) (256 * u + v) = 256 * Y2 n u + ((v &&& 51) + ((v / 4) &&& 51)) := by
  unfold Y2
  have e : (256 * u + v) / 4 = 256 * (u / 4) + (64 * (u % 4) + v / 4) := by omega
  have h1 : 64 * (u % 4) + v / 4 < 256 := by omega
  rw [e, show m33 (n + 1) = 256 * m33 n + 51 from rfl, and_split8 h1 (by decide), and_split8 hv (by decide), k33 (u % 4) (by omega) v hv]
  omega
/-- all bytes of x have nibbles of at most 4 -/
def nib (n x : Nat) : Prop := match n with
  | 0 => x = 0
  | n + 1 => x % 256 / 16 ≤ 4 ∧ x % 16 ≤ 4 ∧ nib n (x / 256)
theorem Y3_step (n u v : Nat) (hv : v < 256) (h1 : v / 16 ≤ 4) (h2 : v % 16 ≤ 4) (h3 : u % 16 ≤ 4) : Y3 (n + 1) (256 * u + v) = 256 * Y3 n u + (v / 16 + v % 16) := by
  unfold Y3
  have e : (256 * u + v) + (256 * u + v) / 16 = 256 * (u + u / 16) + (v + (16 * (u % 16) + v / 16)) := by omega
  have h4 : v + (16 * (u % 16) + v / 16) < 256 := by omega
  rw [e, show m0f (n + 1) = 256 * m0f n + 15 from rfl, and_split8 h4 (by decide)]
  have h5 : v + (16 * (u % 16) + v / 16) = (16 * (v / 16) + v % 16) + (16 * (u % 16) + v / 16) := by omega
  rw [h5, k0f (u % 16) (by omega) (v / 16) (by omega) (v % 16) (by omega)]
def byc (v : Nat) : Nat := fb_ct (fun k => v.testBit k) 8
theorem byte_fin : ∀ v, v < 256 → let q := ((v - ((v / 2) &&& 85)) &&& 51) + (((v - ((v / 2) &&& 85)) / 4) &&& 51); (q < 256 ∧ q / 16 ≤ 4 ∧ q % 16 ≤ 4 ∧ q / 16 + q % 16 = byc v ∧ v - ((v / 2) &&& 85) < 256) := by decide +kernel
/-- the byte counts, each in its byte -/
def BY : Nat → Nat → Nat
  | 0, _ => 0
  | n + 1, x => 256 * BY n (x / 256) + byc (x % 256)
theorem Y12_nib : ∀ (n x : Nat), x < 256 ^ n → nib n (Y2 n (Y1 n x)) ∧ Y3 n (Y2 n (Y1 n x)) = BY n x
  | 0, x, h => by
    have : x = 0 := by simpa using h
    subst this
    exact ⟨rfl, rfl⟩
  | n + 1, x, h => by
    have hx : x / 256 < 256 ^ n := by rw [Nat.pow_succ] at h; omega
    obtain ⟨ih1, ih2⟩ := Y12_nib n (x / 256) hx
    have hv : x % 256 < 256 := by omega
    have ex : x = 256 * (x / 256) + x % 256 := by omega
    obtain ⟨f1, f2, f3, f4, f5⟩ := byte_fin (x % 256) hv
    have e2 : Y2 (n + 1) (Y1 (n + 1) x) = 256 * Y2 n (Y1 n (x / 256)) + (((x % 256 - ((x % 256 / 2) &&& 85)) &&& 51) + (((x % 256 - ((x % 256 / 2) &&& 85)) / 4) &&& 51)) := by
      have e1 : Y1 (n + 1) x = 256 * Y1 n (x / 256) + (x % 256 - ((x % 256 / 2) &&& 85)) := by
        have := Y1_step n (x / 256) (x % 256) hv
        rwa [← ex] at this
      rw [e1, Y2_step n _ _ f5]
    generalize hq : ((x % 256 - ((x % 256 / 2) &&& 85)) &&& 51) + (((x % 256 - ((x % 256 / 2) &&& 85)) / 4) &&& 51) = q at e2 f1 f2 f3 f4
    rw [e2]
    refine ⟨⟨by omega, by omega, ?_⟩, ?_⟩
    · rw [show (256 * Y2 n (Y1 n (x / 256)) + q) / 256 = Y2 n (Y1 n (x / 256)) by omega]
      exact ih1
    · have hn : Y2 n (Y1 n (x / 256)) % 16 ≤ 4 := by
        cases n with
        | zero => rw [show Y2 0 (Y1 0 (x / 256)) = 0 from ih1]; decide
        | succ n => exact ih1.2.1
      rw [Y3_step n _ q f1 f2 f3 hn, ih2, f4]
      rfl
theorem byc_le (v : Nat) : byc v ≤ 8 := fb_ct_le _ 8
/-- the number of ones among the first 64 bits -/
def bc (x : Nat) : Nat := fb_ct (fun k => x.testBit k) 64
theorem bc_le (x : Nat) : bc x ≤ 64 := fb_ct_le _ 64
theorem byte_split (x n : Nat) : fb_ct (fun k => x.testBit k) (8 + n) = byc (x % 256) + fb_ct (fun k => (x / 256).testBit k) n := by
  rw [fb_ct_split]
  congr 1
  · apply fb_ct_cong
    intro k hk
    have e : (x % 2 ^ 8).testBit k = (decide (k < 8) && x.testBit k) := Nat.testBit_mod_two_pow x 8 k
    rw [show (2 : Nat) ^ 8 = 256 from rfl] at e
    rw [e]
    simp [hk]
  · apply fb_ct_cong
    intro k hk
    have e : (x / 2 ^ 8).testBit k = x.testBit (8 + k) := by rw [Nat.testBit_div_two_pow, Nat.add_comm]
    rw [show (2 : Nat) ^ 8 = 256 from rfl] at e
    exact e.symm
theorem ct_hi {x a b : Nat} (h : x < 2 ^ a) (hab : a ≤ b) : fb_ct (fun k => x.testBit k) b = fb_ct (fun k => x.testBit k) a := by
  obtain ⟨d, rfl⟩ : ∃ d, b = a + d := ⟨b - a, by omega⟩
  rw [fb_ct_split]
  have : fb_ct (fun k => x.testBit (a + k)) d = 0 := fb_ct_zero.mpr (fun k _ => bit_ge h (by omega))
  omega
theorem bc_of {x n : Nat} (h : x < 2 ^ n) (hn : n ≤ 64) : bc x = fb_ct (fun k => x.testBit k) n := ct_hi h hn
theorem bc_32 {x : Nat} (h : x < 2 ^ 32) : bc x = byc (x % 256) + (byc (x / 256 % 256) + (byc (x / 256 / 256 % 256) + byc (x / 256 / 256 / 256 % 256))) := by
  rw [bc_of h (by decide)]
  rw [show (32 : Nat) = 8 + (8 + (8 + (8 + 0))) from rfl, byte_split, byte_split, byte_split, byte_split]
  rfl
theorem bc_64 (x : Nat) : bc x = byc (x % 256) + (byc (x / 256 % 256) + (byc (x / 256 / 256 % 256) + (byc (x / 256 / 256 / 256 % 256) + (byc (x / 256 / 256 / 256 / 256 % 256) + (byc (x / 256 / 256 / 256 / 256 / 256 % 256) + (byc (x / 256 / 256 / 256 / 256 / 256 / 256 % 256) + byc (x / 256 / 256 / 256 / 256 / 256 / 256 / 256 % 256))))))) := by
  unfold bc
  rw [show (64 : Nat) = 8 + (8 + (8 + (8 + (8 + (8 + (8 + (8 + 0))))))) from rfl, byte_split, byte_split, byte_split, byte_split, byte_split, byte_split, byte_split, byte_split]
  rfl
theorem sum4 {a b c d : Nat} (ha : a ≤ 8) (hb : b ≤ 8) (hc : c ≤ 8) (hd : d ≤ 8) : let y3 := 256 * (256 * (256 * d + c) + b) + a; let y4 := y3 + y3 / 256; (y4 + y4 / 65536) % 64 = a + (b + (c + d)) ∧ y4 < 2 ^ 31 ∧ y4 + y4 / 65536 < 2 ^ 31 ∧ y3 < 2 ^ 31 := by
  intro y3 y4
  have h3 : y3 = 16777216 * d + 65536 * c + 256 * b + a := by omega
  have h4 : y4 = 16777216 * d + 65536 * (c + d) + 256 * (b + c) + (a + b) := by omega
  have h5 : y4 / 65536 = 256 * d + (c + d) := by omega
  omega
theorem bitCount_sp {x : Nat} {Q : Int32 → Prop} (hx : x < 2 ^ 31) (h : Q (nI (bc x))) : wp_J6_bitCount_0f7a4 (nI x) Q := by
  have U : ∀ (n k : Nat), n < 2 ^ 32 → k < 32 → ((nI n).toUInt32 >>> ((nI k).toUInt32 &&& Int32.toUInt32 31)).toInt32 = nI (n / 2 ^ k) := fun n k hn hk => pk_ushrN hn (nI k) k (s_u k hk)
  have b0 : x < 256 ^ 4 := by omega
  obtain ⟨hnb, hY⟩ := Y12_nib 4 x b0
  have hy1 : Y1 4 x ≤ x := Nat.sub_le _ _
  have hm55 : m55 4 = 1431655765 := by decide
  have hm33 : m33 4 = 858993459 := by decide
  have hm0f : m0f 4 = 252645135 := by decide
  intro y1 e1 y2 e2 y3 e3 y4 e4 y5 e5
  have E1 : y1 = nI (Y1 4 x) := by
    rw [e1]
    have u := U x 1 (by omega) (by decide)
    have u' : ((nI x).toUInt32 >>> ((1 : Int32).toUInt32 &&& Int32.toUInt32 31)).toInt32 = nI (x / 2) := u
    rw [u']
    have a : nI (x / 2) &&& (1431655765 : Int32) = nI ((x / 2) &&& m55 4) := by rw [hm55]; exact fa_and _ _
    rw [a]
    exact pk_sub (Nat.le_trans Nat.and_le_left (by omega))
  have E2 : y2 = nI (Y2 4 (Y1 4 x)) := by
    rw [e2, E1]
    have u' : ((nI (Y1 4 x)).toUInt32 >>> ((2 : Int32).toUInt32 &&& Int32.toUInt32 31)).toInt32 = nI (Y1 4 x / 4) := U (Y1 4 x) 2 (by omega) (by decide)
    rw [u']
    have a : ∀ z : Nat, nI z &&& (858993459 : Int32) = nI (z &&& m33 4) := fun z => by rw [hm33]; exact fa_and _ _
    rw [a, a]
    exact nI_add _ _
  have hy2 : Y2 4 (Y1 4 x) < 2 ^ 32 := by
    unfold Y2
    have a1 : Y1 4 x &&& m33 4 ≤ m33 4 := Nat.and_le_right
    have a2 : Y1 4 x / 4 &&& m33 4 ≤ m33 4 := Nat.and_le_right
    omega
  have E3 : y3 = nI (BY 4 x) := by
    rw [e3, E2, ← hY]
    have u' : ((nI (Y2 4 (Y1 4 x))).toUInt32 >>> ((4 : Int32).toUInt32 &&& Int32.toUInt32 31)).toInt32 = nI (Y2 4 (Y1 4 x) / 16) := U _ 4 hy2 (by decide)
    rw [u', nI_add]
    show nI (Y2 4 (Y1 4 x) + Y2 4 (Y1 4 x) / 16) &&& (252645135 : Int32) = nI (Y3 4 (Y2 4 (Y1 4 x)))
    unfold Y3
    rw [hm0f]
    exact fa_and _ _
  have hB : BY 4 x = 256 * (256 * (256 * byc (x / 256 / 256 / 256 % 256) + byc (x / 256 / 256 % 256)) + byc (x / 256 % 256)) + byc (x % 256) := by
    show 256 * (256 * (256 * (256 * 0 + byc (x / 256 / 256 / 256 % 256)) + byc (x / 256 / 256 % 256)) + byc (x / 256 % 256)) + byc (x % 256) = _
    omega
  obtain ⟨s1, s2, s3, s4⟩ := sum4 (byc_le (x % 256)) (byc_le (x / 256 % 256)) (byc_le (x / 256 / 256 % 256)) (byc_le (x / 256 / 256 / 256 % 256))
  rw [← hB] at s1 s2 s3 s4
  rw [← bc_32 (by omega)] at s1
  have E4 : y4 = nI (BY 4 x + BY 4 x / 256) := by
    rw [e4, E3]
    have u' : ((nI (BY 4 x)).toUInt32 >>> ((8 : Int32).toUInt32 &&& Int32.toUInt32 31)).toInt32 = nI (BY 4 x / 256) := U _ 8 (by omega) (by decide)
    rw [u']
    exact nI_add _ _
  have E5 : y5 = nI ((BY 4 x + BY 4 x / 256) + (BY 4 x + BY 4 x / 256) / 65536) := by
    rw [e5, E4]
    have u' : ((nI (BY 4 x + BY 4 x / 256)).toUInt32 >>> ((16 : Int32).toUInt32 &&& Int32.toUInt32 31)).toInt32 = nI ((BY 4 x + BY 4 x / 256) / 65536) := U _ 16 (by omega) (by decide)
    rw [u']
    exact nI_add _ _
  rw [E5]
  have m : nI ((BY 4 x + BY 4 x / 256) + (BY 4 x + BY 4 x / 256) / 65536) &&& nI (2 ^ 6 - 1) = nI (((BY 4 x + BY 4 x / 256) + (BY 4 x + BY 4 x / 256) / 65536) % 2 ^ 6) := fa_mask _ 6
  have m' : nI ((BY 4 x + BY 4 x / 256) + (BY 4 x + BY 4 x / 256) / 65536) &&& (63 : Int32) = nI (bc x) := by
    rw [← s1]
    exact m
  rw [m']
  exact h
