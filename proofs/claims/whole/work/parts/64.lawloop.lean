/-! the law's loop -/
theorem and63 (x : Int32) : ∃ k, k < 64 ∧ x &&& (63 : Int32) = nI k := by
  refine ⟨x.toBitVec.toNat % 64, Nat.mod_lt _ (by decide), ?_⟩
  have e : x = nI x.toBitVec.toNat := by
    apply Int32.toBitVec_inj.1
    show x.toBitVec = BitVec.ofNat 32 x.toBitVec.toNat
    apply BitVec.eq_of_toNat_eq
    rw [BitVec.toNat_ofNat, Nat.mod_eq_of_lt x.toBitVec.isLt]
  have h := fa_mask x.toBitVec.toNat 6
  rw [← e] at h
  exact h
theorem vin_add {a j L : Nat} (h : a + j < L) (hL : L ≤ 3072) : vp_in (nI a + nI j) L := by
  rw [nI_add]
  exact in_nI h (by omega)
set_option maxRecDepth 20000 in
set_option maxHeartbeats 4000000 in
theorem law_loop {p : Program} {l : Launch} {e : Env} {s : State} {m : MethodId} {below : List Frame} {meth : Method} {c : Code} {b L : Nat} {xs : Nat → Int32} {G : va_G} {cI cD cZ cJ cO : ClassId} {aP : Nat} (C0 : LC p s m c b L xs G cI cD cZ cJ cO aP) (hL : L ≤ 3072) (hr : meth.sig.returnType = ret) (hlocks : meth.locks = false) (ad : Nat → Nat) : ∀ (d n : Nat), L < 6 * n + 6 * d → 6 * n ≤ L → ∀ (d0 : Drawn), s.drawn.sameBut d0 lw_cs → ∀ (S : TSt) (M : MSt) (H : Heap) (locs : List Loc) (ls : Array Slot), INV n S M → va_P G vwCl (wL cI cD cZ cJ cO ad S M) H → va_D (fun q : Nat => s.heap.size ≤ q) (wL cI cD cZ cJ cO ad S M) → va_S (fun q : Nat => s.heap.size ≤ q) s.heap H locs → lv_has ls 4 [(0, .ref b), (1, .ref (ad 0)), (2, .ref (ad 37)), (3, .int (nI (6 * n)))] → W p l e room_1 (s.setDrawn d0) m #[Value.ref b] below meth c H locs 600000 7302250 (lw_Z below #[Value.ref b] s) (F0 m 18 ls [])
  | 0, n, hd, hn, _, _, _, _, _, _, _, _, _, _, _, _ => absurd hd (by omega)
  | d + 1, n, hd, hn, d0, hd0, S, M, H, locs, ls, hI, hP, hD, hS, hl => by
    obtain ⟨hx, hb, hml, hown, hts0, hX, hbl, hK0, hZ0⟩ := id C0
    have hbA : ¬ (fun q : Nat => s.heap.size ≤ q) b := Nat.not_le.mpr hbl
    have hX1 : va_X b L xs (s.setDrawn d0) s.heap := hX
    refine lv_iload_n hx hb dL_law_18 rfl (lv_at hl 3 rfl) ?_
    refine lv_aload_n hx hb dL_law_19 rfl (lv_at hl 0 rfl) ?_
    refine va_slen hx hb hX1 hbl hbA hS dL_law_20 ?_
    refine lv_bipush (v := (6 : Int32)) hx hb dL_law_21 (by decide) ?_
    refine lv_isub hx hb dL_law_23 ?_
    have es : (Int32.ofNat L - (6 : Int32)).toInt = (L : Int) - 6 := pk_sub_toInt (a := L) (b := 6) (by omega) (by decide)
    refine lv_icmp_gt (tgt := 1391) hx hb dL_law_24 (by decide) (fun hc => ?_) (fun hc => ?_)
    · refine va_forget (fun q hq => hS.2.2 q hq) ?_
      refine lv_iconst (v := (1 : Int32)) hx hb dL_law_1391 (by decide) ?_
      exact lw_ret hd0 hx hb hr hlocks dL_law_1392
    · rw [fa_lt, es, nI_toInt (by omega)] at hc
      have h6 : 6 * n + 6 ≤ L := by omega
      have hn512 : n < 512 := by omega
      refine lv_aload_n hx hb dL_law_27 rfl (lv_at hl 0 rfl) ?_
      refine lv_iload_n hx hb dL_law_28 rfl (lv_at hl 3 rfl) ?_
      refine va_sld hx hb hX1 hbl hbA hS (in_nI (n := 6 * n) (by omega) (by omega)) dL_law_29 ?_
      refine lv_bipush (v := (63 : Int32)) hx hb dL_law_30 (by decide) ?_
      refine lv_iand hx hb dL_law_32 ?_
      obtain ⟨k, hk, ek⟩ := and63 (xs (nI (6 * n)).toNatClampNeg)
      rw [ek]
      have v1 : vp_in (nI (6 * n) + (1 : Int32)) L := vin_add (j := 1) (by omega) hL
      have v2 : vp_in (nI (6 * n) + (2 : Int32)) L := vin_add (j := 2) (by omega) hL
      have v3 : vp_in (nI (6 * n) + (3 : Int32)) L := vin_add (j := 3) (by omega) hL
      have v4 : vp_in (nI (6 * n) + (4 : Int32)) L := vin_add (j := 4) (by omega) hL
      have v5 : vp_in (nI (6 * n) + (5 : Int32)) L := vin_add (j := 5) (by omega) hL
      have again : ∀ (d1 : Drawn), s.drawn.sameBut d1 lw_cs → ∀ (S : TSt) (M : MSt) (H : Heap) (locs : List Loc) (ls : Array Slot), INV (n + 1) S M → va_P G vwCl (wL cI cD cZ cJ cO ad S M) H → va_D (fun q : Nat => s.heap.size ≤ q) (wL cI cD cZ cJ cO ad S M) → va_S (fun q : Nat => s.heap.size ≤ q) s.heap H locs → lv_has ls 4 [(0, .ref b), (1, .ref (ad 0)), (2, .ref (ad 37)), (3, .int (nI (6 * n)))] → W p l e room_1 (s.setDrawn d1) m #[Value.ref b] below meth c H locs 600000 7302250 (lw_Z below #[Value.ref b] s) (F0 m 1385 ls []) := by
        intro d1 hd1 S M H locs ls hI hP hD hS hl
        refine lv_iinc (v := nI (6 * (n + 1))) (lv' := [(3, .int (nI (6 * (n + 1)))), (0, .ref b), (1, .ref (ad 0)), (2, .ref (ad 37))]) hx hb dL_law_1385 hl (k := 3) rfl (by rw [show Int32.ofInt 6 = nI 6 by decide, nI_add, show 6 * n + 6 = 6 * (n + 1) by omega]) (by decide) rfl (fun ls hl => ?_)
        refine lv_goto (tgt := 18) hx hb dL_law_1388 (by decide) ?_
        exact law_loop C0 hL hr hlocks ad d (n + 1) (by omega) (by omega) d1 hd1 S M H locs ls hI hP hD hS (lv_sub hl [1, 2, 3, 0] rfl)
      rcases (show k < 8 ∨ (8 ≤ k ∧ k < 16) ∨ (16 ≤ k ∧ k < 24) ∨ (24 ≤ k ∧ k < 32) ∨ (32 ≤ k ∧ k < 40) ∨ (40 ≤ k ∧ k < 48) ∨ 48 ≤ k by omega) with g | ⟨g, g2⟩ | ⟨g, g2⟩ | ⟨g, g2⟩ | ⟨g, g2⟩ | ⟨g, g2⟩ | g
      · exact law_sw0 C0 ad (nI (6 * n)) v1 v2 v3 v4 v5 n hn512 again k (Nat.zero_le k) g d0 hd0 S M H locs ls hI hP hD hS hl
      · exact law_sw1 C0 ad (nI (6 * n)) v1 v2 v3 v4 v5 n hn512 again k g g2 d0 hd0 S M H locs ls hI hP hD hS hl
      · exact law_sw2 C0 ad (nI (6 * n)) v1 v2 v3 v4 v5 n hn512 again k g g2 d0 hd0 S M H locs ls hI hP hD hS hl
      · exact law_sw3 C0 ad (nI (6 * n)) v1 v2 v3 v4 v5 n hn512 again k g g2 d0 hd0 S M H locs ls hI hP hD hS hl
      · exact law_sw4 C0 ad (nI (6 * n)) v1 v2 v3 v4 v5 n hn512 again k g g2 d0 hd0 S M H locs ls hI hP hD hS hl
      · exact law_sw5 C0 ad (nI (6 * n)) v1 v2 v3 v4 v5 n hn512 again k g g2 d0 hd0 S M H locs ls hI hP hD hS hl
      · refine lv_tableOut (tgt := 1385) hx hb dL_law_33 (Or.inr ?_) (by decide) (again d0 hd0 S M H locs ls hI.keep hP hD hS hl)
        rw [nI_toInt (by omega)]
        omega
