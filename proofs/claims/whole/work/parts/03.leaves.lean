abbrev aI (cI : ClassId) (a n : Nat) (f : Nat → Int32) : Nat × va_E := (a, .inl (cI, n, .inl f))
abbrev aZ (cZ : ClassId) (a n : Nat) (f : Nat → Int32) : Nat × va_E := (a, .inl (cZ, n, .inl f))
abbrev aJ (cJ : ClassId) (a n : Nat) (f : Nat → Int64) : Nat × va_E := (a, .inl (cJ, n, .inr (.inl f)))
abbrev aD (cD : ClassId) (a n : Nat) (f : Nat → UInt64) : Nat × va_E := (a, .inl (cD, n, .inr (.inr (.inr (.inl f)))))
abbrev aO (cO : ClassId) (a n : Nat) (f : Nat → Option Nat) : Nat × va_E := (a, .inl (cO, n, .inr (.inr (.inr (.inr f)))))
abbrev oX0 (a : Nat) (f0 : Int32) (f1 : Int32) (f2 : Nat) (f3 : Nat) (f4 : Nat) (f5 : Nat) (f6 : Int32) : Nat × va_E := (a, .inr (0, [.int f0, .int f1, .ref f2, .ref f3, .ref f4, .ref f5, .int f6]))
abbrev oX1 (a : Nat) (f0 : Nat) (f1 : Nat) (f2 : Nat) (f3 : Nat) (f4 : Int32) (f5 : Int32) (f6 : Int32) : Nat × va_E := (a, .inr (1, [.ref f0, .ref f1, .ref f2, .ref f3, .int f4, .int f5, .int f6]))
abbrev oX2 (a : Nat) (f0 : Nat) (f1 : Nat) : Nat × va_E := (a, .inr (2, [.ref f0, .ref f1]))
abbrev oX3 (a : Nat) (f0 : Int32) (f1 : Nat) : Nat × va_E := (a, .inr (3, [.int f0, .ref f1]))
abbrev oX4 (a : Nat) (f0 : Nat) (f1 : Nat) : Nat × va_E := (a, .inr (4, [.ref f0, .ref f1]))
abbrev oX5 (a : Nat) (f0 : Int32) (f1 : Int32) (f2 : Nat) (f3 : Nat) : Nat × va_E := (a, .inr (5, [.int f0, .int f1, .ref f2, .ref f3]))
abbrev oX6 (a : Nat) (f0 : Nat) (f1 : Nat) : Nat × va_E := (a, .inr (6, [.ref f0, .ref f1]))
abbrev oX7 (a : Nat) (f0 : Nat) (f1 : Nat) (f2 : Nat) (f3 : Nat) (f4 : Int32) (f5 : Nat) (f6 : Nat) (f7 : Nat) (f8 : Nat) (f9 : Nat) : Nat × va_E := (a, .inr (7, [.ref f0, .ref f1, .ref f2, .ref f3, .int f4, .ref f5, .ref f6, .ref f7, .ref f8, .ref f9]))
abbrev oX8 (a : Nat) (f0 : Int32) (f1 : Nat) (f2 : Int32) (f3 : Nat) (f4 : Nat) (f5 : Int32) (f6 : Nat) (f7 : Nat) (f8 : Nat) (f9 : Nat) (f10 : Nat) (f11 : Nat) (f12 : Int32) (f13 : Int32) (f14 : Int32) (f15 : Nat) (f16 : Nat) (f17 : Int32) (f18 : Nat) (f19 : Nat) (f20 : Nat) (f21 : Nat) : Nat × va_E := (a, .inr (8, [.int f0, .ref f1, .int f2, .ref f3, .ref f4, .int f5, .ref f6, .ref f7, .ref f8, .ref f9, .ref f10, .ref f11, .int f12, .int f13, .int f14, .ref f15, .ref f16, .int f17, .ref f18, .ref f19, .ref f20, .ref f21]))
abbrev rm_J6_bitCount_0f7a4 : Room := { frames := 0, cells := 0, slots := 0, locals := 0 }
def wp_J6_bitCount_0f7a4 (x0 : Int32) (Q : Int32 → Prop) : Prop := ∀ (y_1 : Int32), y_1 = (x0 - (((x0.toUInt32 >>> ((1 : Int32).toUInt32 &&& Int32.toUInt32 31)).toInt32) &&& (1431655765 : Int32))) → ∀ (y_2 : Int32), y_2 = ((y_1 &&& (858993459 : Int32)) + (((y_1.toUInt32 >>> ((2 : Int32).toUInt32 &&& Int32.toUInt32 31)).toInt32) &&& (858993459 : Int32))) → ∀ (y_3 : Int32), y_3 = ((y_2 + ((y_2.toUInt32 >>> ((4 : Int32).toUInt32 &&& Int32.toUInt32 31)).toInt32)) &&& (252645135 : Int32)) → ∀ (y_4 : Int32), y_4 = (y_3 + ((y_3.toUInt32 >>> ((8 : Int32).toUInt32 &&& Int32.toUInt32 31)).toInt32)) → ∀ (y_5 : Int32), y_5 = (y_4 + ((y_4.toUInt32 >>> ((16 : Int32).toUInt32 &&& Int32.toUInt32 31)).toInt32)) → Q (y_5 &&& (63 : Int32))
set_option maxRecDepth 100000 in
set_option maxHeartbeats 4000000 in
theorem c_J6_bitCount_0f7a4 (l : Launch) (G : va_G) (cI cD cZ cJ cO : ClassId) (x0 : Int32) (Q : Int32 → Prop) (h : wp_J6_bitCount_0f7a4 x0 Q) : CtI l yJ6_bitCount_0f7a4 wsJ6_bitCount_0f7a4 rm_J6_bitCount_0f7a4 G (TY cI cD cZ cJ cO) [.int x0] [] (fun (r : Int32) (u : Unit) => Q r) (fun (u : Unit) => []) := by
  refine ct_openI (cc := cJ6_bitCount_0f7a4) (maxL := 1) (ty := .int) (by decide) rfl (Nat.le_of_ble_eq_true rfl) ?_
  intro p e s m args below meth c A Z ls hx hb hml hown hts hK hA hret hP hD hS hl
  have hown : s.vm.findClass RJ6 = some m.cls := hown
  have hl : lv_has ls 1 [(0, .int x0)] := hl
  refine lv_iload_n hx hb dJ6_bitCount_0f7a4_0 rfl (lv_at hl 0 rfl) ?_
  refine lv_iload_n hx hb dJ6_bitCount_0f7a4_1 rfl (lv_at hl 0 rfl) ?_
  refine lv_iconst (v := (1 : Int32)) hx hb dJ6_bitCount_0f7a4_2 (by decide) ?_
  refine lv_iushr hx hb dJ6_bitCount_0f7a4_3 rfl ?_
  refine lv_ldcw (v := (1431655765 : Int32)) hx hb hown (hts _ (List.mem_of_getElem? (i := 1) rfl)) dJ6_bitCount_0f7a4_4 ?_
  refine lv_iand hx hb dJ6_bitCount_0f7a4_7 ?_
  refine lv_isub hx hb dJ6_bitCount_0f7a4_8 ?_
  refine lv_topi (fun y_1 hy => ?_)
  have h := h y_1 hy
  refine lv_istore_n (lv' := [(0, .int y_1)]) hx hb dJ6_bitCount_0f7a4_9 rfl hl (by decide) rfl (fun ls hl => ?_)
  refine lv_iload_n hx hb dJ6_bitCount_0f7a4_10 rfl (lv_at hl 0 rfl) ?_
  refine lv_ldcw (v := (858993459 : Int32)) hx hb hown (hts _ (List.mem_of_getElem? (i := 2) rfl)) dJ6_bitCount_0f7a4_11 ?_
  refine lv_iand hx hb dJ6_bitCount_0f7a4_14 ?_
  refine lv_iload_n hx hb dJ6_bitCount_0f7a4_15 rfl (lv_at hl 0 rfl) ?_
  refine lv_iconst (v := (2 : Int32)) hx hb dJ6_bitCount_0f7a4_16 (by decide) ?_
  refine lv_iushr hx hb dJ6_bitCount_0f7a4_17 rfl ?_
  refine lv_ldcw (v := (858993459 : Int32)) hx hb hown (hts _ (List.mem_of_getElem? (i := 2) rfl)) dJ6_bitCount_0f7a4_18 ?_
  refine lv_iand hx hb dJ6_bitCount_0f7a4_21 ?_
  refine lv_iadd hx hb dJ6_bitCount_0f7a4_22 ?_
  refine lv_topi (fun y_2 hy => ?_)
  have h := h y_2 hy
  refine lv_istore_n (lv' := [(0, .int y_2)]) hx hb dJ6_bitCount_0f7a4_23 rfl hl (by decide) rfl (fun ls hl => ?_)
  refine lv_iload_n hx hb dJ6_bitCount_0f7a4_24 rfl (lv_at hl 0 rfl) ?_
  refine lv_iload_n hx hb dJ6_bitCount_0f7a4_25 rfl (lv_at hl 0 rfl) ?_
  refine lv_iconst (v := (4 : Int32)) hx hb dJ6_bitCount_0f7a4_26 (by decide) ?_
  refine lv_iushr hx hb dJ6_bitCount_0f7a4_27 rfl ?_
  refine lv_iadd hx hb dJ6_bitCount_0f7a4_28 ?_
  refine lv_ldcw (v := (252645135 : Int32)) hx hb hown (hts _ (List.mem_of_getElem? (i := 3) rfl)) dJ6_bitCount_0f7a4_29 ?_
  refine lv_iand hx hb dJ6_bitCount_0f7a4_32 ?_
  refine lv_topi (fun y_3 hy => ?_)
  have h := h y_3 hy
  refine lv_istore_n (lv' := [(0, .int y_3)]) hx hb dJ6_bitCount_0f7a4_33 rfl hl (by decide) rfl (fun ls hl => ?_)
  refine lv_iload_n hx hb dJ6_bitCount_0f7a4_34 rfl (lv_at hl 0 rfl) ?_
  refine lv_iload_n hx hb dJ6_bitCount_0f7a4_35 rfl (lv_at hl 0 rfl) ?_
  refine lv_bipush (v := (8 : Int32)) hx hb dJ6_bitCount_0f7a4_36 (by decide) ?_
  refine lv_iushr hx hb dJ6_bitCount_0f7a4_38 rfl ?_
  refine lv_iadd hx hb dJ6_bitCount_0f7a4_39 ?_
  refine lv_topi (fun y_4 hy => ?_)
  have h := h y_4 hy
  refine lv_istore_n (lv' := [(0, .int y_4)]) hx hb dJ6_bitCount_0f7a4_40 rfl hl (by decide) rfl (fun ls hl => ?_)
  refine lv_iload_n hx hb dJ6_bitCount_0f7a4_41 rfl (lv_at hl 0 rfl) ?_
  refine lv_iload_n hx hb dJ6_bitCount_0f7a4_42 rfl (lv_at hl 0 rfl) ?_
  refine lv_bipush (v := (16 : Int32)) hx hb dJ6_bitCount_0f7a4_43 (by decide) ?_
  refine lv_iushr hx hb dJ6_bitCount_0f7a4_45 rfl ?_
  refine lv_iadd hx hb dJ6_bitCount_0f7a4_46 ?_
  refine lv_topi (fun y_5 hy => ?_)
  have h := h y_5 hy
  refine lv_istore_n (lv' := [(0, .int y_5)]) hx hb dJ6_bitCount_0f7a4_47 rfl hl (by decide) rfl (fun ls hl => ?_)
  refine lv_iload_n hx hb dJ6_bitCount_0f7a4_48 rfl (lv_at hl 0 rfl) ?_
  refine lv_bipush (v := (63 : Int32)) hx hb dJ6_bitCount_0f7a4_49 (by decide) ?_
  refine lv_iand hx hb dJ6_bitCount_0f7a4_51 ?_
  exact hret _ () _ _ _ _ rfl h hP hD hS dJ6_bitCount_0f7a4_52
abbrev rm_X7_hasBit : Room := { frames := 0, cells := 0, slots := 0, locals := 0 }
def wp_X7_hasBit (x0 : Int32) (x1 : Int32) (Q : Int32 → Prop) : Prop := ((¬ ((x0 >>> (x1 &&& 31)) &&& (1 : Int32)) = (1 : Int32)) → Q (0 : Int32)) ∧ ((((x0 >>> (x1 &&& 31)) &&& (1 : Int32)) = (1 : Int32)) → Q (1 : Int32))
set_option maxRecDepth 100000 in
set_option maxHeartbeats 4000000 in
theorem c_X7_hasBit (l : Launch) (G : va_G) (cI cD cZ cJ cO : ClassId) (x0 : Int32) (x1 : Int32) (Q : Int32 → Prop) (h : wp_X7_hasBit x0 x1 Q) : CtI l yX7_hasBit wsX7_hasBit rm_X7_hasBit G (TY cI cD cZ cJ cO) [.int x0, .int x1] [] (fun (r : Int32) (u : Unit) => Q r) (fun (u : Unit) => []) := by
  refine ct_openI (cc := cX7_hasBit) (maxL := 2) (ty := .boolean) (by decide) rfl (Nat.le_of_ble_eq_true rfl) ?_
  intro p e s m args below meth c A Z ls hx hb hml hown hts hK hA hret hP hD hS hl
  have hown : s.vm.findClass RX7 = some m.cls := hown
  have hl : lv_has ls 2 [(0, .int x0), (1, .int x1)] := hl
  refine lv_iload_n hx hb dX7_hasBit_0 rfl (lv_at hl 0 rfl) ?_
  refine lv_iload_n hx hb dX7_hasBit_1 rfl (lv_at hl 1 rfl) ?_
  refine lv_ishr hx hb dX7_hasBit_2 ?_
  refine lv_iconst (v := (1 : Int32)) hx hb dX7_hasBit_3 (by decide) ?_
  refine lv_iand hx hb dX7_hasBit_4 ?_
  refine lv_iconst (v := (1 : Int32)) hx hb dX7_hasBit_5 (by decide) ?_
  obtain ⟨ha, hf⟩ := h
  refine lv_icmp_ne (tgt := 13) hx hb dX7_hasBit_6 (by decide) (fun hc => ?_) (fun hc => ?_)
  · have h := ha hc
    clear ha hf
    refine lv_iconst (v := (0 : Int32)) hx hb dX7_hasBit_13 (by decide) ?_
    exact hret _ () _ _ _ _ rfl h hP hD hS dX7_hasBit_14
  · have h := hf hc
    clear ha hf
    refine lv_iconst (v := (1 : Int32)) hx hb dX7_hasBit_9 (by decide) ?_
    refine lv_goto (tgt := 14) hx hb dX7_hasBit_10 (by decide) ?_
    exact hret _ () _ _ _ _ rfl h hP hD hS dX7_hasBit_14
abbrev rm_X7_isSlot : Room := { frames := 0, cells := 0, slots := 0, locals := 0 }
def wp_X7_isSlot (x0 : Int32) (Q : Int32 → Prop) : Prop := ((x0 < 0) → Q (0 : Int32)) ∧ ((¬ x0 < 0) → (((4 : Int32) ≤ x0) → Q (0 : Int32)) ∧ ((¬ (4 : Int32) ≤ x0) → Q (1 : Int32)))
set_option maxRecDepth 100000 in
set_option maxHeartbeats 4000000 in
theorem c_X7_isSlot (l : Launch) (G : va_G) (cI cD cZ cJ cO : ClassId) (x0 : Int32) (Q : Int32 → Prop) (h : wp_X7_isSlot x0 Q) : CtI l yX7_isSlot wsX7_isSlot rm_X7_isSlot G (TY cI cD cZ cJ cO) [.int x0] [] (fun (r : Int32) (u : Unit) => Q r) (fun (u : Unit) => []) := by
  refine ct_openI (cc := cX7_isSlot) (maxL := 1) (ty := .boolean) (by decide) rfl (Nat.le_of_ble_eq_true rfl) ?_
  intro p e s m args below meth c A Z ls hx hb hml hown hts hK hA hret hP hD hS hl
  have hown : s.vm.findClass RX7 = some m.cls := hown
  have hl : lv_has ls 1 [(0, .int x0)] := hl
  refine lv_iload_n hx hb dX7_isSlot_0 rfl (lv_at hl 0 rfl) ?_
  obtain ⟨ha, hf⟩ := h
  refine lv_if_lt (tgt := 13) hx hb dX7_isSlot_1 (by decide) (fun hc => ?_) (fun hc => ?_)
  · have h := ha hc
    clear ha hf
    refine lv_iconst (v := (0 : Int32)) hx hb dX7_isSlot_13 (by decide) ?_
    exact hret _ () _ _ _ _ rfl h hP hD hS dX7_isSlot_14
  · have h := hf hc
    clear ha hf
    refine lv_iload_n hx hb dX7_isSlot_4 rfl (lv_at hl 0 rfl) ?_
    refine lv_iconst (v := (4 : Int32)) hx hb dX7_isSlot_5 (by decide) ?_
    obtain ⟨ha, hf⟩ := h
    refine lv_icmp_ge (tgt := 13) hx hb dX7_isSlot_6 (by decide) (fun hc => ?_) (fun hc => ?_)
    · have h := ha hc
      clear ha hf
      refine lv_iconst (v := (0 : Int32)) hx hb dX7_isSlot_13 (by decide) ?_
      exact hret _ () _ _ _ _ rfl h hP hD hS dX7_isSlot_14
    · have h := hf hc
      clear ha hf
      refine lv_iconst (v := (1 : Int32)) hx hb dX7_isSlot_9 (by decide) ?_
      refine lv_goto (tgt := 14) hx hb dX7_isSlot_10 (by decide) ?_
      exact hret _ () _ _ _ _ rfl h hP hD hS dX7_isSlot_14
abbrev rm_X7_reducedPart : Room := { frames := 0, cells := 0, slots := 0, locals := 0 }
def wp_X7_reducedPart_b13 (x0 : Int32) (x1 : Int32) (x2 : Int32) (Q : Int32 → Prop)  : Nat → Int32 → Int32 → Prop
  | 0, _, _ => False
  | n + 1, x3, x4 => ((x4 ≤ (1 : Int32)) → Q x3) ∧ ((¬ x4 ≤ (1 : Int32)) → (¬ x4 = 0) ∧ ((¬ (x0 - x0 / x4 * x4) = 0) → wp_X7_reducedPart_b13 x0 x1 x2 Q n x3 (x4 + (-1 : Int32))) ∧ (((x0 - x0 / x4 * x4) = 0) → (¬ x4 = 0) ∧ ((¬ (x1 - x1 / x4 * x4) = 0) → wp_X7_reducedPart_b13 x0 x1 x2 Q n x3 (x4 + (-1 : Int32))) ∧ (((x1 - x1 / x4 * x4) = 0) → (¬ x4 = 0) ∧ Q (x3 / x4))))
def wp_X7_reducedPart_b9 (x0 : Int32) (x1 : Int32) (x2 : Int32) (Q : Int32 → Prop)  (t0 : Int32) : Prop := ∃ j13, wp_X7_reducedPart_b13 x0 x1 x2 Q j13 t0 x1
def wp_X7_reducedPart (x0 : Int32) (x1 : Int32) (x2 : Int32) (Q : Int32 → Prop) : Prop := ((¬ x2 = 0) → wp_X7_reducedPart_b9 x0 x1 x2 Q x1) ∧ ((x2 = 0) → wp_X7_reducedPart_b9 x0 x1 x2 Q x0)
set_option maxRecDepth 100000 in
set_option maxHeartbeats 4000000 in
theorem c_X7_reducedPart (l : Launch) (G : va_G) (cI cD cZ cJ cO : ClassId) (x0 : Int32) (x1 : Int32) (x2 : Int32) (Q : Int32 → Prop) (h : wp_X7_reducedPart x0 x1 x2 Q) : CtI l yX7_reducedPart wsX7_reducedPart rm_X7_reducedPart G (TY cI cD cZ cJ cO) [.int x0, .int x1, .int x2] [] (fun (r : Int32) (u : Unit) => Q r) (fun (u : Unit) => []) := by
  refine ct_openI (cc := cX7_reducedPart) (maxL := 5) (ty := .int) (by decide) rfl (Nat.le_of_ble_eq_true rfl) ?_
  intro p e s m args below meth c A Z ls hx hb hml hown hts hK hA hret hP hD hS hl
  have hown : s.vm.findClass RX7 = some m.cls := hown
  have hl : lv_has ls 5 [(0, .int x0), (1, .int x1), (2, .int x2)] := hl
  have b_13 : ∀ (n : Nat) (x3 : Int32) (x4 : Int32), wp_X7_reducedPart_b13 x0 x1 x2 Q n x3 x4 → ∀ (H : Heap) (locs : List Loc) (ls : Array Slot), ST G A s.heap [] 5 [(0, .int x0), (1, .int x1), (3, .int x3), (4, .int x4)] H locs ls → W p l e rm_X7_reducedPart s m args below meth c H locs 0 0 Z (F0 m 13 ls []) := by
    intro n
    induction n with
    | zero =>
      intro x3 x4 h; exact False.elim h
    | succ n ih =>
      intro x3 x4 h H locs ls hst
      obtain ⟨hP, hD, hS, hl⟩ := hst
      refine lv_iload hx hb dX7_reducedPart_13 (lv_at hl 3 rfl) ?_
      refine lv_iconst (v := (1 : Int32)) hx hb dX7_reducedPart_15 (by decide) ?_
      obtain ⟨ha, hf⟩ := h
      refine lv_icmp_le (tgt := 44) hx hb dX7_reducedPart_16 (by decide) (fun hc => ?_) (fun hc => ?_)
      · have h := ha hc
        clear ha hf
        refine lv_iload_n hx hb dX7_reducedPart_44 rfl (lv_at hl 2 rfl) ?_
        exact hret _ () _ _ _ _ rfl h hP hD hS dX7_reducedPart_45
      · have h := hf hc
        clear ha hf
        refine lv_iload_n hx hb dX7_reducedPart_19 rfl (lv_at hl 0 rfl) ?_
        refine lv_iload hx hb dX7_reducedPart_20 (lv_at hl 3 rfl) ?_
        obtain ⟨hne, h⟩ := h
        refine lv_irem hx hb dX7_reducedPart_22 hne ?_
        obtain ⟨ha, hf⟩ := h
        refine lv_if_ne (tgt := 38) hx hb dX7_reducedPart_23 (by decide) (fun hc => ?_) (fun hc => ?_)
        · have h := ha hc
          clear ha hf
          refine lv_iinc (v := (x4 + (-1 : Int32))) (lv' := [(4, .int (x4 + (-1 : Int32))), (0, .int x0), (1, .int x1), (3, .int x3)]) hx hb dX7_reducedPart_38 hl (k := 3) rfl rfl (by decide) rfl (fun ls hl => ?_)
          refine lv_goto (tgt := 13) hx hb dX7_reducedPart_41 (by decide) ?_
          exact ih _ _ h _ _ _ ⟨hP, hD, hS, lv_sub hl [1, 2, 3, 0] rfl⟩
        · have h := hf hc
          clear ha hf
          refine lv_iload_n hx hb dX7_reducedPart_26 rfl (lv_at hl 1 rfl) ?_
          refine lv_iload hx hb dX7_reducedPart_27 (lv_at hl 3 rfl) ?_
          obtain ⟨hne, h⟩ := h
          refine lv_irem hx hb dX7_reducedPart_29 hne ?_
          obtain ⟨ha, hf⟩ := h
          refine lv_if_ne (tgt := 38) hx hb dX7_reducedPart_30 (by decide) (fun hc => ?_) (fun hc => ?_)
          · have h := ha hc
            clear ha hf
            refine lv_iinc (v := (x4 + (-1 : Int32))) (lv' := [(4, .int (x4 + (-1 : Int32))), (0, .int x0), (1, .int x1), (3, .int x3)]) hx hb dX7_reducedPart_38 hl (k := 3) rfl rfl (by decide) rfl (fun ls hl => ?_)
            refine lv_goto (tgt := 13) hx hb dX7_reducedPart_41 (by decide) ?_
            exact ih _ _ h _ _ _ ⟨hP, hD, hS, lv_sub hl [1, 2, 3, 0] rfl⟩
          · have h := hf hc
            clear ha hf
            refine lv_iload_n hx hb dX7_reducedPart_33 rfl (lv_at hl 2 rfl) ?_
            refine lv_iload hx hb dX7_reducedPart_34 (lv_at hl 3 rfl) ?_
            obtain ⟨hne, h⟩ := h
            refine lv_idiv hx hb dX7_reducedPart_36 hne ?_
            exact hret _ () _ _ _ _ rfl h hP hD hS dX7_reducedPart_37
  have b_9 : ∀ (t0 : Int32), wp_X7_reducedPart_b9 x0 x1 x2 Q t0 → ∀ (H : Heap) (locs : List Loc) (ls : Array Slot), ST G A s.heap [] 5 [(0, .int x0), (1, .int x1)] H locs ls → W p l e rm_X7_reducedPart s m args below meth c H locs 0 0 Z (F0 m 9 ls [.int t0]) := by
    intro t0 h H locs ls hst
    obtain ⟨hP, hD, hS, hl⟩ := hst
    refine lv_istore_n (lv' := [(3, .int t0), (0, .int x0), (1, .int x1)]) hx hb dX7_reducedPart_9 rfl hl (by decide) rfl (fun ls hl => ?_)
    refine lv_iload_n hx hb dX7_reducedPart_10 rfl (lv_at hl 2 rfl) ?_
    refine lv_istore (lv' := [(4, .int x1), (3, .int t0), (0, .int x0), (1, .int x1)]) hx hb dX7_reducedPart_11 hl (by decide) rfl (fun ls hl => ?_)
    obtain ⟨j, h⟩ := h
    exact b_13  j _ _ h _ _ _ ⟨hP, hD, hS, lv_sub hl [2, 3, 1, 0] rfl⟩
  refine lv_iload_n hx hb dX7_reducedPart_0 rfl (lv_at hl 2 rfl) ?_
  obtain ⟨ha, hf⟩ := h
  refine lv_if_ne (tgt := 8) hx hb dX7_reducedPart_1 (by decide) (fun hc => ?_) (fun hc => ?_)
  · have h := ha hc
    clear ha hf
    refine lv_iload_n hx hb dX7_reducedPart_8 rfl (lv_at hl 1 rfl) ?_
    exact b_9  _ h _ _ _ ⟨hP, hD, hS, lv_sub hl [0, 1] rfl⟩
  · have h := hf hc
    clear ha hf
    refine lv_iload_n hx hb dX7_reducedPart_4 rfl (lv_at hl 0 rfl) ?_
    refine lv_goto (tgt := 9) hx hb dX7_reducedPart_5 (by decide) ?_
    exact b_9  _ h _ _ _ ⟨hP, hD, hS, lv_sub hl [0, 1] rfl⟩
abbrev rm_J13_bitCount_95d88 : Room := { frames := 0, cells := 0, slots := 0, locals := 0 }
def wp_J13_bitCount_95d88 (x0 : Int64) (Q : Int32 → Prop) : Prop := ∀ (y_1 : Int64), y_1 = (x0 - (((x0.toUInt64 >>> ((1 : Int32).toInt64.toUInt64 &&& Int64.toUInt64 63)).toInt64) &&& (6148914691236517205 : Int64))) → ∀ (y_2 : Int64), y_2 = ((y_1 &&& (3689348814741910323 : Int64)) + (((y_1.toUInt64 >>> ((2 : Int32).toInt64.toUInt64 &&& Int64.toUInt64 63)).toInt64) &&& (3689348814741910323 : Int64))) → ∀ (y_3 : Int64), y_3 = ((y_2 + ((y_2.toUInt64 >>> ((4 : Int32).toInt64.toUInt64 &&& Int64.toUInt64 63)).toInt64)) &&& (1085102592571150095 : Int64)) → ∀ (y_4 : Int64), y_4 = (y_3 + ((y_3.toUInt64 >>> ((8 : Int32).toInt64.toUInt64 &&& Int64.toUInt64 63)).toInt64)) → ∀ (y_5 : Int64), y_5 = (y_4 + ((y_4.toUInt64 >>> ((16 : Int32).toInt64.toUInt64 &&& Int64.toUInt64 63)).toInt64)) → ∀ (y_6 : Int64), y_6 = (y_5 + ((y_5.toUInt64 >>> ((32 : Int32).toInt64.toUInt64 &&& Int64.toUInt64 63)).toInt64)) → Q ((y_6.toInt32) &&& (127 : Int32))
set_option maxRecDepth 100000 in
set_option maxHeartbeats 4000000 in
theorem c_J13_bitCount_95d88 (l : Launch) (G : va_G) (cI cD cZ cJ cO : ClassId) (x0 : Int64) (Q : Int32 → Prop) (h : wp_J13_bitCount_95d88 x0 Q) : CtI l yJ13_bitCount_95d88 wsJ13_bitCount_95d88 rm_J13_bitCount_95d88 G (TY cI cD cZ cJ cO) [.long x0] [] (fun (r : Int32) (u : Unit) => Q r) (fun (u : Unit) => []) := by
  refine ct_openI (cc := cJ13_bitCount_95d88) (maxL := 2) (ty := .int) (by decide) rfl (Nat.le_of_ble_eq_true rfl) ?_
  intro p e s m args below meth c A Z ls hx hb hml hown hts hK hA hret hP hD hS hl
  have hown : s.vm.findClass RJ13 = some m.cls := hown
  have hl : lv_has ls 2 [(0, .long x0)] := hl
  refine lv_lload_n hx hb dJ13_bitCount_95d88_0 rfl (lv_at hl 0 rfl) ?_
  refine lv_lload_n hx hb dJ13_bitCount_95d88_1 rfl (lv_at hl 0 rfl) ?_
  refine lv_iconst (v := (1 : Int32)) hx hb dJ13_bitCount_95d88_2 (by decide) ?_
  refine lv_lushr hx hb dJ13_bitCount_95d88_3 rfl ?_
  refine lv_ldc2 (v := (6148914691236517205 : Int64)) hx hb hown (hts _ (List.mem_of_getElem? (i := 1) rfl)) dJ13_bitCount_95d88_4 ?_
  refine lv_land hx hb dJ13_bitCount_95d88_7 ?_
  refine lv_lsub hx hb dJ13_bitCount_95d88_8 ?_
  refine lv_topl (fun y_1 hy => ?_)
  have h := h y_1 hy
  refine lv_lstore_n (lv' := [(0, .long y_1)]) hx hb dJ13_bitCount_95d88_9 rfl hl (by decide) rfl (fun ls hl => ?_)
  refine lv_lload_n hx hb dJ13_bitCount_95d88_10 rfl (lv_at hl 0 rfl) ?_
  refine lv_ldc2 (v := (3689348814741910323 : Int64)) hx hb hown (hts _ (List.mem_of_getElem? (i := 2) rfl)) dJ13_bitCount_95d88_11 ?_
  refine lv_land hx hb dJ13_bitCount_95d88_14 ?_
  refine lv_lload_n hx hb dJ13_bitCount_95d88_15 rfl (lv_at hl 0 rfl) ?_
  refine lv_iconst (v := (2 : Int32)) hx hb dJ13_bitCount_95d88_16 (by decide) ?_
  refine lv_lushr hx hb dJ13_bitCount_95d88_17 rfl ?_
  refine lv_ldc2 (v := (3689348814741910323 : Int64)) hx hb hown (hts _ (List.mem_of_getElem? (i := 2) rfl)) dJ13_bitCount_95d88_18 ?_
  refine lv_land hx hb dJ13_bitCount_95d88_21 ?_
  refine lv_ladd hx hb dJ13_bitCount_95d88_22 ?_
  refine lv_topl (fun y_2 hy => ?_)
  have h := h y_2 hy
  refine lv_lstore_n (lv' := [(0, .long y_2)]) hx hb dJ13_bitCount_95d88_23 rfl hl (by decide) rfl (fun ls hl => ?_)
  refine lv_lload_n hx hb dJ13_bitCount_95d88_24 rfl (lv_at hl 0 rfl) ?_
  refine lv_lload_n hx hb dJ13_bitCount_95d88_25 rfl (lv_at hl 0 rfl) ?_
  refine lv_iconst (v := (4 : Int32)) hx hb dJ13_bitCount_95d88_26 (by decide) ?_
  refine lv_lushr hx hb dJ13_bitCount_95d88_27 rfl ?_
  refine lv_ladd hx hb dJ13_bitCount_95d88_28 ?_
  refine lv_ldc2 (v := (1085102592571150095 : Int64)) hx hb hown (hts _ (List.mem_of_getElem? (i := 3) rfl)) dJ13_bitCount_95d88_29 ?_
  refine lv_land hx hb dJ13_bitCount_95d88_32 ?_
  refine lv_topl (fun y_3 hy => ?_)
  have h := h y_3 hy
  refine lv_lstore_n (lv' := [(0, .long y_3)]) hx hb dJ13_bitCount_95d88_33 rfl hl (by decide) rfl (fun ls hl => ?_)
  refine lv_lload_n hx hb dJ13_bitCount_95d88_34 rfl (lv_at hl 0 rfl) ?_
  refine lv_lload_n hx hb dJ13_bitCount_95d88_35 rfl (lv_at hl 0 rfl) ?_
  refine lv_bipush (v := (8 : Int32)) hx hb dJ13_bitCount_95d88_36 (by decide) ?_
  refine lv_lushr hx hb dJ13_bitCount_95d88_38 rfl ?_
  refine lv_ladd hx hb dJ13_bitCount_95d88_39 ?_
  refine lv_topl (fun y_4 hy => ?_)
  have h := h y_4 hy
  refine lv_lstore_n (lv' := [(0, .long y_4)]) hx hb dJ13_bitCount_95d88_40 rfl hl (by decide) rfl (fun ls hl => ?_)
  refine lv_lload_n hx hb dJ13_bitCount_95d88_41 rfl (lv_at hl 0 rfl) ?_
  refine lv_lload_n hx hb dJ13_bitCount_95d88_42 rfl (lv_at hl 0 rfl) ?_
  refine lv_bipush (v := (16 : Int32)) hx hb dJ13_bitCount_95d88_43 (by decide) ?_
  refine lv_lushr hx hb dJ13_bitCount_95d88_45 rfl ?_
  refine lv_ladd hx hb dJ13_bitCount_95d88_46 ?_
  refine lv_topl (fun y_5 hy => ?_)
  have h := h y_5 hy
  refine lv_lstore_n (lv' := [(0, .long y_5)]) hx hb dJ13_bitCount_95d88_47 rfl hl (by decide) rfl (fun ls hl => ?_)
  refine lv_lload_n hx hb dJ13_bitCount_95d88_48 rfl (lv_at hl 0 rfl) ?_
  refine lv_lload_n hx hb dJ13_bitCount_95d88_49 rfl (lv_at hl 0 rfl) ?_
  refine lv_bipush (v := (32 : Int32)) hx hb dJ13_bitCount_95d88_50 (by decide) ?_
  refine lv_lushr hx hb dJ13_bitCount_95d88_52 rfl ?_
  refine lv_ladd hx hb dJ13_bitCount_95d88_53 ?_
  refine lv_topl (fun y_6 hy => ?_)
  have h := h y_6 hy
  refine lv_lstore_n (lv' := [(0, .long y_6)]) hx hb dJ13_bitCount_95d88_54 rfl hl (by decide) rfl (fun ls hl => ?_)
  refine lv_lload_n hx hb dJ13_bitCount_95d88_55 rfl (lv_at hl 0 rfl) ?_
  refine lv_l2i hx hb dJ13_bitCount_95d88_56 rfl ?_
  refine lv_bipush (v := (127 : Int32)) hx hb dJ13_bitCount_95d88_57 (by decide) ?_
  refine lv_iand hx hb dJ13_bitCount_95d88_59 ?_
  exact hret _ () _ _ _ _ rfl h hP hD hS dJ13_bitCount_95d88_60
abbrev rm_J7_fill_53178 : Room := { frames := 0, cells := 0, slots := 0, locals := 0 }
def wp_J7_fill_53178_b5 (len : Nat) (x1 : Int32) (Q : (Nat → Int32) → Prop)  : Nat → Int32 → Int32 → (Nat → Int32) → Prop
  | 0, _, _, _ => False
  | n + 1, x2, x3, a_f => ((x3 ≤ x2) → Q a_f) ∧ ((¬ x3 ≤ x2) → vp_in x2 len ∧ wp_J7_fill_53178_b5 len x1 Q n (x2 + (1 : Int32)) x3 (upd a_f x2.toNatClampNeg x1))
def wp_J7_fill_53178 (len : Nat) (x1 : Int32) (a_f : Nat → Int32) (Q : (Nat → Int32) → Prop) : Prop := ∃ j5, wp_J7_fill_53178_b5 len x1 Q j5 (0 : Int32) (nI len) a_f
set_option maxRecDepth 100000 in
set_option maxHeartbeats 4000000 in
theorem c_J7_fill_53178 (l : Launch) (G : va_G) (cI cD cZ cJ cO : ClassId) (len : Nat) (a_a : Nat) (a_f : Nat → Int32) (x1 : Int32) (Q : (Nat → Int32) → Prop) (h : wp_J7_fill_53178 len x1 a_f Q) : CtV l yJ7_fill_53178 wsJ7_fill_53178 rm_J7_fill_53178 G (TY cI cD cZ cJ cO) [.ref a_a, .int x1] [aI cI a_a len a_f] (fun (u : (Nat → Int32)) => Q u) (fun (u : (Nat → Int32)) => [aI cI a_a len u]) := by
  refine ct_openV (cc := cJ7_fill_53178) (maxL := 4) (by decide) rfl (Nat.le_of_ble_eq_true rfl) ?_
  intro p e s m args below meth c A Z ls hx hb hml hown hts hK hA hret hP hD hS hl
  have hown : s.vm.findClass RJ7 = some m.cls := hown
  have hl : lv_has ls 4 [(0, .ref a_a), (1, .int x1)] := hl
  have b_5 : ∀ (n : Nat) (x2 : Int32) (x3 : Int32) (a_f : Nat → Int32), wp_J7_fill_53178_b5 len x1 Q n x2 x3 a_f → ∀ (H : Heap) (locs : List Loc) (ls : Array Slot), ST G A s.heap [aI cI a_a len a_f] 4 [(0, .ref a_a), (1, .int x1), (2, .int x2), (3, .int x3)] H locs ls → W p l e rm_J7_fill_53178 s m args below meth c H locs 0 0 Z (F0 m 5 ls []) := by
    intro n
    induction n with
    | zero =>
      intro x2 x3 a_f h; exact False.elim h
    | succ n ih =>
      intro x2 x3 a_f h H locs ls hst
      obtain ⟨hP, hD, hS, hl⟩ := hst
      refine lv_iload_n hx hb dJ7_fill_53178_5 rfl (lv_at hl 2 rfl) ?_
      refine lv_iload_n hx hb dJ7_fill_53178_6 rfl (lv_at hl 3 rfl) ?_
      obtain ⟨ha, hf⟩ := h
      refine lv_icmp_ge (tgt := 20) hx hb dJ7_fill_53178_7 (by decide) (fun hc => ?_) (fun hc => ?_)
      · have h := ha hc
        clear ha hf
        exact hret a_f _ _ _ _ h hP hD hS dJ7_fill_53178_20
      · have h := hf hc
        clear ha hf
        refine lv_aload_n hx hb dJ7_fill_53178_10 rfl (lv_at hl 0 rfl) ?_
        refine lv_iload_n hx hb dJ7_fill_53178_11 rfl (lv_at hl 2 rfl) ?_
        refine lv_iload_n hx hb dJ7_fill_53178_12 rfl (lv_at hl 1 rfl) ?_
        obtain ⟨hi, h⟩ := h
        refine va_iast hx hb hK.1 hP hD hS 0 0 rfl rfl hi dJ7_fill_53178_13 (fun H locs hP hD hS => ?_)
        have hP : va_P G vwCl [aI cI a_a len (upd a_f x2.toNatClampNeg x1)] H := hP
        have hD : va_D A [aI cI a_a len (upd a_f x2.toNatClampNeg x1)] := hD
        refine lv_iinc (v := (x2 + (1 : Int32))) (lv' := [(2, .int (x2 + (1 : Int32))), (0, .ref a_a), (1, .int x1), (3, .int x3)]) hx hb dJ7_fill_53178_14 hl (k := 2) rfl rfl (by decide) rfl (fun ls hl => ?_)
        refine lv_goto (tgt := 5) hx hb dJ7_fill_53178_17 (by decide) ?_
        exact ih _ _ _ h _ _ _ ⟨hP, hD, hS, lv_sub hl [1, 2, 0, 3] rfl⟩
  refine lv_iconst (v := (0 : Int32)) hx hb dJ7_fill_53178_0 (by decide) ?_
  refine lv_istore_n (lv' := [(2, .int (0 : Int32)), (0, .ref a_a), (1, .int x1)]) hx hb dJ7_fill_53178_1 rfl hl (by decide) rfl (fun ls hl => ?_)
  refine lv_aload_n hx hb dJ7_fill_53178_2 rfl (lv_at hl 1 rfl) ?_
  refine va_alen (v := (nI len)) hx hb hK.1 hP 0 0 rfl rfl rfl dJ7_fill_53178_3 ?_
  refine lv_istore_n (lv' := [(3, .int (nI len)), (2, .int (0 : Int32)), (0, .ref a_a), (1, .int x1)]) hx hb dJ7_fill_53178_4 rfl hl (by decide) rfl (fun ls hl => ?_)
  obtain ⟨j, h⟩ := h
  exact b_5  j _ _ _ h _ _ _ ⟨hP, hD, hS, lv_sub hl [2, 3, 1, 0] rfl⟩
abbrev rm_J7_fill_d0a16 : Room := { frames := 0, cells := 0, slots := 0, locals := 0 }
def wp_J7_fill_d0a16_b6 (len : Nat) (x1 : Int64) (Q : (Nat → Int64) → Prop)  : Nat → Int32 → Int32 → (Nat → Int64) → Prop
  | 0, _, _, _ => False
  | n + 1, x3, x4, a_f => ((x4 ≤ x3) → Q a_f) ∧ ((¬ x4 ≤ x3) → vp_in x3 len ∧ wp_J7_fill_d0a16_b6 len x1 Q n (x3 + (1 : Int32)) x4 (vp_updL a_f x3.toNatClampNeg x1))
def wp_J7_fill_d0a16 (len : Nat) (x1 : Int64) (a_f : Nat → Int64) (Q : (Nat → Int64) → Prop) : Prop := ∃ j6, wp_J7_fill_d0a16_b6 len x1 Q j6 (0 : Int32) (nI len) a_f
set_option maxRecDepth 100000 in
set_option maxHeartbeats 4000000 in
theorem c_J7_fill_d0a16 (l : Launch) (G : va_G) (cI cD cZ cJ cO : ClassId) (len : Nat) (a_a : Nat) (a_f : Nat → Int64) (x1 : Int64) (Q : (Nat → Int64) → Prop) (h : wp_J7_fill_d0a16 len x1 a_f Q) : CtV l yJ7_fill_d0a16 wsJ7_fill_d0a16 rm_J7_fill_d0a16 G (TY cI cD cZ cJ cO) [.ref a_a, .long x1] [aJ cJ a_a len a_f] (fun (u : (Nat → Int64)) => Q u) (fun (u : (Nat → Int64)) => [aJ cJ a_a len u]) := by
  refine ct_openV (cc := cJ7_fill_d0a16) (maxL := 5) (by decide) rfl (Nat.le_of_ble_eq_true rfl) ?_
  intro p e s m args below meth c A Z ls hx hb hml hown hts hK hA hret hP hD hS hl
  have hown : s.vm.findClass RJ7 = some m.cls := hown
  have hl : lv_has ls 5 [(0, .ref a_a), (1, .long x1)] := hl
  have b_6 : ∀ (n : Nat) (x3 : Int32) (x4 : Int32) (a_f : Nat → Int64), wp_J7_fill_d0a16_b6 len x1 Q n x3 x4 a_f → ∀ (H : Heap) (locs : List Loc) (ls : Array Slot), ST G A s.heap [aJ cJ a_a len a_f] 5 [(0, .ref a_a), (1, .long x1), (3, .int x3), (4, .int x4)] H locs ls → W p l e rm_J7_fill_d0a16 s m args below meth c H locs 0 0 Z (F0 m 6 ls []) := by
    intro n
    induction n with
    | zero =>
      intro x3 x4 a_f h; exact False.elim h
    | succ n ih =>
      intro x3 x4 a_f h H locs ls hst
      obtain ⟨hP, hD, hS, hl⟩ := hst
      refine lv_iload_n hx hb dJ7_fill_d0a16_6 rfl (lv_at hl 2 rfl) ?_
      refine lv_iload hx hb dJ7_fill_d0a16_7 (lv_at hl 3 rfl) ?_
      obtain ⟨ha, hf⟩ := h
      refine lv_icmp_ge (tgt := 22) hx hb dJ7_fill_d0a16_9 (by decide) (fun hc => ?_) (fun hc => ?_)
      · have h := ha hc
        clear ha hf
        exact hret a_f _ _ _ _ h hP hD hS dJ7_fill_d0a16_22
      · have h := hf hc
        clear ha hf
        refine lv_aload_n hx hb dJ7_fill_d0a16_12 rfl (lv_at hl 0 rfl) ?_
        refine lv_iload_n hx hb dJ7_fill_d0a16_13 rfl (lv_at hl 2 rfl) ?_
        refine lv_lload_n hx hb dJ7_fill_d0a16_14 rfl (lv_at hl 1 rfl) ?_
        obtain ⟨hi, h⟩ := h
        refine va_last hx hb hK.1 hP hD hS 0 3 rfl rfl hi dJ7_fill_d0a16_15 (fun H locs hP hD hS => ?_)
        have hP : va_P G vwCl [aJ cJ a_a len (vp_updL a_f x3.toNatClampNeg x1)] H := hP
        have hD : va_D A [aJ cJ a_a len (vp_updL a_f x3.toNatClampNeg x1)] := hD
        refine lv_iinc (v := (x3 + (1 : Int32))) (lv' := [(3, .int (x3 + (1 : Int32))), (0, .ref a_a), (1, .long x1), (4, .int x4)]) hx hb dJ7_fill_d0a16_16 hl (k := 2) rfl rfl (by decide) rfl (fun ls hl => ?_)
        refine lv_goto (tgt := 6) hx hb dJ7_fill_d0a16_19 (by decide) ?_
        exact ih _ _ _ h _ _ _ ⟨hP, hD, hS, lv_sub hl [1, 2, 0, 3] rfl⟩
  refine lv_iconst (v := (0 : Int32)) hx hb dJ7_fill_d0a16_0 (by decide) ?_
  refine lv_istore_n (lv' := [(3, .int (0 : Int32)), (0, .ref a_a), (1, .long x1)]) hx hb dJ7_fill_d0a16_1 rfl hl (by decide) rfl (fun ls hl => ?_)
  refine lv_aload_n hx hb dJ7_fill_d0a16_2 rfl (lv_at hl 1 rfl) ?_
  refine va_alen (v := (nI len)) hx hb hK.1 hP 0 3 rfl rfl rfl dJ7_fill_d0a16_3 ?_
  refine lv_istore (lv' := [(4, .int (nI len)), (3, .int (0 : Int32)), (0, .ref a_a), (1, .long x1)]) hx hb dJ7_fill_d0a16_4 hl (by decide) rfl (fun ls hl => ?_)
  obtain ⟨j, h⟩ := h
  exact b_6  j _ _ _ h _ _ _ ⟨hP, hD, hS, lv_sub hl [2, 3, 1, 0] rfl⟩
abbrev rm_J7_fill_7f8df : Room := { frames := 0, cells := 0, slots := 0, locals := 0 }
def wp_J7_fill_7f8df_b6 (len : Nat) (x1 : UInt64) (Q : (Nat → UInt64) → Prop)  : Nat → Int32 → Int32 → (Nat → UInt64) → Prop
  | 0, _, _, _ => False
  | n + 1, x3, x4, a_f => ((x4 ≤ x3) → Q a_f) ∧ ((¬ x4 ≤ x3) → vp_in x3 len ∧ wp_J7_fill_7f8df_b6 len x1 Q n (x3 + (1 : Int32)) x4 (vf_upd a_f x3.toNatClampNeg x1))
def wp_J7_fill_7f8df (len : Nat) (x1 : UInt64) (a_f : Nat → UInt64) (Q : (Nat → UInt64) → Prop) : Prop := ∃ j6, wp_J7_fill_7f8df_b6 len x1 Q j6 (0 : Int32) (nI len) a_f
set_option maxRecDepth 100000 in
set_option maxHeartbeats 4000000 in
theorem c_J7_fill_7f8df (l : Launch) (G : va_G) (cI cD cZ cJ cO : ClassId) (len : Nat) (a_a : Nat) (a_f : Nat → UInt64) (x1 : UInt64) (Q : (Nat → UInt64) → Prop) (h : wp_J7_fill_7f8df len x1 a_f Q) : CtV l yJ7_fill_7f8df wsJ7_fill_7f8df rm_J7_fill_7f8df G (TY cI cD cZ cJ cO) [.ref a_a, .double x1] [aD cD a_a len a_f] (fun (u : (Nat → UInt64)) => Q u) (fun (u : (Nat → UInt64)) => [aD cD a_a len u]) := by
  refine ct_openV (cc := cJ7_fill_7f8df) (maxL := 5) (by decide) rfl (Nat.le_of_ble_eq_true rfl) ?_
  intro p e s m args below meth c A Z ls hx hb hml hown hts hK hA hret hP hD hS hl
  have hown : s.vm.findClass RJ7 = some m.cls := hown
  have hl : lv_has ls 5 [(0, .ref a_a), (1, .double x1)] := hl
  have b_6 : ∀ (n : Nat) (x3 : Int32) (x4 : Int32) (a_f : Nat → UInt64), wp_J7_fill_7f8df_b6 len x1 Q n x3 x4 a_f → ∀ (H : Heap) (locs : List Loc) (ls : Array Slot), ST G A s.heap [aD cD a_a len a_f] 5 [(0, .ref a_a), (1, .double x1), (3, .int x3), (4, .int x4)] H locs ls → W p l e rm_J7_fill_7f8df s m args below meth c H locs 0 0 Z (F0 m 6 ls []) := by
    intro n
    induction n with
    | zero =>
      intro x3 x4 a_f h; exact False.elim h
    | succ n ih =>
      intro x3 x4 a_f h H locs ls hst
      obtain ⟨hP, hD, hS, hl⟩ := hst
      refine lv_iload_n hx hb dJ7_fill_7f8df_6 rfl (lv_at hl 2 rfl) ?_
      refine lv_iload hx hb dJ7_fill_7f8df_7 (lv_at hl 3 rfl) ?_
      obtain ⟨ha, hf⟩ := h
      refine lv_icmp_ge (tgt := 22) hx hb dJ7_fill_7f8df_9 (by decide) (fun hc => ?_) (fun hc => ?_)
      · have h := ha hc
        clear ha hf
        exact hret a_f _ _ _ _ h hP hD hS dJ7_fill_7f8df_22
      · have h := hf hc
        clear ha hf
        refine lv_aload_n hx hb dJ7_fill_7f8df_12 rfl (lv_at hl 0 rfl) ?_
        refine lv_iload_n hx hb dJ7_fill_7f8df_13 rfl (lv_at hl 2 rfl) ?_
        refine lv_dload_n hx hb dJ7_fill_7f8df_14 rfl (lv_at hl 1 rfl) ?_
        obtain ⟨hi, h⟩ := h
        refine va_dast hx hb hK.1 hP hD hS 0 1 rfl rfl hi dJ7_fill_7f8df_15 (fun H locs hP hD hS => ?_)
        have hP : va_P G vwCl [aD cD a_a len (vf_upd a_f x3.toNatClampNeg x1)] H := hP
        have hD : va_D A [aD cD a_a len (vf_upd a_f x3.toNatClampNeg x1)] := hD
        refine lv_iinc (v := (x3 + (1 : Int32))) (lv' := [(3, .int (x3 + (1 : Int32))), (0, .ref a_a), (1, .double x1), (4, .int x4)]) hx hb dJ7_fill_7f8df_16 hl (k := 2) rfl rfl (by decide) rfl (fun ls hl => ?_)
        refine lv_goto (tgt := 6) hx hb dJ7_fill_7f8df_19 (by decide) ?_
        exact ih _ _ _ h _ _ _ ⟨hP, hD, hS, lv_sub hl [1, 2, 0, 3] rfl⟩
  refine lv_iconst (v := (0 : Int32)) hx hb dJ7_fill_7f8df_0 (by decide) ?_
  refine lv_istore_n (lv' := [(3, .int (0 : Int32)), (0, .ref a_a), (1, .double x1)]) hx hb dJ7_fill_7f8df_1 rfl hl (by decide) rfl (fun ls hl => ?_)
  refine lv_aload_n hx hb dJ7_fill_7f8df_2 rfl (lv_at hl 1 rfl) ?_
  refine va_alen (v := (nI len)) hx hb hK.1 hP 0 1 rfl rfl rfl dJ7_fill_7f8df_3 ?_
  refine lv_istore (lv' := [(4, .int (nI len)), (3, .int (0 : Int32)), (0, .ref a_a), (1, .double x1)]) hx hb dJ7_fill_7f8df_4 hl (by decide) rfl (fun ls hl => ?_)
  obtain ⟨j, h⟩ := h
  exact b_6  j _ _ _ h _ _ _ ⟨hP, hD, hS, lv_sub hl [2, 3, 1, 0] rfl⟩
