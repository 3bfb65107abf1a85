theorem sw3_out {x : Int32} (h0 : ¬ x = (0 : Int32)) (h1 : ¬ x = (1 : Int32)) (h2 : ¬ x = (2 : Int32)) : x.toInt < 0 ∨ 2 < x.toInt := by
  rcases Int.lt_or_le x.toInt 0 with h | h
  · exact Or.inl h
  · rcases Int.lt_or_le 2 x.toInt with g | g
    · exact Or.inr g
    · exfalso
      have e : x.toInt = 0 ∨ x.toInt = 1 ∨ x.toInt = 2 := by omega
      rcases e with e | e | e
      · exact h0 (Int32.toInt_inj.mp (by rw [e]; rfl))
      · exact h1 (Int32.toInt_inj.mp (by rw [e]; rfl))
      · exact h2 (Int32.toInt_inj.mp (by rw [e]; rfl))
abbrev rm_X3_hasRoomFor : Room := { frames := 0, cells := 0, slots := 0, locals := 0 }
def wp_X3_hasRoomFor (x1 : Int32) (s_count : Int32) (Q : Int32 → Prop) : Prop := (((12 : Int32) < (s_count + x1)) → Q (0 : Int32)) ∧ ((¬ (12 : Int32) < (s_count + x1)) → Q (1 : Int32))
set_option maxRecDepth 100000 in
set_option maxHeartbeats 4000000 in
theorem c_X3_hasRoomFor (l : Launch) (G : va_G) (cI cD cZ cJ cO : ClassId) (s_a s_ac : Nat) (s_count : Int32) (s_codes : Nat → Int32) (x1 : Int32) (Q : Int32 → Prop) (h : wp_X3_hasRoomFor x1 s_count Q) : CtI l yX3_hasRoomFor wsX3_hasRoomFor rm_X3_hasRoomFor G (TY cI cD cZ cJ cO) [.ref s_a, .int x1] [oX3 s_a s_count s_ac, aI cI s_ac 12 s_codes] (fun (r : Int32) (u : Unit) => Q r) (fun (u : Unit) => [oX3 s_a s_count s_ac, aI cI s_ac 12 s_codes]) := by
  refine ct_openI (cc := cX3_hasRoomFor) (maxL := 2) (ty := .boolean) (by decide) rfl (Nat.le_of_ble_eq_true rfl) ?_
  intro p e s m args below meth c A Z ls hx hb hml hown hts hK hA hret hP hD hS hl
  have hown : s.vm.findClass RX3 = some m.cls := hown
  have hl : lv_has ls 2 [(0, .ref s_a), (1, .int x1)] := hl
  have f_9 := hts (.fieldLink RX3 9 "TeachingSets$Sample" "count" "I") (List.mem_of_getElem? (i := 1) rfl)
  have i_X3 : ∀ w ∈ wsX30, w ∈ wsX3_hasRoomFor := fun _ h => List.mem_cons_of_mem _ (List.mem_append_right _ (h))
  refine lv_aload_n hx hb dX3_hasRoomFor_0 rfl (lv_at hl 0 rfl) ?_
  refine va_get (D := G) (ci := 3) (v := .int s_count) (C := RX3) (T := TX3) (N := 2) hx hb hts i_X3 hown hK.1 hP 0 rfl rfl 0 (by decide) f_9 (fun _ h9 => h9) rfl dX3_hasRoomFor_1 ?_
  refine lv_iload_n hx hb dX3_hasRoomFor_4 rfl (lv_at hl 1 rfl) ?_
  refine lv_iadd hx hb dX3_hasRoomFor_5 ?_
  refine lv_bipush (v := (12 : Int32)) hx hb dX3_hasRoomFor_6 (by decide) ?_
  obtain ⟨ha, hf⟩ := h
  refine lv_icmp_gt (tgt := 15) hx hb dX3_hasRoomFor_8 (by decide) (fun hc => ?_) (fun hc => ?_)
  · have h := ha hc
    clear ha hf
    refine lv_iconst (v := (0 : Int32)) hx hb dX3_hasRoomFor_15 (by decide) ?_
    exact hret _ () _ _ _ _ rfl h hP hD hS dX3_hasRoomFor_16
  · have h := hf hc
    clear ha hf
    refine lv_iconst (v := (1 : Int32)) hx hb dX3_hasRoomFor_11 (by decide) ?_
    refine lv_goto (tgt := 16) hx hb dX3_hasRoomFor_12 (by decide) ?_
    exact hret _ () _ _ _ _ rfl h hP hD hS dX3_hasRoomFor_16
abbrev rm_X3_append : Room := { frames := 0, cells := 0, slots := 0, locals := 0 }
def wp_X3_append (x1 : Int32) (x2 : Int32) (s_count : Int32) (s_codes : Nat → Int32) (Q : Int32 → (Nat → Int32) → Prop) : Prop := vp_in s_count 12 ∧ Q (s_count + (1 : Int32)) (upd s_codes s_count.toNatClampNeg (((2 : Int32) * x1) + x2))
set_option maxRecDepth 100000 in
set_option maxHeartbeats 4000000 in
theorem c_X3_append (l : Launch) (G : va_G) (cI cD cZ cJ cO : ClassId) (s_a s_ac : Nat) (s_count : Int32) (s_codes : Nat → Int32) (x1 : Int32) (x2 : Int32) (Q : Int32 → (Nat → Int32) → Prop) (h : wp_X3_append x1 x2 s_count s_codes Q) : CtV l yX3_append wsX3_append rm_X3_append G (TY cI cD cZ cJ cO) [.ref s_a, .int x1, .int x2] [oX3 s_a s_count s_ac, aI cI s_ac 12 s_codes] (fun (u : Int32 × (Nat → Int32)) => Q u.1 u.2) (fun (u : Int32 × (Nat → Int32)) => [oX3 s_a u.1 s_ac, aI cI s_ac 12 u.2]) := by
  refine ct_openV (cc := cX3_append) (maxL := 3) (by decide) rfl (Nat.le_of_ble_eq_true rfl) ?_
  intro p e s m args below meth c A Z ls hx hb hml hown hts hK hA hret hP hD hS hl
  have hown : s.vm.findClass RX3 = some m.cls := hown
  have hl : lv_has ls 3 [(0, .ref s_a), (1, .int x1), (2, .int x2)] := hl
  have f_15 := hts (.fieldLink RX3 15 "TeachingSets$Sample" "codes" "[I") (List.mem_of_getElem? (i := 1) rfl)
  have f_9 := hts (.fieldLink RX3 9 "TeachingSets$Sample" "count" "I") (List.mem_of_getElem? (i := 2) rfl)
  have i_X3 : ∀ w ∈ wsX30, w ∈ wsX3_append := fun _ h => List.mem_cons_of_mem _ (List.mem_append_right _ (h))
  refine lv_aload_n hx hb dX3_append_0 rfl (lv_at hl 0 rfl) ?_
  refine va_get (D := G) (ci := 3) (v := .ref s_ac) (C := RX3) (T := TX3) (N := 2) hx hb hts i_X3 hown hK.1 hP 0 rfl rfl 1 (by decide) f_15 (fun _ h9 => h9) rfl dX3_append_1 ?_
  refine lv_aload_n hx hb dX3_append_4 rfl (lv_at hl 0 rfl) ?_
  refine va_get (D := G) (ci := 3) (v := .int s_count) (C := RX3) (T := TX3) (N := 2) hx hb hts i_X3 hown hK.1 hP 0 rfl rfl 0 (by decide) f_9 (fun _ h9 => h9) rfl dX3_append_5 ?_
  refine lv_iconst (v := (2 : Int32)) hx hb dX3_append_8 (by decide) ?_
  refine lv_iload_n hx hb dX3_append_9 rfl (lv_at hl 1 rfl) ?_
  refine lv_imul hx hb dX3_append_10 ?_
  refine lv_iload_n hx hb dX3_append_11 rfl (lv_at hl 2 rfl) ?_
  refine lv_iadd hx hb dX3_append_12 ?_
  obtain ⟨hi, h⟩ := h
  refine va_iast hx hb hK.1 hP hD hS 1 0 rfl rfl hi dX3_append_13 (fun H locs hP hD hS => ?_)
  have hP : va_P G vwCl [oX3 s_a s_count s_ac, aI cI s_ac 12 (upd s_codes s_count.toNatClampNeg (((2 : Int32) * x1) + x2))] H := hP
  have hD : va_D A [oX3 s_a s_count s_ac, aI cI s_ac 12 (upd s_codes s_count.toNatClampNeg (((2 : Int32) * x1) + x2))] := hD
  refine lv_aload_n hx hb dX3_append_14 rfl (lv_at hl 0 rfl) ?_
  refine lv_dup hx hb dX3_append_15 rfl ?_
  refine va_get (D := G) (ci := 3) (v := .int s_count) (C := RX3) (T := TX3) (N := 2) hx hb hts i_X3 hown hK.1 hP 0 rfl rfl 0 (by decide) f_9 (fun _ h9 => h9) rfl dX3_append_16 ?_
  refine lv_iconst (v := (1 : Int32)) hx hb dX3_append_19 (by decide) ?_
  refine lv_iadd hx hb dX3_append_20 ?_
  refine va_put (D := G) (ci := 3) (v := .int (s_count + (1 : Int32))) (ty := .int) (C := RX3) (T := TX3) (N := 2) hx hb hts i_X3 tyX3 tyX3_ok nmX3 hown hK.1 hP hD hS 0 rfl rfl 0 (by decide) f_9 (fun _ h9 => h9) rfl (tyX3_ok 0 (by decide)) rfl rfl (Nat.le_of_ble_eq_true rfl) dX3_append_21 (fun H locs hP hD hS => ?_)
  have hP : va_P G vwCl [oX3 s_a (s_count + (1 : Int32)) s_ac, aI cI s_ac 12 (upd s_codes s_count.toNatClampNeg (((2 : Int32) * x1) + x2))] H := hP
  have hD : va_D A [oX3 s_a (s_count + (1 : Int32)) s_ac, aI cI s_ac 12 (upd s_codes s_count.toNatClampNeg (((2 : Int32) * x1) + x2))] := hD
  exact hret ((s_count + (1 : Int32)), (upd s_codes s_count.toNatClampNeg (((2 : Int32) * x1) + x2))) _ _ _ _ h hP hD hS dX3_append_24
abbrev rm_X3_pointAt : Room := { frames := 0, cells := 0, slots := 0, locals := 0 }
def wp_X3_pointAt (x1 : Int32) (s_codes : Nat → Int32) (Q : Int32 → Prop) : Prop := vp_in x1 12 ∧ Q ((s_codes x1.toNatClampNeg) >>> ((1 : Int32) &&& 31))
set_option maxRecDepth 100000 in
set_option maxHeartbeats 4000000 in
theorem c_X3_pointAt (l : Launch) (G : va_G) (cI cD cZ cJ cO : ClassId) (s_a s_ac : Nat) (s_count : Int32) (s_codes : Nat → Int32) (x1 : Int32) (Q : Int32 → Prop) (h : wp_X3_pointAt x1 s_codes Q) : CtI l yX3_pointAt wsX3_pointAt rm_X3_pointAt G (TY cI cD cZ cJ cO) [.ref s_a, .int x1] [oX3 s_a s_count s_ac, aI cI s_ac 12 s_codes] (fun (r : Int32) (u : Unit) => Q r) (fun (u : Unit) => [oX3 s_a s_count s_ac, aI cI s_ac 12 s_codes]) := by
  refine ct_openI (cc := cX3_pointAt) (maxL := 2) (ty := .int) (by decide) rfl (Nat.le_of_ble_eq_true rfl) ?_
  intro p e s m args below meth c A Z ls hx hb hml hown hts hK hA hret hP hD hS hl
  have hown : s.vm.findClass RX3 = some m.cls := hown
  have hl : lv_has ls 2 [(0, .ref s_a), (1, .int x1)] := hl
  have f_15 := hts (.fieldLink RX3 15 "TeachingSets$Sample" "codes" "[I") (List.mem_of_getElem? (i := 1) rfl)
  have i_X3 : ∀ w ∈ wsX30, w ∈ wsX3_pointAt := fun _ h => List.mem_cons_of_mem _ (List.mem_append_right _ (h))
  refine lv_aload_n hx hb dX3_pointAt_0 rfl (lv_at hl 0 rfl) ?_
  refine va_get (D := G) (ci := 3) (v := .ref s_ac) (C := RX3) (T := TX3) (N := 2) hx hb hts i_X3 hown hK.1 hP 0 rfl rfl 1 (by decide) f_15 (fun _ h9 => h9) rfl dX3_pointAt_1 ?_
  refine lv_iload_n hx hb dX3_pointAt_4 rfl (lv_at hl 1 rfl) ?_
  obtain ⟨hi, h⟩ := h
  refine va_iald hx hb hK.1 hP 1 0 rfl rfl hi dX3_pointAt_5 ?_
  refine lv_iconst (v := (1 : Int32)) hx hb dX3_pointAt_6 (by decide) ?_
  refine lv_ishr hx hb dX3_pointAt_7 ?_
  exact hret _ () _ _ _ _ rfl h hP hD hS dX3_pointAt_8
abbrev rm_X3_labelAt : Room := { frames := 0, cells := 0, slots := 0, locals := 0 }
def wp_X3_labelAt (x1 : Int32) (s_codes : Nat → Int32) (Q : Int32 → Prop) : Prop := vp_in x1 12 ∧ Q ((s_codes x1.toNatClampNeg) &&& (1 : Int32))
set_option maxRecDepth 100000 in
set_option maxHeartbeats 4000000 in
theorem c_X3_labelAt (l : Launch) (G : va_G) (cI cD cZ cJ cO : ClassId) (s_a s_ac : Nat) (s_count : Int32) (s_codes : Nat → Int32) (x1 : Int32) (Q : Int32 → Prop) (h : wp_X3_labelAt x1 s_codes Q) : CtI l yX3_labelAt wsX3_labelAt rm_X3_labelAt G (TY cI cD cZ cJ cO) [.ref s_a, .int x1] [oX3 s_a s_count s_ac, aI cI s_ac 12 s_codes] (fun (r : Int32) (u : Unit) => Q r) (fun (u : Unit) => [oX3 s_a s_count s_ac, aI cI s_ac 12 s_codes]) := by
  refine ct_openI (cc := cX3_labelAt) (maxL := 2) (ty := .int) (by decide) rfl (Nat.le_of_ble_eq_true rfl) ?_
  intro p e s m args below meth c A Z ls hx hb hml hown hts hK hA hret hP hD hS hl
  have hown : s.vm.findClass RX3 = some m.cls := hown
  have hl : lv_has ls 2 [(0, .ref s_a), (1, .int x1)] := hl
  have f_15 := hts (.fieldLink RX3 15 "TeachingSets$Sample" "codes" "[I") (List.mem_of_getElem? (i := 1) rfl)
  have i_X3 : ∀ w ∈ wsX30, w ∈ wsX3_labelAt := fun _ h => List.mem_cons_of_mem _ (List.mem_append_right _ (h))
  refine lv_aload_n hx hb dX3_labelAt_0 rfl (lv_at hl 0 rfl) ?_
  refine va_get (D := G) (ci := 3) (v := .ref s_ac) (C := RX3) (T := TX3) (N := 2) hx hb hts i_X3 hown hK.1 hP 0 rfl rfl 1 (by decide) f_15 (fun _ h9 => h9) rfl dX3_labelAt_1 ?_
  refine lv_iload_n hx hb dX3_labelAt_4 rfl (lv_at hl 1 rfl) ?_
  obtain ⟨hi, h⟩ := h
  refine va_iald hx hb hK.1 hP 1 0 rfl rfl hi dX3_labelAt_5 ?_
  refine lv_iconst (v := (1 : Int32)) hx hb dX3_labelAt_6 (by decide) ?_
  refine lv_iand hx hb dX3_labelAt_7 ?_
  exact hret _ () _ _ _ _ rfl h hP hD hS dX3_labelAt_8
abbrev rm_X3_forget : Room := { frames := 0, cells := 0, slots := 0, locals := 0 }
def wp_X3_forget (s_count : Int32) (Q : Int32 → Prop) : Prop := Q (0 : Int32)
set_option maxRecDepth 100000 in
set_option maxHeartbeats 4000000 in
theorem c_X3_forget (l : Launch) (G : va_G) (cI cD cZ cJ cO : ClassId) (s_a s_ac : Nat) (s_count : Int32) (s_codes : Nat → Int32) (Q : Int32 → Prop) (h : wp_X3_forget s_count Q) : CtV l yX3_forget wsX3_forget rm_X3_forget G (TY cI cD cZ cJ cO) [.ref s_a] [oX3 s_a s_count s_ac, aI cI s_ac 12 s_codes] (fun (u : Int32) => Q u) (fun (u : Int32) => [oX3 s_a u s_ac, aI cI s_ac 12 s_codes]) := by
  refine ct_openV (cc := cX3_forget) (maxL := 1) (by decide) rfl (Nat.le_of_ble_eq_true rfl) ?_
  intro p e s m args below meth c A Z ls hx hb hml hown hts hK hA hret hP hD hS hl
  have hown : s.vm.findClass RX3 = some m.cls := hown
  have hl : lv_has ls 1 [(0, .ref s_a)] := hl
  have f_9 := hts (.fieldLink RX3 9 "TeachingSets$Sample" "count" "I") (List.mem_of_getElem? (i := 1) rfl)
  have i_X3 : ∀ w ∈ wsX30, w ∈ wsX3_forget := fun _ h => List.mem_cons_of_mem _ (List.mem_append_right _ (h))
  refine lv_aload_n hx hb dX3_forget_0 rfl (lv_at hl 0 rfl) ?_
  refine lv_iconst (v := (0 : Int32)) hx hb dX3_forget_1 (by decide) ?_
  refine va_put (D := G) (ci := 3) (v := .int (0 : Int32)) (ty := .int) (C := RX3) (T := TX3) (N := 2) hx hb hts i_X3 tyX3 tyX3_ok nmX3 hown hK.1 hP hD hS 0 rfl rfl 0 (by decide) f_9 (fun _ h9 => h9) rfl (tyX3_ok 0 (by decide)) rfl rfl (Nat.le_of_ble_eq_true rfl) dX3_forget_2 (fun H locs hP hD hS => ?_)
  have hP : va_P G vwCl [oX3 s_a (0 : Int32) s_ac, aI cI s_ac 12 s_codes] H := hP
  have hD : va_D A [oX3 s_a (0 : Int32) s_ac, aI cI s_ac 12 s_codes] := hD
  exact hret (0 : Int32) _ _ _ _ h hP hD hS dX3_forget_5
abbrev rm_X3_take : Room := { frames := 1, cells := 0, slots := 0, locals := 64 }
def wp_X3_take (s_count : Int32) (s_codes : Nat → Int32) (t_count : Int32) (t_codes : Nat → Int32) (Q : Int32 → (Nat → Int32) → Prop) : Prop := (¬ (0 : Int32) < 0) ∧ (¬ (0 : Int32) < 0) ∧ (¬ (12 : Int32) < 0) ∧ ((0 : Int32).toNatClampNeg + (12 : Int32).toNatClampNeg ≤ 12) ∧ ((0 : Int32).toNatClampNeg + (12 : Int32).toNatClampNeg ≤ 12) ∧ Q t_count (va_cpy t_codes s_codes (0 : Int32).toNatClampNeg (0 : Int32).toNatClampNeg (12 : Int32).toNatClampNeg)
set_option maxRecDepth 100000 in
set_option maxHeartbeats 4000000 in
theorem c_X3_take (l : Launch) (G : va_G) (cI cD cZ cJ cO : ClassId) (s_a s_ac t_a t_ac : Nat) (s_count : Int32) (s_codes : Nat → Int32) (t_count : Int32) (t_codes : Nat → Int32) (Q : Int32 → (Nat → Int32) → Prop) (h : wp_X3_take s_count s_codes t_count t_codes Q) : CtV l yX3_take wsX3_take rm_X3_take G (TY cI cD cZ cJ cO) [.ref s_a, .ref t_a] [oX3 s_a s_count s_ac, aI cI s_ac 12 s_codes, oX3 t_a t_count t_ac, aI cI t_ac 12 t_codes] (fun (u : Int32 × (Nat → Int32)) => Q u.1 u.2) (fun (u : Int32 × (Nat → Int32)) => [oX3 s_a u.1 s_ac, aI cI s_ac 12 u.2, oX3 t_a t_count t_ac, aI cI t_ac 12 t_codes]) := by
  refine ct_openV (cc := cX3_take) (maxL := 2) (by decide) rfl (Nat.le_of_ble_eq_true rfl) ?_
  intro p e s m args below meth c A Z ls hx hb hml hown hts hK hA hret hP hD hS hl
  have hown : s.vm.findClass RX3 = some m.cls := hown
  have hl : lv_has ls 2 [(0, .ref s_a), (1, .ref t_a)] := hl
  have f_9 := hts (.fieldLink RX3 9 "TeachingSets$Sample" "count" "I") (List.mem_of_getElem? (i := 1) rfl)
  have f_15 := hts (.fieldLink RX3 15 "TeachingSets$Sample" "codes" "[I") (List.mem_of_getElem? (i := 2) rfl)
  have i_X3 : ∀ w ∈ wsX30, w ∈ wsX3_take := fun _ h => List.mem_cons_of_mem _ (List.mem_append_right _ (h))
  refine lv_aload_n hx hb dX3_take_0 rfl (lv_at hl 0 rfl) ?_
  refine lv_aload_n hx hb dX3_take_1 rfl (lv_at hl 1 rfl) ?_
  refine va_get (D := G) (ci := 3) (v := .int t_count) (C := RX3) (T := TX3) (N := 2) hx hb hts i_X3 hown hK.1 hP 2 rfl rfl 0 (by decide) f_9 (fun _ h9 => h9) rfl dX3_take_2 ?_
  refine va_put (D := G) (ci := 3) (v := .int t_count) (ty := .int) (C := RX3) (T := TX3) (N := 2) hx hb hts i_X3 tyX3 tyX3_ok nmX3 hown hK.1 hP hD hS 0 rfl rfl 0 (by decide) f_9 (fun _ h9 => h9) rfl (tyX3_ok 0 (by decide)) rfl rfl (Nat.le_of_ble_eq_true rfl) dX3_take_5 (fun H locs hP hD hS => ?_)
  have hP : va_P G vwCl [oX3 s_a t_count s_ac, aI cI s_ac 12 s_codes, oX3 t_a t_count t_ac, aI cI t_ac 12 t_codes] H := hP
  have hD : va_D A [oX3 s_a t_count s_ac, aI cI s_ac 12 s_codes, oX3 t_a t_count t_ac, aI cI t_ac 12 t_codes] := hD
  refine lv_aload_n hx hb dX3_take_8 rfl (lv_at hl 1 rfl) ?_
  refine va_get (D := G) (ci := 3) (v := .ref t_ac) (C := RX3) (T := TX3) (N := 2) hx hb hts i_X3 hown hK.1 hP 2 rfl rfl 1 (by decide) f_15 (fun _ h9 => h9) rfl dX3_take_9 ?_
  refine lv_iconst (v := (0 : Int32)) hx hb dX3_take_12 (by decide) ?_
  refine lv_aload_n hx hb dX3_take_13 rfl (lv_at hl 0 rfl) ?_
  refine va_get (D := G) (ci := 3) (v := .ref s_ac) (C := RX3) (T := TX3) (N := 2) hx hb hts i_X3 hown hK.1 hP 0 rfl rfl 1 (by decide) f_15 (fun _ h9 => h9) rfl dX3_take_14 ?_
  refine lv_iconst (v := (0 : Int32)) hx hb dX3_take_17 (by decide) ?_
  refine lv_bipush (v := (12 : Int32)) hx hb dX3_take_18 (by decide) ?_
  obtain ⟨h1, h2, h3, h4, h5, h⟩ := h
  refine va_copyi (ty := .int) hx hb (hml.trans hl.1.symm) hown (hts _ (List.mem_of_getElem? (i := 3) rfl)) (hts _ (List.mem_of_getElem? (i := 4) rfl)) (hts _ (List.mem_of_getElem? (i := 5) rfl)) (hts _ (List.mem_of_getElem? (i := 6) rfl)) hK.1 hP hD hS 3 1 0 0 rfl rfl rfl rfl rfl h1 h2 h3 h4 h5 (fun _ _ => rfl) (Nat.le_of_ble_eq_true rfl) (Nat.le_of_ble_eq_true rfl) dX3_take_20 (fun H locs hP hD hS => ?_)
  have hP : va_P G vwCl [oX3 s_a t_count s_ac, aI cI s_ac 12 (va_cpy t_codes s_codes (0 : Int32).toNatClampNeg (0 : Int32).toNatClampNeg (12 : Int32).toNatClampNeg), oX3 t_a t_count t_ac, aI cI t_ac 12 t_codes] H := hP
  have hD : va_D A [oX3 s_a t_count s_ac, aI cI s_ac 12 (va_cpy t_codes s_codes (0 : Int32).toNatClampNeg (0 : Int32).toNatClampNeg (12 : Int32).toNatClampNeg), oX3 t_a t_count t_ac, aI cI t_ac 12 t_codes] := hD
  exact hret (t_count, (va_cpy t_codes s_codes (0 : Int32).toNatClampNeg (0 : Int32).toNatClampNeg (12 : Int32).toNatClampNeg)) _ _ _ _ h hP hD hS dX3_take_23
abbrev rm_X5_isEmpty : Room := { frames := 0, cells := 0, slots := 0, locals := 0 }
def wp_X5_isEmpty (k_type : Int32) (Q : Int32 → Prop) : Prop := ((¬ k_type = (-1 : Int32)) → Q (0 : Int32)) ∧ ((k_type = (-1 : Int32)) → Q (1 : Int32))
set_option maxRecDepth 100000 in
set_option maxHeartbeats 4000000 in
theorem c_X5_isEmpty (l : Launch) (G : va_G) (cI cD cZ cJ cO : ClassId) (k_a k_aw k_ar : Nat) (k_type : Int32) (k_size : Int32) (k_wholes : Nat → Int64) (k_reals : Nat → UInt64) (Q : Int32 → Prop) (h : wp_X5_isEmpty k_type Q) : CtI l yX5_isEmpty wsX5_isEmpty rm_X5_isEmpty G (TY cI cD cZ cJ cO) [.ref k_a] [oX5 k_a k_type k_size k_aw k_ar, aJ cJ k_aw 40 k_wholes, aD cD k_ar 40 k_reals] (fun (r : Int32) (u : Unit) => Q r) (fun (u : Unit) => [oX5 k_a k_type k_size k_aw k_ar, aJ cJ k_aw 40 k_wholes, aD cD k_ar 40 k_reals]) := by
  refine ct_openI (cc := cX5_isEmpty) (maxL := 1) (ty := .boolean) (by decide) rfl (Nat.le_of_ble_eq_true rfl) ?_
  intro p e s m args below meth c A Z ls hx hb hml hown hts hK hA hret hP hD hS hl
  have hown : s.vm.findClass RX5 = some m.cls := hown
  have hl : lv_has ls 1 [(0, .ref k_a)] := hl
  have f_9 := hts (.fieldLink RX5 9 "TeachingSets$Slot" "type" "I") (List.mem_of_getElem? (i := 1) rfl)
  have i_X5 : ∀ w ∈ wsX50, w ∈ wsX5_isEmpty := fun _ h => List.mem_cons_of_mem _ (List.mem_append_right _ (h))
  refine lv_aload_n hx hb dX5_isEmpty_0 rfl (lv_at hl 0 rfl) ?_
  refine va_get (D := G) (ci := 5) (v := .int k_type) (C := RX5) (T := TX5) (N := 4) hx hb hts i_X5 hown hK.1 hP 0 rfl rfl 0 (by decide) f_9 (fun _ h9 => h9) rfl dX5_isEmpty_1 ?_
  refine lv_iconst (v := (-1 : Int32)) hx hb dX5_isEmpty_4 (by decide) ?_
  obtain ⟨ha, hf⟩ := h
  refine lv_icmp_ne (tgt := 12) hx hb dX5_isEmpty_5 (by decide) (fun hc => ?_) (fun hc => ?_)
  · have h := ha hc
    clear ha hf
    refine lv_iconst (v := (0 : Int32)) hx hb dX5_isEmpty_12 (by decide) ?_
    exact hret _ () _ _ _ _ rfl h hP hD hS dX5_isEmpty_13
  · have h := hf hc
    clear ha hf
    refine lv_iconst (v := (1 : Int32)) hx hb dX5_isEmpty_8 (by decide) ?_
    refine lv_goto (tgt := 13) hx hb dX5_isEmpty_9 (by decide) ?_
    exact hret _ () _ _ _ _ rfl h hP hD hS dX5_isEmpty_13
abbrev rm_X5_hasIndex : Room := { frames := 0, cells := 0, slots := 0, locals := 0 }
def wp_X5_hasIndex (x1 : Int32) (k_size : Int32) (Q : Int32 → Prop) : Prop := ((x1 < 0) → Q (0 : Int32)) ∧ ((¬ x1 < 0) → ((k_size ≤ x1) → Q (0 : Int32)) ∧ ((¬ k_size ≤ x1) → Q (1 : Int32)))
set_option maxRecDepth 100000 in
set_option maxHeartbeats 4000000 in
theorem c_X5_hasIndex (l : Launch) (G : va_G) (cI cD cZ cJ cO : ClassId) (k_a k_aw k_ar : Nat) (k_type : Int32) (k_size : Int32) (k_wholes : Nat → Int64) (k_reals : Nat → UInt64) (x1 : Int32) (Q : Int32 → Prop) (h : wp_X5_hasIndex x1 k_size Q) : CtI l yX5_hasIndex wsX5_hasIndex rm_X5_hasIndex G (TY cI cD cZ cJ cO) [.ref k_a, .int x1] [oX5 k_a k_type k_size k_aw k_ar, aJ cJ k_aw 40 k_wholes, aD cD k_ar 40 k_reals] (fun (r : Int32) (u : Unit) => Q r) (fun (u : Unit) => [oX5 k_a k_type k_size k_aw k_ar, aJ cJ k_aw 40 k_wholes, aD cD k_ar 40 k_reals]) := by
  refine ct_openI (cc := cX5_hasIndex) (maxL := 2) (ty := .boolean) (by decide) rfl (Nat.le_of_ble_eq_true rfl) ?_
  intro p e s m args below meth c A Z ls hx hb hml hown hts hK hA hret hP hD hS hl
  have hown : s.vm.findClass RX5 = some m.cls := hown
  have hl : lv_has ls 2 [(0, .ref k_a), (1, .int x1)] := hl
  have f_15 := hts (.fieldLink RX5 15 "TeachingSets$Slot" "size" "I") (List.mem_of_getElem? (i := 1) rfl)
  have i_X5 : ∀ w ∈ wsX50, w ∈ wsX5_hasIndex := fun _ h => List.mem_cons_of_mem _ (List.mem_append_right _ (h))
  refine lv_iload_n hx hb dX5_hasIndex_0 rfl (lv_at hl 1 rfl) ?_
  obtain ⟨ha, hf⟩ := h
  refine lv_if_lt (tgt := 16) hx hb dX5_hasIndex_1 (by decide) (fun hc => ?_) (fun hc => ?_)
  · have h := ha hc
    clear ha hf
    refine lv_iconst (v := (0 : Int32)) hx hb dX5_hasIndex_16 (by decide) ?_
    exact hret _ () _ _ _ _ rfl h hP hD hS dX5_hasIndex_17
  · have h := hf hc
    clear ha hf
    refine lv_iload_n hx hb dX5_hasIndex_4 rfl (lv_at hl 1 rfl) ?_
    refine lv_aload_n hx hb dX5_hasIndex_5 rfl (lv_at hl 0 rfl) ?_
    refine va_get (D := G) (ci := 5) (v := .int k_size) (C := RX5) (T := TX5) (N := 4) hx hb hts i_X5 hown hK.1 hP 0 rfl rfl 1 (by decide) f_15 (fun _ h9 => h9) rfl dX5_hasIndex_6 ?_
    obtain ⟨ha, hf⟩ := h
    refine lv_icmp_ge (tgt := 16) hx hb dX5_hasIndex_9 (by decide) (fun hc => ?_) (fun hc => ?_)
    · have h := ha hc
      clear ha hf
      refine lv_iconst (v := (0 : Int32)) hx hb dX5_hasIndex_16 (by decide) ?_
      exact hret _ () _ _ _ _ rfl h hP hD hS dX5_hasIndex_17
    · have h := hf hc
      clear ha hf
      refine lv_iconst (v := (1 : Int32)) hx hb dX5_hasIndex_12 (by decide) ?_
      refine lv_goto (tgt := 17) hx hb dX5_hasIndex_13 (by decide) ?_
      exact hret _ () _ _ _ _ rfl h hP hD hS dX5_hasIndex_17
abbrev rm_X5_hasStretch : Room := { frames := 0, cells := 0, slots := 0, locals := 0 }
def wp_X5_hasStretch (x1 : Int32) (x2 : Int32) (k_size : Int32) (Q : Int32 → Prop) : Prop := ((x1 < 0) → Q (0 : Int32)) ∧ ((¬ x1 < 0) → ((x2 < 0) → Q (0 : Int32)) ∧ ((¬ x2 < 0) → ((k_size < x1) → Q (0 : Int32)) ∧ ((¬ k_size < x1) → (((k_size - x1) < x2) → Q (0 : Int32)) ∧ ((¬ (k_size - x1) < x2) → Q (1 : Int32)))))
set_option maxRecDepth 100000 in
set_option maxHeartbeats 4000000 in
theorem c_X5_hasStretch (l : Launch) (G : va_G) (cI cD cZ cJ cO : ClassId) (k_a k_aw k_ar : Nat) (k_type : Int32) (k_size : Int32) (k_wholes : Nat → Int64) (k_reals : Nat → UInt64) (x1 : Int32) (x2 : Int32) (Q : Int32 → Prop) (h : wp_X5_hasStretch x1 x2 k_size Q) : CtI l yX5_hasStretch wsX5_hasStretch rm_X5_hasStretch G (TY cI cD cZ cJ cO) [.ref k_a, .int x1, .int x2] [oX5 k_a k_type k_size k_aw k_ar, aJ cJ k_aw 40 k_wholes, aD cD k_ar 40 k_reals] (fun (r : Int32) (u : Unit) => Q r) (fun (u : Unit) => [oX5 k_a k_type k_size k_aw k_ar, aJ cJ k_aw 40 k_wholes, aD cD k_ar 40 k_reals]) := by
  refine ct_openI (cc := cX5_hasStretch) (maxL := 3) (ty := .boolean) (by decide) rfl (Nat.le_of_ble_eq_true rfl) ?_
  intro p e s m args below meth c A Z ls hx hb hml hown hts hK hA hret hP hD hS hl
  have hown : s.vm.findClass RX5 = some m.cls := hown
  have hl : lv_has ls 3 [(0, .ref k_a), (1, .int x1), (2, .int x2)] := hl
  have f_15 := hts (.fieldLink RX5 15 "TeachingSets$Slot" "size" "I") (List.mem_of_getElem? (i := 1) rfl)
  have i_X5 : ∀ w ∈ wsX50, w ∈ wsX5_hasStretch := fun _ h => List.mem_cons_of_mem _ (List.mem_append_right _ (h))
  refine lv_iload_n hx hb dX5_hasStretch_0 rfl (lv_at hl 1 rfl) ?_
  obtain ⟨ha, hf⟩ := h
  refine lv_if_lt (tgt := 30) hx hb dX5_hasStretch_1 (by decide) (fun hc => ?_) (fun hc => ?_)
  · have h := ha hc
    clear ha hf
    refine lv_iconst (v := (0 : Int32)) hx hb dX5_hasStretch_30 (by decide) ?_
    exact hret _ () _ _ _ _ rfl h hP hD hS dX5_hasStretch_31
  · have h := hf hc
    clear ha hf
    refine lv_iload_n hx hb dX5_hasStretch_4 rfl (lv_at hl 2 rfl) ?_
    obtain ⟨ha, hf⟩ := h
    refine lv_if_lt (tgt := 30) hx hb dX5_hasStretch_5 (by decide) (fun hc => ?_) (fun hc => ?_)
    · have h := ha hc
      clear ha hf
      refine lv_iconst (v := (0 : Int32)) hx hb dX5_hasStretch_30 (by decide) ?_
      exact hret _ () _ _ _ _ rfl h hP hD hS dX5_hasStretch_31
    · have h := hf hc
      clear ha hf
      refine lv_iload_n hx hb dX5_hasStretch_8 rfl (lv_at hl 1 rfl) ?_
      refine lv_aload_n hx hb dX5_hasStretch_9 rfl (lv_at hl 0 rfl) ?_
      refine va_get (D := G) (ci := 5) (v := .int k_size) (C := RX5) (T := TX5) (N := 4) hx hb hts i_X5 hown hK.1 hP 0 rfl rfl 1 (by decide) f_15 (fun _ h9 => h9) rfl dX5_hasStretch_10 ?_
      obtain ⟨ha, hf⟩ := h
      refine lv_icmp_gt (tgt := 30) hx hb dX5_hasStretch_13 (by decide) (fun hc => ?_) (fun hc => ?_)
      · have h := ha hc
        clear ha hf
        refine lv_iconst (v := (0 : Int32)) hx hb dX5_hasStretch_30 (by decide) ?_
        exact hret _ () _ _ _ _ rfl h hP hD hS dX5_hasStretch_31
      · have h := hf hc
        clear ha hf
        refine lv_iload_n hx hb dX5_hasStretch_16 rfl (lv_at hl 2 rfl) ?_
        refine lv_aload_n hx hb dX5_hasStretch_17 rfl (lv_at hl 0 rfl) ?_
        refine va_get (D := G) (ci := 5) (v := .int k_size) (C := RX5) (T := TX5) (N := 4) hx hb hts i_X5 hown hK.1 hP 0 rfl rfl 1 (by decide) f_15 (fun _ h9 => h9) rfl dX5_hasStretch_18 ?_
        refine lv_iload_n hx hb dX5_hasStretch_21 rfl (lv_at hl 1 rfl) ?_
        refine lv_isub hx hb dX5_hasStretch_22 ?_
        obtain ⟨ha, hf⟩ := h
        refine lv_icmp_gt (tgt := 30) hx hb dX5_hasStretch_23 (by decide) (fun hc => ?_) (fun hc => ?_)
        · have h := ha hc
          clear ha hf
          refine lv_iconst (v := (0 : Int32)) hx hb dX5_hasStretch_30 (by decide) ?_
          exact hret _ () _ _ _ _ rfl h hP hD hS dX5_hasStretch_31
        · have h := hf hc
          clear ha hf
          refine lv_iconst (v := (1 : Int32)) hx hb dX5_hasStretch_26 (by decide) ?_
          refine lv_goto (tgt := 31) hx hb dX5_hasStretch_27 (by decide) ?_
          exact hret _ () _ _ _ _ rfl h hP hD hS dX5_hasStretch_31
abbrev rm_X5_hold : Room := { frames := 1, cells := 0, slots := 0, locals := 24 }
def wp_X5_hold (x1 : Int32) (x2 : Int32) (k_type : Int32) (k_size : Int32) (k_wholes : Nat → Int64) (k_reals : Nat → UInt64) (Q : Int32 → Int32 → (Nat → Int64) → (Nat → UInt64) → Prop) : Prop := wp_J7_fill_d0a16 40 (0 : Int64) k_wholes (fun (k_wholes_1 : Nat → Int64) => wp_J7_fill_7f8df 40 FP.dconst0 k_reals (fun (k_reals_2 : Nat → UInt64) => Q x1 x2 k_wholes_1 k_reals_2))
set_option maxRecDepth 100000 in
set_option maxHeartbeats 4000000 in
theorem c_X5_hold (l : Launch) (G : va_G) (cI cD cZ cJ cO : ClassId) (k_a k_aw k_ar : Nat) (k_type : Int32) (k_size : Int32) (k_wholes : Nat → Int64) (k_reals : Nat → UInt64) (x1 : Int32) (x2 : Int32) (Q : Int32 → Int32 → (Nat → Int64) → (Nat → UInt64) → Prop) (h : wp_X5_hold x1 x2 k_type k_size k_wholes k_reals Q) : CtV l yX5_hold wsX5_hold rm_X5_hold G (TY cI cD cZ cJ cO) [.ref k_a, .int x1, .int x2] [oX5 k_a k_type k_size k_aw k_ar, aJ cJ k_aw 40 k_wholes, aD cD k_ar 40 k_reals] (fun (u : Int32 × Int32 × (Nat → Int64) × (Nat → UInt64)) => Q u.1 u.2.1 u.2.2.1 u.2.2.2) (fun (u : Int32 × Int32 × (Nat → Int64) × (Nat → UInt64)) => [oX5 k_a u.1 u.2.1 k_aw k_ar, aJ cJ k_aw 40 u.2.2.1, aD cD k_ar 40 u.2.2.2]) := by
  refine ct_openV (cc := cX5_hold) (maxL := 3) (by decide) rfl (Nat.le_of_ble_eq_true rfl) ?_
  intro p e s m args below meth c A Z ls hx hb hml hown hts hK hA hret hP hD hS hl
  have hown : s.vm.findClass RX5 = some m.cls := hown
  have hl : lv_has ls 3 [(0, .ref k_a), (1, .int x1), (2, .int x2)] := hl
  have f_9 := hts (.fieldLink RX5 9 "TeachingSets$Slot" "type" "I") (List.mem_of_getElem? (i := 1) rfl)
  have f_15 := hts (.fieldLink RX5 15 "TeachingSets$Slot" "size" "I") (List.mem_of_getElem? (i := 2) rfl)
  have f_18 := hts (.fieldLink RX5 18 "TeachingSets$Slot" "wholes" "[J") (List.mem_of_getElem? (i := 3) rfl)
  have f_22 := hts (.fieldLink RX5 22 "TeachingSets$Slot" "reals" "[D") (List.mem_of_getElem? (i := 4) rfl)
  have i_X5 : ∀ w ∈ wsX50, w ∈ wsX5_hold := fun _ h => List.mem_cons_of_mem _ (List.mem_append_right _ (h))
  refine lv_aload_n hx hb dX5_hold_0 rfl (lv_at hl 0 rfl) ?_
  refine lv_iload_n hx hb dX5_hold_1 rfl (lv_at hl 1 rfl) ?_
  refine va_put (D := G) (ci := 5) (v := .int x1) (ty := .int) (C := RX5) (T := TX5) (N := 4) hx hb hts i_X5 tyX5 tyX5_ok nmX5 hown hK.1 hP hD hS 0 rfl rfl 0 (by decide) f_9 (fun _ h9 => h9) rfl (tyX5_ok 0 (by decide)) rfl rfl (Nat.le_of_ble_eq_true rfl) dX5_hold_2 (fun H locs hP hD hS => ?_)
  have hP : va_P G vwCl [oX5 k_a x1 k_size k_aw k_ar, aJ cJ k_aw 40 k_wholes, aD cD k_ar 40 k_reals] H := hP
  have hD : va_D A [oX5 k_a x1 k_size k_aw k_ar, aJ cJ k_aw 40 k_wholes, aD cD k_ar 40 k_reals] := hD
  refine lv_aload_n hx hb dX5_hold_5 rfl (lv_at hl 0 rfl) ?_
  refine lv_iload_n hx hb dX5_hold_6 rfl (lv_at hl 2 rfl) ?_
  refine va_put (D := G) (ci := 5) (v := .int x2) (ty := .int) (C := RX5) (T := TX5) (N := 4) hx hb hts i_X5 tyX5 tyX5_ok nmX5 hown hK.1 hP hD hS 0 rfl rfl 1 (by decide) f_15 (fun _ h9 => h9) rfl (tyX5_ok 1 (by decide)) rfl rfl (Nat.le_of_ble_eq_true rfl) dX5_hold_7 (fun H locs hP hD hS => ?_)
  have hP : va_P G vwCl [oX5 k_a x1 x2 k_aw k_ar, aJ cJ k_aw 40 k_wholes, aD cD k_ar 40 k_reals] H := hP
  have hD : va_D A [oX5 k_a x1 x2 k_aw k_ar, aJ cJ k_aw 40 k_wholes, aD cD k_ar 40 k_reals] := hD
  refine lv_aload_n hx hb dX5_hold_10 rfl (lv_at hl 0 rfl) ?_
  refine va_get (D := G) (ci := 5) (v := .ref k_aw) (C := RX5) (T := TX5) (N := 4) hx hb hts i_X5 hown hK.1 hP 0 rfl rfl 2 (by decide) f_18 (fun _ h9 => h9) rfl dX5_hold_11 ?_
  refine lv_lconst (v := (0 : Int64)) hx hb dX5_hold_14 (by decide) ?_
  refine k_Sv (wr := [oX5 k_a x1 x2 k_aw k_ar, aD cD k_ar 40 k_reals]) (wf := (fun (u : (Nat → Int64)) => [oX5 k_a x1 x2 k_aw k_ar, aJ cJ k_aw 40 u, aD cD k_ar 40 k_reals])) (As := [.ref k_aw, .long (0 : Int64)]) (rest := []) ⟨hx, hb, hml, hown, hts⟩ hK hP hD hS hA (c_J7_fill_d0a16 l G cI cD cZ cJ cO 40 k_aw k_wholes (0 : Int64) _ h) (va_cwS 2 hts gX5_hold_J7_fill_d0a16 rfl rfl rfl (by decide +kernel) ⟨Nat.le_of_ble_eq_true rfl, Nat.le_of_ble_eq_true rfl⟩) [1] [0, 2] [0, 2, 1] rfl rfl rfl (fun _ => rfl) rfl rfl hl.1 (Nat.le_of_ble_eq_true rfl) ⟨Nat.zero_le _, Nat.zero_le _⟩ dX5_hold_15 (fun u H locs h hP hD hS => ?_)
  obtain ⟨k_wholes_1, rfl⟩ : ∃ z, z = u := ⟨_, rfl⟩
  have hP : va_P G vwCl [oX5 k_a x1 x2 k_aw k_ar, aJ cJ k_aw 40 k_wholes_1, aD cD k_ar 40 k_reals] H := hP
  have hD : va_D A [oX5 k_a x1 x2 k_aw k_ar, aJ cJ k_aw 40 k_wholes_1, aD cD k_ar 40 k_reals] := hD
  refine lv_aload_n hx hb dX5_hold_18 rfl (lv_at hl 0 rfl) ?_
  refine va_get (D := G) (ci := 5) (v := .ref k_ar) (C := RX5) (T := TX5) (N := 4) hx hb hts i_X5 hown hK.1 hP 0 rfl rfl 3 (by decide) f_22 (fun _ h9 => h9) rfl dX5_hold_19 ?_
  refine lv_dconst0 hx hb dX5_hold_22 ?_
  refine k_Sv (wr := [oX5 k_a x1 x2 k_aw k_ar, aJ cJ k_aw 40 k_wholes_1]) (wf := (fun (u : (Nat → UInt64)) => [oX5 k_a x1 x2 k_aw k_ar, aJ cJ k_aw 40 k_wholes_1, aD cD k_ar 40 u])) (As := [.ref k_ar, .double FP.dconst0]) (rest := []) ⟨hx, hb, hml, hown, hts⟩ hK hP hD hS hA (c_J7_fill_7f8df l G cI cD cZ cJ cO 40 k_ar k_reals FP.dconst0 _ h) (va_cwS 2 hts gX5_hold_J7_fill_7f8df rfl rfl rfl (by decide +kernel) ⟨Nat.le_of_ble_eq_true rfl, Nat.le_of_ble_eq_true rfl⟩) [2] [0, 1] [0, 1, 2] rfl rfl rfl (fun _ => rfl) rfl rfl hl.1 (Nat.le_of_ble_eq_true rfl) ⟨Nat.zero_le _, Nat.zero_le _⟩ dX5_hold_23 (fun u H locs h hP hD hS => ?_)
  obtain ⟨k_reals_2, rfl⟩ : ∃ z, z = u := ⟨_, rfl⟩
  have hP : va_P G vwCl [oX5 k_a x1 x2 k_aw k_ar, aJ cJ k_aw 40 k_wholes_1, aD cD k_ar 40 k_reals_2] H := hP
  have hD : va_D A [oX5 k_a x1 x2 k_aw k_ar, aJ cJ k_aw 40 k_wholes_1, aD cD k_ar 40 k_reals_2] := hD
  exact hret (x1, x2, k_wholes_1, k_reals_2) _ _ _ _ h hP hD hS dX5_hold_26
abbrev rm_X5_put : Room := { frames := 0, cells := 0, slots := 0, locals := 0 }
def wp_X5_put (x1 : Int32) (x2 : Int64) (k_type : Int32) (k_wholes : Nat → Int64) (k_reals : Nat → UInt64) (Q : (Nat → Int64) → (Nat → UInt64) → Prop) : Prop := ((k_type = (0 : Int32)) → vp_in x1 40 ∧ Q (vp_updL k_wholes x1.toNatClampNeg (((x2.toInt32).toInt8.toInt32).toInt64)) k_reals) ∧ ((k_type = (1 : Int32)) → vp_in x1 40 ∧ Q (vp_updL k_wholes x1.toNatClampNeg (((x2.toInt32).toInt16.toInt32).toInt64)) k_reals) ∧ ((k_type = (2 : Int32)) → vp_in x1 40 ∧ Q (vp_updL k_wholes x1.toNatClampNeg x2) k_reals) ∧ ((¬ (k_type = (0 : Int32))) → (¬ (k_type = (1 : Int32))) → (¬ (k_type = (2 : Int32))) → vp_in x1 40 ∧ Q k_wholes (vf_upd k_reals x1.toNatClampNeg (FP.l2d x2)))
set_option maxRecDepth 100000 in
set_option maxHeartbeats 4000000 in
theorem c_X5_put (l : Launch) (G : va_G) (cI cD cZ cJ cO : ClassId) (k_a k_aw k_ar : Nat) (k_type : Int32) (k_size : Int32) (k_wholes : Nat → Int64) (k_reals : Nat → UInt64) (x1 : Int32) (x2 : Int64) (Q : (Nat → Int64) → (Nat → UInt64) → Prop) (h : wp_X5_put x1 x2 k_type k_wholes k_reals Q) : CtV l yX5_put wsX5_put rm_X5_put G (TY cI cD cZ cJ cO) [.ref k_a, .int x1, .long x2] [oX5 k_a k_type k_size k_aw k_ar, aJ cJ k_aw 40 k_wholes, aD cD k_ar 40 k_reals] (fun (u : (Nat → Int64) × (Nat → UInt64)) => Q u.1 u.2) (fun (u : (Nat → Int64) × (Nat → UInt64)) => [oX5 k_a k_type k_size k_aw k_ar, aJ cJ k_aw 40 u.1, aD cD k_ar 40 u.2]) := by
  refine ct_openV (cc := cX5_put) (maxL := 4) (by decide) rfl (Nat.le_of_ble_eq_true rfl) ?_
  intro p e s m args below meth c A Z ls hx hb hml hown hts hK hA hret hP hD hS hl
  have hown : s.vm.findClass RX5 = some m.cls := hown
  have hl : lv_has ls 4 [(0, .ref k_a), (1, .int x1), (2, .long x2)] := hl
  have f_9 := hts (.fieldLink RX5 9 "TeachingSets$Slot" "type" "I") (List.mem_of_getElem? (i := 1) rfl)
  have f_18 := hts (.fieldLink RX5 18 "TeachingSets$Slot" "wholes" "[J") (List.mem_of_getElem? (i := 2) rfl)
  have f_22 := hts (.fieldLink RX5 22 "TeachingSets$Slot" "reals" "[D") (List.mem_of_getElem? (i := 3) rfl)
  have i_X5 : ∀ w ∈ wsX50, w ∈ wsX5_put := fun _ h => List.mem_cons_of_mem _ (List.mem_append_right _ (h))
  refine lv_aload_n hx hb dX5_put_0 rfl (lv_at hl 0 rfl) ?_
  refine va_get (D := G) (ci := 5) (v := .int k_type) (C := RX5) (T := TX5) (N := 4) hx hb hts i_X5 hown hK.1 hP 0 rfl rfl 0 (by decide) f_9 (fun _ h9 => h9) rfl dX5_put_1 ?_
  obtain ⟨hs0, hs1, hs2, hdf⟩ := h
  by_cases hc0 : k_type = (0 : Int32)
  · have h := hs0 hc0
    refine lv_tableIn (off := 28) (tgt := 32) hx hb dX5_put_4 (by rw [hc0]; decide) (by rw [hc0]; decide) (by rw [hc0]; decide) (by decide) ?_
    refine lv_aload_n hx hb dX5_put_32 rfl (lv_at hl 0 rfl) ?_
    refine va_get (D := G) (ci := 5) (v := .ref k_aw) (C := RX5) (T := TX5) (N := 4) hx hb hts i_X5 hown hK.1 hP 0 rfl rfl 2 (by decide) f_18 (fun _ h9 => h9) rfl dX5_put_33 ?_
    refine lv_iload_n hx hb dX5_put_36 rfl (lv_at hl 1 rfl) ?_
    refine lv_lload_n hx hb dX5_put_37 rfl (lv_at hl 2 rfl) ?_
    refine lv_l2i hx hb dX5_put_38 rfl ?_
    refine lv_i2b hx hb dX5_put_39 rfl ?_
    refine lv_i2l hx hb dX5_put_40 rfl ?_
    obtain ⟨hi, h⟩ := h
    refine va_last hx hb hK.1 hP hD hS 1 3 rfl rfl hi dX5_put_41 (fun H locs hP hD hS => ?_)
    have hP : va_P G vwCl [oX5 k_a k_type k_size k_aw k_ar, aJ cJ k_aw 40 (vp_updL k_wholes x1.toNatClampNeg (((x2.toInt32).toInt8.toInt32).toInt64)), aD cD k_ar 40 k_reals] H := hP
    have hD : va_D A [oX5 k_a k_type k_size k_aw k_ar, aJ cJ k_aw 40 (vp_updL k_wholes x1.toNatClampNeg (((x2.toInt32).toInt8.toInt32).toInt64)), aD cD k_ar 40 k_reals] := hD
    refine lv_goto (tgt := 76) hx hb dX5_put_42 (by decide) ?_
    exact hret ((vp_updL k_wholes x1.toNatClampNeg (((x2.toInt32).toInt8.toInt32).toInt64)), k_reals) _ _ _ _ h hP hD hS dX5_put_76
  by_cases hc1 : k_type = (1 : Int32)
  · have h := hs1 hc1
    refine lv_tableIn (off := 41) (tgt := 45) hx hb dX5_put_4 (by rw [hc1]; decide) (by rw [hc1]; decide) (by rw [hc1]; decide) (by decide) ?_
    refine lv_aload_n hx hb dX5_put_45 rfl (lv_at hl 0 rfl) ?_
    refine va_get (D := G) (ci := 5) (v := .ref k_aw) (C := RX5) (T := TX5) (N := 4) hx hb hts i_X5 hown hK.1 hP 0 rfl rfl 2 (by decide) f_18 (fun _ h9 => h9) rfl dX5_put_46 ?_
    refine lv_iload_n hx hb dX5_put_49 rfl (lv_at hl 1 rfl) ?_
    refine lv_lload_n hx hb dX5_put_50 rfl (lv_at hl 2 rfl) ?_
    refine lv_l2i hx hb dX5_put_51 rfl ?_
    refine lv_i2s hx hb dX5_put_52 rfl ?_
    refine lv_i2l hx hb dX5_put_53 rfl ?_
    obtain ⟨hi, h⟩ := h
    refine va_last hx hb hK.1 hP hD hS 1 3 rfl rfl hi dX5_put_54 (fun H locs hP hD hS => ?_)
    have hP : va_P G vwCl [oX5 k_a k_type k_size k_aw k_ar, aJ cJ k_aw 40 (vp_updL k_wholes x1.toNatClampNeg (((x2.toInt32).toInt16.toInt32).toInt64)), aD cD k_ar 40 k_reals] H := hP
    have hD : va_D A [oX5 k_a k_type k_size k_aw k_ar, aJ cJ k_aw 40 (vp_updL k_wholes x1.toNatClampNeg (((x2.toInt32).toInt16.toInt32).toInt64)), aD cD k_ar 40 k_reals] := hD
    refine lv_goto (tgt := 76) hx hb dX5_put_55 (by decide) ?_
    exact hret ((vp_updL k_wholes x1.toNatClampNeg (((x2.toInt32).toInt16.toInt32).toInt64)), k_reals) _ _ _ _ h hP hD hS dX5_put_76
  by_cases hc2 : k_type = (2 : Int32)
  · have h := hs2 hc2
    refine lv_tableIn (off := 54) (tgt := 58) hx hb dX5_put_4 (by rw [hc2]; decide) (by rw [hc2]; decide) (by rw [hc2]; decide) (by decide) ?_
    refine lv_aload_n hx hb dX5_put_58 rfl (lv_at hl 0 rfl) ?_
    refine va_get (D := G) (ci := 5) (v := .ref k_aw) (C := RX5) (T := TX5) (N := 4) hx hb hts i_X5 hown hK.1 hP 0 rfl rfl 2 (by decide) f_18 (fun _ h9 => h9) rfl dX5_put_59 ?_
    refine lv_iload_n hx hb dX5_put_62 rfl (lv_at hl 1 rfl) ?_
    refine lv_lload_n hx hb dX5_put_63 rfl (lv_at hl 2 rfl) ?_
    obtain ⟨hi, h⟩ := h
    refine va_last hx hb hK.1 hP hD hS 1 3 rfl rfl hi dX5_put_64 (fun H locs hP hD hS => ?_)
    have hP : va_P G vwCl [oX5 k_a k_type k_size k_aw k_ar, aJ cJ k_aw 40 (vp_updL k_wholes x1.toNatClampNeg x2), aD cD k_ar 40 k_reals] H := hP
    have hD : va_D A [oX5 k_a k_type k_size k_aw k_ar, aJ cJ k_aw 40 (vp_updL k_wholes x1.toNatClampNeg x2), aD cD k_ar 40 k_reals] := hD
    refine lv_goto (tgt := 76) hx hb dX5_put_65 (by decide) ?_
    exact hret ((vp_updL k_wholes x1.toNatClampNeg x2), k_reals) _ _ _ _ h hP hD hS dX5_put_76
  have h := hdf hc0 hc1 hc2
  refine lv_tableOut (tgt := 68) hx hb dX5_put_4 (sw3_out hc0 hc1 hc2) (by decide) ?_
  refine lv_aload_n hx hb dX5_put_68 rfl (lv_at hl 0 rfl) ?_
  refine va_get (D := G) (ci := 5) (v := .ref k_ar) (C := RX5) (T := TX5) (N := 4) hx hb hts i_X5 hown hK.1 hP 0 rfl rfl 3 (by decide) f_22 (fun _ h9 => h9) rfl dX5_put_69 ?_
  refine lv_iload_n hx hb dX5_put_72 rfl (lv_at hl 1 rfl) ?_
  refine lv_lload_n hx hb dX5_put_73 rfl (lv_at hl 2 rfl) ?_
  refine lv_l2d hx hb dX5_put_74 ?_
  obtain ⟨hi, h⟩ := h
  refine va_dast hx hb hK.1 hP hD hS 2 1 rfl rfl hi dX5_put_75 (fun H locs hP hD hS => ?_)
  have hP : va_P G vwCl [oX5 k_a k_type k_size k_aw k_ar, aJ cJ k_aw 40 k_wholes, aD cD k_ar 40 (vf_upd k_reals x1.toNatClampNeg (FP.l2d x2))] H := hP
  have hD : va_D A [oX5 k_a k_type k_size k_aw k_ar, aJ cJ k_aw 40 k_wholes, aD cD k_ar 40 (vf_upd k_reals x1.toNatClampNeg (FP.l2d x2))] := hD
  exact hret (k_wholes, (vf_upd k_reals x1.toNatClampNeg (FP.l2d x2))) _ _ _ _ h hP hD hS dX5_put_76
abbrev rm_X5_get : Room := { frames := 0, cells := 0, slots := 0, locals := 0 }
def wp_X5_get (x1 : Int32) (k_type : Int32) (k_wholes : Nat → Int64) (k_reals : Nat → UInt64) (Q : Int64 → Prop) : Prop := ((¬ k_type = (3 : Int32)) → vp_in x1 40 ∧ Q (k_wholes x1.toNatClampNeg)) ∧ ((k_type = (3 : Int32)) → vp_in x1 40 ∧ Q (FP.d2l (k_reals x1.toNatClampNeg)))
set_option maxRecDepth 100000 in
set_option maxHeartbeats 4000000 in
theorem c_X5_get (l : Launch) (G : va_G) (cI cD cZ cJ cO : ClassId) (k_a k_aw k_ar : Nat) (k_type : Int32) (k_size : Int32) (k_wholes : Nat → Int64) (k_reals : Nat → UInt64) (x1 : Int32) (Q : Int64 → Prop) (h : wp_X5_get x1 k_type k_wholes k_reals Q) : CtL l yX5_get wsX5_get rm_X5_get G (TY cI cD cZ cJ cO) [.ref k_a, .int x1] [oX5 k_a k_type k_size k_aw k_ar, aJ cJ k_aw 40 k_wholes, aD cD k_ar 40 k_reals] (fun (r : Int64) (u : Unit) => Q r) (fun (u : Unit) => [oX5 k_a k_type k_size k_aw k_ar, aJ cJ k_aw 40 k_wholes, aD cD k_ar 40 k_reals]) := by
  refine ct_openL (cc := cX5_get) (maxL := 2) (by decide) rfl (Nat.le_of_ble_eq_true rfl) ?_
  intro p e s m args below meth c A Z ls hx hb hml hown hts hK hA hret hP hD hS hl
  have hown : s.vm.findClass RX5 = some m.cls := hown
  have hl : lv_has ls 2 [(0, .ref k_a), (1, .int x1)] := hl
  have f_9 := hts (.fieldLink RX5 9 "TeachingSets$Slot" "type" "I") (List.mem_of_getElem? (i := 1) rfl)
  have f_18 := hts (.fieldLink RX5 18 "TeachingSets$Slot" "wholes" "[J") (List.mem_of_getElem? (i := 3) rfl)
  have f_22 := hts (.fieldLink RX5 22 "TeachingSets$Slot" "reals" "[D") (List.mem_of_getElem? (i := 2) rfl)
  have i_X5 : ∀ w ∈ wsX50, w ∈ wsX5_get := fun _ h => List.mem_cons_of_mem _ (List.mem_append_right _ (h))
  refine lv_aload_n hx hb dX5_get_0 rfl (lv_at hl 0 rfl) ?_
  refine va_get (D := G) (ci := 5) (v := .int k_type) (C := RX5) (T := TX5) (N := 4) hx hb hts i_X5 hown hK.1 hP 0 rfl rfl 0 (by decide) f_9 (fun _ h9 => h9) rfl dX5_get_1 ?_
  refine lv_iconst (v := (3 : Int32)) hx hb dX5_get_4 (by decide) ?_
  obtain ⟨ha, hf⟩ := h
  refine lv_icmp_ne (tgt := 18) hx hb dX5_get_5 (by decide) (fun hc => ?_) (fun hc => ?_)
  · have h := ha hc
    clear ha hf
    refine lv_aload_n hx hb dX5_get_18 rfl (lv_at hl 0 rfl) ?_
    refine va_get (D := G) (ci := 5) (v := .ref k_aw) (C := RX5) (T := TX5) (N := 4) hx hb hts i_X5 hown hK.1 hP 0 rfl rfl 2 (by decide) f_18 (fun _ h9 => h9) rfl dX5_get_19 ?_
    refine lv_iload_n hx hb dX5_get_22 rfl (lv_at hl 1 rfl) ?_
    obtain ⟨hi, h⟩ := h
    refine va_lald hx hb hK.1 hP 1 3 rfl rfl hi dX5_get_23 ?_
    exact hret _ () _ _ _ _ h hP hD hS dX5_get_24
  · have h := hf hc
    clear ha hf
    refine lv_aload_n hx hb dX5_get_8 rfl (lv_at hl 0 rfl) ?_
    refine va_get (D := G) (ci := 5) (v := .ref k_ar) (C := RX5) (T := TX5) (N := 4) hx hb hts i_X5 hown hK.1 hP 0 rfl rfl 3 (by decide) f_22 (fun _ h9 => h9) rfl dX5_get_9 ?_
    refine lv_iload_n hx hb dX5_get_12 rfl (lv_at hl 1 rfl) ?_
    obtain ⟨hi, h⟩ := h
    refine va_dald hx hb hK.1 hP 2 1 rfl rfl hi dX5_get_13 ?_
    refine lv_d2l hx hb dX5_get_14 ?_
    refine lv_goto (tgt := 24) hx hb dX5_get_15 (by decide) ?_
    exact hret _ () _ _ _ _ h hP hD hS dX5_get_24
abbrev rm_X5_take : Room := { frames := 1, cells := 0, slots := 0, locals := 64 }
def wp_X5_take (x1 : Int32) (x3 : Int32) (x4 : Int32) (k_type : Int32) (k_wholes : Nat → Int64) (k_reals : Nat → UInt64) (j_wholes : Nat → Int64) (j_reals : Nat → UInt64) (Q : (Nat → Int64) → (Nat → UInt64) → Prop) : Prop := ((¬ k_type = (3 : Int32)) → (¬ x3 < 0) ∧ (¬ x1 < 0) ∧ (¬ x4 < 0) ∧ (x3.toNatClampNeg + x4.toNatClampNeg ≤ 40) ∧ (x1.toNatClampNeg + x4.toNatClampNeg ≤ 40) ∧ Q (va_cpy j_wholes k_wholes x3.toNatClampNeg x1.toNatClampNeg x4.toNatClampNeg) k_reals) ∧ ((k_type = (3 : Int32)) → (¬ x3 < 0) ∧ (¬ x1 < 0) ∧ (¬ x4 < 0) ∧ (x3.toNatClampNeg + x4.toNatClampNeg ≤ 40) ∧ (x1.toNatClampNeg + x4.toNatClampNeg ≤ 40) ∧ Q k_wholes (va_cpy j_reals k_reals x3.toNatClampNeg x1.toNatClampNeg x4.toNatClampNeg))
set_option maxRecDepth 100000 in
set_option maxHeartbeats 4000000 in
theorem c_X5_take (l : Launch) (G : va_G) (cI cD cZ cJ cO : ClassId) (k_a k_aw k_ar j_a j_aw j_ar : Nat) (k_type : Int32) (k_size : Int32) (k_wholes : Nat → Int64) (k_reals : Nat → UInt64) (j_type : Int32) (j_size : Int32) (j_wholes : Nat → Int64) (j_reals : Nat → UInt64) (x1 : Int32) (x3 : Int32) (x4 : Int32) (Q : (Nat → Int64) → (Nat → UInt64) → Prop) (h : wp_X5_take x1 x3 x4 k_type k_wholes k_reals j_wholes j_reals Q) : CtV l yX5_take wsX5_take rm_X5_take G (TY cI cD cZ cJ cO) [.ref k_a, .int x1, .ref j_a, .int x3, .int x4] [oX5 k_a k_type k_size k_aw k_ar, aJ cJ k_aw 40 k_wholes, aD cD k_ar 40 k_reals, oX5 j_a j_type j_size j_aw j_ar, aJ cJ j_aw 40 j_wholes, aD cD j_ar 40 j_reals] (fun (u : (Nat → Int64) × (Nat → UInt64)) => Q u.1 u.2) (fun (u : (Nat → Int64) × (Nat → UInt64)) => [oX5 k_a k_type k_size k_aw k_ar, aJ cJ k_aw 40 u.1, aD cD k_ar 40 u.2, oX5 j_a j_type j_size j_aw j_ar, aJ cJ j_aw 40 j_wholes, aD cD j_ar 40 j_reals]) := by
  refine ct_openV (cc := cX5_take) (maxL := 5) (by decide) rfl (Nat.le_of_ble_eq_true rfl) ?_
  intro p e s m args below meth c A Z ls hx hb hml hown hts hK hA hret hP hD hS hl
  have hown : s.vm.findClass RX5 = some m.cls := hown
  have hl : lv_has ls 5 [(0, .ref k_a), (1, .int x1), (2, .ref j_a), (3, .int x3), (4, .int x4)] := hl
  have f_9 := hts (.fieldLink RX5 9 "TeachingSets$Slot" "type" "I") (List.mem_of_getElem? (i := 1) rfl)
  have f_18 := hts (.fieldLink RX5 18 "TeachingSets$Slot" "wholes" "[J") (List.mem_of_getElem? (i := 7) rfl)
  have f_22 := hts (.fieldLink RX5 22 "TeachingSets$Slot" "reals" "[D") (List.mem_of_getElem? (i := 2) rfl)
  have i_X5 : ∀ w ∈ wsX50, w ∈ wsX5_take := fun _ h => List.mem_cons_of_mem _ (List.mem_append_right _ (h))
  refine lv_aload_n hx hb dX5_take_0 rfl (lv_at hl 0 rfl) ?_
  refine va_get (D := G) (ci := 5) (v := .int k_type) (C := RX5) (T := TX5) (N := 4) hx hb hts i_X5 hown hK.1 hP 0 rfl rfl 0 (by decide) f_9 (fun _ h9 => h9) rfl dX5_take_1 ?_
  refine lv_iconst (v := (3 : Int32)) hx hb dX5_take_4 (by decide) ?_
  obtain ⟨ha, hf⟩ := h
  refine lv_icmp_ne (tgt := 26) hx hb dX5_take_5 (by decide) (fun hc => ?_) (fun hc => ?_)
  · have h := ha hc
    clear ha hf
    refine lv_aload_n hx hb dX5_take_26 rfl (lv_at hl 2 rfl) ?_
    refine va_get (D := G) (ci := 5) (v := .ref j_aw) (C := RX5) (T := TX5) (N := 4) hx hb hts i_X5 hown hK.1 hP 3 rfl rfl 2 (by decide) f_18 (fun _ h9 => h9) rfl dX5_take_27 ?_
    refine lv_iload_n hx hb dX5_take_30 rfl (lv_at hl 3 rfl) ?_
    refine lv_aload_n hx hb dX5_take_31 rfl (lv_at hl 0 rfl) ?_
    refine va_get (D := G) (ci := 5) (v := .ref k_aw) (C := RX5) (T := TX5) (N := 4) hx hb hts i_X5 hown hK.1 hP 0 rfl rfl 2 (by decide) f_18 (fun _ h9 => h9) rfl dX5_take_32 ?_
    refine lv_iload_n hx hb dX5_take_35 rfl (lv_at hl 1 rfl) ?_
    refine lv_iload hx hb dX5_take_36 (lv_at hl 4 rfl) ?_
    obtain ⟨h1, h2, h3, h4, h5, h⟩ := h
    refine va_copyl (ty := .long) hx hb (hml.trans hl.1.symm) hown (hts _ (List.mem_of_getElem? (i := 3) rfl)) (hts _ (List.mem_of_getElem? (i := 4) rfl)) (hts _ (List.mem_of_getElem? (i := 5) rfl)) (hts _ (List.mem_of_getElem? (i := 6) rfl)) hK.1 hP hD hS 4 1 3 3 rfl rfl rfl rfl rfl h1 h2 h3 h4 h5 (fun _ _ => rfl) (Nat.le_of_ble_eq_true rfl) (Nat.le_of_ble_eq_true rfl) dX5_take_38 (fun H locs hP hD hS => ?_)
    have hP : va_P G vwCl [oX5 k_a k_type k_size k_aw k_ar, aJ cJ k_aw 40 (va_cpy j_wholes k_wholes x3.toNatClampNeg x1.toNatClampNeg x4.toNatClampNeg), aD cD k_ar 40 k_reals, oX5 j_a j_type j_size j_aw j_ar, aJ cJ j_aw 40 j_wholes, aD cD j_ar 40 j_reals] H := hP
    have hD : va_D A [oX5 k_a k_type k_size k_aw k_ar, aJ cJ k_aw 40 (va_cpy j_wholes k_wholes x3.toNatClampNeg x1.toNatClampNeg x4.toNatClampNeg), aD cD k_ar 40 k_reals, oX5 j_a j_type j_size j_aw j_ar, aJ cJ j_aw 40 j_wholes, aD cD j_ar 40 j_reals] := hD
    exact hret ((va_cpy j_wholes k_wholes x3.toNatClampNeg x1.toNatClampNeg x4.toNatClampNeg), k_reals) _ _ _ _ h hP hD hS dX5_take_41
  · have h := hf hc
    clear ha hf
    refine lv_aload_n hx hb dX5_take_8 rfl (lv_at hl 2 rfl) ?_
    refine va_get (D := G) (ci := 5) (v := .ref j_ar) (C := RX5) (T := TX5) (N := 4) hx hb hts i_X5 hown hK.1 hP 3 rfl rfl 3 (by decide) f_22 (fun _ h9 => h9) rfl dX5_take_9 ?_
    refine lv_iload_n hx hb dX5_take_12 rfl (lv_at hl 3 rfl) ?_
    refine lv_aload_n hx hb dX5_take_13 rfl (lv_at hl 0 rfl) ?_
    refine va_get (D := G) (ci := 5) (v := .ref k_ar) (C := RX5) (T := TX5) (N := 4) hx hb hts i_X5 hown hK.1 hP 0 rfl rfl 3 (by decide) f_22 (fun _ h9 => h9) rfl dX5_take_14 ?_
    refine lv_iload_n hx hb dX5_take_17 rfl (lv_at hl 1 rfl) ?_
    refine lv_iload hx hb dX5_take_18 (lv_at hl 4 rfl) ?_
    obtain ⟨h1, h2, h3, h4, h5, h⟩ := h
    refine va_copyd (ty := .double) hx hb (hml.trans hl.1.symm) hown (hts _ (List.mem_of_getElem? (i := 3) rfl)) (hts _ (List.mem_of_getElem? (i := 4) rfl)) (hts _ (List.mem_of_getElem? (i := 5) rfl)) (hts _ (List.mem_of_getElem? (i := 6) rfl)) hK.1 hP hD hS 5 2 1 1 rfl rfl rfl rfl rfl h1 h2 h3 h4 h5 (fun _ _ => rfl) (Nat.le_of_ble_eq_true rfl) (Nat.le_of_ble_eq_true rfl) dX5_take_20 (fun H locs hP hD hS => ?_)
    have hP : va_P G vwCl [oX5 k_a k_type k_size k_aw k_ar, aJ cJ k_aw 40 k_wholes, aD cD k_ar 40 (va_cpy j_reals k_reals x3.toNatClampNeg x1.toNatClampNeg x4.toNatClampNeg), oX5 j_a j_type j_size j_aw j_ar, aJ cJ j_aw 40 j_wholes, aD cD j_ar 40 j_reals] H := hP
    have hD : va_D A [oX5 k_a k_type k_size k_aw k_ar, aJ cJ k_aw 40 k_wholes, aD cD k_ar 40 (va_cpy j_reals k_reals x3.toNatClampNeg x1.toNatClampNeg x4.toNatClampNeg), oX5 j_a j_type j_size j_aw j_ar, aJ cJ j_aw 40 j_wholes, aD cD j_ar 40 j_reals] := hD
    refine lv_goto (tgt := 41) hx hb dX5_take_23 (by decide) ?_
    exact hret (k_wholes, (va_cpy j_reals k_reals x3.toNatClampNeg x1.toNatClampNeg x4.toNatClampNeg)) _ _ _ _ h hP hD hS dX5_take_41
abbrev rm_X5_take_same : Room := { frames := 1, cells := 0, slots := 0, locals := 64 }
def wp_X5_take_same (x1 : Int32) (x3 : Int32) (x4 : Int32) (k_type : Int32) (k_wholes : Nat → Int64) (k_reals : Nat → UInt64) (Q : (Nat → Int64) → (Nat → UInt64) → Prop) : Prop := ((¬ k_type = (3 : Int32)) → (¬ x3 < 0) ∧ (¬ x1 < 0) ∧ (¬ x4 < 0) ∧ (x3.toNatClampNeg + x4.toNatClampNeg ≤ 40) ∧ (x1.toNatClampNeg + x4.toNatClampNeg ≤ 40) ∧ Q (va_cpy k_wholes k_wholes x3.toNatClampNeg x1.toNatClampNeg x4.toNatClampNeg) k_reals) ∧ ((k_type = (3 : Int32)) → (¬ x3 < 0) ∧ (¬ x1 < 0) ∧ (¬ x4 < 0) ∧ (x3.toNatClampNeg + x4.toNatClampNeg ≤ 40) ∧ (x1.toNatClampNeg + x4.toNatClampNeg ≤ 40) ∧ Q k_wholes (va_cpy k_reals k_reals x3.toNatClampNeg x1.toNatClampNeg x4.toNatClampNeg))
set_option maxRecDepth 100000 in
set_option maxHeartbeats 4000000 in
theorem c_X5_take_same (l : Launch) (G : va_G) (cI cD cZ cJ cO : ClassId) (k_a k_aw k_ar : Nat) (k_type : Int32) (k_size : Int32) (k_wholes : Nat → Int64) (k_reals : Nat → UInt64) (x1 : Int32) (x3 : Int32) (x4 : Int32) (Q : (Nat → Int64) → (Nat → UInt64) → Prop) (h : wp_X5_take_same x1 x3 x4 k_type k_wholes k_reals Q) : CtV l yX5_take wsX5_take rm_X5_take_same G (TY cI cD cZ cJ cO) [.ref k_a, .int x1, .ref k_a, .int x3, .int x4] [oX5 k_a k_type k_size k_aw k_ar, aJ cJ k_aw 40 k_wholes, aD cD k_ar 40 k_reals] (fun (u : (Nat → Int64) × (Nat → UInt64)) => Q u.1 u.2) (fun (u : (Nat → Int64) × (Nat → UInt64)) => [oX5 k_a k_type k_size k_aw k_ar, aJ cJ k_aw 40 u.1, aD cD k_ar 40 u.2]) := by
  refine ct_openV (cc := cX5_take) (maxL := 5) (by decide) rfl (Nat.le_of_ble_eq_true rfl) ?_
  intro p e s m args below meth c A Z ls hx hb hml hown hts hK hA hret hP hD hS hl
  have hown : s.vm.findClass RX5 = some m.cls := hown
  have hl : lv_has ls 5 [(0, .ref k_a), (1, .int x1), (2, .ref k_a), (3, .int x3), (4, .int x4)] := hl
  have f_9 := hts (.fieldLink RX5 9 "TeachingSets$Slot" "type" "I") (List.mem_of_getElem? (i := 1) rfl)
  have f_18 := hts (.fieldLink RX5 18 "TeachingSets$Slot" "wholes" "[J") (List.mem_of_getElem? (i := 7) rfl)
  have f_22 := hts (.fieldLink RX5 22 "TeachingSets$Slot" "reals" "[D") (List.mem_of_getElem? (i := 2) rfl)
  have i_X5 : ∀ w ∈ wsX50, w ∈ wsX5_take := fun _ h => List.mem_cons_of_mem _ (List.mem_append_right _ (h))
  refine lv_aload_n hx hb dX5_take_0 rfl (lv_at hl 0 rfl) ?_
  refine va_get (D := G) (ci := 5) (v := .int k_type) (C := RX5) (T := TX5) (N := 4) hx hb hts i_X5 hown hK.1 hP 0 rfl rfl 0 (by decide) f_9 (fun _ h9 => h9) rfl dX5_take_1 ?_
  refine lv_iconst (v := (3 : Int32)) hx hb dX5_take_4 (by decide) ?_
  obtain ⟨ha, hf⟩ := h
  refine lv_icmp_ne (tgt := 26) hx hb dX5_take_5 (by decide) (fun hc => ?_) (fun hc => ?_)
  · have h := ha hc
    clear ha hf
    refine lv_aload_n hx hb dX5_take_26 rfl (lv_at hl 2 rfl) ?_
    refine va_get (D := G) (ci := 5) (v := .ref k_aw) (C := RX5) (T := TX5) (N := 4) hx hb hts i_X5 hown hK.1 hP 0 rfl rfl 2 (by decide) f_18 (fun _ h9 => h9) rfl dX5_take_27 ?_
    refine lv_iload_n hx hb dX5_take_30 rfl (lv_at hl 3 rfl) ?_
    refine lv_aload_n hx hb dX5_take_31 rfl (lv_at hl 0 rfl) ?_
    refine va_get (D := G) (ci := 5) (v := .ref k_aw) (C := RX5) (T := TX5) (N := 4) hx hb hts i_X5 hown hK.1 hP 0 rfl rfl 2 (by decide) f_18 (fun _ h9 => h9) rfl dX5_take_32 ?_
    refine lv_iload_n hx hb dX5_take_35 rfl (lv_at hl 1 rfl) ?_
    refine lv_iload hx hb dX5_take_36 (lv_at hl 4 rfl) ?_
    obtain ⟨h1, h2, h3, h4, h5, h⟩ := h
    refine va_copyl (ty := .long) hx hb (hml.trans hl.1.symm) hown (hts _ (List.mem_of_getElem? (i := 3) rfl)) (hts _ (List.mem_of_getElem? (i := 4) rfl)) (hts _ (List.mem_of_getElem? (i := 5) rfl)) (hts _ (List.mem_of_getElem? (i := 6) rfl)) hK.1 hP hD hS 1 1 3 3 rfl rfl rfl rfl rfl h1 h2 h3 h4 h5 (fun _ _ => rfl) (Nat.le_of_ble_eq_true rfl) (Nat.le_of_ble_eq_true rfl) dX5_take_38 (fun H locs hP hD hS => ?_)
    have hP : va_P G vwCl [oX5 k_a k_type k_size k_aw k_ar, aJ cJ k_aw 40 (va_cpy k_wholes k_wholes x3.toNatClampNeg x1.toNatClampNeg x4.toNatClampNeg), aD cD k_ar 40 k_reals] H := hP
    have hD : va_D A [oX5 k_a k_type k_size k_aw k_ar, aJ cJ k_aw 40 (va_cpy k_wholes k_wholes x3.toNatClampNeg x1.toNatClampNeg x4.toNatClampNeg), aD cD k_ar 40 k_reals] := hD
    exact hret ((va_cpy k_wholes k_wholes x3.toNatClampNeg x1.toNatClampNeg x4.toNatClampNeg), k_reals) _ _ _ _ h hP hD hS dX5_take_41
  · have h := hf hc
    clear ha hf
    refine lv_aload_n hx hb dX5_take_8 rfl (lv_at hl 2 rfl) ?_
    refine va_get (D := G) (ci := 5) (v := .ref k_ar) (C := RX5) (T := TX5) (N := 4) hx hb hts i_X5 hown hK.1 hP 0 rfl rfl 3 (by decide) f_22 (fun _ h9 => h9) rfl dX5_take_9 ?_
    refine lv_iload_n hx hb dX5_take_12 rfl (lv_at hl 3 rfl) ?_
    refine lv_aload_n hx hb dX5_take_13 rfl (lv_at hl 0 rfl) ?_
    refine va_get (D := G) (ci := 5) (v := .ref k_ar) (C := RX5) (T := TX5) (N := 4) hx hb hts i_X5 hown hK.1 hP 0 rfl rfl 3 (by decide) f_22 (fun _ h9 => h9) rfl dX5_take_14 ?_
    refine lv_iload_n hx hb dX5_take_17 rfl (lv_at hl 1 rfl) ?_
    refine lv_iload hx hb dX5_take_18 (lv_at hl 4 rfl) ?_
    obtain ⟨h1, h2, h3, h4, h5, h⟩ := h
    refine va_copyd (ty := .double) hx hb (hml.trans hl.1.symm) hown (hts _ (List.mem_of_getElem? (i := 3) rfl)) (hts _ (List.mem_of_getElem? (i := 4) rfl)) (hts _ (List.mem_of_getElem? (i := 5) rfl)) (hts _ (List.mem_of_getElem? (i := 6) rfl)) hK.1 hP hD hS 2 2 1 1 rfl rfl rfl rfl rfl h1 h2 h3 h4 h5 (fun _ _ => rfl) (Nat.le_of_ble_eq_true rfl) (Nat.le_of_ble_eq_true rfl) dX5_take_20 (fun H locs hP hD hS => ?_)
    have hP : va_P G vwCl [oX5 k_a k_type k_size k_aw k_ar, aJ cJ k_aw 40 k_wholes, aD cD k_ar 40 (va_cpy k_reals k_reals x3.toNatClampNeg x1.toNatClampNeg x4.toNatClampNeg)] H := hP
    have hD : va_D A [oX5 k_a k_type k_size k_aw k_ar, aJ cJ k_aw 40 k_wholes, aD cD k_ar 40 (va_cpy k_reals k_reals x3.toNatClampNeg x1.toNatClampNeg x4.toNatClampNeg)] := hD
    refine lv_goto (tgt := 41) hx hb dX5_take_23 (by decide) ?_
    exact hret (k_wholes, (va_cpy k_reals k_reals x3.toNatClampNeg x1.toNatClampNeg x4.toNatClampNeg)) _ _ _ _ h hP hD hS dX5_take_41
abbrev rm_X6_countOn : Room := { frames := 1, cells := 0, slots := 0, locals := 24 }
def wp_X6_countOn_b61 (x1 : Int32) (c_count : Int32) (c_sets : Nat → Int32) (Q : Int32 → (Nat → Int64) → Prop)  : Nat → Int32 → Int32 → (Nat → Int64) → Prop
  | 0, _, _, _ => False
  | n + 1, x2, x3, r_seen => (((4 : Int32) ≤ x3) → Q x2 r_seen) ∧ ((¬ (4 : Int32) ≤ x3) → vp_in x3 4 ∧ wp_J13_bitCount_95d88 (r_seen x3.toNatClampNeg) (fun (r_2 : Int32) => wp_X6_countOn_b61 x1 c_count c_sets Q n (x2 + r_2) (x3 + (1 : Int32)) r_seen))
def wp_X6_countOn_b10 (x1 : Int32) (c_count : Int32) (c_sets : Nat → Int32) (Q : Int32 → (Nat → Int64) → Prop)  : Nat → Int32 → (Nat → Int64) → Prop
  | 0, _, _ => False
  | n + 1, x2, r_seen => ((c_count ≤ x2) → ∃ j61, wp_X6_countOn_b61 x1 c_count c_sets Q j61 (0 : Int32) (0 : Int32) r_seen) ∧ ((¬ c_count ≤ x2) → vp_in x2 20 ∧ vp_in (((c_sets x2.toNatClampNeg) &&& x1) >>> ((6 : Int32) &&& 31)) 4 ∧ vp_in (((c_sets x2.toNatClampNeg) &&& x1) >>> ((6 : Int32) &&& 31)) 4 ∧ wp_X6_countOn_b10 x1 c_count c_sets Q n (x2 + (1 : Int32)) (vp_updL r_seen (((c_sets x2.toNatClampNeg) &&& x1) >>> ((6 : Int32) &&& 31)).toNatClampNeg ((r_seen (((c_sets x2.toNatClampNeg) &&& x1) >>> ((6 : Int32) &&& 31)).toNatClampNeg) ||| ((1 : Int64) <<< ((((c_sets x2.toNatClampNeg) &&& x1) &&& (63 : Int32)).toInt64 &&& 63)))))
def wp_X6_countOn (x1 : Int32) (r_seen : Nat → Int64) (c_count : Int32) (c_sets : Nat → Int32) (Q : Int32 → (Nat → Int64) → Prop) : Prop := wp_J7_fill_d0a16 4 (0 : Int64) r_seen (fun (r_seen_1 : Nat → Int64) => ∃ j10, wp_X6_countOn_b10 x1 c_count c_sets Q j10 (0 : Int32) r_seen_1)
set_option maxRecDepth 100000 in
set_option maxHeartbeats 4000000 in
theorem c_X6_countOn (l : Launch) (G : va_G) (cI cD cZ cJ cO : ClassId) (r_a r_as c_a c_as c_ad c_ar c_ah : Nat) (r_seen : Nat → Int64) (c_points : Int32) (c_count : Int32) (c_ed : Int32) (c_sets : Nat → Int32) (c_scores : Nat → UInt64) (c_rated : Nat → Int32) (c_hold : Nat → Int32) (x1 : Int32) (Q : Int32 → (Nat → Int64) → Prop) (h : wp_X6_countOn x1 r_seen c_count c_sets Q) : CtI l yX6_countOn wsX6_countOn rm_X6_countOn G (TY cI cD cZ cJ cO) [.ref r_a, .int x1] [oX6 r_a c_a r_as, aJ cJ r_as 4 r_seen, oX0 c_a c_points c_count c_as c_ad c_ar c_ah c_ed, aI cI c_as 20 c_sets, aD cD c_ad 20 c_scores, aZ cZ c_ar 20 c_rated, aI cI c_ah 8 c_hold] (fun (r : Int32) (u : (Nat → Int64)) => Q r u) (fun (u : (Nat → Int64)) => [oX6 r_a c_a r_as, aJ cJ r_as 4 u, oX0 c_a c_points c_count c_as c_ad c_ar c_ah c_ed, aI cI c_as 20 c_sets, aD cD c_ad 20 c_scores, aZ cZ c_ar 20 c_rated, aI cI c_ah 8 c_hold]) := by
  refine ct_openI (cc := cX6_countOn) (maxL := 4) (ty := .int) (by decide) rfl (Nat.le_of_ble_eq_true rfl) ?_
  intro p e s m args below meth c A Z ls hx hb hml hown hts hK hA hret hP hD hS hl
  have hown : s.vm.findClass RX6 = some m.cls := hown
  have hl : lv_has ls 4 [(0, .ref r_a), (1, .int x1)] := hl
  have f_13 := hts (.fieldLink RX6 13 "TeachingSets$Traces" "seen" "[J") (List.mem_of_getElem? (i := 1) rfl)
  have f_7 := hts (.fieldLink RX6 7 "TeachingSets$Traces" "concepts" "LTeachingSets$Concepts;") (List.mem_of_getElem? (i := 2) rfl)
  have f_23 := hts (.fieldLink RX6 23 "TeachingSets$Concepts" "count" "I") (List.mem_of_getElem? (i := 3) rfl)
  have f_29 := hts (.fieldLink RX6 29 "TeachingSets$Concepts" "sets" "[I") (List.mem_of_getElem? (i := 4) rfl)
  have i_X6 : ∀ w ∈ wsX60, w ∈ wsX6_countOn := fun _ h => List.mem_cons_of_mem _ (List.mem_append_left _ (List.mem_append_right _ (h)))
  have i_X0 : ∀ w ∈ wsX00, w ∈ wsX6_countOn := fun _ h => List.mem_cons_of_mem _ (List.mem_append_right _ (h))
  have b_61 : ∀ (n : Nat) (x2 : Int32) (x3 : Int32) (r_seen : Nat → Int64), wp_X6_countOn_b61 x1 c_count c_sets Q n x2 x3 r_seen → ∀ (H : Heap) (locs : List Loc) (ls : Array Slot), ST G A s.heap [oX6 r_a c_a r_as, aJ cJ r_as 4 r_seen, oX0 c_a c_points c_count c_as c_ad c_ar c_ah c_ed, aI cI c_as 20 c_sets, aD cD c_ad 20 c_scores, aZ cZ c_ar 20 c_rated, aI cI c_ah 8 c_hold] 4 [(0, .ref r_a), (2, .int x2), (3, .int x3)] H locs ls → W p l e rm_X6_countOn s m args below meth c H locs 0 0 Z (F0 m 61 ls []) := by
    intro n
    induction n with
    | zero =>
      intro x2 x3 r_seen h; exact False.elim h
    | succ n ih =>
      intro x2 x3 r_seen h H locs ls hst
      obtain ⟨hP, hD, hS, hl⟩ := hst
      refine lv_iload_n hx hb dX6_countOn_61 rfl (lv_at hl 2 rfl) ?_
      refine lv_iconst (v := (4 : Int32)) hx hb dX6_countOn_62 (by decide) ?_
      obtain ⟨ha, hf⟩ := h
      refine lv_icmp_ge (tgt := 84) hx hb dX6_countOn_63 (by decide) (fun hc => ?_) (fun hc => ?_)
      · have h := ha hc
        clear ha hf
        refine lv_iload_n hx hb dX6_countOn_84 rfl (lv_at hl 1 rfl) ?_
        exact hret _ r_seen _ _ _ _ rfl h hP hD hS dX6_countOn_85
      · have h := hf hc
        clear ha hf
        refine lv_iload_n hx hb dX6_countOn_66 rfl (lv_at hl 1 rfl) ?_
        refine lv_aload_n hx hb dX6_countOn_67 rfl (lv_at hl 0 rfl) ?_
        refine va_get (D := G) (ci := 6) (v := .ref r_as) (C := RX6) (T := TX6) (N := 2) hx hb hts i_X6 hown hK.1 hP 0 rfl rfl 1 (by decide) f_13 (fun _ h9 => h9) rfl dX6_countOn_68 ?_
        refine lv_iload_n hx hb dX6_countOn_71 rfl (lv_at hl 2 rfl) ?_
        obtain ⟨hi, h⟩ := h
        refine va_lald hx hb hK.1 hP 1 3 rfl rfl hi dX6_countOn_72 ?_
        refine k_Si (wr := [oX6 r_a c_a r_as, aJ cJ r_as 4 r_seen, oX0 c_a c_points c_count c_as c_ad c_ar c_ah c_ed, aI cI c_as 20 c_sets, aD cD c_ad 20 c_scores, aZ cZ c_ar 20 c_rated, aI cI c_ah 8 c_hold]) (wf := (fun (u : Unit) => [oX6 r_a c_a r_as, aJ cJ r_as 4 r_seen, oX0 c_a c_points c_count c_as c_ad c_ar c_ah c_ed, aI cI c_as 20 c_sets, aD cD c_ad 20 c_scores, aZ cZ c_ar 20 c_rated, aI cI c_ah 8 c_hold])) (As := [.long (r_seen x3.toNatClampNeg)]) (rest := [.int x2]) ⟨hx, hb, hml, hown, hts⟩ hK hP hD hS hA (c_J13_bitCount_95d88 l G cI cD cZ cJ cO (r_seen x3.toNatClampNeg) _ h) (va_cwS 1 hts gX6_countOn_J13_bitCount_95d88 rfl rfl rfl (by decide +kernel) ⟨Nat.le_of_ble_eq_true rfl, Nat.le_of_ble_eq_true rfl⟩) [] [0, 1, 2, 3, 4, 5, 6] [0, 1, 2, 3, 4, 5, 6] rfl rfl rfl (fun _ => rfl) rfl rfl hl.1 (Nat.le_of_ble_eq_true rfl) ⟨Nat.zero_le _, Nat.zero_le _⟩ dX6_countOn_73 (fun r_2 u H locs h hP hD hS => ?_)
        have hP : va_P G vwCl [oX6 r_a c_a r_as, aJ cJ r_as 4 r_seen, oX0 c_a c_points c_count c_as c_ad c_ar c_ah c_ed, aI cI c_as 20 c_sets, aD cD c_ad 20 c_scores, aZ cZ c_ar 20 c_rated, aI cI c_ah 8 c_hold] H := hP
        have hD : va_D A [oX6 r_a c_a r_as, aJ cJ r_as 4 r_seen, oX0 c_a c_points c_count c_as c_ad c_ar c_ah c_ed, aI cI c_as 20 c_sets, aD cD c_ad 20 c_scores, aZ cZ c_ar 20 c_rated, aI cI c_ah 8 c_hold] := hD
        refine lv_iadd hx hb dX6_countOn_76 ?_
        refine lv_istore_n (lv' := [(2, .int (x2 + r_2)), (0, .ref r_a), (3, .int x3)]) hx hb dX6_countOn_77 rfl hl (by decide) rfl (fun ls hl => ?_)
        refine lv_iinc (v := (x3 + (1 : Int32))) (lv' := [(3, .int (x3 + (1 : Int32))), (2, .int (x2 + r_2)), (0, .ref r_a)]) hx hb dX6_countOn_78 hl (k := 2) rfl rfl (by decide) rfl (fun ls hl => ?_)
        refine lv_goto (tgt := 61) hx hb dX6_countOn_81 (by decide) ?_
        exact ih _ _ _ h _ _ _ ⟨hP, hD, hS, lv_sub hl [2, 1, 0] rfl⟩
  have b_10 : ∀ (n : Nat) (x2 : Int32) (r_seen : Nat → Int64), wp_X6_countOn_b10 x1 c_count c_sets Q n x2 r_seen → ∀ (H : Heap) (locs : List Loc) (ls : Array Slot), ST G A s.heap [oX6 r_a c_a r_as, aJ cJ r_as 4 r_seen, oX0 c_a c_points c_count c_as c_ad c_ar c_ah c_ed, aI cI c_as 20 c_sets, aD cD c_ad 20 c_scores, aZ cZ c_ar 20 c_rated, aI cI c_ah 8 c_hold] 4 [(0, .ref r_a), (1, .int x1), (2, .int x2)] H locs ls → W p l e rm_X6_countOn s m args below meth c H locs 0 0 Z (F0 m 10 ls []) := by
    intro n
    induction n with
    | zero =>
      intro x2 r_seen h; exact False.elim h
    | succ n ih =>
      intro x2 r_seen h H locs ls hst
      obtain ⟨hP, hD, hS, hl⟩ := hst
      refine lv_iload_n hx hb dX6_countOn_10 rfl (lv_at hl 2 rfl) ?_
      refine lv_aload_n hx hb dX6_countOn_11 rfl (lv_at hl 0 rfl) ?_
      refine va_get (D := G) (ci := 6) (v := .ref c_a) (C := RX6) (T := TX6) (N := 2) hx hb hts i_X6 hown hK.1 hP 0 rfl rfl 0 (by decide) f_7 (fun _ h9 => h9) rfl dX6_countOn_12 ?_
      refine va_get (D := G) (ci := 0) (v := .int c_count) (C := RX0) (T := TX0) (N := 7) hx hb hts i_X0 hown hK.1 hP 2 rfl rfl 1 (by decide) f_23 (fun _ h9 => h9) rfl dX6_countOn_15 ?_
      obtain ⟨ha, hf⟩ := h
      refine lv_icmp_ge (tgt := 57) hx hb dX6_countOn_18 (by decide) (fun hc => ?_) (fun hc => ?_)
      · have h := ha hc
        clear ha hf
        refine lv_iconst (v := (0 : Int32)) hx hb dX6_countOn_57 (by decide) ?_
        refine lv_istore_n (lv' := [(2, .int (0 : Int32)), (0, .ref r_a), (1, .int x1)]) hx hb dX6_countOn_58 rfl hl (by decide) rfl (fun ls hl => ?_)
        refine lv_iconst (v := (0 : Int32)) hx hb dX6_countOn_59 (by decide) ?_
        refine lv_istore_n (lv' := [(3, .int (0 : Int32)), (2, .int (0 : Int32)), (0, .ref r_a), (1, .int x1)]) hx hb dX6_countOn_60 rfl hl (by decide) rfl (fun ls hl => ?_)
        obtain ⟨j, h⟩ := h
        exact b_61  j _ _ _ h _ _ _ ⟨hP, hD, hS, lv_sub hl [2, 1, 0] rfl⟩
      · have h := hf hc
        clear ha hf
        refine lv_aload_n hx hb dX6_countOn_21 rfl (lv_at hl 0 rfl) ?_
        refine va_get (D := G) (ci := 6) (v := .ref c_a) (C := RX6) (T := TX6) (N := 2) hx hb hts i_X6 hown hK.1 hP 0 rfl rfl 0 (by decide) f_7 (fun _ h9 => h9) rfl dX6_countOn_22 ?_
        refine va_get (D := G) (ci := 0) (v := .ref c_as) (C := RX0) (T := TX0) (N := 7) hx hb hts i_X0 hown hK.1 hP 2 rfl rfl 2 (by decide) f_29 (fun _ h9 => h9) rfl dX6_countOn_25 ?_
        refine lv_iload_n hx hb dX6_countOn_28 rfl (lv_at hl 2 rfl) ?_
        obtain ⟨hi, h⟩ := h
        refine va_iald hx hb hK.1 hP 3 0 rfl rfl hi dX6_countOn_29 ?_
        refine lv_iload_n hx hb dX6_countOn_30 rfl (lv_at hl 1 rfl) ?_
        refine lv_iand hx hb dX6_countOn_31 ?_
        refine lv_istore_n (lv' := [(3, .int ((c_sets x2.toNatClampNeg) &&& x1)), (0, .ref r_a), (1, .int x1), (2, .int x2)]) hx hb dX6_countOn_32 rfl hl (by decide) rfl (fun ls hl => ?_)
        refine lv_aload_n hx hb dX6_countOn_33 rfl (lv_at hl 1 rfl) ?_
        refine va_get (D := G) (ci := 6) (v := .ref r_as) (C := RX6) (T := TX6) (N := 2) hx hb hts i_X6 hown hK.1 hP 0 rfl rfl 1 (by decide) f_13 (fun _ h9 => h9) rfl dX6_countOn_34 ?_
        refine lv_iload_n hx hb dX6_countOn_37 rfl (lv_at hl 0 rfl) ?_
        refine lv_bipush (v := (6 : Int32)) hx hb dX6_countOn_38 (by decide) ?_
        refine lv_ishr hx hb dX6_countOn_40 ?_
        refine lv_dup2_11 hx hb dX6_countOn_41 rfl rfl ?_
        obtain ⟨hi, h⟩ := h
        refine va_lald hx hb hK.1 hP 1 3 rfl rfl hi dX6_countOn_42 ?_
        refine lv_lconst (v := (1 : Int64)) hx hb dX6_countOn_43 (by decide) ?_
        refine lv_iload_n hx hb dX6_countOn_44 rfl (lv_at hl 0 rfl) ?_
        refine lv_bipush (v := (63 : Int32)) hx hb dX6_countOn_45 (by decide) ?_
        refine lv_iand hx hb dX6_countOn_47 ?_
        refine lv_lshl hx hb dX6_countOn_48 rfl ?_
        refine lv_lor hx hb dX6_countOn_49 ?_
        obtain ⟨hi, h⟩ := h
        refine va_last hx hb hK.1 hP hD hS 1 3 rfl rfl hi dX6_countOn_50 (fun H locs hP hD hS => ?_)
        have hP : va_P G vwCl [oX6 r_a c_a r_as, aJ cJ r_as 4 (vp_updL r_seen (((c_sets x2.toNatClampNeg) &&& x1) >>> ((6 : Int32) &&& 31)).toNatClampNeg ((r_seen (((c_sets x2.toNatClampNeg) &&& x1) >>> ((6 : Int32) &&& 31)).toNatClampNeg) ||| ((1 : Int64) <<< ((((c_sets x2.toNatClampNeg) &&& x1) &&& (63 : Int32)).toInt64 &&& 63)))), oX0 c_a c_points c_count c_as c_ad c_ar c_ah c_ed, aI cI c_as 20 c_sets, aD cD c_ad 20 c_scores, aZ cZ c_ar 20 c_rated, aI cI c_ah 8 c_hold] H := hP
        have hD : va_D A [oX6 r_a c_a r_as, aJ cJ r_as 4 (vp_updL r_seen (((c_sets x2.toNatClampNeg) &&& x1) >>> ((6 : Int32) &&& 31)).toNatClampNeg ((r_seen (((c_sets x2.toNatClampNeg) &&& x1) >>> ((6 : Int32) &&& 31)).toNatClampNeg) ||| ((1 : Int64) <<< ((((c_sets x2.toNatClampNeg) &&& x1) &&& (63 : Int32)).toInt64 &&& 63)))), oX0 c_a c_points c_count c_as c_ad c_ar c_ah c_ed, aI cI c_as 20 c_sets, aD cD c_ad 20 c_scores, aZ cZ c_ar 20 c_rated, aI cI c_ah 8 c_hold] := hD
        refine lv_iinc (v := (x2 + (1 : Int32))) (lv' := [(2, .int (x2 + (1 : Int32))), (3, .int ((c_sets x2.toNatClampNeg) &&& x1)), (0, .ref r_a), (1, .int x1)]) hx hb dX6_countOn_51 hl (k := 3) rfl rfl (by decide) rfl (fun ls hl => ?_)
        refine lv_goto (tgt := 10) hx hb dX6_countOn_54 (by decide) ?_
        exact ih _ _ h _ _ _ ⟨hP, hD, hS, lv_sub hl [2, 3, 0] rfl⟩
  refine lv_aload_n hx hb dX6_countOn_0 rfl (lv_at hl 0 rfl) ?_
  refine va_get (D := G) (ci := 6) (v := .ref r_as) (C := RX6) (T := TX6) (N := 2) hx hb hts i_X6 hown hK.1 hP 0 rfl rfl 1 (by decide) f_13 (fun _ h9 => h9) rfl dX6_countOn_1 ?_
  refine lv_lconst (v := (0 : Int64)) hx hb dX6_countOn_4 (by decide) ?_
  refine k_Sv (wr := [oX6 r_a c_a r_as, oX0 c_a c_points c_count c_as c_ad c_ar c_ah c_ed, aI cI c_as 20 c_sets, aD cD c_ad 20 c_scores, aZ cZ c_ar 20 c_rated, aI cI c_ah 8 c_hold]) (wf := (fun (u : (Nat → Int64)) => [oX6 r_a c_a r_as, aJ cJ r_as 4 u, oX0 c_a c_points c_count c_as c_ad c_ar c_ah c_ed, aI cI c_as 20 c_sets, aD cD c_ad 20 c_scores, aZ cZ c_ar 20 c_rated, aI cI c_ah 8 c_hold])) (As := [.ref r_as, .long (0 : Int64)]) (rest := []) ⟨hx, hb, hml, hown, hts⟩ hK hP hD hS hA (c_J7_fill_d0a16 l G cI cD cZ cJ cO 4 r_as r_seen (0 : Int64) _ h) (va_cwS 2 hts gX6_countOn_J7_fill_d0a16 rfl rfl rfl (by decide +kernel) ⟨Nat.le_of_ble_eq_true rfl, Nat.le_of_ble_eq_true rfl⟩) [1] [0, 2, 3, 4, 5, 6] [0, 6, 1, 2, 3, 4, 5] rfl rfl rfl (fun _ => rfl) rfl rfl hl.1 (Nat.le_of_ble_eq_true rfl) ⟨Nat.zero_le _, Nat.zero_le _⟩ dX6_countOn_5 (fun u H locs h hP hD hS => ?_)
  obtain ⟨r_seen_1, rfl⟩ : ∃ z, z = u := ⟨_, rfl⟩
  have hP : va_P G vwCl [oX6 r_a c_a r_as, aJ cJ r_as 4 r_seen_1, oX0 c_a c_points c_count c_as c_ad c_ar c_ah c_ed, aI cI c_as 20 c_sets, aD cD c_ad 20 c_scores, aZ cZ c_ar 20 c_rated, aI cI c_ah 8 c_hold] H := hP
  have hD : va_D A [oX6 r_a c_a r_as, aJ cJ r_as 4 r_seen_1, oX0 c_a c_points c_count c_as c_ad c_ar c_ah c_ed, aI cI c_as 20 c_sets, aD cD c_ad 20 c_scores, aZ cZ c_ar 20 c_rated, aI cI c_ah 8 c_hold] := hD
  refine lv_iconst (v := (0 : Int32)) hx hb dX6_countOn_8 (by decide) ?_
  refine lv_istore_n (lv' := [(2, .int (0 : Int32)), (0, .ref r_a), (1, .int x1)]) hx hb dX6_countOn_9 rfl hl (by decide) rfl (fun ls hl => ?_)
  obtain ⟨j, h⟩ := h
  exact b_10  j _ _ h _ _ _ ⟨hP, hD, hS, lv_sub hl [1, 2, 0] rfl⟩
abbrev rm_X6_shatter : Room := { frames := 2, cells := 0, slots := 0, locals := 47 }
def wp_X6_shatter (x1 : Int32) (r_seen : Nat → Int64) (c_count : Int32) (c_sets : Nat → Int32) (Q : Int32 → (Nat → Int64) → Prop) : Prop := wp_J6_bitCount_0f7a4 x1 (fun (r_1 : Int32) => ((c_count < ((1 : Int32) <<< (r_1 &&& 31))) → Q (0 : Int32) r_seen) ∧ ((¬ c_count < ((1 : Int32) <<< (r_1 &&& 31))) → wp_X6_countOn x1 r_seen c_count c_sets (fun (r_2 : Int32) (r_seen_3 : Nat → Int64) => ((¬ r_2 = ((1 : Int32) <<< (r_1 &&& 31))) → Q (0 : Int32) r_seen_3) ∧ ((r_2 = ((1 : Int32) <<< (r_1 &&& 31))) → Q (1 : Int32) r_seen_3))))
set_option maxRecDepth 100000 in
set_option maxHeartbeats 4000000 in
theorem c_X6_shatter (l : Launch) (G : va_G) (cI cD cZ cJ cO : ClassId) (r_a r_as c_a c_as c_ad c_ar c_ah : Nat) (r_seen : Nat → Int64) (c_points : Int32) (c_count : Int32) (c_ed : Int32) (c_sets : Nat → Int32) (c_scores : Nat → UInt64) (c_rated : Nat → Int32) (c_hold : Nat → Int32) (x1 : Int32) (Q : Int32 → (Nat → Int64) → Prop) (h : wp_X6_shatter x1 r_seen c_count c_sets Q) : CtI l yX6_shatter wsX6_shatter rm_X6_shatter G (TY cI cD cZ cJ cO) [.ref r_a, .int x1] [oX6 r_a c_a r_as, aJ cJ r_as 4 r_seen, oX0 c_a c_points c_count c_as c_ad c_ar c_ah c_ed, aI cI c_as 20 c_sets, aD cD c_ad 20 c_scores, aZ cZ c_ar 20 c_rated, aI cI c_ah 8 c_hold] (fun (r : Int32) (u : (Nat → Int64)) => Q r u) (fun (u : (Nat → Int64)) => [oX6 r_a c_a r_as, aJ cJ r_as 4 u, oX0 c_a c_points c_count c_as c_ad c_ar c_ah c_ed, aI cI c_as 20 c_sets, aD cD c_ad 20 c_scores, aZ cZ c_ar 20 c_rated, aI cI c_ah 8 c_hold]) := by
  refine ct_openI (cc := cX6_shatter) (maxL := 3) (ty := .boolean) (by decide) rfl (Nat.le_of_ble_eq_true rfl) ?_
  intro p e s m args below meth c A Z ls hx hb hml hown hts hK hA hret hP hD hS hl
  have hown : s.vm.findClass RX6 = some m.cls := hown
  have hl : lv_has ls 3 [(0, .ref r_a), (1, .int x1)] := hl
  have f_7 := hts (.fieldLink RX6 7 "TeachingSets$Traces" "concepts" "LTeachingSets$Concepts;") (List.mem_of_getElem? (i := 1) rfl)
  have f_23 := hts (.fieldLink RX6 23 "TeachingSets$Concepts" "count" "I") (List.mem_of_getElem? (i := 2) rfl)
  have i_X6 : ∀ w ∈ wsX60, w ∈ wsX6_shatter := fun _ h => List.mem_cons_of_mem _ (List.mem_append_left _ (List.mem_append_right _ (h)))
  have i_X0 : ∀ w ∈ wsX00, w ∈ wsX6_shatter := fun _ h => List.mem_cons_of_mem _ (List.mem_append_right _ (h))
  refine lv_iconst (v := (1 : Int32)) hx hb dX6_shatter_0 (by decide) ?_
  refine lv_iload_n hx hb dX6_shatter_1 rfl (lv_at hl 1 rfl) ?_
  refine k_Si (wr := [oX6 r_a c_a r_as, aJ cJ r_as 4 r_seen, oX0 c_a c_points c_count c_as c_ad c_ar c_ah c_ed, aI cI c_as 20 c_sets, aD cD c_ad 20 c_scores, aZ cZ c_ar 20 c_rated, aI cI c_ah 8 c_hold]) (wf := (fun (u : Unit) => [oX6 r_a c_a r_as, aJ cJ r_as 4 r_seen, oX0 c_a c_points c_count c_as c_ad c_ar c_ah c_ed, aI cI c_as 20 c_sets, aD cD c_ad 20 c_scores, aZ cZ c_ar 20 c_rated, aI cI c_ah 8 c_hold])) (As := [.int x1]) (rest := [.int (1 : Int32)]) ⟨hx, hb, hml, hown, hts⟩ hK hP hD hS hA (c_J6_bitCount_0f7a4 l G cI cD cZ cJ cO x1 _ h) (va_cwS 1 hts gX6_shatter_J6_bitCount_0f7a4 rfl rfl rfl (by decide +kernel) ⟨Nat.le_of_ble_eq_true rfl, Nat.le_of_ble_eq_true rfl⟩) [] [0, 1, 2, 3, 4, 5, 6] [0, 1, 2, 3, 4, 5, 6] rfl rfl rfl (fun _ => rfl) rfl rfl hl.1 (Nat.le_of_ble_eq_true rfl) ⟨Nat.zero_le _, Nat.zero_le _⟩ dX6_shatter_2 (fun r_1 u H locs h hP hD hS => ?_)
  have hP : va_P G vwCl [oX6 r_a c_a r_as, aJ cJ r_as 4 r_seen, oX0 c_a c_points c_count c_as c_ad c_ar c_ah c_ed, aI cI c_as 20 c_sets, aD cD c_ad 20 c_scores, aZ cZ c_ar 20 c_rated, aI cI c_ah 8 c_hold] H := hP
  have hD : va_D A [oX6 r_a c_a r_as, aJ cJ r_as 4 r_seen, oX0 c_a c_points c_count c_as c_ad c_ar c_ah c_ed, aI cI c_as 20 c_sets, aD cD c_ad 20 c_scores, aZ cZ c_ar 20 c_rated, aI cI c_ah 8 c_hold] := hD
  refine lv_ishl hx hb dX6_shatter_5 ?_
  refine lv_istore_n (lv' := [(2, .int ((1 : Int32) <<< (r_1 &&& 31))), (0, .ref r_a), (1, .int x1)]) hx hb dX6_shatter_6 rfl hl (by decide) rfl (fun ls hl => ?_)
  refine lv_iload_n hx hb dX6_shatter_7 rfl (lv_at hl 0 rfl) ?_
  refine lv_aload_n hx hb dX6_shatter_8 rfl (lv_at hl 1 rfl) ?_
  refine va_get (D := G) (ci := 6) (v := .ref c_a) (C := RX6) (T := TX6) (N := 2) hx hb hts i_X6 hown hK.1 hP 0 rfl rfl 0 (by decide) f_7 (fun _ h9 => h9) rfl dX6_shatter_9 ?_
  refine va_get (D := G) (ci := 0) (v := .int c_count) (C := RX0) (T := TX0) (N := 7) hx hb hts i_X0 hown hK.1 hP 2 rfl rfl 1 (by decide) f_23 (fun _ h9 => h9) rfl dX6_shatter_12 ?_
  obtain ⟨ha, hf⟩ := h
  refine lv_icmp_gt (tgt := 31) hx hb dX6_shatter_15 (by decide) (fun hc => ?_) (fun hc => ?_)
  · have h := ha hc
    clear ha hf
    refine lv_iconst (v := (0 : Int32)) hx hb dX6_shatter_31 (by decide) ?_
    exact hret _ r_seen _ _ _ _ rfl h hP hD hS dX6_shatter_32
  · have h := hf hc
    clear ha hf
    refine lv_aload_n hx hb dX6_shatter_18 rfl (lv_at hl 1 rfl) ?_
    refine lv_iload_n hx hb dX6_shatter_19 rfl (lv_at hl 2 rfl) ?_
    refine k_Vi (wr := []) (wf := (fun (u : (Nat → Int64)) => [oX6 r_a c_a r_as, aJ cJ r_as 4 u, oX0 c_a c_points c_count c_as c_ad c_ar c_ah c_ed, aI cI c_as 20 c_sets, aD cD c_ad 20 c_scores, aZ cZ c_ar 20 c_rated, aI cI c_ah 8 c_hold])) (As := [.int x1]) (rest := []) ⟨hx, hb, hml, hown, hts⟩ hK hP hD hS hA (c_X6_countOn l G cI cD cZ cJ cO r_a r_as c_a c_as c_ad c_ar c_ah r_seen c_points c_count c_ed c_sets c_scores c_rated c_hold x1 _ h) (cwV 1 hts gX6_shatter_X6_countOn rfl rfl rfl (by decide +kernel) ⟨Nat.le_of_ble_eq_true rfl, Nat.le_of_ble_eq_true rfl⟩) 0 rfl rfl [0, 1, 2, 3, 4, 5, 6] [] [0, 1, 2, 3, 4, 5, 6] rfl rfl rfl (fun _ => rfl) rfl rfl hl.1 (Nat.le_of_ble_eq_true rfl) ⟨Nat.zero_le _, Nat.zero_le _⟩ dX6_shatter_20 (fun r_2 u H locs h hP hD hS => ?_)
    obtain ⟨r_seen_3, rfl⟩ : ∃ z, z = u := ⟨_, rfl⟩
    have hP : va_P G vwCl [oX6 r_a c_a r_as, aJ cJ r_as 4 r_seen_3, oX0 c_a c_points c_count c_as c_ad c_ar c_ah c_ed, aI cI c_as 20 c_sets, aD cD c_ad 20 c_scores, aZ cZ c_ar 20 c_rated, aI cI c_ah 8 c_hold] H := hP
    have hD : va_D A [oX6 r_a c_a r_as, aJ cJ r_as 4 r_seen_3, oX0 c_a c_points c_count c_as c_ad c_ar c_ah c_ed, aI cI c_as 20 c_sets, aD cD c_ad 20 c_scores, aZ cZ c_ar 20 c_rated, aI cI c_ah 8 c_hold] := hD
    refine lv_iload_n hx hb dX6_shatter_23 rfl (lv_at hl 0 rfl) ?_
    obtain ⟨ha, hf⟩ := h
    refine lv_icmp_ne (tgt := 31) hx hb dX6_shatter_24 (by decide) (fun hc => ?_) (fun hc => ?_)
    · have h := ha hc
      clear ha hf
      refine lv_iconst (v := (0 : Int32)) hx hb dX6_shatter_31 (by decide) ?_
      exact hret _ r_seen_3 _ _ _ _ rfl h hP hD hS dX6_shatter_32
    · have h := hf hc
      clear ha hf
      refine lv_iconst (v := (1 : Int32)) hx hb dX6_shatter_27 (by decide) ?_
      refine lv_goto (tgt := 32) hx hb dX6_shatter_28 (by decide) ?_
      exact hret _ r_seen_3 _ _ _ _ rfl h hP hD hS dX6_shatter_32
