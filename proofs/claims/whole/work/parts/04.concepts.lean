abbrev rm_X0_allPoints : Room := { frames := 0, cells := 0, slots := 0, locals := 0 }
def wp_X0_allPoints (c_points : Int32) (Q : Int32 → Prop) : Prop := Q (((1 : Int32) <<< (c_points &&& 31)) - (1 : Int32))
set_option maxRecDepth 100000 in
set_option maxHeartbeats 4000000 in
theorem c_X0_allPoints (l : Launch) (G : va_G) (cI cD cZ cJ cO : ClassId) (c_a c_as c_ad c_ar c_ah : Nat) (c_points : Int32) (c_count : Int32) (c_ed : Int32) (c_sets : Nat → Int32) (c_scores : Nat → UInt64) (c_rated : Nat → Int32) (c_hold : Nat → Int32) (Q : Int32 → Prop) (h : wp_X0_allPoints c_points Q) : CtI l yX0_allPoints wsX0_allPoints rm_X0_allPoints G (TY cI cD cZ cJ cO) [.ref c_a] [oX0 c_a c_points c_count c_as c_ad c_ar c_ah c_ed, aI cI c_as 20 c_sets, aD cD c_ad 20 c_scores, aZ cZ c_ar 20 c_rated, aI cI c_ah 8 c_hold] (fun (r : Int32) (u : Unit) => Q r) (fun (u : Unit) => [oX0 c_a c_points c_count c_as c_ad c_ar c_ah c_ed, aI cI c_as 20 c_sets, aD cD c_ad 20 c_scores, aZ cZ c_ar 20 c_rated, aI cI c_ah 8 c_hold]) := by
  refine ct_openI (cc := cX0_allPoints) (maxL := 1) (ty := .int) (by decide) rfl (Nat.le_of_ble_eq_true rfl) ?_
  intro p e s m args below meth c A Z ls hx hb hml hown hts hK hA hret hP hD hS hl
  have hown : s.vm.findClass RX0 = some m.cls := hown
  have hl : lv_has ls 1 [(0, .ref c_a)] := hl
  have f_9 := hts (.fieldLink RX0 9 "TeachingSets$Concepts" "points" "I") (List.mem_of_getElem? (i := 1) rfl)
  have i_X0 : ∀ w ∈ wsX00, w ∈ wsX0_allPoints := fun _ h => List.mem_cons_of_mem _ (List.mem_append_right _ (h))
  refine lv_iconst (v := (1 : Int32)) hx hb dX0_allPoints_0 (by decide) ?_
  refine lv_aload_n hx hb dX0_allPoints_1 rfl (lv_at hl 0 rfl) ?_
  refine va_get (D := G) (ci := 0) (v := .int c_points) (C := RX0) (T := TX0) (N := 7) hx hb hts i_X0 hown hK.1 hP 0 rfl rfl 0 (by decide) f_9 (fun _ h9 => h9) rfl dX0_allPoints_2 ?_
  refine lv_ishl hx hb dX0_allPoints_5 ?_
  refine lv_iconst (v := (1 : Int32)) hx hb dX0_allPoints_6 (by decide) ?_
  refine lv_isub hx hb dX0_allPoints_7 ?_
  exact hret _ () _ _ _ _ rfl h hP hD hS dX0_allPoints_8
abbrev rm_X0_allNumbers : Room := { frames := 0, cells := 0, slots := 0, locals := 0 }
def wp_X0_allNumbers (c_count : Int32) (Q : Int32 → Prop) : Prop := Q (((1 : Int32) <<< (c_count &&& 31)) - (1 : Int32))
set_option maxRecDepth 100000 in
set_option maxHeartbeats 4000000 in
theorem c_X0_allNumbers (l : Launch) (G : va_G) (cI cD cZ cJ cO : ClassId) (c_a c_as c_ad c_ar c_ah : Nat) (c_points : Int32) (c_count : Int32) (c_ed : Int32) (c_sets : Nat → Int32) (c_scores : Nat → UInt64) (c_rated : Nat → Int32) (c_hold : Nat → Int32) (Q : Int32 → Prop) (h : wp_X0_allNumbers c_count Q) : CtI l yX0_allNumbers wsX0_allNumbers rm_X0_allNumbers G (TY cI cD cZ cJ cO) [.ref c_a] [oX0 c_a c_points c_count c_as c_ad c_ar c_ah c_ed, aI cI c_as 20 c_sets, aD cD c_ad 20 c_scores, aZ cZ c_ar 20 c_rated, aI cI c_ah 8 c_hold] (fun (r : Int32) (u : Unit) => Q r) (fun (u : Unit) => [oX0 c_a c_points c_count c_as c_ad c_ar c_ah c_ed, aI cI c_as 20 c_sets, aD cD c_ad 20 c_scores, aZ cZ c_ar 20 c_rated, aI cI c_ah 8 c_hold]) := by
  refine ct_openI (cc := cX0_allNumbers) (maxL := 1) (ty := .int) (by decide) rfl (Nat.le_of_ble_eq_true rfl) ?_
  intro p e s m args below meth c A Z ls hx hb hml hown hts hK hA hret hP hD hS hl
  have hown : s.vm.findClass RX0 = some m.cls := hown
  have hl : lv_has ls 1 [(0, .ref c_a)] := hl
  have f_15 := hts (.fieldLink RX0 15 "TeachingSets$Concepts" "count" "I") (List.mem_of_getElem? (i := 1) rfl)
  have i_X0 : ∀ w ∈ wsX00, w ∈ wsX0_allNumbers := fun _ h => List.mem_cons_of_mem _ (List.mem_append_right _ (h))
  refine lv_iconst (v := (1 : Int32)) hx hb dX0_allNumbers_0 (by decide) ?_
  refine lv_aload_n hx hb dX0_allNumbers_1 rfl (lv_at hl 0 rfl) ?_
  refine va_get (D := G) (ci := 0) (v := .int c_count) (C := RX0) (T := TX0) (N := 7) hx hb hts i_X0 hown hK.1 hP 0 rfl rfl 1 (by decide) f_15 (fun _ h9 => h9) rfl dX0_allNumbers_2 ?_
  refine lv_ishl hx hb dX0_allNumbers_5 ?_
  refine lv_iconst (v := (1 : Int32)) hx hb dX0_allNumbers_6 (by decide) ?_
  refine lv_isub hx hb dX0_allNumbers_7 ?_
  exact hret _ () _ _ _ _ rfl h hP hD hS dX0_allNumbers_8
abbrev rm_X0_others : Room := { frames := 1, cells := 0, slots := 0, locals := 20 }
def wp_X0_others (x1 : Int32) (c_count : Int32) (Q : Int32 → Prop) : Prop := wp_X0_allNumbers c_count (fun (r_1 : Int32) => Q (r_1 &&& (((1 : Int32) <<< (x1 &&& 31)) ^^^ (-1 : Int32))))
set_option maxRecDepth 100000 in
set_option maxHeartbeats 4000000 in
theorem c_X0_others (l : Launch) (G : va_G) (cI cD cZ cJ cO : ClassId) (c_a c_as c_ad c_ar c_ah : Nat) (c_points : Int32) (c_count : Int32) (c_ed : Int32) (c_sets : Nat → Int32) (c_scores : Nat → UInt64) (c_rated : Nat → Int32) (c_hold : Nat → Int32) (x1 : Int32) (Q : Int32 → Prop) (h : wp_X0_others x1 c_count Q) : CtI l yX0_others wsX0_others rm_X0_others G (TY cI cD cZ cJ cO) [.ref c_a, .int x1] [oX0 c_a c_points c_count c_as c_ad c_ar c_ah c_ed, aI cI c_as 20 c_sets, aD cD c_ad 20 c_scores, aZ cZ c_ar 20 c_rated, aI cI c_ah 8 c_hold] (fun (r : Int32) (u : Unit) => Q r) (fun (u : Unit) => [oX0 c_a c_points c_count c_as c_ad c_ar c_ah c_ed, aI cI c_as 20 c_sets, aD cD c_ad 20 c_scores, aZ cZ c_ar 20 c_rated, aI cI c_ah 8 c_hold]) := by
  refine ct_openI (cc := cX0_others) (maxL := 2) (ty := .int) (by decide) rfl (Nat.le_of_ble_eq_true rfl) ?_
  intro p e s m args below meth c A Z ls hx hb hml hown hts hK hA hret hP hD hS hl
  have hown : s.vm.findClass RX0 = some m.cls := hown
  have hl : lv_has ls 2 [(0, .ref c_a), (1, .int x1)] := hl
  refine lv_aload_n hx hb dX0_others_0 rfl (lv_at hl 0 rfl) ?_
  refine k_Vi (wr := []) (wf := (fun (u : Unit) => [oX0 c_a c_points c_count c_as c_ad c_ar c_ah c_ed, aI cI c_as 20 c_sets, aD cD c_ad 20 c_scores, aZ cZ c_ar 20 c_rated, aI cI c_ah 8 c_hold])) (As := []) (rest := []) ⟨hx, hb, hml, hown, hts⟩ hK hP hD hS hA (c_X0_allNumbers l G cI cD cZ cJ cO c_a c_as c_ad c_ar c_ah c_points c_count c_ed c_sets c_scores c_rated c_hold _ h) (cwV 0 hts gX0_others_X0_allNumbers rfl rfl rfl (by decide +kernel) ⟨Nat.le_of_ble_eq_true rfl, Nat.le_of_ble_eq_true rfl⟩) 0 rfl rfl [0, 1, 2, 3, 4] [] [0, 1, 2, 3, 4] rfl rfl rfl (fun _ => rfl) rfl rfl hl.1 (Nat.le_of_ble_eq_true rfl) ⟨Nat.zero_le _, Nat.zero_le _⟩ dX0_others_1 (fun r_1 u H locs h hP hD hS => ?_)
  have hP : va_P G vwCl [oX0 c_a c_points c_count c_as c_ad c_ar c_ah c_ed, aI cI c_as 20 c_sets, aD cD c_ad 20 c_scores, aZ cZ c_ar 20 c_rated, aI cI c_ah 8 c_hold] H := hP
  have hD : va_D A [oX0 c_a c_points c_count c_as c_ad c_ar c_ah c_ed, aI cI c_as 20 c_sets, aD cD c_ad 20 c_scores, aZ cZ c_ar 20 c_rated, aI cI c_ah 8 c_hold] := hD
  refine lv_iconst (v := (1 : Int32)) hx hb dX0_others_4 (by decide) ?_
  refine lv_iload_n hx hb dX0_others_5 rfl (lv_at hl 1 rfl) ?_
  refine lv_ishl hx hb dX0_others_6 ?_
  refine lv_iconst (v := (-1 : Int32)) hx hb dX0_others_7 (by decide) ?_
  refine lv_ixor hx hb dX0_others_8 ?_
  refine lv_iand hx hb dX0_others_9 ?_
  exact hret _ () _ _ _ _ rfl h hP hD hS dX0_others_10
abbrev rm_X0_has : Room := { frames := 0, cells := 0, slots := 0, locals := 0 }
def wp_X0_has (x1 : Int32) (c_count : Int32) (Q : Int32 → Prop) : Prop := ((x1 < 0) → Q (0 : Int32)) ∧ ((¬ x1 < 0) → ((c_count ≤ x1) → Q (0 : Int32)) ∧ ((¬ c_count ≤ x1) → Q (1 : Int32)))
set_option maxRecDepth 100000 in
set_option maxHeartbeats 4000000 in
theorem c_X0_has (l : Launch) (G : va_G) (cI cD cZ cJ cO : ClassId) (c_a c_as c_ad c_ar c_ah : Nat) (c_points : Int32) (c_count : Int32) (c_ed : Int32) (c_sets : Nat → Int32) (c_scores : Nat → UInt64) (c_rated : Nat → Int32) (c_hold : Nat → Int32) (x1 : Int32) (Q : Int32 → Prop) (h : wp_X0_has x1 c_count Q) : CtI l yX0_has wsX0_has rm_X0_has G (TY cI cD cZ cJ cO) [.ref c_a, .int x1] [oX0 c_a c_points c_count c_as c_ad c_ar c_ah c_ed, aI cI c_as 20 c_sets, aD cD c_ad 20 c_scores, aZ cZ c_ar 20 c_rated, aI cI c_ah 8 c_hold] (fun (r : Int32) (u : Unit) => Q r) (fun (u : Unit) => [oX0 c_a c_points c_count c_as c_ad c_ar c_ah c_ed, aI cI c_as 20 c_sets, aD cD c_ad 20 c_scores, aZ cZ c_ar 20 c_rated, aI cI c_ah 8 c_hold]) := by
  refine ct_openI (cc := cX0_has) (maxL := 2) (ty := .boolean) (by decide) rfl (Nat.le_of_ble_eq_true rfl) ?_
  intro p e s m args below meth c A Z ls hx hb hml hown hts hK hA hret hP hD hS hl
  have hown : s.vm.findClass RX0 = some m.cls := hown
  have hl : lv_has ls 2 [(0, .ref c_a), (1, .int x1)] := hl
  have f_15 := hts (.fieldLink RX0 15 "TeachingSets$Concepts" "count" "I") (List.mem_of_getElem? (i := 1) rfl)
  have i_X0 : ∀ w ∈ wsX00, w ∈ wsX0_has := fun _ h => List.mem_cons_of_mem _ (List.mem_append_right _ (h))
  refine lv_iload_n hx hb dX0_has_0 rfl (lv_at hl 1 rfl) ?_
  obtain ⟨ha, hf⟩ := h
  refine lv_if_lt (tgt := 16) hx hb dX0_has_1 (by decide) (fun hc => ?_) (fun hc => ?_)
  · have h := ha hc
    clear ha hf
    refine lv_iconst (v := (0 : Int32)) hx hb dX0_has_16 (by decide) ?_
    exact hret _ () _ _ _ _ rfl h hP hD hS dX0_has_17
  · have h := hf hc
    clear ha hf
    refine lv_iload_n hx hb dX0_has_4 rfl (lv_at hl 1 rfl) ?_
    refine lv_aload_n hx hb dX0_has_5 rfl (lv_at hl 0 rfl) ?_
    refine va_get (D := G) (ci := 0) (v := .int c_count) (C := RX0) (T := TX0) (N := 7) hx hb hts i_X0 hown hK.1 hP 0 rfl rfl 1 (by decide) f_15 (fun _ h9 => h9) rfl dX0_has_6 ?_
    obtain ⟨ha, hf⟩ := h
    refine lv_icmp_ge (tgt := 16) hx hb dX0_has_9 (by decide) (fun hc => ?_) (fun hc => ?_)
    · have h := ha hc
      clear ha hf
      refine lv_iconst (v := (0 : Int32)) hx hb dX0_has_16 (by decide) ?_
      exact hret _ () _ _ _ _ rfl h hP hD hS dX0_has_17
    · have h := hf hc
      clear ha hf
      refine lv_iconst (v := (1 : Int32)) hx hb dX0_has_12 (by decide) ?_
      refine lv_goto (tgt := 17) hx hb dX0_has_13 (by decide) ?_
      exact hret _ () _ _ _ _ rfl h hP hD hS dX0_has_17
abbrev rm_X0_isPoint : Room := { frames := 0, cells := 0, slots := 0, locals := 0 }
def wp_X0_isPoint (x1 : Int32) (c_points : Int32) (Q : Int32 → Prop) : Prop := ((x1 < 0) → Q (0 : Int32)) ∧ ((¬ x1 < 0) → ((c_points ≤ x1) → Q (0 : Int32)) ∧ ((¬ c_points ≤ x1) → Q (1 : Int32)))
set_option maxRecDepth 100000 in
set_option maxHeartbeats 4000000 in
theorem c_X0_isPoint (l : Launch) (G : va_G) (cI cD cZ cJ cO : ClassId) (c_a c_as c_ad c_ar c_ah : Nat) (c_points : Int32) (c_count : Int32) (c_ed : Int32) (c_sets : Nat → Int32) (c_scores : Nat → UInt64) (c_rated : Nat → Int32) (c_hold : Nat → Int32) (x1 : Int32) (Q : Int32 → Prop) (h : wp_X0_isPoint x1 c_points Q) : CtI l yX0_isPoint wsX0_isPoint rm_X0_isPoint G (TY cI cD cZ cJ cO) [.ref c_a, .int x1] [oX0 c_a c_points c_count c_as c_ad c_ar c_ah c_ed, aI cI c_as 20 c_sets, aD cD c_ad 20 c_scores, aZ cZ c_ar 20 c_rated, aI cI c_ah 8 c_hold] (fun (r : Int32) (u : Unit) => Q r) (fun (u : Unit) => [oX0 c_a c_points c_count c_as c_ad c_ar c_ah c_ed, aI cI c_as 20 c_sets, aD cD c_ad 20 c_scores, aZ cZ c_ar 20 c_rated, aI cI c_ah 8 c_hold]) := by
  refine ct_openI (cc := cX0_isPoint) (maxL := 2) (ty := .boolean) (by decide) rfl (Nat.le_of_ble_eq_true rfl) ?_
  intro p e s m args below meth c A Z ls hx hb hml hown hts hK hA hret hP hD hS hl
  have hown : s.vm.findClass RX0 = some m.cls := hown
  have hl : lv_has ls 2 [(0, .ref c_a), (1, .int x1)] := hl
  have f_9 := hts (.fieldLink RX0 9 "TeachingSets$Concepts" "points" "I") (List.mem_of_getElem? (i := 1) rfl)
  have i_X0 : ∀ w ∈ wsX00, w ∈ wsX0_isPoint := fun _ h => List.mem_cons_of_mem _ (List.mem_append_right _ (h))
  refine lv_iload_n hx hb dX0_isPoint_0 rfl (lv_at hl 1 rfl) ?_
  obtain ⟨ha, hf⟩ := h
  refine lv_if_lt (tgt := 16) hx hb dX0_isPoint_1 (by decide) (fun hc => ?_) (fun hc => ?_)
  · have h := ha hc
    clear ha hf
    refine lv_iconst (v := (0 : Int32)) hx hb dX0_isPoint_16 (by decide) ?_
    exact hret _ () _ _ _ _ rfl h hP hD hS dX0_isPoint_17
  · have h := hf hc
    clear ha hf
    refine lv_iload_n hx hb dX0_isPoint_4 rfl (lv_at hl 1 rfl) ?_
    refine lv_aload_n hx hb dX0_isPoint_5 rfl (lv_at hl 0 rfl) ?_
    refine va_get (D := G) (ci := 0) (v := .int c_points) (C := RX0) (T := TX0) (N := 7) hx hb hts i_X0 hown hK.1 hP 0 rfl rfl 0 (by decide) f_9 (fun _ h9 => h9) rfl dX0_isPoint_6 ?_
    obtain ⟨ha, hf⟩ := h
    refine lv_icmp_ge (tgt := 16) hx hb dX0_isPoint_9 (by decide) (fun hc => ?_) (fun hc => ?_)
    · have h := ha hc
      clear ha hf
      refine lv_iconst (v := (0 : Int32)) hx hb dX0_isPoint_16 (by decide) ?_
      exact hret _ () _ _ _ _ rfl h hP hD hS dX0_isPoint_17
    · have h := hf hc
      clear ha hf
      refine lv_iconst (v := (1 : Int32)) hx hb dX0_isPoint_12 (by decide) ?_
      refine lv_goto (tgt := 17) hx hb dX0_isPoint_13 (by decide) ?_
      exact hret _ () _ _ _ _ rfl h hP hD hS dX0_isPoint_17
abbrev rm_X0_isSet : Room := { frames := 1, cells := 0, slots := 0, locals := 20 }
def wp_X0_isSet (x1 : Int32) (c_points : Int32) (Q : Int32 → Prop) : Prop := ((x1 < 0) → Q (0 : Int32)) ∧ ((¬ x1 < 0) → wp_X0_allPoints c_points (fun (r_1 : Int32) => ((r_1 < x1) → Q (0 : Int32)) ∧ ((¬ r_1 < x1) → Q (1 : Int32))))
set_option maxRecDepth 100000 in
set_option maxHeartbeats 4000000 in
theorem c_X0_isSet (l : Launch) (G : va_G) (cI cD cZ cJ cO : ClassId) (c_a c_as c_ad c_ar c_ah : Nat) (c_points : Int32) (c_count : Int32) (c_ed : Int32) (c_sets : Nat → Int32) (c_scores : Nat → UInt64) (c_rated : Nat → Int32) (c_hold : Nat → Int32) (x1 : Int32) (Q : Int32 → Prop) (h : wp_X0_isSet x1 c_points Q) : CtI l yX0_isSet wsX0_isSet rm_X0_isSet G (TY cI cD cZ cJ cO) [.ref c_a, .int x1] [oX0 c_a c_points c_count c_as c_ad c_ar c_ah c_ed, aI cI c_as 20 c_sets, aD cD c_ad 20 c_scores, aZ cZ c_ar 20 c_rated, aI cI c_ah 8 c_hold] (fun (r : Int32) (u : Unit) => Q r) (fun (u : Unit) => [oX0 c_a c_points c_count c_as c_ad c_ar c_ah c_ed, aI cI c_as 20 c_sets, aD cD c_ad 20 c_scores, aZ cZ c_ar 20 c_rated, aI cI c_ah 8 c_hold]) := by
  refine ct_openI (cc := cX0_isSet) (maxL := 2) (ty := .boolean) (by decide) rfl (Nat.le_of_ble_eq_true rfl) ?_
  intro p e s m args below meth c A Z ls hx hb hml hown hts hK hA hret hP hD hS hl
  have hown : s.vm.findClass RX0 = some m.cls := hown
  have hl : lv_has ls 2 [(0, .ref c_a), (1, .int x1)] := hl
  refine lv_iload_n hx hb dX0_isSet_0 rfl (lv_at hl 1 rfl) ?_
  obtain ⟨ha, hf⟩ := h
  refine lv_if_lt (tgt := 16) hx hb dX0_isSet_1 (by decide) (fun hc => ?_) (fun hc => ?_)
  · have h := ha hc
    clear ha hf
    refine lv_iconst (v := (0 : Int32)) hx hb dX0_isSet_16 (by decide) ?_
    exact hret _ () _ _ _ _ rfl h hP hD hS dX0_isSet_17
  · have h := hf hc
    clear ha hf
    refine lv_iload_n hx hb dX0_isSet_4 rfl (lv_at hl 1 rfl) ?_
    refine lv_aload_n hx hb dX0_isSet_5 rfl (lv_at hl 0 rfl) ?_
    refine k_Vi (wr := []) (wf := (fun (u : Unit) => [oX0 c_a c_points c_count c_as c_ad c_ar c_ah c_ed, aI cI c_as 20 c_sets, aD cD c_ad 20 c_scores, aZ cZ c_ar 20 c_rated, aI cI c_ah 8 c_hold])) (As := []) (rest := [.int x1]) ⟨hx, hb, hml, hown, hts⟩ hK hP hD hS hA (c_X0_allPoints l G cI cD cZ cJ cO c_a c_as c_ad c_ar c_ah c_points c_count c_ed c_sets c_scores c_rated c_hold _ h) (cwV 0 hts gX0_isSet_X0_allPoints rfl rfl rfl (by decide +kernel) ⟨Nat.le_of_ble_eq_true rfl, Nat.le_of_ble_eq_true rfl⟩) 0 rfl rfl [0, 1, 2, 3, 4] [] [0, 1, 2, 3, 4] rfl rfl rfl (fun _ => rfl) rfl rfl hl.1 (Nat.le_of_ble_eq_true rfl) ⟨Nat.zero_le _, Nat.zero_le _⟩ dX0_isSet_6 (fun r_1 u H locs h hP hD hS => ?_)
    have hP : va_P G vwCl [oX0 c_a c_points c_count c_as c_ad c_ar c_ah c_ed, aI cI c_as 20 c_sets, aD cD c_ad 20 c_scores, aZ cZ c_ar 20 c_rated, aI cI c_ah 8 c_hold] H := hP
    have hD : va_D A [oX0 c_a c_points c_count c_as c_ad c_ar c_ah c_ed, aI cI c_as 20 c_sets, aD cD c_ad 20 c_scores, aZ cZ c_ar 20 c_rated, aI cI c_ah 8 c_hold] := hD
    obtain ⟨ha, hf⟩ := h
    refine lv_icmp_gt (tgt := 16) hx hb dX0_isSet_9 (by decide) (fun hc => ?_) (fun hc => ?_)
    · have h := ha hc
      clear ha hf
      refine lv_iconst (v := (0 : Int32)) hx hb dX0_isSet_16 (by decide) ?_
      exact hret _ () _ _ _ _ rfl h hP hD hS dX0_isSet_17
    · have h := hf hc
      clear ha hf
      refine lv_iconst (v := (1 : Int32)) hx hb dX0_isSet_12 (by decide) ?_
      refine lv_goto (tgt := 17) hx hb dX0_isSet_13 (by decide) ?_
      exact hret _ () _ _ _ _ rfl h hP hD hS dX0_isSet_17
abbrev rm_X0_isSize : Room := { frames := 0, cells := 0, slots := 0, locals := 0 }
def wp_X0_isSize (x1 : Int32) (c_points : Int32) (Q : Int32 → Prop) : Prop := ((x1 < 0) → Q (0 : Int32)) ∧ ((¬ x1 < 0) → ((c_points < x1) → Q (0 : Int32)) ∧ ((¬ c_points < x1) → Q (1 : Int32)))
set_option maxRecDepth 100000 in
set_option maxHeartbeats 4000000 in
theorem c_X0_isSize (l : Launch) (G : va_G) (cI cD cZ cJ cO : ClassId) (c_a c_as c_ad c_ar c_ah : Nat) (c_points : Int32) (c_count : Int32) (c_ed : Int32) (c_sets : Nat → Int32) (c_scores : Nat → UInt64) (c_rated : Nat → Int32) (c_hold : Nat → Int32) (x1 : Int32) (Q : Int32 → Prop) (h : wp_X0_isSize x1 c_points Q) : CtI l yX0_isSize wsX0_isSize rm_X0_isSize G (TY cI cD cZ cJ cO) [.ref c_a, .int x1] [oX0 c_a c_points c_count c_as c_ad c_ar c_ah c_ed, aI cI c_as 20 c_sets, aD cD c_ad 20 c_scores, aZ cZ c_ar 20 c_rated, aI cI c_ah 8 c_hold] (fun (r : Int32) (u : Unit) => Q r) (fun (u : Unit) => [oX0 c_a c_points c_count c_as c_ad c_ar c_ah c_ed, aI cI c_as 20 c_sets, aD cD c_ad 20 c_scores, aZ cZ c_ar 20 c_rated, aI cI c_ah 8 c_hold]) := by
  refine ct_openI (cc := cX0_isSize) (maxL := 2) (ty := .boolean) (by decide) rfl (Nat.le_of_ble_eq_true rfl) ?_
  intro p e s m args below meth c A Z ls hx hb hml hown hts hK hA hret hP hD hS hl
  have hown : s.vm.findClass RX0 = some m.cls := hown
  have hl : lv_has ls 2 [(0, .ref c_a), (1, .int x1)] := hl
  have f_9 := hts (.fieldLink RX0 9 "TeachingSets$Concepts" "points" "I") (List.mem_of_getElem? (i := 1) rfl)
  have i_X0 : ∀ w ∈ wsX00, w ∈ wsX0_isSize := fun _ h => List.mem_cons_of_mem _ (List.mem_append_right _ (h))
  refine lv_iload_n hx hb dX0_isSize_0 rfl (lv_at hl 1 rfl) ?_
  obtain ⟨ha, hf⟩ := h
  refine lv_if_lt (tgt := 16) hx hb dX0_isSize_1 (by decide) (fun hc => ?_) (fun hc => ?_)
  · have h := ha hc
    clear ha hf
    refine lv_iconst (v := (0 : Int32)) hx hb dX0_isSize_16 (by decide) ?_
    exact hret _ () _ _ _ _ rfl h hP hD hS dX0_isSize_17
  · have h := hf hc
    clear ha hf
    refine lv_iload_n hx hb dX0_isSize_4 rfl (lv_at hl 1 rfl) ?_
    refine lv_aload_n hx hb dX0_isSize_5 rfl (lv_at hl 0 rfl) ?_
    refine va_get (D := G) (ci := 0) (v := .int c_points) (C := RX0) (T := TX0) (N := 7) hx hb hts i_X0 hown hK.1 hP 0 rfl rfl 0 (by decide) f_9 (fun _ h9 => h9) rfl dX0_isSize_6 ?_
    obtain ⟨ha, hf⟩ := h
    refine lv_icmp_gt (tgt := 16) hx hb dX0_isSize_9 (by decide) (fun hc => ?_) (fun hc => ?_)
    · have h := ha hc
      clear ha hf
      refine lv_iconst (v := (0 : Int32)) hx hb dX0_isSize_16 (by decide) ?_
      exact hret _ () _ _ _ _ rfl h hP hD hS dX0_isSize_17
    · have h := hf hc
      clear ha hf
      refine lv_iconst (v := (1 : Int32)) hx hb dX0_isSize_12 (by decide) ?_
      refine lv_goto (tgt := 17) hx hb dX0_isSize_13 (by decide) ?_
      exact hret _ () _ _ _ _ rfl h hP hD hS dX0_isSize_17
abbrev rm_X0_find : Room := { frames := 0, cells := 0, slots := 0, locals := 0 }
def wp_X0_find_b2 (x1 : Int32) (c_count : Int32) (c_sets : Nat → Int32) (Q : Int32 → Prop)  : Nat → Int32 → Prop
  | 0, _ => False
  | n + 1, x2 => ((c_count ≤ x2) → Q (-6 : Int32)) ∧ ((¬ c_count ≤ x2) → vp_in x2 20 ∧ ((¬ (c_sets x2.toNatClampNeg) = x1) → wp_X0_find_b2 x1 c_count c_sets Q n (x2 + (1 : Int32))) ∧ (((c_sets x2.toNatClampNeg) = x1) → Q x2))
def wp_X0_find (x1 : Int32) (c_count : Int32) (c_sets : Nat → Int32) (Q : Int32 → Prop) : Prop := ∃ j2, wp_X0_find_b2 x1 c_count c_sets Q j2 (0 : Int32)
set_option maxRecDepth 100000 in
set_option maxHeartbeats 4000000 in
theorem c_X0_find (l : Launch) (G : va_G) (cI cD cZ cJ cO : ClassId) (c_a c_as c_ad c_ar c_ah : Nat) (c_points : Int32) (c_count : Int32) (c_ed : Int32) (c_sets : Nat → Int32) (c_scores : Nat → UInt64) (c_rated : Nat → Int32) (c_hold : Nat → Int32) (x1 : Int32) (Q : Int32 → Prop) (h : wp_X0_find x1 c_count c_sets Q) : CtI l yX0_find wsX0_find rm_X0_find G (TY cI cD cZ cJ cO) [.ref c_a, .int x1] [oX0 c_a c_points c_count c_as c_ad c_ar c_ah c_ed, aI cI c_as 20 c_sets, aD cD c_ad 20 c_scores, aZ cZ c_ar 20 c_rated, aI cI c_ah 8 c_hold] (fun (r : Int32) (u : Unit) => Q r) (fun (u : Unit) => [oX0 c_a c_points c_count c_as c_ad c_ar c_ah c_ed, aI cI c_as 20 c_sets, aD cD c_ad 20 c_scores, aZ cZ c_ar 20 c_rated, aI cI c_ah 8 c_hold]) := by
  refine ct_openI (cc := cX0_find) (maxL := 3) (ty := .int) (by decide) rfl (Nat.le_of_ble_eq_true rfl) ?_
  intro p e s m args below meth c A Z ls hx hb hml hown hts hK hA hret hP hD hS hl
  have hown : s.vm.findClass RX0 = some m.cls := hown
  have hl : lv_has ls 3 [(0, .ref c_a), (1, .int x1)] := hl
  have f_15 := hts (.fieldLink RX0 15 "TeachingSets$Concepts" "count" "I") (List.mem_of_getElem? (i := 1) rfl)
  have f_18 := hts (.fieldLink RX0 18 "TeachingSets$Concepts" "sets" "[I") (List.mem_of_getElem? (i := 2) rfl)
  have i_X0 : ∀ w ∈ wsX00, w ∈ wsX0_find := fun _ h => List.mem_cons_of_mem _ (List.mem_append_right _ (h))
  have b_2 : ∀ (n : Nat) (x2 : Int32), wp_X0_find_b2 x1 c_count c_sets Q n x2 → ∀ (H : Heap) (locs : List Loc) (ls : Array Slot), ST G A s.heap [oX0 c_a c_points c_count c_as c_ad c_ar c_ah c_ed, aI cI c_as 20 c_sets, aD cD c_ad 20 c_scores, aZ cZ c_ar 20 c_rated, aI cI c_ah 8 c_hold] 3 [(0, .ref c_a), (1, .int x1), (2, .int x2)] H locs ls → W p l e rm_X0_find s m args below meth c H locs 0 0 Z (F0 m 2 ls []) := by
    intro n
    induction n with
    | zero =>
      intro x2 h; exact False.elim h
    | succ n ih =>
      intro x2 h H locs ls hst
      obtain ⟨hP, hD, hS, hl⟩ := hst
      refine lv_iload_n hx hb dX0_find_2 rfl (lv_at hl 2 rfl) ?_
      refine lv_aload_n hx hb dX0_find_3 rfl (lv_at hl 0 rfl) ?_
      refine va_get (D := G) (ci := 0) (v := .int c_count) (C := RX0) (T := TX0) (N := 7) hx hb hts i_X0 hown hK.1 hP 0 rfl rfl 1 (by decide) f_15 (fun _ h9 => h9) rfl dX0_find_4 ?_
      obtain ⟨ha, hf⟩ := h
      refine lv_icmp_ge (tgt := 28) hx hb dX0_find_7 (by decide) (fun hc => ?_) (fun hc => ?_)
      · have h := ha hc
        clear ha hf
        refine lv_bipush (v := (-6 : Int32)) hx hb dX0_find_28 (by decide) ?_
        exact hret _ () _ _ _ _ rfl h hP hD hS dX0_find_30
      · have h := hf hc
        clear ha hf
        refine lv_aload_n hx hb dX0_find_10 rfl (lv_at hl 0 rfl) ?_
        refine va_get (D := G) (ci := 0) (v := .ref c_as) (C := RX0) (T := TX0) (N := 7) hx hb hts i_X0 hown hK.1 hP 0 rfl rfl 2 (by decide) f_18 (fun _ h9 => h9) rfl dX0_find_11 ?_
        refine lv_iload_n hx hb dX0_find_14 rfl (lv_at hl 2 rfl) ?_
        obtain ⟨hi, h⟩ := h
        refine va_iald hx hb hK.1 hP 1 0 rfl rfl hi dX0_find_15 ?_
        refine lv_iload_n hx hb dX0_find_16 rfl (lv_at hl 1 rfl) ?_
        obtain ⟨ha, hf⟩ := h
        refine lv_icmp_ne (tgt := 22) hx hb dX0_find_17 (by decide) (fun hc => ?_) (fun hc => ?_)
        · have h := ha hc
          clear ha hf
          refine lv_iinc (v := (x2 + (1 : Int32))) (lv' := [(2, .int (x2 + (1 : Int32))), (0, .ref c_a), (1, .int x1)]) hx hb dX0_find_22 hl (k := 2) rfl rfl (by decide) rfl (fun ls hl => ?_)
          refine lv_goto (tgt := 2) hx hb dX0_find_25 (by decide) ?_
          exact ih _ h _ _ _ ⟨hP, hD, hS, lv_sub hl [1, 2, 0] rfl⟩
        · have h := hf hc
          clear ha hf
          refine lv_iload_n hx hb dX0_find_20 rfl (lv_at hl 2 rfl) ?_
          exact hret _ () _ _ _ _ rfl h hP hD hS dX0_find_21
  refine lv_iconst (v := (0 : Int32)) hx hb dX0_find_0 (by decide) ?_
  refine lv_istore_n (lv' := [(2, .int (0 : Int32)), (0, .ref c_a), (1, .int x1)]) hx hb dX0_find_1 rfl hl (by decide) rfl (fun ls hl => ?_)
  obtain ⟨j, h⟩ := h
  exact b_2  j _ h _ _ _ ⟨hP, hD, hS, lv_sub hl [1, 2, 0] rfl⟩
abbrev rm_X0_labelOf : Room := { frames := 1, cells := 0, slots := 0, locals := 21 }
def wp_X0_labelOf (x1 : Int32) (x2 : Int32) (c_sets : Nat → Int32) (Q : Int32 → Prop) : Prop := vp_in x1 20 ∧ wp_X7_hasBit (c_sets x1.toNatClampNeg) x2 (fun (r_1 : Int32) => ((r_1 = 0) → Q (0 : Int32)) ∧ ((¬ r_1 = 0) → Q (1 : Int32)))
set_option maxRecDepth 100000 in
set_option maxHeartbeats 4000000 in
theorem c_X0_labelOf (l : Launch) (G : va_G) (cI cD cZ cJ cO : ClassId) (c_a c_as c_ad c_ar c_ah : Nat) (c_points : Int32) (c_count : Int32) (c_ed : Int32) (c_sets : Nat → Int32) (c_scores : Nat → UInt64) (c_rated : Nat → Int32) (c_hold : Nat → Int32) (x1 : Int32) (x2 : Int32) (Q : Int32 → Prop) (h : wp_X0_labelOf x1 x2 c_sets Q) : CtI l yX0_labelOf wsX0_labelOf rm_X0_labelOf G (TY cI cD cZ cJ cO) [.ref c_a, .int x1, .int x2] [oX0 c_a c_points c_count c_as c_ad c_ar c_ah c_ed, aI cI c_as 20 c_sets, aD cD c_ad 20 c_scores, aZ cZ c_ar 20 c_rated, aI cI c_ah 8 c_hold] (fun (r : Int32) (u : Unit) => Q r) (fun (u : Unit) => [oX0 c_a c_points c_count c_as c_ad c_ar c_ah c_ed, aI cI c_as 20 c_sets, aD cD c_ad 20 c_scores, aZ cZ c_ar 20 c_rated, aI cI c_ah 8 c_hold]) := by
  refine ct_openI (cc := cX0_labelOf) (maxL := 3) (ty := .int) (by decide) rfl (Nat.le_of_ble_eq_true rfl) ?_
  intro p e s m args below meth c A Z ls hx hb hml hown hts hK hA hret hP hD hS hl
  have hown : s.vm.findClass RX0 = some m.cls := hown
  have hl : lv_has ls 3 [(0, .ref c_a), (1, .int x1), (2, .int x2)] := hl
  have f_18 := hts (.fieldLink RX0 18 "TeachingSets$Concepts" "sets" "[I") (List.mem_of_getElem? (i := 1) rfl)
  have i_X0 : ∀ w ∈ wsX00, w ∈ wsX0_labelOf := fun _ h => List.mem_cons_of_mem _ (List.mem_append_right _ (h))
  refine lv_aload_n hx hb dX0_labelOf_0 rfl (lv_at hl 0 rfl) ?_
  refine va_get (D := G) (ci := 0) (v := .ref c_as) (C := RX0) (T := TX0) (N := 7) hx hb hts i_X0 hown hK.1 hP 0 rfl rfl 2 (by decide) f_18 (fun _ h9 => h9) rfl dX0_labelOf_1 ?_
  refine lv_iload_n hx hb dX0_labelOf_4 rfl (lv_at hl 1 rfl) ?_
  obtain ⟨hi, h⟩ := h
  refine va_iald hx hb hK.1 hP 1 0 rfl rfl hi dX0_labelOf_5 ?_
  refine lv_iload_n hx hb dX0_labelOf_6 rfl (lv_at hl 2 rfl) ?_
  refine k_SNi (wr := [oX0 c_a c_points c_count c_as c_ad c_ar c_ah c_ed, aI cI c_as 20 c_sets, aD cD c_ad 20 c_scores, aZ cZ c_ar 20 c_rated, aI cI c_ah 8 c_hold]) (wf := (fun (u : Unit) => [oX0 c_a c_points c_count c_as c_ad c_ar c_ah c_ed, aI cI c_as 20 c_sets, aD cD c_ad 20 c_scores, aZ cZ c_ar 20 c_rated, aI cI c_ah 8 c_hold])) (As := [.int (c_sets x1.toNatClampNeg), .int x2]) (rest := []) ⟨hx, hb, hml, hown, hts⟩ hK hP hD hS hA (c_X7_hasBit l G cI cD cZ cJ cO (c_sets x1.toNatClampNeg) x2 _ h) ⟨va_cnB (host := RX7) 2 hts gX0_labelOf_X7_hasBit_n43 rfl rfl rfl hK.2.1 (hts (.initialized RX7) (List.mem_of_getElem? (i := 3) rfl)) (by decide +kernel) ⟨Nat.le_of_ble_eq_true rfl, Nat.le_of_ble_eq_true rfl⟩, hts (.static yX7_hasBit) (List.mem_of_getElem? (i := 2) rfl), trivial⟩ [] [0, 1, 2, 3, 4] [0, 1, 2, 3, 4] rfl rfl rfl (fun _ => rfl) rfl rfl hl.1 (Nat.le_of_ble_eq_true rfl) ⟨Nat.zero_le _, Nat.zero_le _⟩ dX0_labelOf_7 (fun r_1 u H locs h hP hD hS => ?_)
  have hP : va_P G vwCl [oX0 c_a c_points c_count c_as c_ad c_ar c_ah c_ed, aI cI c_as 20 c_sets, aD cD c_ad 20 c_scores, aZ cZ c_ar 20 c_rated, aI cI c_ah 8 c_hold] H := hP
  have hD : va_D A [oX0 c_a c_points c_count c_as c_ad c_ar c_ah c_ed, aI cI c_as 20 c_sets, aD cD c_ad 20 c_scores, aZ cZ c_ar 20 c_rated, aI cI c_ah 8 c_hold] := hD
  obtain ⟨ha, hf⟩ := h
  refine lv_if_eq (tgt := 17) hx hb dX0_labelOf_10 (by decide) (fun hc => ?_) (fun hc => ?_)
  · have h := ha hc
    clear ha hf
    refine lv_iconst (v := (0 : Int32)) hx hb dX0_labelOf_17 (by decide) ?_
    exact hret _ () _ _ _ _ rfl h hP hD hS dX0_labelOf_18
  · have h := hf hc
    clear ha hf
    refine lv_iconst (v := (1 : Int32)) hx hb dX0_labelOf_13 (by decide) ?_
    refine lv_goto (tgt := 18) hx hb dX0_labelOf_14 (by decide) ?_
    exact hret _ () _ _ _ _ rfl h hP hD hS dX0_labelOf_18
abbrev rm_X0_labelling : Room := { frames := 1, cells := 0, slots := 0, locals := 20 }
def wp_X0_labelling (x1 : Int32) (x2 : Int32) (c_count : Int32) (c_hold : Nat → Int32) (Q : Int32 → Prop) : Prop := ((¬ x2 = (1 : Int32)) → wp_X0_allNumbers c_count (fun (r_1 : Int32) => vp_in x1 8 ∧ Q (r_1 &&& ((c_hold x1.toNatClampNeg) ^^^ (-1 : Int32))))) ∧ ((x2 = (1 : Int32)) → vp_in x1 8 ∧ Q (c_hold x1.toNatClampNeg))
set_option maxRecDepth 100000 in
set_option maxHeartbeats 4000000 in
theorem c_X0_labelling (l : Launch) (G : va_G) (cI cD cZ cJ cO : ClassId) (c_a c_as c_ad c_ar c_ah : Nat) (c_points : Int32) (c_count : Int32) (c_ed : Int32) (c_sets : Nat → Int32) (c_scores : Nat → UInt64) (c_rated : Nat → Int32) (c_hold : Nat → Int32) (x1 : Int32) (x2 : Int32) (Q : Int32 → Prop) (h : wp_X0_labelling x1 x2 c_count c_hold Q) : CtI l yX0_labelling wsX0_labelling rm_X0_labelling G (TY cI cD cZ cJ cO) [.ref c_a, .int x1, .int x2] [oX0 c_a c_points c_count c_as c_ad c_ar c_ah c_ed, aI cI c_as 20 c_sets, aD cD c_ad 20 c_scores, aZ cZ c_ar 20 c_rated, aI cI c_ah 8 c_hold] (fun (r : Int32) (u : Unit) => Q r) (fun (u : Unit) => [oX0 c_a c_points c_count c_as c_ad c_ar c_ah c_ed, aI cI c_as 20 c_sets, aD cD c_ad 20 c_scores, aZ cZ c_ar 20 c_rated, aI cI c_ah 8 c_hold]) := by
  refine ct_openI (cc := cX0_labelling) (maxL := 3) (ty := .int) (by decide) rfl (Nat.le_of_ble_eq_true rfl) ?_
  intro p e s m args below meth c A Z ls hx hb hml hown hts hK hA hret hP hD hS hl
  have hown : s.vm.findClass RX0 = some m.cls := hown
  have hl : lv_has ls 3 [(0, .ref c_a), (1, .int x1), (2, .int x2)] := hl
  have f_30 := hts (.fieldLink RX0 30 "TeachingSets$Concepts" "holders" "[I") (List.mem_of_getElem? (i := 1) rfl)
  have i_X0 : ∀ w ∈ wsX00, w ∈ wsX0_labelling := fun _ h => List.mem_cons_of_mem _ (List.mem_append_right _ (h))
  refine lv_iload_n hx hb dX0_labelling_0 rfl (lv_at hl 2 rfl) ?_
  refine lv_iconst (v := (1 : Int32)) hx hb dX0_labelling_1 (by decide) ?_
  obtain ⟨ha, hf⟩ := h
  refine lv_icmp_ne (tgt := 14) hx hb dX0_labelling_2 (by decide) (fun hc => ?_) (fun hc => ?_)
  · have h := ha hc
    clear ha hf
    refine lv_aload_n hx hb dX0_labelling_14 rfl (lv_at hl 0 rfl) ?_
    refine k_Vi (wr := []) (wf := (fun (u : Unit) => [oX0 c_a c_points c_count c_as c_ad c_ar c_ah c_ed, aI cI c_as 20 c_sets, aD cD c_ad 20 c_scores, aZ cZ c_ar 20 c_rated, aI cI c_ah 8 c_hold])) (As := []) (rest := []) ⟨hx, hb, hml, hown, hts⟩ hK hP hD hS hA (c_X0_allNumbers l G cI cD cZ cJ cO c_a c_as c_ad c_ar c_ah c_points c_count c_ed c_sets c_scores c_rated c_hold _ h) (cwV 0 hts gX0_labelling_X0_allNumbers rfl rfl rfl (by decide +kernel) ⟨Nat.le_of_ble_eq_true rfl, Nat.le_of_ble_eq_true rfl⟩) 0 rfl rfl [0, 1, 2, 3, 4] [] [0, 1, 2, 3, 4] rfl rfl rfl (fun _ => rfl) rfl rfl hl.1 (Nat.le_of_ble_eq_true rfl) ⟨Nat.zero_le _, Nat.zero_le _⟩ dX0_labelling_15 (fun r_1 u H locs h hP hD hS => ?_)
    have hP : va_P G vwCl [oX0 c_a c_points c_count c_as c_ad c_ar c_ah c_ed, aI cI c_as 20 c_sets, aD cD c_ad 20 c_scores, aZ cZ c_ar 20 c_rated, aI cI c_ah 8 c_hold] H := hP
    have hD : va_D A [oX0 c_a c_points c_count c_as c_ad c_ar c_ah c_ed, aI cI c_as 20 c_sets, aD cD c_ad 20 c_scores, aZ cZ c_ar 20 c_rated, aI cI c_ah 8 c_hold] := hD
    refine lv_aload_n hx hb dX0_labelling_18 rfl (lv_at hl 0 rfl) ?_
    refine va_get (D := G) (ci := 0) (v := .ref c_ah) (C := RX0) (T := TX0) (N := 7) hx hb hts i_X0 hown hK.1 hP 0 rfl rfl 5 (by decide) f_30 (fun _ h9 => h9) rfl dX0_labelling_19 ?_
    refine lv_iload_n hx hb dX0_labelling_22 rfl (lv_at hl 1 rfl) ?_
    obtain ⟨hi, h⟩ := h
    refine va_iald hx hb hK.1 hP 4 0 rfl rfl hi dX0_labelling_23 ?_
    refine lv_iconst (v := (-1 : Int32)) hx hb dX0_labelling_24 (by decide) ?_
    refine lv_ixor hx hb dX0_labelling_25 ?_
    refine lv_iand hx hb dX0_labelling_26 ?_
    exact hret _ () _ _ _ _ rfl h hP hD hS dX0_labelling_27
  · have h := hf hc
    clear ha hf
    refine lv_aload_n hx hb dX0_labelling_5 rfl (lv_at hl 0 rfl) ?_
    refine va_get (D := G) (ci := 0) (v := .ref c_ah) (C := RX0) (T := TX0) (N := 7) hx hb hts i_X0 hown hK.1 hP 0 rfl rfl 5 (by decide) f_30 (fun _ h9 => h9) rfl dX0_labelling_6 ?_
    refine lv_iload_n hx hb dX0_labelling_9 rfl (lv_at hl 1 rfl) ?_
    obtain ⟨hi, h⟩ := h
    refine va_iald hx hb hK.1 hP 4 0 rfl rfl hi dX0_labelling_10 ?_
    refine lv_goto (tgt := 27) hx hb dX0_labelling_11 (by decide) ?_
    exact hret _ () _ _ _ _ rfl h hP hD hS dX0_labelling_27
abbrev rm_X0_leadOfOnes : Room := { frames := 2, cells := 0, slots := 0, locals := 42 }
def wp_X0_leadOfOnes (x1 : Int32) (x2 : Int32) (c_count : Int32) (c_hold : Nat → Int32) (Q : Int32 → Prop) : Prop := wp_X0_labelling x2 (1 : Int32) c_count c_hold (fun (r_1 : Int32) => wp_J6_bitCount_0f7a4 (x1 &&& r_1) (fun (r_2 : Int32) => wp_X0_labelling x2 (0 : Int32) c_count c_hold (fun (r_3 : Int32) => wp_J6_bitCount_0f7a4 (x1 &&& r_3) (fun (r_4 : Int32) => Q (r_2 - r_4)))))
set_option maxRecDepth 100000 in
set_option maxHeartbeats 4000000 in
theorem c_X0_leadOfOnes (l : Launch) (G : va_G) (cI cD cZ cJ cO : ClassId) (c_a c_as c_ad c_ar c_ah : Nat) (c_points : Int32) (c_count : Int32) (c_ed : Int32) (c_sets : Nat → Int32) (c_scores : Nat → UInt64) (c_rated : Nat → Int32) (c_hold : Nat → Int32) (x1 : Int32) (x2 : Int32) (Q : Int32 → Prop) (h : wp_X0_leadOfOnes x1 x2 c_count c_hold Q) : CtI l yX0_leadOfOnes wsX0_leadOfOnes rm_X0_leadOfOnes G (TY cI cD cZ cJ cO) [.ref c_a, .int x1, .int x2] [oX0 c_a c_points c_count c_as c_ad c_ar c_ah c_ed, aI cI c_as 20 c_sets, aD cD c_ad 20 c_scores, aZ cZ c_ar 20 c_rated, aI cI c_ah 8 c_hold] (fun (r : Int32) (u : Unit) => Q r) (fun (u : Unit) => [oX0 c_a c_points c_count c_as c_ad c_ar c_ah c_ed, aI cI c_as 20 c_sets, aD cD c_ad 20 c_scores, aZ cZ c_ar 20 c_rated, aI cI c_ah 8 c_hold]) := by
  refine ct_openI (cc := cX0_leadOfOnes) (maxL := 3) (ty := .int) (by decide) rfl (Nat.le_of_ble_eq_true rfl) ?_
  intro p e s m args below meth c A Z ls hx hb hml hown hts hK hA hret hP hD hS hl
  have hown : s.vm.findClass RX0 = some m.cls := hown
  have hl : lv_has ls 3 [(0, .ref c_a), (1, .int x1), (2, .int x2)] := hl
  refine lv_iload_n hx hb dX0_leadOfOnes_0 rfl (lv_at hl 1 rfl) ?_
  refine lv_aload_n hx hb dX0_leadOfOnes_1 rfl (lv_at hl 0 rfl) ?_
  refine lv_iload_n hx hb dX0_leadOfOnes_2 rfl (lv_at hl 2 rfl) ?_
  refine lv_iconst (v := (1 : Int32)) hx hb dX0_leadOfOnes_3 (by decide) ?_
  refine k_Vi (wr := []) (wf := (fun (u : Unit) => [oX0 c_a c_points c_count c_as c_ad c_ar c_ah c_ed, aI cI c_as 20 c_sets, aD cD c_ad 20 c_scores, aZ cZ c_ar 20 c_rated, aI cI c_ah 8 c_hold])) (As := [.int x2, .int (1 : Int32)]) (rest := [.int x1]) ⟨hx, hb, hml, hown, hts⟩ hK hP hD hS hA (c_X0_labelling l G cI cD cZ cJ cO c_a c_as c_ad c_ar c_ah c_points c_count c_ed c_sets c_scores c_rated c_hold x2 (1 : Int32) _ h) (cwV 2 hts gX0_leadOfOnes_X0_labelling rfl rfl rfl (by decide +kernel) ⟨Nat.le_of_ble_eq_true rfl, Nat.le_of_ble_eq_true rfl⟩) 0 rfl rfl [0, 1, 2, 3, 4] [] [0, 1, 2, 3, 4] rfl rfl rfl (fun _ => rfl) rfl rfl hl.1 (Nat.le_of_ble_eq_true rfl) ⟨Nat.zero_le _, Nat.zero_le _⟩ dX0_leadOfOnes_4 (fun r_1 u H locs h hP hD hS => ?_)
  have hP : va_P G vwCl [oX0 c_a c_points c_count c_as c_ad c_ar c_ah c_ed, aI cI c_as 20 c_sets, aD cD c_ad 20 c_scores, aZ cZ c_ar 20 c_rated, aI cI c_ah 8 c_hold] H := hP
  have hD : va_D A [oX0 c_a c_points c_count c_as c_ad c_ar c_ah c_ed, aI cI c_as 20 c_sets, aD cD c_ad 20 c_scores, aZ cZ c_ar 20 c_rated, aI cI c_ah 8 c_hold] := hD
  refine lv_iand hx hb dX0_leadOfOnes_7 ?_
  refine k_Si (wr := [oX0 c_a c_points c_count c_as c_ad c_ar c_ah c_ed, aI cI c_as 20 c_sets, aD cD c_ad 20 c_scores, aZ cZ c_ar 20 c_rated, aI cI c_ah 8 c_hold]) (wf := (fun (u : Unit) => [oX0 c_a c_points c_count c_as c_ad c_ar c_ah c_ed, aI cI c_as 20 c_sets, aD cD c_ad 20 c_scores, aZ cZ c_ar 20 c_rated, aI cI c_ah 8 c_hold])) (As := [.int (x1 &&& r_1)]) (rest := []) ⟨hx, hb, hml, hown, hts⟩ hK hP hD hS hA (c_J6_bitCount_0f7a4 l G cI cD cZ cJ cO (x1 &&& r_1) _ h) (va_cwS 1 hts gX0_leadOfOnes_J6_bitCount_0f7a4 rfl rfl rfl (by decide +kernel) ⟨Nat.le_of_ble_eq_true rfl, Nat.le_of_ble_eq_true rfl⟩) [] [0, 1, 2, 3, 4] [0, 1, 2, 3, 4] rfl rfl rfl (fun _ => rfl) rfl rfl hl.1 (Nat.le_of_ble_eq_true rfl) ⟨Nat.zero_le _, Nat.zero_le _⟩ dX0_leadOfOnes_8 (fun r_2 u H locs h hP hD hS => ?_)
  have hP : va_P G vwCl [oX0 c_a c_points c_count c_as c_ad c_ar c_ah c_ed, aI cI c_as 20 c_sets, aD cD c_ad 20 c_scores, aZ cZ c_ar 20 c_rated, aI cI c_ah 8 c_hold] H := hP
  have hD : va_D A [oX0 c_a c_points c_count c_as c_ad c_ar c_ah c_ed, aI cI c_as 20 c_sets, aD cD c_ad 20 c_scores, aZ cZ c_ar 20 c_rated, aI cI c_ah 8 c_hold] := hD
  refine lv_iload_n hx hb dX0_leadOfOnes_11 rfl (lv_at hl 1 rfl) ?_
  refine lv_aload_n hx hb dX0_leadOfOnes_12 rfl (lv_at hl 0 rfl) ?_
  refine lv_iload_n hx hb dX0_leadOfOnes_13 rfl (lv_at hl 2 rfl) ?_
  refine lv_iconst (v := (0 : Int32)) hx hb dX0_leadOfOnes_14 (by decide) ?_
  refine k_Vi (wr := []) (wf := (fun (u : Unit) => [oX0 c_a c_points c_count c_as c_ad c_ar c_ah c_ed, aI cI c_as 20 c_sets, aD cD c_ad 20 c_scores, aZ cZ c_ar 20 c_rated, aI cI c_ah 8 c_hold])) (As := [.int x2, .int (0 : Int32)]) (rest := [.int x1, .int r_2]) ⟨hx, hb, hml, hown, hts⟩ hK hP hD hS hA (c_X0_labelling l G cI cD cZ cJ cO c_a c_as c_ad c_ar c_ah c_points c_count c_ed c_sets c_scores c_rated c_hold x2 (0 : Int32) _ h) (cwV 2 hts gX0_leadOfOnes_X0_labelling rfl rfl rfl (by decide +kernel) ⟨Nat.le_of_ble_eq_true rfl, Nat.le_of_ble_eq_true rfl⟩) 0 rfl rfl [0, 1, 2, 3, 4] [] [0, 1, 2, 3, 4] rfl rfl rfl (fun _ => rfl) rfl rfl hl.1 (Nat.le_of_ble_eq_true rfl) ⟨Nat.zero_le _, Nat.zero_le _⟩ dX0_leadOfOnes_15 (fun r_3 u H locs h hP hD hS => ?_)
  have hP : va_P G vwCl [oX0 c_a c_points c_count c_as c_ad c_ar c_ah c_ed, aI cI c_as 20 c_sets, aD cD c_ad 20 c_scores, aZ cZ c_ar 20 c_rated, aI cI c_ah 8 c_hold] H := hP
  have hD : va_D A [oX0 c_a c_points c_count c_as c_ad c_ar c_ah c_ed, aI cI c_as 20 c_sets, aD cD c_ad 20 c_scores, aZ cZ c_ar 20 c_rated, aI cI c_ah 8 c_hold] := hD
  refine lv_iand hx hb dX0_leadOfOnes_18 ?_
  refine k_Si (wr := [oX0 c_a c_points c_count c_as c_ad c_ar c_ah c_ed, aI cI c_as 20 c_sets, aD cD c_ad 20 c_scores, aZ cZ c_ar 20 c_rated, aI cI c_ah 8 c_hold]) (wf := (fun (u : Unit) => [oX0 c_a c_points c_count c_as c_ad c_ar c_ah c_ed, aI cI c_as 20 c_sets, aD cD c_ad 20 c_scores, aZ cZ c_ar 20 c_rated, aI cI c_ah 8 c_hold])) (As := [.int (x1 &&& r_3)]) (rest := [.int r_2]) ⟨hx, hb, hml, hown, hts⟩ hK hP hD hS hA (c_J6_bitCount_0f7a4 l G cI cD cZ cJ cO (x1 &&& r_3) _ h) (va_cwS 1 hts gX0_leadOfOnes_J6_bitCount_0f7a4 rfl rfl rfl (by decide +kernel) ⟨Nat.le_of_ble_eq_true rfl, Nat.le_of_ble_eq_true rfl⟩) [] [0, 1, 2, 3, 4] [0, 1, 2, 3, 4] rfl rfl rfl (fun _ => rfl) rfl rfl hl.1 (Nat.le_of_ble_eq_true rfl) ⟨Nat.zero_le _, Nat.zero_le _⟩ dX0_leadOfOnes_19 (fun r_4 u H locs h hP hD hS => ?_)
  have hP : va_P G vwCl [oX0 c_a c_points c_count c_as c_ad c_ar c_ah c_ed, aI cI c_as 20 c_sets, aD cD c_ad 20 c_scores, aZ cZ c_ar 20 c_rated, aI cI c_ah 8 c_hold] H := hP
  have hD : va_D A [oX0 c_a c_points c_count c_as c_ad c_ar c_ah c_ed, aI cI c_as 20 c_sets, aD cD c_ad 20 c_scores, aZ cZ c_ar 20 c_rated, aI cI c_ah 8 c_hold] := hD
  refine lv_isub hx hb dX0_leadOfOnes_22 ?_
  exact hret _ () _ _ _ _ rfl h hP hD hS dX0_leadOfOnes_23
abbrev rm_X0_isLess : Room := { frames := 0, cells := 0, slots := 0, locals := 0 }
def wp_X0_isLess (x1 : Int32) (x2 : Int32) (c_scores : Nat → UInt64) (c_rated : Nat → Int32) (Q : Int32 → Prop) : Prop := vp_in x1 20 ∧ (((c_rated x1.toNatClampNeg) = 0) → Q (0 : Int32)) ∧ ((¬ (c_rated x1.toNatClampNeg) = 0) → vp_in x2 20 ∧ (((c_rated x2.toNatClampNeg) = 0) → Q (0 : Int32)) ∧ ((¬ (c_rated x2.toNatClampNeg) = 0) → vp_in x1 20 ∧ vp_in x2 20 ∧ ((0 ≤ (Op.cmpValue (FP.dcmp (c_scores x1.toNatClampNeg) (c_scores x2.toNatClampNeg)) .g)) → Q (0 : Int32)) ∧ ((¬ 0 ≤ (Op.cmpValue (FP.dcmp (c_scores x1.toNatClampNeg) (c_scores x2.toNatClampNeg)) .g)) → Q (1 : Int32))))
set_option maxRecDepth 100000 in
set_option maxHeartbeats 4000000 in
theorem c_X0_isLess (l : Launch) (G : va_G) (cI cD cZ cJ cO : ClassId) (c_a c_as c_ad c_ar c_ah : Nat) (c_points : Int32) (c_count : Int32) (c_ed : Int32) (c_sets : Nat → Int32) (c_scores : Nat → UInt64) (c_rated : Nat → Int32) (c_hold : Nat → Int32) (x1 : Int32) (x2 : Int32) (Q : Int32 → Prop) (h : wp_X0_isLess x1 x2 c_scores c_rated Q) : CtI l yX0_isLess wsX0_isLess rm_X0_isLess G (TY cI cD cZ cJ cO) [.ref c_a, .int x1, .int x2] [oX0 c_a c_points c_count c_as c_ad c_ar c_ah c_ed, aI cI c_as 20 c_sets, aD cD c_ad 20 c_scores, aZ cZ c_ar 20 c_rated, aI cI c_ah 8 c_hold] (fun (r : Int32) (u : Unit) => Q r) (fun (u : Unit) => [oX0 c_a c_points c_count c_as c_ad c_ar c_ah c_ed, aI cI c_as 20 c_sets, aD cD c_ad 20 c_scores, aZ cZ c_ar 20 c_rated, aI cI c_ah 8 c_hold]) := by
  refine ct_openI (cc := cX0_isLess) (maxL := 3) (ty := .boolean) (by decide) rfl (Nat.le_of_ble_eq_true rfl) ?_
  intro p e s m args below meth c A Z ls hx hb hml hown hts hK hA hret hP hD hS hl
  have hown : s.vm.findClass RX0 = some m.cls := hown
  have hl : lv_has ls 3 [(0, .ref c_a), (1, .int x1), (2, .int x2)] := hl
  have f_26 := hts (.fieldLink RX0 26 "TeachingSets$Concepts" "rated" "[Z") (List.mem_of_getElem? (i := 1) rfl)
  have f_22 := hts (.fieldLink RX0 22 "TeachingSets$Concepts" "scores" "[D") (List.mem_of_getElem? (i := 2) rfl)
  have i_X0 : ∀ w ∈ wsX00, w ∈ wsX0_isLess := fun _ h => List.mem_cons_of_mem _ (List.mem_append_right _ (h))
  refine lv_aload_n hx hb dX0_isLess_0 rfl (lv_at hl 0 rfl) ?_
  refine va_get (D := G) (ci := 0) (v := .ref c_ar) (C := RX0) (T := TX0) (N := 7) hx hb hts i_X0 hown hK.1 hP 0 rfl rfl 4 (by decide) f_26 (fun _ h9 => h9) rfl dX0_isLess_1 ?_
  refine lv_iload_n hx hb dX0_isLess_4 rfl (lv_at hl 1 rfl) ?_
  obtain ⟨hi, h⟩ := h
  refine va_zald hx hb hK.1 hP 3 2 rfl rfl hi dX0_isLess_5 ?_
  obtain ⟨ha, hf⟩ := h
  refine lv_if_eq (tgt := 38) hx hb dX0_isLess_6 (by decide) (fun hc => ?_) (fun hc => ?_)
  · have h := ha hc
    clear ha hf
    refine lv_iconst (v := (0 : Int32)) hx hb dX0_isLess_38 (by decide) ?_
    exact hret _ () _ _ _ _ rfl h hP hD hS dX0_isLess_39
  · have h := hf hc
    clear ha hf
    refine lv_aload_n hx hb dX0_isLess_9 rfl (lv_at hl 0 rfl) ?_
    refine va_get (D := G) (ci := 0) (v := .ref c_ar) (C := RX0) (T := TX0) (N := 7) hx hb hts i_X0 hown hK.1 hP 0 rfl rfl 4 (by decide) f_26 (fun _ h9 => h9) rfl dX0_isLess_10 ?_
    refine lv_iload_n hx hb dX0_isLess_13 rfl (lv_at hl 2 rfl) ?_
    obtain ⟨hi, h⟩ := h
    refine va_zald hx hb hK.1 hP 3 2 rfl rfl hi dX0_isLess_14 ?_
    obtain ⟨ha, hf⟩ := h
    refine lv_if_eq (tgt := 38) hx hb dX0_isLess_15 (by decide) (fun hc => ?_) (fun hc => ?_)
    · have h := ha hc
      clear ha hf
      refine lv_iconst (v := (0 : Int32)) hx hb dX0_isLess_38 (by decide) ?_
      exact hret _ () _ _ _ _ rfl h hP hD hS dX0_isLess_39
    · have h := hf hc
      clear ha hf
      refine lv_aload_n hx hb dX0_isLess_18 rfl (lv_at hl 0 rfl) ?_
      refine va_get (D := G) (ci := 0) (v := .ref c_ad) (C := RX0) (T := TX0) (N := 7) hx hb hts i_X0 hown hK.1 hP 0 rfl rfl 3 (by decide) f_22 (fun _ h9 => h9) rfl dX0_isLess_19 ?_
      refine lv_iload_n hx hb dX0_isLess_22 rfl (lv_at hl 1 rfl) ?_
      obtain ⟨hi, h⟩ := h
      refine va_dald hx hb hK.1 hP 2 1 rfl rfl hi dX0_isLess_23 ?_
      refine lv_aload_n hx hb dX0_isLess_24 rfl (lv_at hl 0 rfl) ?_
      refine va_get (D := G) (ci := 0) (v := .ref c_ad) (C := RX0) (T := TX0) (N := 7) hx hb hts i_X0 hown hK.1 hP 0 rfl rfl 3 (by decide) f_22 (fun _ h9 => h9) rfl dX0_isLess_25 ?_
      refine lv_iload_n hx hb dX0_isLess_28 rfl (lv_at hl 2 rfl) ?_
      obtain ⟨hi, h⟩ := h
      refine va_dald hx hb hK.1 hP 2 1 rfl rfl hi dX0_isLess_29 ?_
      refine lv_dcmp hx hb dX0_isLess_30 ?_
      obtain ⟨ha, hf⟩ := h
      refine lv_if_ge (tgt := 38) hx hb dX0_isLess_31 (by decide) (fun hc => ?_) (fun hc => ?_)
      · have h := ha hc
        clear ha hf
        refine lv_iconst (v := (0 : Int32)) hx hb dX0_isLess_38 (by decide) ?_
        exact hret _ () _ _ _ _ rfl h hP hD hS dX0_isLess_39
      · have h := hf hc
        clear ha hf
        refine lv_iconst (v := (1 : Int32)) hx hb dX0_isLess_34 (by decide) ?_
        refine lv_goto (tgt := 39) hx hb dX0_isLess_35 (by decide) ?_
        exact hret _ () _ _ _ _ rfl h hP hD hS dX0_isLess_39
abbrev rm_X0_unrate : Room := { frames := 0, cells := 0, slots := 0, locals := 0 }
def wp_X0_unrate (x1 : Int32) (c_scores : Nat → UInt64) (c_rated : Nat → Int32) (Q : (Nat → UInt64) → (Nat → Int32) → Prop) : Prop := vp_in x1 20 ∧ vp_in x1 20 ∧ Q (vf_upd c_scores x1.toNatClampNeg FP.dconst0) (upd c_rated x1.toNatClampNeg (vp_nar .boolean (0 : Int32)))
set_option maxRecDepth 100000 in
set_option maxHeartbeats 4000000 in
theorem c_X0_unrate (l : Launch) (G : va_G) (cI cD cZ cJ cO : ClassId) (c_a c_as c_ad c_ar c_ah : Nat) (c_points : Int32) (c_count : Int32) (c_ed : Int32) (c_sets : Nat → Int32) (c_scores : Nat → UInt64) (c_rated : Nat → Int32) (c_hold : Nat → Int32) (x1 : Int32) (Q : (Nat → UInt64) → (Nat → Int32) → Prop) (h : wp_X0_unrate x1 c_scores c_rated Q) : CtV l yX0_unrate wsX0_unrate rm_X0_unrate G (TY cI cD cZ cJ cO) [.ref c_a, .int x1] [oX0 c_a c_points c_count c_as c_ad c_ar c_ah c_ed, aI cI c_as 20 c_sets, aD cD c_ad 20 c_scores, aZ cZ c_ar 20 c_rated, aI cI c_ah 8 c_hold] (fun (u : (Nat → UInt64) × (Nat → Int32)) => Q u.1 u.2) (fun (u : (Nat → UInt64) × (Nat → Int32)) => [oX0 c_a c_points c_count c_as c_ad c_ar c_ah c_ed, aI cI c_as 20 c_sets, aD cD c_ad 20 u.1, aZ cZ c_ar 20 u.2, aI cI c_ah 8 c_hold]) := by
  refine ct_openV (cc := cX0_unrate) (maxL := 2) (by decide) rfl (Nat.le_of_ble_eq_true rfl) ?_
  intro p e s m args below meth c A Z ls hx hb hml hown hts hK hA hret hP hD hS hl
  have hown : s.vm.findClass RX0 = some m.cls := hown
  have hl : lv_has ls 2 [(0, .ref c_a), (1, .int x1)] := hl
  have f_26 := hts (.fieldLink RX0 26 "TeachingSets$Concepts" "rated" "[Z") (List.mem_of_getElem? (i := 1) rfl)
  have f_22 := hts (.fieldLink RX0 22 "TeachingSets$Concepts" "scores" "[D") (List.mem_of_getElem? (i := 2) rfl)
  have i_X0 : ∀ w ∈ wsX00, w ∈ wsX0_unrate := fun _ h => List.mem_cons_of_mem _ (List.mem_append_right _ (h))
  refine lv_aload_n hx hb dX0_unrate_0 rfl (lv_at hl 0 rfl) ?_
  refine va_get (D := G) (ci := 0) (v := .ref c_ar) (C := RX0) (T := TX0) (N := 7) hx hb hts i_X0 hown hK.1 hP 0 rfl rfl 4 (by decide) f_26 (fun _ h9 => h9) rfl dX0_unrate_1 ?_
  refine lv_iload_n hx hb dX0_unrate_4 rfl (lv_at hl 1 rfl) ?_
  refine lv_iconst (v := (0 : Int32)) hx hb dX0_unrate_5 (by decide) ?_
  obtain ⟨hi, h⟩ := h
  refine va_zast hx hb hK.1 hP hD hS 3 2 rfl rfl hi dX0_unrate_6 (fun H locs hP hD hS => ?_)
  have hP : va_P G vwCl [oX0 c_a c_points c_count c_as c_ad c_ar c_ah c_ed, aI cI c_as 20 c_sets, aD cD c_ad 20 c_scores, aZ cZ c_ar 20 (upd c_rated x1.toNatClampNeg (vp_nar .boolean (0 : Int32))), aI cI c_ah 8 c_hold] H := hP
  have hD : va_D A [oX0 c_a c_points c_count c_as c_ad c_ar c_ah c_ed, aI cI c_as 20 c_sets, aD cD c_ad 20 c_scores, aZ cZ c_ar 20 (upd c_rated x1.toNatClampNeg (vp_nar .boolean (0 : Int32))), aI cI c_ah 8 c_hold] := hD
  refine lv_aload_n hx hb dX0_unrate_7 rfl (lv_at hl 0 rfl) ?_
  refine va_get (D := G) (ci := 0) (v := .ref c_ad) (C := RX0) (T := TX0) (N := 7) hx hb hts i_X0 hown hK.1 hP 0 rfl rfl 3 (by decide) f_22 (fun _ h9 => h9) rfl dX0_unrate_8 ?_
  refine lv_iload_n hx hb dX0_unrate_11 rfl (lv_at hl 1 rfl) ?_
  refine lv_dconst0 hx hb dX0_unrate_12 ?_
  obtain ⟨hi, h⟩ := h
  refine va_dast hx hb hK.1 hP hD hS 2 1 rfl rfl hi dX0_unrate_13 (fun H locs hP hD hS => ?_)
  have hP : va_P G vwCl [oX0 c_a c_points c_count c_as c_ad c_ar c_ah c_ed, aI cI c_as 20 c_sets, aD cD c_ad 20 (vf_upd c_scores x1.toNatClampNeg FP.dconst0), aZ cZ c_ar 20 (upd c_rated x1.toNatClampNeg (vp_nar .boolean (0 : Int32))), aI cI c_ah 8 c_hold] H := hP
  have hD : va_D A [oX0 c_a c_points c_count c_as c_ad c_ar c_ah c_ed, aI cI c_as 20 c_sets, aD cD c_ad 20 (vf_upd c_scores x1.toNatClampNeg FP.dconst0), aZ cZ c_ar 20 (upd c_rated x1.toNatClampNeg (vp_nar .boolean (0 : Int32))), aI cI c_ah 8 c_hold] := hD
  exact hret ((vf_upd c_scores x1.toNatClampNeg FP.dconst0), (upd c_rated x1.toNatClampNeg (vp_nar .boolean (0 : Int32)))) _ _ _ _ h hP hD hS dX0_unrate_14
abbrev rm_X0_index : Room := { frames := 1, cells := 0, slots := 0, locals := 21 }
def wp_X0_index_b2 (x1 : Int32) (c_points : Int32) (c_sets : Nat → Int32) (Q : (Nat → Int32) → Prop)  : Nat → Int32 → (Nat → Int32) → Prop
  | 0, _, _ => False
  | n + 1, x2, c_hold => ((c_points ≤ x2) → Q c_hold) ∧ ((¬ c_points ≤ x2) → vp_in x1 20 ∧ wp_X7_hasBit (c_sets x1.toNatClampNeg) x2 (fun (r_1 : Int32) => ((r_1 = 0) → wp_X0_index_b2 x1 c_points c_sets Q n (x2 + (1 : Int32)) c_hold) ∧ ((¬ r_1 = 0) → vp_in x2 8 ∧ vp_in x2 8 ∧ wp_X0_index_b2 x1 c_points c_sets Q n (x2 + (1 : Int32)) (upd c_hold x2.toNatClampNeg ((c_hold x2.toNatClampNeg) ||| ((1 : Int32) <<< (x1 &&& 31)))))))
def wp_X0_index (x1 : Int32) (c_points : Int32) (c_sets : Nat → Int32) (c_hold : Nat → Int32) (Q : (Nat → Int32) → Prop) : Prop := ∃ j2, wp_X0_index_b2 x1 c_points c_sets Q j2 (0 : Int32) c_hold
set_option maxRecDepth 100000 in
set_option maxHeartbeats 4000000 in
theorem c_X0_index (l : Launch) (G : va_G) (cI cD cZ cJ cO : ClassId) (c_a c_as c_ad c_ar c_ah : Nat) (c_points : Int32) (c_count : Int32) (c_ed : Int32) (c_sets : Nat → Int32) (c_scores : Nat → UInt64) (c_rated : Nat → Int32) (c_hold : Nat → Int32) (x1 : Int32) (Q : (Nat → Int32) → Prop) (h : wp_X0_index x1 c_points c_sets c_hold Q) : CtV l yX0_index wsX0_index rm_X0_index G (TY cI cD cZ cJ cO) [.ref c_a, .int x1] [oX0 c_a c_points c_count c_as c_ad c_ar c_ah c_ed, aI cI c_as 20 c_sets, aD cD c_ad 20 c_scores, aZ cZ c_ar 20 c_rated, aI cI c_ah 8 c_hold] (fun (u : (Nat → Int32)) => Q u) (fun (u : (Nat → Int32)) => [oX0 c_a c_points c_count c_as c_ad c_ar c_ah c_ed, aI cI c_as 20 c_sets, aD cD c_ad 20 c_scores, aZ cZ c_ar 20 c_rated, aI cI c_ah 8 u]) := by
  refine ct_openV (cc := cX0_index) (maxL := 3) (by decide) rfl (Nat.le_of_ble_eq_true rfl) ?_
  intro p e s m args below meth c A Z ls hx hb hml hown hts hK hA hret hP hD hS hl
  have hown : s.vm.findClass RX0 = some m.cls := hown
  have hl : lv_has ls 3 [(0, .ref c_a), (1, .int x1)] := hl
  have f_9 := hts (.fieldLink RX0 9 "TeachingSets$Concepts" "points" "I") (List.mem_of_getElem? (i := 1) rfl)
  have f_18 := hts (.fieldLink RX0 18 "TeachingSets$Concepts" "sets" "[I") (List.mem_of_getElem? (i := 2) rfl)
  have f_30 := hts (.fieldLink RX0 30 "TeachingSets$Concepts" "holders" "[I") (List.mem_of_getElem? (i := 3) rfl)
  have i_X0 : ∀ w ∈ wsX00, w ∈ wsX0_index := fun _ h => List.mem_cons_of_mem _ (List.mem_append_right _ (h))
  have b_2 : ∀ (n : Nat) (x2 : Int32) (c_hold : Nat → Int32), wp_X0_index_b2 x1 c_points c_sets Q n x2 c_hold → ∀ (H : Heap) (locs : List Loc) (ls : Array Slot), ST G A s.heap [oX0 c_a c_points c_count c_as c_ad c_ar c_ah c_ed, aI cI c_as 20 c_sets, aD cD c_ad 20 c_scores, aZ cZ c_ar 20 c_rated, aI cI c_ah 8 c_hold] 3 [(0, .ref c_a), (1, .int x1), (2, .int x2)] H locs ls → W p l e rm_X0_index s m args below meth c H locs 0 0 Z (F0 m 2 ls []) := by
    intro n
    induction n with
    | zero =>
      intro x2 c_hold h; exact False.elim h
    | succ n ih =>
      intro x2 c_hold h H locs ls hst
      obtain ⟨hP, hD, hS, hl⟩ := hst
      refine lv_iload_n hx hb dX0_index_2 rfl (lv_at hl 2 rfl) ?_
      refine lv_aload_n hx hb dX0_index_3 rfl (lv_at hl 0 rfl) ?_
      refine va_get (D := G) (ci := 0) (v := .int c_points) (C := RX0) (T := TX0) (N := 7) hx hb hts i_X0 hown hK.1 hP 0 rfl rfl 0 (by decide) f_9 (fun _ h9 => h9) rfl dX0_index_4 ?_
      obtain ⟨ha, hf⟩ := h
      refine lv_icmp_ge (tgt := 41) hx hb dX0_index_7 (by decide) (fun hc => ?_) (fun hc => ?_)
      · have h := ha hc
        clear ha hf
        exact hret c_hold _ _ _ _ h hP hD hS dX0_index_41
      · have h := hf hc
        clear ha hf
        refine lv_aload_n hx hb dX0_index_10 rfl (lv_at hl 0 rfl) ?_
        refine va_get (D := G) (ci := 0) (v := .ref c_as) (C := RX0) (T := TX0) (N := 7) hx hb hts i_X0 hown hK.1 hP 0 rfl rfl 2 (by decide) f_18 (fun _ h9 => h9) rfl dX0_index_11 ?_
        refine lv_iload_n hx hb dX0_index_14 rfl (lv_at hl 1 rfl) ?_
        obtain ⟨hi, h⟩ := h
        refine va_iald hx hb hK.1 hP 1 0 rfl rfl hi dX0_index_15 ?_
        refine lv_iload_n hx hb dX0_index_16 rfl (lv_at hl 2 rfl) ?_
        refine k_SNi (wr := [oX0 c_a c_points c_count c_as c_ad c_ar c_ah c_ed, aI cI c_as 20 c_sets, aD cD c_ad 20 c_scores, aZ cZ c_ar 20 c_rated, aI cI c_ah 8 c_hold]) (wf := (fun (u : Unit) => [oX0 c_a c_points c_count c_as c_ad c_ar c_ah c_ed, aI cI c_as 20 c_sets, aD cD c_ad 20 c_scores, aZ cZ c_ar 20 c_rated, aI cI c_ah 8 c_hold])) (As := [.int (c_sets x1.toNatClampNeg), .int x2]) (rest := []) ⟨hx, hb, hml, hown, hts⟩ hK hP hD hS hA (c_X7_hasBit l G cI cD cZ cJ cO (c_sets x1.toNatClampNeg) x2 _ h) ⟨va_cnB (host := RX7) 2 hts gX0_index_X7_hasBit_n43 rfl rfl rfl hK.2.1 (hts (.initialized RX7) (List.mem_of_getElem? (i := 5) rfl)) (by decide +kernel) ⟨Nat.le_of_ble_eq_true rfl, Nat.le_of_ble_eq_true rfl⟩, hts (.static yX7_hasBit) (List.mem_of_getElem? (i := 4) rfl), trivial⟩ [] [0, 1, 2, 3, 4] [0, 1, 2, 3, 4] rfl rfl rfl (fun _ => rfl) rfl rfl hl.1 (Nat.le_of_ble_eq_true rfl) ⟨Nat.zero_le _, Nat.zero_le _⟩ dX0_index_17 (fun r_1 u H locs h hP hD hS => ?_)
        have hP : va_P G vwCl [oX0 c_a c_points c_count c_as c_ad c_ar c_ah c_ed, aI cI c_as 20 c_sets, aD cD c_ad 20 c_scores, aZ cZ c_ar 20 c_rated, aI cI c_ah 8 c_hold] H := hP
        have hD : va_D A [oX0 c_a c_points c_count c_as c_ad c_ar c_ah c_ed, aI cI c_as 20 c_sets, aD cD c_ad 20 c_scores, aZ cZ c_ar 20 c_rated, aI cI c_ah 8 c_hold] := hD
        obtain ⟨ha, hf⟩ := h
        refine lv_if_eq (tgt := 35) hx hb dX0_index_20 (by decide) (fun hc => ?_) (fun hc => ?_)
        · have h := ha hc
          clear ha hf
          refine lv_iinc (v := (x2 + (1 : Int32))) (lv' := [(2, .int (x2 + (1 : Int32))), (0, .ref c_a), (1, .int x1)]) hx hb dX0_index_35 hl (k := 2) rfl rfl (by decide) rfl (fun ls hl => ?_)
          refine lv_goto (tgt := 2) hx hb dX0_index_38 (by decide) ?_
          exact ih _ _ h _ _ _ ⟨hP, hD, hS, lv_sub hl [1, 2, 0] rfl⟩
        · have h := hf hc
          clear ha hf
          refine lv_aload_n hx hb dX0_index_23 rfl (lv_at hl 0 rfl) ?_
          refine va_get (D := G) (ci := 0) (v := .ref c_ah) (C := RX0) (T := TX0) (N := 7) hx hb hts i_X0 hown hK.1 hP 0 rfl rfl 5 (by decide) f_30 (fun _ h9 => h9) rfl dX0_index_24 ?_
          refine lv_iload_n hx hb dX0_index_27 rfl (lv_at hl 2 rfl) ?_
          refine lv_dup2_11 hx hb dX0_index_28 rfl rfl ?_
          obtain ⟨hi, h⟩ := h
          refine va_iald hx hb hK.1 hP 4 0 rfl rfl hi dX0_index_29 ?_
          refine lv_iconst (v := (1 : Int32)) hx hb dX0_index_30 (by decide) ?_
          refine lv_iload_n hx hb dX0_index_31 rfl (lv_at hl 1 rfl) ?_
          refine lv_ishl hx hb dX0_index_32 ?_
          refine lv_ior hx hb dX0_index_33 ?_
          obtain ⟨hi, h⟩ := h
          refine va_iast hx hb hK.1 hP hD hS 4 0 rfl rfl hi dX0_index_34 (fun H locs hP hD hS => ?_)
          have hP : va_P G vwCl [oX0 c_a c_points c_count c_as c_ad c_ar c_ah c_ed, aI cI c_as 20 c_sets, aD cD c_ad 20 c_scores, aZ cZ c_ar 20 c_rated, aI cI c_ah 8 (upd c_hold x2.toNatClampNeg ((c_hold x2.toNatClampNeg) ||| ((1 : Int32) <<< (x1 &&& 31))))] H := hP
          have hD : va_D A [oX0 c_a c_points c_count c_as c_ad c_ar c_ah c_ed, aI cI c_as 20 c_sets, aD cD c_ad 20 c_scores, aZ cZ c_ar 20 c_rated, aI cI c_ah 8 (upd c_hold x2.toNatClampNeg ((c_hold x2.toNatClampNeg) ||| ((1 : Int32) <<< (x1 &&& 31))))] := hD
          refine lv_iinc (v := (x2 + (1 : Int32))) (lv' := [(2, .int (x2 + (1 : Int32))), (0, .ref c_a), (1, .int x1)]) hx hb dX0_index_35 hl (k := 2) rfl rfl (by decide) rfl (fun ls hl => ?_)
          refine lv_goto (tgt := 2) hx hb dX0_index_38 (by decide) ?_
          exact ih _ _ h _ _ _ ⟨hP, hD, hS, lv_sub hl [1, 2, 0] rfl⟩
  refine lv_iconst (v := (0 : Int32)) hx hb dX0_index_0 (by decide) ?_
  refine lv_istore_n (lv' := [(2, .int (0 : Int32)), (0, .ref c_a), (1, .int x1)]) hx hb dX0_index_1 rfl hl (by decide) rfl (fun ls hl => ?_)
  obtain ⟨j, h⟩ := h
  exact b_2  j _ _ h _ _ _ ⟨hP, hD, hS, lv_sub hl [1, 2, 0] rfl⟩
abbrev rm_X0_reindex : Room := { frames := 2, cells := 0, slots := 0, locals := 43 }
def wp_X0_reindex_b10 (c_points : Int32) (c_count : Int32) (c_sets : Nat → Int32) (Q : Int32 → (Nat → Int32) → Prop)  : Nat → Int32 → Int32 → (Nat → Int32) → Prop
  | 0, _, _, _ => False
  | n + 1, x1, c_ed, c_hold => ((c_count ≤ x1) → Q (c_ed + (1 : Int32)) c_hold) ∧ ((¬ c_count ≤ x1) → wp_X0_index x1 c_points c_sets c_hold (fun (c_hold_2 : Nat → Int32) => wp_X0_reindex_b10 c_points c_count c_sets Q n (x1 + (1 : Int32)) c_ed c_hold_2))
def wp_X0_reindex (c_points : Int32) (c_count : Int32) (c_ed : Int32) (c_sets : Nat → Int32) (c_hold : Nat → Int32) (Q : Int32 → (Nat → Int32) → Prop) : Prop := wp_J7_fill_53178 8 (0 : Int32) c_hold (fun (c_hold_1 : Nat → Int32) => ∃ j10, wp_X0_reindex_b10 c_points c_count c_sets Q j10 (0 : Int32) c_ed c_hold_1)
set_option maxRecDepth 100000 in
set_option maxHeartbeats 4000000 in
theorem c_X0_reindex (l : Launch) (G : va_G) (cI cD cZ cJ cO : ClassId) (c_a c_as c_ad c_ar c_ah : Nat) (c_points : Int32) (c_count : Int32) (c_ed : Int32) (c_sets : Nat → Int32) (c_scores : Nat → UInt64) (c_rated : Nat → Int32) (c_hold : Nat → Int32) (Q : Int32 → (Nat → Int32) → Prop) (h : wp_X0_reindex c_points c_count c_ed c_sets c_hold Q) : CtV l yX0_reindex wsX0_reindex rm_X0_reindex G (TY cI cD cZ cJ cO) [.ref c_a] [oX0 c_a c_points c_count c_as c_ad c_ar c_ah c_ed, aI cI c_as 20 c_sets, aD cD c_ad 20 c_scores, aZ cZ c_ar 20 c_rated, aI cI c_ah 8 c_hold] (fun (u : Int32 × (Nat → Int32)) => Q u.1 u.2) (fun (u : Int32 × (Nat → Int32)) => [oX0 c_a c_points c_count c_as c_ad c_ar c_ah u.1, aI cI c_as 20 c_sets, aD cD c_ad 20 c_scores, aZ cZ c_ar 20 c_rated, aI cI c_ah 8 u.2]) := by
  refine ct_openV (cc := cX0_reindex) (maxL := 2) (by decide) rfl (Nat.le_of_ble_eq_true rfl) ?_
  intro p e s m args below meth c A Z ls hx hb hml hown hts hK hA hret hP hD hS hl
  have hown : s.vm.findClass RX0 = some m.cls := hown
  have hl : lv_has ls 2 [(0, .ref c_a)] := hl
  have f_30 := hts (.fieldLink RX0 30 "TeachingSets$Concepts" "holders" "[I") (List.mem_of_getElem? (i := 1) rfl)
  have f_15 := hts (.fieldLink RX0 15 "TeachingSets$Concepts" "count" "I") (List.mem_of_getElem? (i := 2) rfl)
  have f_33 := hts (.fieldLink RX0 33 "TeachingSets$Concepts" "edition" "I") (List.mem_of_getElem? (i := 3) rfl)
  have i_X0 : ∀ w ∈ wsX00, w ∈ wsX0_reindex := fun _ h => List.mem_cons_of_mem _ (List.mem_append_right _ (h))
  have b_10 : ∀ (n : Nat) (x1 : Int32) (c_ed : Int32) (c_hold : Nat → Int32), wp_X0_reindex_b10 c_points c_count c_sets Q n x1 c_ed c_hold → ∀ (H : Heap) (locs : List Loc) (ls : Array Slot), ST G A s.heap [oX0 c_a c_points c_count c_as c_ad c_ar c_ah c_ed, aI cI c_as 20 c_sets, aD cD c_ad 20 c_scores, aZ cZ c_ar 20 c_rated, aI cI c_ah 8 c_hold] 2 [(0, .ref c_a), (1, .int x1)] H locs ls → W p l e rm_X0_reindex s m args below meth c H locs 0 0 Z (F0 m 10 ls []) := by
    intro n
    induction n with
    | zero =>
      intro x1 c_ed c_hold h; exact False.elim h
    | succ n ih =>
      intro x1 c_ed c_hold h H locs ls hst
      obtain ⟨hP, hD, hS, hl⟩ := hst
      refine lv_iload_n hx hb dX0_reindex_10 rfl (lv_at hl 1 rfl) ?_
      refine lv_aload_n hx hb dX0_reindex_11 rfl (lv_at hl 0 rfl) ?_
      refine va_get (D := G) (ci := 0) (v := .int c_count) (C := RX0) (T := TX0) (N := 7) hx hb hts i_X0 hown hK.1 hP 0 rfl rfl 1 (by decide) f_15 (fun _ h9 => h9) rfl dX0_reindex_12 ?_
      obtain ⟨ha, hf⟩ := h
      refine lv_icmp_ge (tgt := 29) hx hb dX0_reindex_15 (by decide) (fun hc => ?_) (fun hc => ?_)
      · have h := ha hc
        clear ha hf
        refine lv_aload_n hx hb dX0_reindex_29 rfl (lv_at hl 0 rfl) ?_
        refine lv_dup hx hb dX0_reindex_30 rfl ?_
        refine va_get (D := G) (ci := 0) (v := .int c_ed) (C := RX0) (T := TX0) (N := 7) hx hb hts i_X0 hown hK.1 hP 0 rfl rfl 6 (by decide) f_33 (fun _ h9 => h9) rfl dX0_reindex_31 ?_
        refine lv_iconst (v := (1 : Int32)) hx hb dX0_reindex_34 (by decide) ?_
        refine lv_iadd hx hb dX0_reindex_35 ?_
        refine va_put (D := G) (ci := 0) (v := .int (c_ed + (1 : Int32))) (ty := .int) (C := RX0) (T := TX0) (N := 7) hx hb hts i_X0 tyX0 tyX0_ok nmX0 hown hK.1 hP hD hS 0 rfl rfl 6 (by decide) f_33 (fun _ h9 => h9) rfl (tyX0_ok 6 (by decide)) rfl rfl (Nat.le_of_ble_eq_true rfl) dX0_reindex_36 (fun H locs hP hD hS => ?_)
        have hP : va_P G vwCl [oX0 c_a c_points c_count c_as c_ad c_ar c_ah (c_ed + (1 : Int32)), aI cI c_as 20 c_sets, aD cD c_ad 20 c_scores, aZ cZ c_ar 20 c_rated, aI cI c_ah 8 c_hold] H := hP
        have hD : va_D A [oX0 c_a c_points c_count c_as c_ad c_ar c_ah (c_ed + (1 : Int32)), aI cI c_as 20 c_sets, aD cD c_ad 20 c_scores, aZ cZ c_ar 20 c_rated, aI cI c_ah 8 c_hold] := hD
        exact hret ((c_ed + (1 : Int32)), c_hold) _ _ _ _ h hP hD hS dX0_reindex_39
      · have h := hf hc
        clear ha hf
        refine lv_aload_n hx hb dX0_reindex_18 rfl (lv_at hl 0 rfl) ?_
        refine lv_iload_n hx hb dX0_reindex_19 rfl (lv_at hl 1 rfl) ?_
        refine k_Vv (wr := []) (wf := (fun (u : (Nat → Int32)) => [oX0 c_a c_points c_count c_as c_ad c_ar c_ah c_ed, aI cI c_as 20 c_sets, aD cD c_ad 20 c_scores, aZ cZ c_ar 20 c_rated, aI cI c_ah 8 u])) (As := [.int x1]) (rest := []) ⟨hx, hb, hml, hown, hts⟩ hK hP hD hS hA (c_X0_index l G cI cD cZ cJ cO c_a c_as c_ad c_ar c_ah c_points c_count c_ed c_sets c_scores c_rated c_hold x1 _ h) (cwV 1 hts gX0_reindex_X0_index rfl rfl rfl (by decide +kernel) ⟨Nat.le_of_ble_eq_true rfl, Nat.le_of_ble_eq_true rfl⟩) 0 rfl rfl [0, 1, 2, 3, 4] [] [0, 1, 2, 3, 4] rfl rfl rfl (fun _ => rfl) rfl rfl hl.1 (Nat.le_of_ble_eq_true rfl) ⟨Nat.zero_le _, Nat.zero_le _⟩ dX0_reindex_20 (fun u H locs h hP hD hS => ?_)
        obtain ⟨c_hold_2, rfl⟩ : ∃ z, z = u := ⟨_, rfl⟩
        have hP : va_P G vwCl [oX0 c_a c_points c_count c_as c_ad c_ar c_ah c_ed, aI cI c_as 20 c_sets, aD cD c_ad 20 c_scores, aZ cZ c_ar 20 c_rated, aI cI c_ah 8 c_hold_2] H := hP
        have hD : va_D A [oX0 c_a c_points c_count c_as c_ad c_ar c_ah c_ed, aI cI c_as 20 c_sets, aD cD c_ad 20 c_scores, aZ cZ c_ar 20 c_rated, aI cI c_ah 8 c_hold_2] := hD
        refine lv_iinc (v := (x1 + (1 : Int32))) (lv' := [(1, .int (x1 + (1 : Int32))), (0, .ref c_a)]) hx hb dX0_reindex_23 hl (k := 1) rfl rfl (by decide) rfl (fun ls hl => ?_)
        refine lv_goto (tgt := 10) hx hb dX0_reindex_26 (by decide) ?_
        exact ih _ _ _ h _ _ _ ⟨hP, hD, hS, lv_sub hl [1, 0] rfl⟩
  refine lv_aload_n hx hb dX0_reindex_0 rfl (lv_at hl 0 rfl) ?_
  refine va_get (D := G) (ci := 0) (v := .ref c_ah) (C := RX0) (T := TX0) (N := 7) hx hb hts i_X0 hown hK.1 hP 0 rfl rfl 5 (by decide) f_30 (fun _ h9 => h9) rfl dX0_reindex_1 ?_
  refine lv_iconst (v := (0 : Int32)) hx hb dX0_reindex_4 (by decide) ?_
  refine k_Sv (wr := [oX0 c_a c_points c_count c_as c_ad c_ar c_ah c_ed, aI cI c_as 20 c_sets, aD cD c_ad 20 c_scores, aZ cZ c_ar 20 c_rated]) (wf := (fun (u : (Nat → Int32)) => [oX0 c_a c_points c_count c_as c_ad c_ar c_ah c_ed, aI cI c_as 20 c_sets, aD cD c_ad 20 c_scores, aZ cZ c_ar 20 c_rated, aI cI c_ah 8 u])) (As := [.ref c_ah, .int (0 : Int32)]) (rest := []) ⟨hx, hb, hml, hown, hts⟩ hK hP hD hS hA (c_J7_fill_53178 l G cI cD cZ cJ cO 8 c_ah c_hold (0 : Int32) _ h) (va_cwS 2 hts gX0_reindex_J7_fill_53178 rfl rfl rfl (by decide +kernel) ⟨Nat.le_of_ble_eq_true rfl, Nat.le_of_ble_eq_true rfl⟩) [4] [0, 1, 2, 3] [0, 1, 2, 3, 4] rfl rfl rfl (fun _ => rfl) rfl rfl hl.1 (Nat.le_of_ble_eq_true rfl) ⟨Nat.zero_le _, Nat.zero_le _⟩ dX0_reindex_5 (fun u H locs h hP hD hS => ?_)
  obtain ⟨c_hold_1, rfl⟩ : ∃ z, z = u := ⟨_, rfl⟩
  have hP : va_P G vwCl [oX0 c_a c_points c_count c_as c_ad c_ar c_ah c_ed, aI cI c_as 20 c_sets, aD cD c_ad 20 c_scores, aZ cZ c_ar 20 c_rated, aI cI c_ah 8 c_hold_1] H := hP
  have hD : va_D A [oX0 c_a c_points c_count c_as c_ad c_ar c_ah c_ed, aI cI c_as 20 c_sets, aD cD c_ad 20 c_scores, aZ cZ c_ar 20 c_rated, aI cI c_ah 8 c_hold_1] := hD
  refine lv_iconst (v := (0 : Int32)) hx hb dX0_reindex_8 (by decide) ?_
  refine lv_istore_n (lv' := [(1, .int (0 : Int32)), (0, .ref c_a)]) hx hb dX0_reindex_9 rfl hl (by decide) rfl (fun ls hl => ?_)
  obtain ⟨j, h⟩ := h
  exact b_10  j _ _ _ h _ _ _ ⟨hP, hD, hS, lv_sub hl [1, 0] rfl⟩
abbrev rm_X0_begin : Room := { frames := 3, cells := 0, slots := 0, locals := 64 }
def wp_X0_begin (x1 : Int32) (c_points : Int32) (c_count : Int32) (c_ed : Int32) (c_sets : Nat → Int32) (c_hold : Nat → Int32) (Q : Int32 → Int32 → Int32 → (Nat → Int32) → Prop) : Prop := wp_X0_reindex x1 (0 : Int32) c_ed c_sets c_hold (fun (c_ed_1 : Int32) (c_hold_2 : Nat → Int32) => Q x1 (0 : Int32) c_ed_1 c_hold_2)
set_option maxRecDepth 100000 in
set_option maxHeartbeats 4000000 in
theorem c_X0_begin (l : Launch) (G : va_G) (cI cD cZ cJ cO : ClassId) (c_a c_as c_ad c_ar c_ah : Nat) (c_points : Int32) (c_count : Int32) (c_ed : Int32) (c_sets : Nat → Int32) (c_scores : Nat → UInt64) (c_rated : Nat → Int32) (c_hold : Nat → Int32) (x1 : Int32) (Q : Int32 → Int32 → Int32 → (Nat → Int32) → Prop) (h : wp_X0_begin x1 c_points c_count c_ed c_sets c_hold Q) : CtV l yX0_begin wsX0_begin rm_X0_begin G (TY cI cD cZ cJ cO) [.ref c_a, .int x1] [oX0 c_a c_points c_count c_as c_ad c_ar c_ah c_ed, aI cI c_as 20 c_sets, aD cD c_ad 20 c_scores, aZ cZ c_ar 20 c_rated, aI cI c_ah 8 c_hold] (fun (u : Int32 × Int32 × Int32 × (Nat → Int32)) => Q u.1 u.2.1 u.2.2.1 u.2.2.2) (fun (u : Int32 × Int32 × Int32 × (Nat → Int32)) => [oX0 c_a u.1 u.2.1 c_as c_ad c_ar c_ah u.2.2.1, aI cI c_as 20 c_sets, aD cD c_ad 20 c_scores, aZ cZ c_ar 20 c_rated, aI cI c_ah 8 u.2.2.2]) := by
  refine ct_openV (cc := cX0_begin) (maxL := 2) (by decide) rfl (Nat.le_of_ble_eq_true rfl) ?_
  intro p e s m args below meth c A Z ls hx hb hml hown hts hK hA hret hP hD hS hl
  have hown : s.vm.findClass RX0 = some m.cls := hown
  have hl : lv_has ls 2 [(0, .ref c_a), (1, .int x1)] := hl
  have f_9 := hts (.fieldLink RX0 9 "TeachingSets$Concepts" "points" "I") (List.mem_of_getElem? (i := 1) rfl)
  have f_15 := hts (.fieldLink RX0 15 "TeachingSets$Concepts" "count" "I") (List.mem_of_getElem? (i := 2) rfl)
  have i_X0 : ∀ w ∈ wsX00, w ∈ wsX0_begin := fun _ h => List.mem_cons_of_mem _ (List.mem_append_right _ (h))
  refine lv_aload_n hx hb dX0_begin_0 rfl (lv_at hl 0 rfl) ?_
  refine lv_iload_n hx hb dX0_begin_1 rfl (lv_at hl 1 rfl) ?_
  refine va_put (D := G) (ci := 0) (v := .int x1) (ty := .int) (C := RX0) (T := TX0) (N := 7) hx hb hts i_X0 tyX0 tyX0_ok nmX0 hown hK.1 hP hD hS 0 rfl rfl 0 (by decide) f_9 (fun _ h9 => h9) rfl (tyX0_ok 0 (by decide)) rfl rfl (Nat.le_of_ble_eq_true rfl) dX0_begin_2 (fun H locs hP hD hS => ?_)
  have hP : va_P G vwCl [oX0 c_a x1 c_count c_as c_ad c_ar c_ah c_ed, aI cI c_as 20 c_sets, aD cD c_ad 20 c_scores, aZ cZ c_ar 20 c_rated, aI cI c_ah 8 c_hold] H := hP
  have hD : va_D A [oX0 c_a x1 c_count c_as c_ad c_ar c_ah c_ed, aI cI c_as 20 c_sets, aD cD c_ad 20 c_scores, aZ cZ c_ar 20 c_rated, aI cI c_ah 8 c_hold] := hD
  refine lv_aload_n hx hb dX0_begin_5 rfl (lv_at hl 0 rfl) ?_
  refine lv_iconst (v := (0 : Int32)) hx hb dX0_begin_6 (by decide) ?_
  refine va_put (D := G) (ci := 0) (v := .int (0 : Int32)) (ty := .int) (C := RX0) (T := TX0) (N := 7) hx hb hts i_X0 tyX0 tyX0_ok nmX0 hown hK.1 hP hD hS 0 rfl rfl 1 (by decide) f_15 (fun _ h9 => h9) rfl (tyX0_ok 1 (by decide)) rfl rfl (Nat.le_of_ble_eq_true rfl) dX0_begin_7 (fun H locs hP hD hS => ?_)
  have hP : va_P G vwCl [oX0 c_a x1 (0 : Int32) c_as c_ad c_ar c_ah c_ed, aI cI c_as 20 c_sets, aD cD c_ad 20 c_scores, aZ cZ c_ar 20 c_rated, aI cI c_ah 8 c_hold] H := hP
  have hD : va_D A [oX0 c_a x1 (0 : Int32) c_as c_ad c_ar c_ah c_ed, aI cI c_as 20 c_sets, aD cD c_ad 20 c_scores, aZ cZ c_ar 20 c_rated, aI cI c_ah 8 c_hold] := hD
  refine lv_aload_n hx hb dX0_begin_10 rfl (lv_at hl 0 rfl) ?_
  refine k_Vv (wr := []) (wf := (fun (u : Int32 × (Nat → Int32)) => [oX0 c_a x1 (0 : Int32) c_as c_ad c_ar c_ah u.1, aI cI c_as 20 c_sets, aD cD c_ad 20 c_scores, aZ cZ c_ar 20 c_rated, aI cI c_ah 8 u.2])) (As := []) (rest := []) ⟨hx, hb, hml, hown, hts⟩ hK hP hD hS hA (c_X0_reindex l G cI cD cZ cJ cO c_a c_as c_ad c_ar c_ah x1 (0 : Int32) c_ed c_sets c_scores c_rated c_hold _ h) (cwV 0 hts gX0_begin_X0_reindex rfl rfl rfl (by decide +kernel) ⟨Nat.le_of_ble_eq_true rfl, Nat.le_of_ble_eq_true rfl⟩) 0 rfl rfl [0, 1, 2, 3, 4] [] [0, 1, 2, 3, 4] rfl rfl rfl (fun _ => rfl) rfl rfl hl.1 (Nat.le_of_ble_eq_true rfl) ⟨Nat.zero_le _, Nat.zero_le _⟩ dX0_begin_11 (fun u H locs h hP hD hS => ?_)
  obtain ⟨c_ed_1, c_hold_2⟩ := u
  have hP : va_P G vwCl [oX0 c_a x1 (0 : Int32) c_as c_ad c_ar c_ah c_ed_1, aI cI c_as 20 c_sets, aD cD c_ad 20 c_scores, aZ cZ c_ar 20 c_rated, aI cI c_ah 8 c_hold_2] H := hP
  have hD : va_D A [oX0 c_a x1 (0 : Int32) c_as c_ad c_ar c_ah c_ed_1, aI cI c_as 20 c_sets, aD cD c_ad 20 c_scores, aZ cZ c_ar 20 c_rated, aI cI c_ah 8 c_hold_2] := hD
  exact hret (x1, (0 : Int32), c_ed_1, c_hold_2) _ _ _ _ h hP hD hS dX0_begin_14
abbrev rm_X0_addIfNew : Room := { frames := 2, cells := 0, slots := 0, locals := 43 }
def wp_X0_addIfNew (x1 : Int32) (c_points : Int32) (c_count : Int32) (c_ed : Int32) (c_sets : Nat → Int32) (c_scores : Nat → UInt64) (c_rated : Nat → Int32) (c_hold : Nat → Int32) (Q : Int32 → Int32 → Int32 → (Nat → Int32) → (Nat → UInt64) → (Nat → Int32) → (Nat → Int32) → Prop) : Prop := (((20 : Int32) ≤ c_count) → Q (0 : Int32) c_count c_ed c_sets c_scores c_rated c_hold) ∧ ((¬ (20 : Int32) ≤ c_count) → wp_X0_find x1 c_count c_sets (fun (r_1 : Int32) => ((r_1 = (-6 : Int32)) → vp_in c_count 20 ∧ wp_X0_unrate c_count c_scores c_rated (fun (c_scores_2 : Nat → UInt64) (c_rated_3 : Nat → Int32) => wp_X0_index c_count c_points (upd c_sets c_count.toNatClampNeg x1) c_hold (fun (c_hold_4 : Nat → Int32) => Q (1 : Int32) (c_count + (1 : Int32)) (c_ed + (1 : Int32)) (upd c_sets c_count.toNatClampNeg x1) c_scores_2 c_rated_3 c_hold_4))) ∧ ((¬ r_1 = (-6 : Int32)) → Q (0 : Int32) c_count c_ed c_sets c_scores c_rated c_hold)))
set_option maxRecDepth 100000 in
set_option maxHeartbeats 4000000 in
theorem c_X0_addIfNew (l : Launch) (G : va_G) (cI cD cZ cJ cO : ClassId) (c_a c_as c_ad c_ar c_ah : Nat) (c_points : Int32) (c_count : Int32) (c_ed : Int32) (c_sets : Nat → Int32) (c_scores : Nat → UInt64) (c_rated : Nat → Int32) (c_hold : Nat → Int32) (x1 : Int32) (Q : Int32 → Int32 → Int32 → (Nat → Int32) → (Nat → UInt64) → (Nat → Int32) → (Nat → Int32) → Prop) (h : wp_X0_addIfNew x1 c_points c_count c_ed c_sets c_scores c_rated c_hold Q) : CtI l yX0_addIfNew wsX0_addIfNew rm_X0_addIfNew G (TY cI cD cZ cJ cO) [.ref c_a, .int x1] [oX0 c_a c_points c_count c_as c_ad c_ar c_ah c_ed, aI cI c_as 20 c_sets, aD cD c_ad 20 c_scores, aZ cZ c_ar 20 c_rated, aI cI c_ah 8 c_hold] (fun (r : Int32) (u : Int32 × Int32 × (Nat → Int32) × (Nat → UInt64) × (Nat → Int32) × (Nat → Int32)) => Q r u.1 u.2.1 u.2.2.1 u.2.2.2.1 u.2.2.2.2.1 u.2.2.2.2.2) (fun (u : Int32 × Int32 × (Nat → Int32) × (Nat → UInt64) × (Nat → Int32) × (Nat → Int32)) => [oX0 c_a c_points u.1 c_as c_ad c_ar c_ah u.2.1, aI cI c_as 20 u.2.2.1, aD cD c_ad 20 u.2.2.2.1, aZ cZ c_ar 20 u.2.2.2.2.1, aI cI c_ah 8 u.2.2.2.2.2]) := by
  refine ct_openI (cc := cX0_addIfNew) (maxL := 2) (ty := .boolean) (by decide) rfl (Nat.le_of_ble_eq_true rfl) ?_
  intro p e s m args below meth c A Z ls hx hb hml hown hts hK hA hret hP hD hS hl
  have hown : s.vm.findClass RX0 = some m.cls := hown
  have hl : lv_has ls 2 [(0, .ref c_a), (1, .int x1)] := hl
  have f_15 := hts (.fieldLink RX0 15 "TeachingSets$Concepts" "count" "I") (List.mem_of_getElem? (i := 1) rfl)
  have f_18 := hts (.fieldLink RX0 18 "TeachingSets$Concepts" "sets" "[I") (List.mem_of_getElem? (i := 2) rfl)
  have f_33 := hts (.fieldLink RX0 33 "TeachingSets$Concepts" "edition" "I") (List.mem_of_getElem? (i := 3) rfl)
  have i_X0 : ∀ w ∈ wsX00, w ∈ wsX0_addIfNew := fun _ h => List.mem_cons_of_mem _ (List.mem_append_right _ (h))
  refine lv_aload_n hx hb dX0_addIfNew_0 rfl (lv_at hl 0 rfl) ?_
  refine va_get (D := G) (ci := 0) (v := .int c_count) (C := RX0) (T := TX0) (N := 7) hx hb hts i_X0 hown hK.1 hP 0 rfl rfl 1 (by decide) f_15 (fun _ h9 => h9) rfl dX0_addIfNew_1 ?_
  refine lv_bipush (v := (20 : Int32)) hx hb dX0_addIfNew_4 (by decide) ?_
  obtain ⟨ha, hf⟩ := h
  refine lv_icmp_ge (tgt := 19) hx hb dX0_addIfNew_6 (by decide) (fun hc => ?_) (fun hc => ?_)
  · have h := ha hc
    clear ha hf
    refine lv_iconst (v := (0 : Int32)) hx hb dX0_addIfNew_19 (by decide) ?_
    exact hret _ (c_count, c_ed, c_sets, c_scores, c_rated, c_hold) _ _ _ _ rfl h hP hD hS dX0_addIfNew_20
  · have h := hf hc
    clear ha hf
    refine lv_aload_n hx hb dX0_addIfNew_9 rfl (lv_at hl 0 rfl) ?_
    refine lv_iload_n hx hb dX0_addIfNew_10 rfl (lv_at hl 1 rfl) ?_
    refine k_Vi (wr := []) (wf := (fun (u : Unit) => [oX0 c_a c_points c_count c_as c_ad c_ar c_ah c_ed, aI cI c_as 20 c_sets, aD cD c_ad 20 c_scores, aZ cZ c_ar 20 c_rated, aI cI c_ah 8 c_hold])) (As := [.int x1]) (rest := []) ⟨hx, hb, hml, hown, hts⟩ hK hP hD hS hA (c_X0_find l G cI cD cZ cJ cO c_a c_as c_ad c_ar c_ah c_points c_count c_ed c_sets c_scores c_rated c_hold x1 _ h) (cwV 1 hts gX0_addIfNew_X0_find rfl rfl rfl (by decide +kernel) ⟨Nat.le_of_ble_eq_true rfl, Nat.le_of_ble_eq_true rfl⟩) 0 rfl rfl [0, 1, 2, 3, 4] [] [0, 1, 2, 3, 4] rfl rfl rfl (fun _ => rfl) rfl rfl hl.1 (Nat.le_of_ble_eq_true rfl) ⟨Nat.zero_le _, Nat.zero_le _⟩ dX0_addIfNew_11 (fun r_1 u H locs h hP hD hS => ?_)
    have hP : va_P G vwCl [oX0 c_a c_points c_count c_as c_ad c_ar c_ah c_ed, aI cI c_as 20 c_sets, aD cD c_ad 20 c_scores, aZ cZ c_ar 20 c_rated, aI cI c_ah 8 c_hold] H := hP
    have hD : va_D A [oX0 c_a c_points c_count c_as c_ad c_ar c_ah c_ed, aI cI c_as 20 c_sets, aD cD c_ad 20 c_scores, aZ cZ c_ar 20 c_rated, aI cI c_ah 8 c_hold] := hD
    refine lv_bipush (v := (-6 : Int32)) hx hb dX0_addIfNew_14 (by decide) ?_
    obtain ⟨ha, hf⟩ := h
    refine lv_icmp_eq (tgt := 21) hx hb dX0_addIfNew_16 (by decide) (fun hc => ?_) (fun hc => ?_)
    · have h := ha hc
      clear ha hf
      refine lv_aload_n hx hb dX0_addIfNew_21 rfl (lv_at hl 0 rfl) ?_
      refine va_get (D := G) (ci := 0) (v := .ref c_as) (C := RX0) (T := TX0) (N := 7) hx hb hts i_X0 hown hK.1 hP 0 rfl rfl 2 (by decide) f_18 (fun _ h9 => h9) rfl dX0_addIfNew_22 ?_
      refine lv_aload_n hx hb dX0_addIfNew_25 rfl (lv_at hl 0 rfl) ?_
      refine va_get (D := G) (ci := 0) (v := .int c_count) (C := RX0) (T := TX0) (N := 7) hx hb hts i_X0 hown hK.1 hP 0 rfl rfl 1 (by decide) f_15 (fun _ h9 => h9) rfl dX0_addIfNew_26 ?_
      refine lv_iload_n hx hb dX0_addIfNew_29 rfl (lv_at hl 1 rfl) ?_
      obtain ⟨hi, h⟩ := h
      refine va_iast hx hb hK.1 hP hD hS 1 0 rfl rfl hi dX0_addIfNew_30 (fun H locs hP hD hS => ?_)
      have hP : va_P G vwCl [oX0 c_a c_points c_count c_as c_ad c_ar c_ah c_ed, aI cI c_as 20 (upd c_sets c_count.toNatClampNeg x1), aD cD c_ad 20 c_scores, aZ cZ c_ar 20 c_rated, aI cI c_ah 8 c_hold] H := hP
      have hD : va_D A [oX0 c_a c_points c_count c_as c_ad c_ar c_ah c_ed, aI cI c_as 20 (upd c_sets c_count.toNatClampNeg x1), aD cD c_ad 20 c_scores, aZ cZ c_ar 20 c_rated, aI cI c_ah 8 c_hold] := hD
      refine lv_aload_n hx hb dX0_addIfNew_31 rfl (lv_at hl 0 rfl) ?_
      refine lv_aload_n hx hb dX0_addIfNew_32 rfl (lv_at hl 0 rfl) ?_
      refine va_get (D := G) (ci := 0) (v := .int c_count) (C := RX0) (T := TX0) (N := 7) hx hb hts i_X0 hown hK.1 hP 0 rfl rfl 1 (by decide) f_15 (fun _ h9 => h9) rfl dX0_addIfNew_33 ?_
      refine k_Vv (wr := []) (wf := (fun (u : (Nat → UInt64) × (Nat → Int32)) => [oX0 c_a c_points c_count c_as c_ad c_ar c_ah c_ed, aI cI c_as 20 (upd c_sets c_count.toNatClampNeg x1), aD cD c_ad 20 u.1, aZ cZ c_ar 20 u.2, aI cI c_ah 8 c_hold])) (As := [.int c_count]) (rest := []) ⟨hx, hb, hml, hown, hts⟩ hK hP hD hS hA (c_X0_unrate l G cI cD cZ cJ cO c_a c_as c_ad c_ar c_ah c_points c_count c_ed (upd c_sets c_count.toNatClampNeg x1) c_scores c_rated c_hold c_count _ h) (cwV 1 hts gX0_addIfNew_X0_unrate rfl rfl rfl (by decide +kernel) ⟨Nat.le_of_ble_eq_true rfl, Nat.le_of_ble_eq_true rfl⟩) 0 rfl rfl [0, 1, 2, 3, 4] [] [0, 1, 2, 3, 4] rfl rfl rfl (fun _ => rfl) rfl rfl hl.1 (Nat.le_of_ble_eq_true rfl) ⟨Nat.zero_le _, Nat.zero_le _⟩ dX0_addIfNew_36 (fun u H locs h hP hD hS => ?_)
      obtain ⟨c_scores_2, c_rated_3⟩ := u
      have hP : va_P G vwCl [oX0 c_a c_points c_count c_as c_ad c_ar c_ah c_ed, aI cI c_as 20 (upd c_sets c_count.toNatClampNeg x1), aD cD c_ad 20 c_scores_2, aZ cZ c_ar 20 c_rated_3, aI cI c_ah 8 c_hold] H := hP
      have hD : va_D A [oX0 c_a c_points c_count c_as c_ad c_ar c_ah c_ed, aI cI c_as 20 (upd c_sets c_count.toNatClampNeg x1), aD cD c_ad 20 c_scores_2, aZ cZ c_ar 20 c_rated_3, aI cI c_ah 8 c_hold] := hD
      refine lv_aload_n hx hb dX0_addIfNew_39 rfl (lv_at hl 0 rfl) ?_
      refine lv_aload_n hx hb dX0_addIfNew_40 rfl (lv_at hl 0 rfl) ?_
      refine va_get (D := G) (ci := 0) (v := .int c_count) (C := RX0) (T := TX0) (N := 7) hx hb hts i_X0 hown hK.1 hP 0 rfl rfl 1 (by decide) f_15 (fun _ h9 => h9) rfl dX0_addIfNew_41 ?_
      refine k_Vv (wr := []) (wf := (fun (u : (Nat → Int32)) => [oX0 c_a c_points c_count c_as c_ad c_ar c_ah c_ed, aI cI c_as 20 (upd c_sets c_count.toNatClampNeg x1), aD cD c_ad 20 c_scores_2, aZ cZ c_ar 20 c_rated_3, aI cI c_ah 8 u])) (As := [.int c_count]) (rest := []) ⟨hx, hb, hml, hown, hts⟩ hK hP hD hS hA (c_X0_index l G cI cD cZ cJ cO c_a c_as c_ad c_ar c_ah c_points c_count c_ed (upd c_sets c_count.toNatClampNeg x1) c_scores_2 c_rated_3 c_hold c_count _ h) (cwV 1 hts gX0_addIfNew_X0_index rfl rfl rfl (by decide +kernel) ⟨Nat.le_of_ble_eq_true rfl, Nat.le_of_ble_eq_true rfl⟩) 0 rfl rfl [0, 1, 2, 3, 4] [] [0, 1, 2, 3, 4] rfl rfl rfl (fun _ => rfl) rfl rfl hl.1 (Nat.le_of_ble_eq_true rfl) ⟨Nat.zero_le _, Nat.zero_le _⟩ dX0_addIfNew_44 (fun u H locs h hP hD hS => ?_)
      obtain ⟨c_hold_4, rfl⟩ : ∃ z, z = u := ⟨_, rfl⟩
      have hP : va_P G vwCl [oX0 c_a c_points c_count c_as c_ad c_ar c_ah c_ed, aI cI c_as 20 (upd c_sets c_count.toNatClampNeg x1), aD cD c_ad 20 c_scores_2, aZ cZ c_ar 20 c_rated_3, aI cI c_ah 8 c_hold_4] H := hP
      have hD : va_D A [oX0 c_a c_points c_count c_as c_ad c_ar c_ah c_ed, aI cI c_as 20 (upd c_sets c_count.toNatClampNeg x1), aD cD c_ad 20 c_scores_2, aZ cZ c_ar 20 c_rated_3, aI cI c_ah 8 c_hold_4] := hD
      refine lv_aload_n hx hb dX0_addIfNew_47 rfl (lv_at hl 0 rfl) ?_
      refine lv_dup hx hb dX0_addIfNew_48 rfl ?_
      refine va_get (D := G) (ci := 0) (v := .int c_count) (C := RX0) (T := TX0) (N := 7) hx hb hts i_X0 hown hK.1 hP 0 rfl rfl 1 (by decide) f_15 (fun _ h9 => h9) rfl dX0_addIfNew_49 ?_
      refine lv_iconst (v := (1 : Int32)) hx hb dX0_addIfNew_52 (by decide) ?_
      refine lv_iadd hx hb dX0_addIfNew_53 ?_
      refine va_put (D := G) (ci := 0) (v := .int (c_count + (1 : Int32))) (ty := .int) (C := RX0) (T := TX0) (N := 7) hx hb hts i_X0 tyX0 tyX0_ok nmX0 hown hK.1 hP hD hS 0 rfl rfl 1 (by decide) f_15 (fun _ h9 => h9) rfl (tyX0_ok 1 (by decide)) rfl rfl (Nat.le_of_ble_eq_true rfl) dX0_addIfNew_54 (fun H locs hP hD hS => ?_)
      have hP : va_P G vwCl [oX0 c_a c_points (c_count + (1 : Int32)) c_as c_ad c_ar c_ah c_ed, aI cI c_as 20 (upd c_sets c_count.toNatClampNeg x1), aD cD c_ad 20 c_scores_2, aZ cZ c_ar 20 c_rated_3, aI cI c_ah 8 c_hold_4] H := hP
      have hD : va_D A [oX0 c_a c_points (c_count + (1 : Int32)) c_as c_ad c_ar c_ah c_ed, aI cI c_as 20 (upd c_sets c_count.toNatClampNeg x1), aD cD c_ad 20 c_scores_2, aZ cZ c_ar 20 c_rated_3, aI cI c_ah 8 c_hold_4] := hD
      refine lv_aload_n hx hb dX0_addIfNew_57 rfl (lv_at hl 0 rfl) ?_
      refine lv_dup hx hb dX0_addIfNew_58 rfl ?_
      refine va_get (D := G) (ci := 0) (v := .int c_ed) (C := RX0) (T := TX0) (N := 7) hx hb hts i_X0 hown hK.1 hP 0 rfl rfl 6 (by decide) f_33 (fun _ h9 => h9) rfl dX0_addIfNew_59 ?_
      refine lv_iconst (v := (1 : Int32)) hx hb dX0_addIfNew_62 (by decide) ?_
      refine lv_iadd hx hb dX0_addIfNew_63 ?_
      refine va_put (D := G) (ci := 0) (v := .int (c_ed + (1 : Int32))) (ty := .int) (C := RX0) (T := TX0) (N := 7) hx hb hts i_X0 tyX0 tyX0_ok nmX0 hown hK.1 hP hD hS 0 rfl rfl 6 (by decide) f_33 (fun _ h9 => h9) rfl (tyX0_ok 6 (by decide)) rfl rfl (Nat.le_of_ble_eq_true rfl) dX0_addIfNew_64 (fun H locs hP hD hS => ?_)
      have hP : va_P G vwCl [oX0 c_a c_points (c_count + (1 : Int32)) c_as c_ad c_ar c_ah (c_ed + (1 : Int32)), aI cI c_as 20 (upd c_sets c_count.toNatClampNeg x1), aD cD c_ad 20 c_scores_2, aZ cZ c_ar 20 c_rated_3, aI cI c_ah 8 c_hold_4] H := hP
      have hD : va_D A [oX0 c_a c_points (c_count + (1 : Int32)) c_as c_ad c_ar c_ah (c_ed + (1 : Int32)), aI cI c_as 20 (upd c_sets c_count.toNatClampNeg x1), aD cD c_ad 20 c_scores_2, aZ cZ c_ar 20 c_rated_3, aI cI c_ah 8 c_hold_4] := hD
      refine lv_iconst (v := (1 : Int32)) hx hb dX0_addIfNew_67 (by decide) ?_
      exact hret _ ((c_count + (1 : Int32)), (c_ed + (1 : Int32)), (upd c_sets c_count.toNatClampNeg x1), c_scores_2, c_rated_3, c_hold_4) _ _ _ _ rfl h hP hD hS dX0_addIfNew_68
    · have h := hf hc
      clear ha hf
      refine lv_iconst (v := (0 : Int32)) hx hb dX0_addIfNew_19 (by decide) ?_
      exact hret _ (c_count, c_ed, c_sets, c_scores, c_rated, c_hold) _ _ _ _ rfl h hP hD hS dX0_addIfNew_20
abbrev rm_X0_move : Room := { frames := 0, cells := 0, slots := 0, locals := 0 }
def wp_X0_move (x1 : Int32) (x2 : Int32) (x3 : Int32) (c_sets : Nat → Int32) (c_scores : Nat → UInt64) (c_rated : Nat → Int32) (Q : (Nat → Int32) → (Nat → UInt64) → (Nat → Int32) → Prop) : Prop := vp_in x2 20 ∧ vp_in x1 20 ∧ vp_in x2 20 ∧ vp_in x1 20 ∧ vp_in x2 20 ∧ Q (upd c_sets x2.toNatClampNeg x3) (vf_upd c_scores x2.toNatClampNeg (c_scores x1.toNatClampNeg)) (upd c_rated x2.toNatClampNeg (vp_nar .boolean (c_rated x1.toNatClampNeg)))
set_option maxRecDepth 100000 in
set_option maxHeartbeats 4000000 in
theorem c_X0_move (l : Launch) (G : va_G) (cI cD cZ cJ cO : ClassId) (c_a c_as c_ad c_ar c_ah : Nat) (c_points : Int32) (c_count : Int32) (c_ed : Int32) (c_sets : Nat → Int32) (c_scores : Nat → UInt64) (c_rated : Nat → Int32) (c_hold : Nat → Int32) (x1 : Int32) (x2 : Int32) (x3 : Int32) (Q : (Nat → Int32) → (Nat → UInt64) → (Nat → Int32) → Prop) (h : wp_X0_move x1 x2 x3 c_sets c_scores c_rated Q) : CtV l yX0_move wsX0_move rm_X0_move G (TY cI cD cZ cJ cO) [.ref c_a, .int x1, .int x2, .int x3] [oX0 c_a c_points c_count c_as c_ad c_ar c_ah c_ed, aI cI c_as 20 c_sets, aD cD c_ad 20 c_scores, aZ cZ c_ar 20 c_rated, aI cI c_ah 8 c_hold] (fun (u : (Nat → Int32) × (Nat → UInt64) × (Nat → Int32)) => Q u.1 u.2.1 u.2.2) (fun (u : (Nat → Int32) × (Nat → UInt64) × (Nat → Int32)) => [oX0 c_a c_points c_count c_as c_ad c_ar c_ah c_ed, aI cI c_as 20 u.1, aD cD c_ad 20 u.2.1, aZ cZ c_ar 20 u.2.2, aI cI c_ah 8 c_hold]) := by
  refine ct_openV (cc := cX0_move) (maxL := 4) (by decide) rfl (Nat.le_of_ble_eq_true rfl) ?_
  intro p e s m args below meth c A Z ls hx hb hml hown hts hK hA hret hP hD hS hl
  have hown : s.vm.findClass RX0 = some m.cls := hown
  have hl : lv_has ls 4 [(0, .ref c_a), (1, .int x1), (2, .int x2), (3, .int x3)] := hl
  have f_18 := hts (.fieldLink RX0 18 "TeachingSets$Concepts" "sets" "[I") (List.mem_of_getElem? (i := 1) rfl)
  have f_22 := hts (.fieldLink RX0 22 "TeachingSets$Concepts" "scores" "[D") (List.mem_of_getElem? (i := 2) rfl)
  have f_26 := hts (.fieldLink RX0 26 "TeachingSets$Concepts" "rated" "[Z") (List.mem_of_getElem? (i := 3) rfl)
  have i_X0 : ∀ w ∈ wsX00, w ∈ wsX0_move := fun _ h => List.mem_cons_of_mem _ (List.mem_append_right _ (h))
  refine lv_aload_n hx hb dX0_move_0 rfl (lv_at hl 0 rfl) ?_
  refine va_get (D := G) (ci := 0) (v := .ref c_as) (C := RX0) (T := TX0) (N := 7) hx hb hts i_X0 hown hK.1 hP 0 rfl rfl 2 (by decide) f_18 (fun _ h9 => h9) rfl dX0_move_1 ?_
  refine lv_iload_n hx hb dX0_move_4 rfl (lv_at hl 2 rfl) ?_
  refine lv_iload_n hx hb dX0_move_5 rfl (lv_at hl 3 rfl) ?_
  obtain ⟨hi, h⟩ := h
  refine va_iast hx hb hK.1 hP hD hS 1 0 rfl rfl hi dX0_move_6 (fun H locs hP hD hS => ?_)
  have hP : va_P G vwCl [oX0 c_a c_points c_count c_as c_ad c_ar c_ah c_ed, aI cI c_as 20 (upd c_sets x2.toNatClampNeg x3), aD cD c_ad 20 c_scores, aZ cZ c_ar 20 c_rated, aI cI c_ah 8 c_hold] H := hP
  have hD : va_D A [oX0 c_a c_points c_count c_as c_ad c_ar c_ah c_ed, aI cI c_as 20 (upd c_sets x2.toNatClampNeg x3), aD cD c_ad 20 c_scores, aZ cZ c_ar 20 c_rated, aI cI c_ah 8 c_hold] := hD
  refine lv_aload_n hx hb dX0_move_7 rfl (lv_at hl 0 rfl) ?_
  refine va_get (D := G) (ci := 0) (v := .ref c_ad) (C := RX0) (T := TX0) (N := 7) hx hb hts i_X0 hown hK.1 hP 0 rfl rfl 3 (by decide) f_22 (fun _ h9 => h9) rfl dX0_move_8 ?_
  refine lv_iload_n hx hb dX0_move_11 rfl (lv_at hl 2 rfl) ?_
  refine lv_aload_n hx hb dX0_move_12 rfl (lv_at hl 0 rfl) ?_
  refine va_get (D := G) (ci := 0) (v := .ref c_ad) (C := RX0) (T := TX0) (N := 7) hx hb hts i_X0 hown hK.1 hP 0 rfl rfl 3 (by decide) f_22 (fun _ h9 => h9) rfl dX0_move_13 ?_
  refine lv_iload_n hx hb dX0_move_16 rfl (lv_at hl 1 rfl) ?_
  obtain ⟨hi, h⟩ := h
  refine va_dald hx hb hK.1 hP 2 1 rfl rfl hi dX0_move_17 ?_
  obtain ⟨hi, h⟩ := h
  refine va_dast hx hb hK.1 hP hD hS 2 1 rfl rfl hi dX0_move_18 (fun H locs hP hD hS => ?_)
  have hP : va_P G vwCl [oX0 c_a c_points c_count c_as c_ad c_ar c_ah c_ed, aI cI c_as 20 (upd c_sets x2.toNatClampNeg x3), aD cD c_ad 20 (vf_upd c_scores x2.toNatClampNeg (c_scores x1.toNatClampNeg)), aZ cZ c_ar 20 c_rated, aI cI c_ah 8 c_hold] H := hP
  have hD : va_D A [oX0 c_a c_points c_count c_as c_ad c_ar c_ah c_ed, aI cI c_as 20 (upd c_sets x2.toNatClampNeg x3), aD cD c_ad 20 (vf_upd c_scores x2.toNatClampNeg (c_scores x1.toNatClampNeg)), aZ cZ c_ar 20 c_rated, aI cI c_ah 8 c_hold] := hD
  refine lv_aload_n hx hb dX0_move_19 rfl (lv_at hl 0 rfl) ?_
  refine va_get (D := G) (ci := 0) (v := .ref c_ar) (C := RX0) (T := TX0) (N := 7) hx hb hts i_X0 hown hK.1 hP 0 rfl rfl 4 (by decide) f_26 (fun _ h9 => h9) rfl dX0_move_20 ?_
  refine lv_iload_n hx hb dX0_move_23 rfl (lv_at hl 2 rfl) ?_
  refine lv_aload_n hx hb dX0_move_24 rfl (lv_at hl 0 rfl) ?_
  refine va_get (D := G) (ci := 0) (v := .ref c_ar) (C := RX0) (T := TX0) (N := 7) hx hb hts i_X0 hown hK.1 hP 0 rfl rfl 4 (by decide) f_26 (fun _ h9 => h9) rfl dX0_move_25 ?_
  refine lv_iload_n hx hb dX0_move_28 rfl (lv_at hl 1 rfl) ?_
  obtain ⟨hi, h⟩ := h
  refine va_zald hx hb hK.1 hP 3 2 rfl rfl hi dX0_move_29 ?_
  obtain ⟨hi, h⟩ := h
  refine va_zast hx hb hK.1 hP hD hS 3 2 rfl rfl hi dX0_move_30 (fun H locs hP hD hS => ?_)
  have hP : va_P G vwCl [oX0 c_a c_points c_count c_as c_ad c_ar c_ah c_ed, aI cI c_as 20 (upd c_sets x2.toNatClampNeg x3), aD cD c_ad 20 (vf_upd c_scores x2.toNatClampNeg (c_scores x1.toNatClampNeg)), aZ cZ c_ar 20 (upd c_rated x2.toNatClampNeg (vp_nar .boolean (c_rated x1.toNatClampNeg))), aI cI c_ah 8 c_hold] H := hP
  have hD : va_D A [oX0 c_a c_points c_count c_as c_ad c_ar c_ah c_ed, aI cI c_as 20 (upd c_sets x2.toNatClampNeg x3), aD cD c_ad 20 (vf_upd c_scores x2.toNatClampNeg (c_scores x1.toNatClampNeg)), aZ cZ c_ar 20 (upd c_rated x2.toNatClampNeg (vp_nar .boolean (c_rated x1.toNatClampNeg))), aI cI c_ah 8 c_hold] := hD
  exact hret ((upd c_sets x2.toNatClampNeg x3), (vf_upd c_scores x2.toNatClampNeg (c_scores x1.toNatClampNeg)), (upd c_rated x2.toNatClampNeg (vp_nar .boolean (c_rated x1.toNatClampNeg)))) _ _ _ _ h hP hD hS dX0_move_31
abbrev rm_X0_drop : Room := { frames := 3, cells := 0, slots := 0, locals := 64 }
def wp_X0_drop_b4 (x1 : Int32) (c_points : Int32) (Q : Int32 → Int32 → (Nat → Int32) → (Nat → UInt64) → (Nat → Int32) → (Nat → Int32) → Prop)  : Nat → Int32 → Int32 → Int32 → (Nat → Int32) → (Nat → UInt64) → (Nat → Int32) → (Nat → Int32) → Prop
  | 0, _, _, _, _, _, _, _ => False
  | n + 1, x2, c_count, c_ed, c_sets, c_scores, c_rated, c_hold => ((c_count ≤ x2) → wp_X0_reindex c_points (c_count - (1 : Int32)) c_ed c_sets c_hold (fun (c_ed_1 : Int32) (c_hold_2 : Nat → Int32) => Q (c_count - (1 : Int32)) c_ed_1 c_sets c_scores c_rated c_hold_2)) ∧ ((¬ c_count ≤ x2) → vp_in x2 20 ∧ wp_X0_move x2 (x2 - (1 : Int32)) (c_sets x2.toNatClampNeg) c_sets c_scores c_rated (fun (c_sets_3 : Nat → Int32) (c_scores_4 : Nat → UInt64) (c_rated_5 : Nat → Int32) => wp_X0_drop_b4 x1 c_points Q n (x2 + (1 : Int32)) c_count c_ed c_sets_3 c_scores_4 c_rated_5 c_hold))
def wp_X0_drop (x1 : Int32) (c_points : Int32) (c_count : Int32) (c_ed : Int32) (c_sets : Nat → Int32) (c_scores : Nat → UInt64) (c_rated : Nat → Int32) (c_hold : Nat → Int32) (Q : Int32 → Int32 → (Nat → Int32) → (Nat → UInt64) → (Nat → Int32) → (Nat → Int32) → Prop) : Prop := ∃ j4, wp_X0_drop_b4 x1 c_points Q j4 (x1 + (1 : Int32)) c_count c_ed c_sets c_scores c_rated c_hold
set_option maxRecDepth 100000 in
set_option maxHeartbeats 4000000 in
theorem c_X0_drop (l : Launch) (G : va_G) (cI cD cZ cJ cO : ClassId) (c_a c_as c_ad c_ar c_ah : Nat) (c_points : Int32) (c_count : Int32) (c_ed : Int32) (c_sets : Nat → Int32) (c_scores : Nat → UInt64) (c_rated : Nat → Int32) (c_hold : Nat → Int32) (x1 : Int32) (Q : Int32 → Int32 → (Nat → Int32) → (Nat → UInt64) → (Nat → Int32) → (Nat → Int32) → Prop) (h : wp_X0_drop x1 c_points c_count c_ed c_sets c_scores c_rated c_hold Q) : CtV l yX0_drop wsX0_drop rm_X0_drop G (TY cI cD cZ cJ cO) [.ref c_a, .int x1] [oX0 c_a c_points c_count c_as c_ad c_ar c_ah c_ed, aI cI c_as 20 c_sets, aD cD c_ad 20 c_scores, aZ cZ c_ar 20 c_rated, aI cI c_ah 8 c_hold] (fun (u : Int32 × Int32 × (Nat → Int32) × (Nat → UInt64) × (Nat → Int32) × (Nat → Int32)) => Q u.1 u.2.1 u.2.2.1 u.2.2.2.1 u.2.2.2.2.1 u.2.2.2.2.2) (fun (u : Int32 × Int32 × (Nat → Int32) × (Nat → UInt64) × (Nat → Int32) × (Nat → Int32)) => [oX0 c_a c_points u.1 c_as c_ad c_ar c_ah u.2.1, aI cI c_as 20 u.2.2.1, aD cD c_ad 20 u.2.2.2.1, aZ cZ c_ar 20 u.2.2.2.2.1, aI cI c_ah 8 u.2.2.2.2.2]) := by
  refine ct_openV (cc := cX0_drop) (maxL := 3) (by decide) rfl (Nat.le_of_ble_eq_true rfl) ?_
  intro p e s m args below meth c A Z ls hx hb hml hown hts hK hA hret hP hD hS hl
  have hown : s.vm.findClass RX0 = some m.cls := hown
  have hl : lv_has ls 3 [(0, .ref c_a), (1, .int x1)] := hl
  have f_15 := hts (.fieldLink RX0 15 "TeachingSets$Concepts" "count" "I") (List.mem_of_getElem? (i := 1) rfl)
  have f_18 := hts (.fieldLink RX0 18 "TeachingSets$Concepts" "sets" "[I") (List.mem_of_getElem? (i := 2) rfl)
  have i_X0 : ∀ w ∈ wsX00, w ∈ wsX0_drop := fun _ h => List.mem_cons_of_mem _ (List.mem_append_right _ (h))
  have b_4 : ∀ (n : Nat) (x2 : Int32) (c_count : Int32) (c_ed : Int32) (c_sets : Nat → Int32) (c_scores : Nat → UInt64) (c_rated : Nat → Int32) (c_hold : Nat → Int32), wp_X0_drop_b4 x1 c_points Q n x2 c_count c_ed c_sets c_scores c_rated c_hold → ∀ (H : Heap) (locs : List Loc) (ls : Array Slot), ST G A s.heap [oX0 c_a c_points c_count c_as c_ad c_ar c_ah c_ed, aI cI c_as 20 c_sets, aD cD c_ad 20 c_scores, aZ cZ c_ar 20 c_rated, aI cI c_ah 8 c_hold] 3 [(0, .ref c_a), (2, .int x2)] H locs ls → W p l e rm_X0_drop s m args below meth c H locs 0 0 Z (F0 m 4 ls []) := by
    intro n
    induction n with
    | zero =>
      intro x2 c_count c_ed c_sets c_scores c_rated c_hold h; exact False.elim h
    | succ n ih =>
      intro x2 c_count c_ed c_sets c_scores c_rated c_hold h H locs ls hst
      obtain ⟨hP, hD, hS, hl⟩ := hst
      refine lv_iload_n hx hb dX0_drop_4 rfl (lv_at hl 1 rfl) ?_
      refine lv_aload_n hx hb dX0_drop_5 rfl (lv_at hl 0 rfl) ?_
      refine va_get (D := G) (ci := 0) (v := .int c_count) (C := RX0) (T := TX0) (N := 7) hx hb hts i_X0 hown hK.1 hP 0 rfl rfl 1 (by decide) f_15 (fun _ h9 => h9) rfl dX0_drop_6 ?_
      obtain ⟨ha, hf⟩ := h
      refine lv_icmp_ge (tgt := 32) hx hb dX0_drop_9 (by decide) (fun hc => ?_) (fun hc => ?_)
      · have h := ha hc
        clear ha hf
        refine lv_aload_n hx hb dX0_drop_32 rfl (lv_at hl 0 rfl) ?_
        refine lv_dup hx hb dX0_drop_33 rfl ?_
        refine va_get (D := G) (ci := 0) (v := .int c_count) (C := RX0) (T := TX0) (N := 7) hx hb hts i_X0 hown hK.1 hP 0 rfl rfl 1 (by decide) f_15 (fun _ h9 => h9) rfl dX0_drop_34 ?_
        refine lv_iconst (v := (1 : Int32)) hx hb dX0_drop_37 (by decide) ?_
        refine lv_isub hx hb dX0_drop_38 ?_
        refine va_put (D := G) (ci := 0) (v := .int (c_count - (1 : Int32))) (ty := .int) (C := RX0) (T := TX0) (N := 7) hx hb hts i_X0 tyX0 tyX0_ok nmX0 hown hK.1 hP hD hS 0 rfl rfl 1 (by decide) f_15 (fun _ h9 => h9) rfl (tyX0_ok 1 (by decide)) rfl rfl (Nat.le_of_ble_eq_true rfl) dX0_drop_39 (fun H locs hP hD hS => ?_)
        have hP : va_P G vwCl [oX0 c_a c_points (c_count - (1 : Int32)) c_as c_ad c_ar c_ah c_ed, aI cI c_as 20 c_sets, aD cD c_ad 20 c_scores, aZ cZ c_ar 20 c_rated, aI cI c_ah 8 c_hold] H := hP
        have hD : va_D A [oX0 c_a c_points (c_count - (1 : Int32)) c_as c_ad c_ar c_ah c_ed, aI cI c_as 20 c_sets, aD cD c_ad 20 c_scores, aZ cZ c_ar 20 c_rated, aI cI c_ah 8 c_hold] := hD
        refine lv_aload_n hx hb dX0_drop_42 rfl (lv_at hl 0 rfl) ?_
        refine k_Vv (wr := []) (wf := (fun (u : Int32 × (Nat → Int32)) => [oX0 c_a c_points (c_count - (1 : Int32)) c_as c_ad c_ar c_ah u.1, aI cI c_as 20 c_sets, aD cD c_ad 20 c_scores, aZ cZ c_ar 20 c_rated, aI cI c_ah 8 u.2])) (As := []) (rest := []) ⟨hx, hb, hml, hown, hts⟩ hK hP hD hS hA (c_X0_reindex l G cI cD cZ cJ cO c_a c_as c_ad c_ar c_ah c_points (c_count - (1 : Int32)) c_ed c_sets c_scores c_rated c_hold _ h) (cwV 0 hts gX0_drop_X0_reindex rfl rfl rfl (by decide +kernel) ⟨Nat.le_of_ble_eq_true rfl, Nat.le_of_ble_eq_true rfl⟩) 0 rfl rfl [0, 1, 2, 3, 4] [] [0, 1, 2, 3, 4] rfl rfl rfl (fun _ => rfl) rfl rfl hl.1 (Nat.le_of_ble_eq_true rfl) ⟨Nat.zero_le _, Nat.zero_le _⟩ dX0_drop_43 (fun u H locs h hP hD hS => ?_)
        obtain ⟨c_ed_1, c_hold_2⟩ := u
        have hP : va_P G vwCl [oX0 c_a c_points (c_count - (1 : Int32)) c_as c_ad c_ar c_ah c_ed_1, aI cI c_as 20 c_sets, aD cD c_ad 20 c_scores, aZ cZ c_ar 20 c_rated, aI cI c_ah 8 c_hold_2] H := hP
        have hD : va_D A [oX0 c_a c_points (c_count - (1 : Int32)) c_as c_ad c_ar c_ah c_ed_1, aI cI c_as 20 c_sets, aD cD c_ad 20 c_scores, aZ cZ c_ar 20 c_rated, aI cI c_ah 8 c_hold_2] := hD
        exact hret ((c_count - (1 : Int32)), c_ed_1, c_sets, c_scores, c_rated, c_hold_2) _ _ _ _ h hP hD hS dX0_drop_46
      · have h := hf hc
        clear ha hf
        refine lv_aload_n hx hb dX0_drop_12 rfl (lv_at hl 0 rfl) ?_
        refine lv_iload_n hx hb dX0_drop_13 rfl (lv_at hl 1 rfl) ?_
        refine lv_iload_n hx hb dX0_drop_14 rfl (lv_at hl 1 rfl) ?_
        refine lv_iconst (v := (1 : Int32)) hx hb dX0_drop_15 (by decide) ?_
        refine lv_isub hx hb dX0_drop_16 ?_
        refine lv_aload_n hx hb dX0_drop_17 rfl (lv_at hl 0 rfl) ?_
        refine va_get (D := G) (ci := 0) (v := .ref c_as) (C := RX0) (T := TX0) (N := 7) hx hb hts i_X0 hown hK.1 hP 0 rfl rfl 2 (by decide) f_18 (fun _ h9 => h9) rfl dX0_drop_18 ?_
        refine lv_iload_n hx hb dX0_drop_21 rfl (lv_at hl 1 rfl) ?_
        obtain ⟨hi, h⟩ := h
        refine va_iald hx hb hK.1 hP 1 0 rfl rfl hi dX0_drop_22 ?_
        refine k_Vv (wr := []) (wf := (fun (u : (Nat → Int32) × (Nat → UInt64) × (Nat → Int32)) => [oX0 c_a c_points c_count c_as c_ad c_ar c_ah c_ed, aI cI c_as 20 u.1, aD cD c_ad 20 u.2.1, aZ cZ c_ar 20 u.2.2, aI cI c_ah 8 c_hold])) (As := [.int x2, .int (x2 - (1 : Int32)), .int (c_sets x2.toNatClampNeg)]) (rest := []) ⟨hx, hb, hml, hown, hts⟩ hK hP hD hS hA (c_X0_move l G cI cD cZ cJ cO c_a c_as c_ad c_ar c_ah c_points c_count c_ed c_sets c_scores c_rated c_hold x2 (x2 - (1 : Int32)) (c_sets x2.toNatClampNeg) _ h) (cwV 3 hts gX0_drop_X0_move rfl rfl rfl (by decide +kernel) ⟨Nat.le_of_ble_eq_true rfl, Nat.le_of_ble_eq_true rfl⟩) 0 rfl rfl [0, 1, 2, 3, 4] [] [0, 1, 2, 3, 4] rfl rfl rfl (fun _ => rfl) rfl rfl hl.1 (Nat.le_of_ble_eq_true rfl) ⟨Nat.zero_le _, Nat.zero_le _⟩ dX0_drop_23 (fun u H locs h hP hD hS => ?_)
        obtain ⟨c_sets_3, c_scores_4, c_rated_5⟩ := u
        have hP : va_P G vwCl [oX0 c_a c_points c_count c_as c_ad c_ar c_ah c_ed, aI cI c_as 20 c_sets_3, aD cD c_ad 20 c_scores_4, aZ cZ c_ar 20 c_rated_5, aI cI c_ah 8 c_hold] H := hP
        have hD : va_D A [oX0 c_a c_points c_count c_as c_ad c_ar c_ah c_ed, aI cI c_as 20 c_sets_3, aD cD c_ad 20 c_scores_4, aZ cZ c_ar 20 c_rated_5, aI cI c_ah 8 c_hold] := hD
        refine lv_iinc (v := (x2 + (1 : Int32))) (lv' := [(2, .int (x2 + (1 : Int32))), (0, .ref c_a)]) hx hb dX0_drop_26 hl (k := 1) rfl rfl (by decide) rfl (fun ls hl => ?_)
        refine lv_goto (tgt := 4) hx hb dX0_drop_29 (by decide) ?_
        exact ih _ _ _ _ _ _ _ h _ _ _ ⟨hP, hD, hS, lv_sub hl [1, 0] rfl⟩
  refine lv_iload_n hx hb dX0_drop_0 rfl (lv_at hl 1 rfl) ?_
  refine lv_iconst (v := (1 : Int32)) hx hb dX0_drop_1 (by decide) ?_
  refine lv_iadd hx hb dX0_drop_2 ?_
  refine lv_istore_n (lv' := [(2, .int (x1 + (1 : Int32))), (0, .ref c_a), (1, .int x1)]) hx hb dX0_drop_3 rfl hl (by decide) rfl (fun ls hl => ?_)
  obtain ⟨j, h⟩ := h
  exact b_4  j _ _ _ _ _ _ _ h _ _ _ ⟨hP, hD, hS, lv_sub hl [1, 0] rfl⟩
abbrev rm_X0_flip : Room := { frames := 3, cells := 0, slots := 0, locals := 64 }
def wp_X0_flip_b2 (c_points : Int32) (c_count : Int32) (Q : Int32 → (Nat → Int32) → (Nat → Int32) → Prop)  : Nat → Int32 → Int32 → (Nat → Int32) → (Nat → Int32) → Prop
  | 0, _, _, _, _ => False
  | n + 1, x1, c_ed, c_sets, c_hold => ((c_count ≤ x1) → wp_X0_reindex c_points c_count c_ed c_sets c_hold (fun (c_ed_1 : Int32) (c_hold_2 : Nat → Int32) => Q c_ed_1 c_sets c_hold_2)) ∧ ((¬ c_count ≤ x1) → vp_in x1 20 ∧ wp_X0_allPoints c_points (fun (r_3 : Int32) => vp_in x1 20 ∧ wp_X0_flip_b2 c_points c_count Q n (x1 + (1 : Int32)) c_ed (upd c_sets x1.toNatClampNeg ((c_sets x1.toNatClampNeg) ^^^ r_3)) c_hold))
def wp_X0_flip (c_points : Int32) (c_count : Int32) (c_ed : Int32) (c_sets : Nat → Int32) (c_hold : Nat → Int32) (Q : Int32 → (Nat → Int32) → (Nat → Int32) → Prop) : Prop := ∃ j2, wp_X0_flip_b2 c_points c_count Q j2 (0 : Int32) c_ed c_sets c_hold
set_option maxRecDepth 100000 in
set_option maxHeartbeats 4000000 in
theorem c_X0_flip (l : Launch) (G : va_G) (cI cD cZ cJ cO : ClassId) (c_a c_as c_ad c_ar c_ah : Nat) (c_points : Int32) (c_count : Int32) (c_ed : Int32) (c_sets : Nat → Int32) (c_scores : Nat → UInt64) (c_rated : Nat → Int32) (c_hold : Nat → Int32) (Q : Int32 → (Nat → Int32) → (Nat → Int32) → Prop) (h : wp_X0_flip c_points c_count c_ed c_sets c_hold Q) : CtV l yX0_flip wsX0_flip rm_X0_flip G (TY cI cD cZ cJ cO) [.ref c_a] [oX0 c_a c_points c_count c_as c_ad c_ar c_ah c_ed, aI cI c_as 20 c_sets, aD cD c_ad 20 c_scores, aZ cZ c_ar 20 c_rated, aI cI c_ah 8 c_hold] (fun (u : Int32 × (Nat → Int32) × (Nat → Int32)) => Q u.1 u.2.1 u.2.2) (fun (u : Int32 × (Nat → Int32) × (Nat → Int32)) => [oX0 c_a c_points c_count c_as c_ad c_ar c_ah u.1, aI cI c_as 20 u.2.1, aD cD c_ad 20 c_scores, aZ cZ c_ar 20 c_rated, aI cI c_ah 8 u.2.2]) := by
  refine ct_openV (cc := cX0_flip) (maxL := 2) (by decide) rfl (Nat.le_of_ble_eq_true rfl) ?_
  intro p e s m args below meth c A Z ls hx hb hml hown hts hK hA hret hP hD hS hl
  have hown : s.vm.findClass RX0 = some m.cls := hown
  have hl : lv_has ls 2 [(0, .ref c_a)] := hl
  have f_15 := hts (.fieldLink RX0 15 "TeachingSets$Concepts" "count" "I") (List.mem_of_getElem? (i := 1) rfl)
  have f_18 := hts (.fieldLink RX0 18 "TeachingSets$Concepts" "sets" "[I") (List.mem_of_getElem? (i := 2) rfl)
  have i_X0 : ∀ w ∈ wsX00, w ∈ wsX0_flip := fun _ h => List.mem_cons_of_mem _ (List.mem_append_right _ (h))
  have b_2 : ∀ (n : Nat) (x1 : Int32) (c_ed : Int32) (c_sets : Nat → Int32) (c_hold : Nat → Int32), wp_X0_flip_b2 c_points c_count Q n x1 c_ed c_sets c_hold → ∀ (H : Heap) (locs : List Loc) (ls : Array Slot), ST G A s.heap [oX0 c_a c_points c_count c_as c_ad c_ar c_ah c_ed, aI cI c_as 20 c_sets, aD cD c_ad 20 c_scores, aZ cZ c_ar 20 c_rated, aI cI c_ah 8 c_hold] 2 [(0, .ref c_a), (1, .int x1)] H locs ls → W p l e rm_X0_flip s m args below meth c H locs 0 0 Z (F0 m 2 ls []) := by
    intro n
    induction n with
    | zero =>
      intro x1 c_ed c_sets c_hold h; exact False.elim h
    | succ n ih =>
      intro x1 c_ed c_sets c_hold h H locs ls hst
      obtain ⟨hP, hD, hS, hl⟩ := hst
      refine lv_iload_n hx hb dX0_flip_2 rfl (lv_at hl 1 rfl) ?_
      refine lv_aload_n hx hb dX0_flip_3 rfl (lv_at hl 0 rfl) ?_
      refine va_get (D := G) (ci := 0) (v := .int c_count) (C := RX0) (T := TX0) (N := 7) hx hb hts i_X0 hown hK.1 hP 0 rfl rfl 1 (by decide) f_15 (fun _ h9 => h9) rfl dX0_flip_4 ?_
      obtain ⟨ha, hf⟩ := h
      refine lv_icmp_ge (tgt := 29) hx hb dX0_flip_7 (by decide) (fun hc => ?_) (fun hc => ?_)
      · have h := ha hc
        clear ha hf
        refine lv_aload_n hx hb dX0_flip_29 rfl (lv_at hl 0 rfl) ?_
        refine k_Vv (wr := []) (wf := (fun (u : Int32 × (Nat → Int32)) => [oX0 c_a c_points c_count c_as c_ad c_ar c_ah u.1, aI cI c_as 20 c_sets, aD cD c_ad 20 c_scores, aZ cZ c_ar 20 c_rated, aI cI c_ah 8 u.2])) (As := []) (rest := []) ⟨hx, hb, hml, hown, hts⟩ hK hP hD hS hA (c_X0_reindex l G cI cD cZ cJ cO c_a c_as c_ad c_ar c_ah c_points c_count c_ed c_sets c_scores c_rated c_hold _ h) (cwV 0 hts gX0_flip_X0_reindex rfl rfl rfl (by decide +kernel) ⟨Nat.le_of_ble_eq_true rfl, Nat.le_of_ble_eq_true rfl⟩) 0 rfl rfl [0, 1, 2, 3, 4] [] [0, 1, 2, 3, 4] rfl rfl rfl (fun _ => rfl) rfl rfl hl.1 (Nat.le_of_ble_eq_true rfl) ⟨Nat.zero_le _, Nat.zero_le _⟩ dX0_flip_30 (fun u H locs h hP hD hS => ?_)
        obtain ⟨c_ed_1, c_hold_2⟩ := u
        have hP : va_P G vwCl [oX0 c_a c_points c_count c_as c_ad c_ar c_ah c_ed_1, aI cI c_as 20 c_sets, aD cD c_ad 20 c_scores, aZ cZ c_ar 20 c_rated, aI cI c_ah 8 c_hold_2] H := hP
        have hD : va_D A [oX0 c_a c_points c_count c_as c_ad c_ar c_ah c_ed_1, aI cI c_as 20 c_sets, aD cD c_ad 20 c_scores, aZ cZ c_ar 20 c_rated, aI cI c_ah 8 c_hold_2] := hD
        exact hret (c_ed_1, c_sets, c_hold_2) _ _ _ _ h hP hD hS dX0_flip_33
      · have h := hf hc
        clear ha hf
        refine lv_aload_n hx hb dX0_flip_10 rfl (lv_at hl 0 rfl) ?_
        refine va_get (D := G) (ci := 0) (v := .ref c_as) (C := RX0) (T := TX0) (N := 7) hx hb hts i_X0 hown hK.1 hP 0 rfl rfl 2 (by decide) f_18 (fun _ h9 => h9) rfl dX0_flip_11 ?_
        refine lv_iload_n hx hb dX0_flip_14 rfl (lv_at hl 1 rfl) ?_
        refine lv_dup2_11 hx hb dX0_flip_15 rfl rfl ?_
        obtain ⟨hi, h⟩ := h
        refine va_iald hx hb hK.1 hP 1 0 rfl rfl hi dX0_flip_16 ?_
        refine lv_aload_n hx hb dX0_flip_17 rfl (lv_at hl 0 rfl) ?_
        refine k_Vi (wr := []) (wf := (fun (u : Unit) => [oX0 c_a c_points c_count c_as c_ad c_ar c_ah c_ed, aI cI c_as 20 c_sets, aD cD c_ad 20 c_scores, aZ cZ c_ar 20 c_rated, aI cI c_ah 8 c_hold])) (As := []) (rest := [.int (c_sets x1.toNatClampNeg), .int x1, .ref c_as]) ⟨hx, hb, hml, hown, hts⟩ hK hP hD hS hA (c_X0_allPoints l G cI cD cZ cJ cO c_a c_as c_ad c_ar c_ah c_points c_count c_ed c_sets c_scores c_rated c_hold _ h) (cwV 0 hts gX0_flip_X0_allPoints rfl rfl rfl (by decide +kernel) ⟨Nat.le_of_ble_eq_true rfl, Nat.le_of_ble_eq_true rfl⟩) 0 rfl rfl [0, 1, 2, 3, 4] [] [0, 1, 2, 3, 4] rfl rfl rfl (fun _ => rfl) rfl rfl hl.1 (Nat.le_of_ble_eq_true rfl) ⟨Nat.zero_le _, Nat.zero_le _⟩ dX0_flip_18 (fun r_3 u H locs h hP hD hS => ?_)
        have hP : va_P G vwCl [oX0 c_a c_points c_count c_as c_ad c_ar c_ah c_ed, aI cI c_as 20 c_sets, aD cD c_ad 20 c_scores, aZ cZ c_ar 20 c_rated, aI cI c_ah 8 c_hold] H := hP
        have hD : va_D A [oX0 c_a c_points c_count c_as c_ad c_ar c_ah c_ed, aI cI c_as 20 c_sets, aD cD c_ad 20 c_scores, aZ cZ c_ar 20 c_rated, aI cI c_ah 8 c_hold] := hD
        refine lv_ixor hx hb dX0_flip_21 ?_
        obtain ⟨hi, h⟩ := h
        refine va_iast hx hb hK.1 hP hD hS 1 0 rfl rfl hi dX0_flip_22 (fun H locs hP hD hS => ?_)
        have hP : va_P G vwCl [oX0 c_a c_points c_count c_as c_ad c_ar c_ah c_ed, aI cI c_as 20 (upd c_sets x1.toNatClampNeg ((c_sets x1.toNatClampNeg) ^^^ r_3)), aD cD c_ad 20 c_scores, aZ cZ c_ar 20 c_rated, aI cI c_ah 8 c_hold] H := hP
        have hD : va_D A [oX0 c_a c_points c_count c_as c_ad c_ar c_ah c_ed, aI cI c_as 20 (upd c_sets x1.toNatClampNeg ((c_sets x1.toNatClampNeg) ^^^ r_3)), aD cD c_ad 20 c_scores, aZ cZ c_ar 20 c_rated, aI cI c_ah 8 c_hold] := hD
        refine lv_iinc (v := (x1 + (1 : Int32))) (lv' := [(1, .int (x1 + (1 : Int32))), (0, .ref c_a)]) hx hb dX0_flip_23 hl (k := 1) rfl rfl (by decide) rfl (fun ls hl => ?_)
        refine lv_goto (tgt := 2) hx hb dX0_flip_26 (by decide) ?_
        exact ih _ _ _ _ h _ _ _ ⟨hP, hD, hS, lv_sub hl [1, 0] rfl⟩
  refine lv_iconst (v := (0 : Int32)) hx hb dX0_flip_0 (by decide) ?_
  refine lv_istore_n (lv' := [(1, .int (0 : Int32)), (0, .ref c_a)]) hx hb dX0_flip_1 rfl hl (by decide) rfl (fun ls hl => ?_)
  obtain ⟨j, h⟩ := h
  exact b_2  j _ _ _ _ h _ _ _ ⟨hP, hD, hS, lv_sub hl [1, 0] rfl⟩
abbrev rm_X0_squeeze : Room := { frames := 1, cells := 0, slots := 0, locals := 21 }
def wp_X0_squeeze_b7 (x0 : Int32) (x1 : Int32) (Q : Int32 → Prop)  : Nat → Int32 → Int32 → Int32 → Prop
  | 0, _, _, _ => False
  | n + 1, x2, x3, x4 => (((8 : Int32) ≤ x4) → Q x2) ∧ ((¬ (8 : Int32) ≤ x4) → wp_X7_hasBit x1 x4 (fun (r_1 : Int32) => ((r_1 = 0) → wp_X0_squeeze_b7 x0 x1 Q n x2 x3 (x4 + (1 : Int32))) ∧ ((¬ r_1 = 0) → wp_X7_hasBit x0 x4 (fun (r_2 : Int32) => ((r_2 = 0) → wp_X0_squeeze_b7 x0 x1 Q n x2 (x3 + (1 : Int32)) (x4 + (1 : Int32))) ∧ ((¬ r_2 = 0) → wp_X0_squeeze_b7 x0 x1 Q n (x2 ||| ((1 : Int32) <<< (x3 &&& 31))) (x3 + (1 : Int32)) (x4 + (1 : Int32)))))))
def wp_X0_squeeze (x0 : Int32) (x1 : Int32) (Q : Int32 → Prop) : Prop := ∃ j7, wp_X0_squeeze_b7 x0 x1 Q j7 (0 : Int32) (0 : Int32) (0 : Int32)
set_option maxRecDepth 100000 in
set_option maxHeartbeats 4000000 in
theorem c_X0_squeeze (l : Launch) (G : va_G) (cI cD cZ cJ cO : ClassId) (x0 : Int32) (x1 : Int32) (Q : Int32 → Prop) (h : wp_X0_squeeze x0 x1 Q) : CtI l yX0_squeeze wsX0_squeeze rm_X0_squeeze G (TY cI cD cZ cJ cO) [.int x0, .int x1] [] (fun (r : Int32) (u : Unit) => Q r) (fun (u : Unit) => []) := by
  refine ct_openI (cc := cX0_squeeze) (maxL := 5) (ty := .int) (by decide) rfl (Nat.le_of_ble_eq_true rfl) ?_
  intro p e s m args below meth c A Z ls hx hb hml hown hts hK hA hret hP hD hS hl
  have hown : s.vm.findClass RX0 = some m.cls := hown
  have hl : lv_has ls 5 [(0, .int x0), (1, .int x1)] := hl
  have b_7 : ∀ (n : Nat) (x2 : Int32) (x3 : Int32) (x4 : Int32), wp_X0_squeeze_b7 x0 x1 Q n x2 x3 x4 → ∀ (H : Heap) (locs : List Loc) (ls : Array Slot), ST G A s.heap [] 5 [(0, .int x0), (1, .int x1), (2, .int x2), (3, .int x3), (4, .int x4)] H locs ls → W p l e rm_X0_squeeze s m args below meth c H locs 0 0 Z (F0 m 7 ls []) := by
    intro n
    induction n with
    | zero =>
      intro x2 x3 x4 h; exact False.elim h
    | succ n ih =>
      intro x2 x3 x4 h H locs ls hst
      obtain ⟨hP, hD, hS, hl⟩ := hst
      refine lv_iload hx hb dX0_squeeze_7 (lv_at hl 4 rfl) ?_
      refine lv_bipush (v := (8 : Int32)) hx hb dX0_squeeze_9 (by decide) ?_
      obtain ⟨ha, hf⟩ := h
      refine lv_icmp_ge (tgt := 47) hx hb dX0_squeeze_11 (by decide) (fun hc => ?_) (fun hc => ?_)
      · have h := ha hc
        clear ha hf
        refine lv_iload_n hx hb dX0_squeeze_47 rfl (lv_at hl 2 rfl) ?_
        exact hret _ () _ _ _ _ rfl h hP hD hS dX0_squeeze_48
      · have h := hf hc
        clear ha hf
        refine lv_iload_n hx hb dX0_squeeze_14 rfl (lv_at hl 1 rfl) ?_
        refine lv_iload hx hb dX0_squeeze_15 (lv_at hl 4 rfl) ?_
        refine k_SNi (wr := []) (wf := (fun (u : Unit) => [])) (As := [.int x1, .int x4]) (rest := []) ⟨hx, hb, hml, hown, hts⟩ hK hP hD hS hA (c_X7_hasBit l G cI cD cZ cJ cO x1 x4 _ h) ⟨va_cnB (host := RX7) 2 hts gX0_squeeze_X7_hasBit_n43 rfl rfl rfl hK.2.1 (hts (.initialized RX7) (List.mem_of_getElem? (i := 2) rfl)) (by decide +kernel) ⟨Nat.le_of_ble_eq_true rfl, Nat.le_of_ble_eq_true rfl⟩, hts (.static yX7_hasBit) (List.mem_of_getElem? (i := 1) rfl), trivial⟩ [] [] [] rfl rfl rfl (fun _ => rfl) rfl rfl hl.1 (Nat.le_of_ble_eq_true rfl) ⟨Nat.zero_le _, Nat.zero_le _⟩ dX0_squeeze_17 (fun r_1 u H locs h hP hD hS => ?_)
        have hP : va_P G vwCl [] H := hP
        have hD : va_D A [] := hD
        obtain ⟨ha, hf⟩ := h
        refine lv_if_eq (tgt := 41) hx hb dX0_squeeze_20 (by decide) (fun hc => ?_) (fun hc => ?_)
        · have h := ha hc
          clear ha hf
          refine lv_iinc (v := (x4 + (1 : Int32))) (lv' := [(4, .int (x4 + (1 : Int32))), (0, .int x0), (1, .int x1), (2, .int x2), (3, .int x3)]) hx hb dX0_squeeze_41 hl (k := 4) rfl rfl (by decide) rfl (fun ls hl => ?_)
          refine lv_goto (tgt := 7) hx hb dX0_squeeze_44 (by decide) ?_
          exact ih _ _ _ h _ _ _ ⟨hP, hD, hS, lv_sub hl [1, 2, 3, 4, 0] rfl⟩
        · have h := hf hc
          clear ha hf
          refine lv_iload_n hx hb dX0_squeeze_23 rfl (lv_at hl 0 rfl) ?_
          refine lv_iload hx hb dX0_squeeze_24 (lv_at hl 4 rfl) ?_
          refine k_SNi (wr := []) (wf := (fun (u : Unit) => [])) (As := [.int x0, .int x4]) (rest := []) ⟨hx, hb, hml, hown, hts⟩ hK hP hD hS hA (c_X7_hasBit l G cI cD cZ cJ cO x0 x4 _ h) ⟨va_cnB (host := RX7) 2 hts gX0_squeeze_X7_hasBit_n43 rfl rfl rfl hK.2.1 (hts (.initialized RX7) (List.mem_of_getElem? (i := 2) rfl)) (by decide +kernel) ⟨Nat.le_of_ble_eq_true rfl, Nat.le_of_ble_eq_true rfl⟩, hts (.static yX7_hasBit) (List.mem_of_getElem? (i := 1) rfl), trivial⟩ [] [] [] rfl rfl rfl (fun _ => rfl) rfl rfl hl.1 (Nat.le_of_ble_eq_true rfl) ⟨Nat.zero_le _, Nat.zero_le _⟩ dX0_squeeze_26 (fun r_2 u H locs h hP hD hS => ?_)
          have hP : va_P G vwCl [] H := hP
          have hD : va_D A [] := hD
          obtain ⟨ha, hf⟩ := h
          refine lv_if_eq (tgt := 38) hx hb dX0_squeeze_29 (by decide) (fun hc => ?_) (fun hc => ?_)
          · have h := ha hc
            clear ha hf
            refine lv_iinc (v := (x3 + (1 : Int32))) (lv' := [(3, .int (x3 + (1 : Int32))), (0, .int x0), (1, .int x1), (2, .int x2), (4, .int x4)]) hx hb dX0_squeeze_38 hl (k := 3) rfl rfl (by decide) rfl (fun ls hl => ?_)
            refine lv_iinc (v := (x4 + (1 : Int32))) (lv' := [(4, .int (x4 + (1 : Int32))), (3, .int (x3 + (1 : Int32))), (0, .int x0), (1, .int x1), (2, .int x2)]) hx hb dX0_squeeze_41 hl (k := 4) rfl rfl (by decide) rfl (fun ls hl => ?_)
            refine lv_goto (tgt := 7) hx hb dX0_squeeze_44 (by decide) ?_
            exact ih _ _ _ h _ _ _ ⟨hP, hD, hS, lv_sub hl [2, 3, 4, 1, 0] rfl⟩
          · have h := hf hc
            clear ha hf
            refine lv_iload_n hx hb dX0_squeeze_32 rfl (lv_at hl 2 rfl) ?_
            refine lv_iconst (v := (1 : Int32)) hx hb dX0_squeeze_33 (by decide) ?_
            refine lv_iload_n hx hb dX0_squeeze_34 rfl (lv_at hl 3 rfl) ?_
            refine lv_ishl hx hb dX0_squeeze_35 ?_
            refine lv_ior hx hb dX0_squeeze_36 ?_
            refine lv_istore_n (lv' := [(2, .int (x2 ||| ((1 : Int32) <<< (x3 &&& 31)))), (0, .int x0), (1, .int x1), (3, .int x3), (4, .int x4)]) hx hb dX0_squeeze_37 rfl hl (by decide) rfl (fun ls hl => ?_)
            refine lv_iinc (v := (x3 + (1 : Int32))) (lv' := [(3, .int (x3 + (1 : Int32))), (2, .int (x2 ||| ((1 : Int32) <<< (x3 &&& 31)))), (0, .int x0), (1, .int x1), (4, .int x4)]) hx hb dX0_squeeze_38 hl (k := 3) rfl rfl (by decide) rfl (fun ls hl => ?_)
            refine lv_iinc (v := (x4 + (1 : Int32))) (lv' := [(4, .int (x4 + (1 : Int32))), (3, .int (x3 + (1 : Int32))), (2, .int (x2 ||| ((1 : Int32) <<< (x3 &&& 31)))), (0, .int x0), (1, .int x1)]) hx hb dX0_squeeze_41 hl (k := 4) rfl rfl (by decide) rfl (fun ls hl => ?_)
            refine lv_goto (tgt := 7) hx hb dX0_squeeze_44 (by decide) ?_
            exact ih _ _ _ h _ _ _ ⟨hP, hD, hS, lv_sub hl [3, 4, 2, 1, 0] rfl⟩
  refine lv_iconst (v := (0 : Int32)) hx hb dX0_squeeze_0 (by decide) ?_
  refine lv_istore_n (lv' := [(2, .int (0 : Int32)), (0, .int x0), (1, .int x1)]) hx hb dX0_squeeze_1 rfl hl (by decide) rfl (fun ls hl => ?_)
  refine lv_iconst (v := (0 : Int32)) hx hb dX0_squeeze_2 (by decide) ?_
  refine lv_istore_n (lv' := [(3, .int (0 : Int32)), (2, .int (0 : Int32)), (0, .int x0), (1, .int x1)]) hx hb dX0_squeeze_3 rfl hl (by decide) rfl (fun ls hl => ?_)
  refine lv_iconst (v := (0 : Int32)) hx hb dX0_squeeze_4 (by decide) ?_
  refine lv_istore (lv' := [(4, .int (0 : Int32)), (3, .int (0 : Int32)), (2, .int (0 : Int32)), (0, .int x0), (1, .int x1)]) hx hb dX0_squeeze_5 hl (by decide) rfl (fun ls hl => ?_)
  obtain ⟨j, h⟩ := h
  exact b_7  j _ _ _ h _ _ _ ⟨hP, hD, hS, lv_sub hl [3, 4, 2, 1, 0] rfl⟩
abbrev rm_X0_narrow : Room := { frames := 3, cells := 0, slots := 0, locals := 64 }
def wp_X0_narrow_b12 (x1 : Int32) (Q : Int32 → Int32 → Int32 → (Nat → Int32) → (Nat → UInt64) → (Nat → Int32) → (Nat → Int32) → Prop)  : Nat → Int32 → Int32 → Int32 → Int32 → Int32 → (Nat → Int32) → (Nat → UInt64) → (Nat → Int32) → (Nat → Int32) → Prop
  | 0, _, _, _, _, _, _, _, _, _ => False
  | n + 1, x2, x3, c_points, c_count, c_ed, c_sets, c_scores, c_rated, c_hold => ((x2 ≤ x3) → wp_J6_bitCount_0f7a4 x1 (fun (r_1 : Int32) => wp_X0_reindex r_1 c_count c_ed c_sets c_hold (fun (c_ed_2 : Int32) (c_hold_3 : Nat → Int32) => Q r_1 c_count c_ed_2 c_sets c_scores c_rated c_hold_3))) ∧ ((¬ x2 ≤ x3) → vp_in x3 20 ∧ wp_X0_squeeze (c_sets x3.toNatClampNeg) x1 (fun (r_4 : Int32) => wp_X0_find r_4 c_count c_sets (fun (r_5 : Int32) => ((¬ r_5 = (-6 : Int32)) → wp_X0_narrow_b12 x1 Q n x2 (x3 + (1 : Int32)) c_points c_count c_ed c_sets c_scores c_rated c_hold) ∧ ((r_5 = (-6 : Int32)) → wp_X0_move x3 c_count r_4 c_sets c_scores c_rated (fun (c_sets_6 : Nat → Int32) (c_scores_7 : Nat → UInt64) (c_rated_8 : Nat → Int32) => wp_X0_narrow_b12 x1 Q n x2 (x3 + (1 : Int32)) c_points (c_count + (1 : Int32)) c_ed c_sets_6 c_scores_7 c_rated_8 c_hold)))))
def wp_X0_narrow (x1 : Int32) (c_points : Int32) (c_count : Int32) (c_ed : Int32) (c_sets : Nat → Int32) (c_scores : Nat → UInt64) (c_rated : Nat → Int32) (c_hold : Nat → Int32) (Q : Int32 → Int32 → Int32 → (Nat → Int32) → (Nat → UInt64) → (Nat → Int32) → (Nat → Int32) → Prop) : Prop := ∃ j12, wp_X0_narrow_b12 x1 Q j12 c_count (0 : Int32) c_points (0 : Int32) c_ed c_sets c_scores c_rated c_hold
set_option maxRecDepth 100000 in
set_option maxHeartbeats 4000000 in
theorem c_X0_narrow (l : Launch) (G : va_G) (cI cD cZ cJ cO : ClassId) (c_a c_as c_ad c_ar c_ah : Nat) (c_points : Int32) (c_count : Int32) (c_ed : Int32) (c_sets : Nat → Int32) (c_scores : Nat → UInt64) (c_rated : Nat → Int32) (c_hold : Nat → Int32) (x1 : Int32) (Q : Int32 → Int32 → Int32 → (Nat → Int32) → (Nat → UInt64) → (Nat → Int32) → (Nat → Int32) → Prop) (h : wp_X0_narrow x1 c_points c_count c_ed c_sets c_scores c_rated c_hold Q) : CtV l yX0_narrow wsX0_narrow rm_X0_narrow G (TY cI cD cZ cJ cO) [.ref c_a, .int x1] [oX0 c_a c_points c_count c_as c_ad c_ar c_ah c_ed, aI cI c_as 20 c_sets, aD cD c_ad 20 c_scores, aZ cZ c_ar 20 c_rated, aI cI c_ah 8 c_hold] (fun (u : Int32 × Int32 × Int32 × (Nat → Int32) × (Nat → UInt64) × (Nat → Int32) × (Nat → Int32)) => Q u.1 u.2.1 u.2.2.1 u.2.2.2.1 u.2.2.2.2.1 u.2.2.2.2.2.1 u.2.2.2.2.2.2) (fun (u : Int32 × Int32 × Int32 × (Nat → Int32) × (Nat → UInt64) × (Nat → Int32) × (Nat → Int32)) => [oX0 c_a u.1 u.2.1 c_as c_ad c_ar c_ah u.2.2.1, aI cI c_as 20 u.2.2.2.1, aD cD c_ad 20 u.2.2.2.2.1, aZ cZ c_ar 20 u.2.2.2.2.2.1, aI cI c_ah 8 u.2.2.2.2.2.2]) := by
  refine ct_openV (cc := cX0_narrow) (maxL := 5) (by decide) rfl (Nat.le_of_ble_eq_true rfl) ?_
  intro p e s m args below meth c A Z ls hx hb hml hown hts hK hA hret hP hD hS hl
  have hown : s.vm.findClass RX0 = some m.cls := hown
  have hl : lv_has ls 5 [(0, .ref c_a), (1, .int x1)] := hl
  have f_15 := hts (.fieldLink RX0 15 "TeachingSets$Concepts" "count" "I") (List.mem_of_getElem? (i := 1) rfl)
  have f_9 := hts (.fieldLink RX0 9 "TeachingSets$Concepts" "points" "I") (List.mem_of_getElem? (i := 3) rfl)
  have f_18 := hts (.fieldLink RX0 18 "TeachingSets$Concepts" "sets" "[I") (List.mem_of_getElem? (i := 2) rfl)
  have i_X0 : ∀ w ∈ wsX00, w ∈ wsX0_narrow := fun _ h => List.mem_cons_of_mem _ (List.mem_append_right _ (h))
  have b_12 : ∀ (n : Nat) (x2 : Int32) (x3 : Int32) (c_points : Int32) (c_count : Int32) (c_ed : Int32) (c_sets : Nat → Int32) (c_scores : Nat → UInt64) (c_rated : Nat → Int32) (c_hold : Nat → Int32), wp_X0_narrow_b12 x1 Q n x2 x3 c_points c_count c_ed c_sets c_scores c_rated c_hold → ∀ (H : Heap) (locs : List Loc) (ls : Array Slot), ST G A s.heap [oX0 c_a c_points c_count c_as c_ad c_ar c_ah c_ed, aI cI c_as 20 c_sets, aD cD c_ad 20 c_scores, aZ cZ c_ar 20 c_rated, aI cI c_ah 8 c_hold] 5 [(0, .ref c_a), (1, .int x1), (2, .int x2), (3, .int x3)] H locs ls → W p l e rm_X0_narrow s m args below meth c H locs 0 0 Z (F0 m 12 ls []) := by
    intro n
    induction n with
    | zero =>
      intro x2 x3 c_points c_count c_ed c_sets c_scores c_rated c_hold h; exact False.elim h
    | succ n ih =>
      intro x2 x3 c_points c_count c_ed c_sets c_scores c_rated c_hold h H locs ls hst
      obtain ⟨hP, hD, hS, hl⟩ := hst
      refine lv_iload_n hx hb dX0_narrow_12 rfl (lv_at hl 3 rfl) ?_
      refine lv_iload_n hx hb dX0_narrow_13 rfl (lv_at hl 2 rfl) ?_
      obtain ⟨ha, hf⟩ := h
      refine lv_icmp_ge (tgt := 67) hx hb dX0_narrow_14 (by decide) (fun hc => ?_) (fun hc => ?_)
      · have h := ha hc
        clear ha hf
        refine lv_aload_n hx hb dX0_narrow_67 rfl (lv_at hl 0 rfl) ?_
        refine lv_iload_n hx hb dX0_narrow_68 rfl (lv_at hl 1 rfl) ?_
        refine k_Si (wr := [oX0 c_a c_points c_count c_as c_ad c_ar c_ah c_ed, aI cI c_as 20 c_sets, aD cD c_ad 20 c_scores, aZ cZ c_ar 20 c_rated, aI cI c_ah 8 c_hold]) (wf := (fun (u : Unit) => [oX0 c_a c_points c_count c_as c_ad c_ar c_ah c_ed, aI cI c_as 20 c_sets, aD cD c_ad 20 c_scores, aZ cZ c_ar 20 c_rated, aI cI c_ah 8 c_hold])) (As := [.int x1]) (rest := [.ref c_a]) ⟨hx, hb, hml, hown, hts⟩ hK hP hD hS hA (c_J6_bitCount_0f7a4 l G cI cD cZ cJ cO x1 _ h) (va_cwS 1 hts gX0_narrow_J6_bitCount_0f7a4 rfl rfl rfl (by decide +kernel) ⟨Nat.le_of_ble_eq_true rfl, Nat.le_of_ble_eq_true rfl⟩) [] [0, 1, 2, 3, 4] [0, 1, 2, 3, 4] rfl rfl rfl (fun _ => rfl) rfl rfl hl.1 (Nat.le_of_ble_eq_true rfl) ⟨Nat.zero_le _, Nat.zero_le _⟩ dX0_narrow_69 (fun r_1 u H locs h hP hD hS => ?_)
        have hP : va_P G vwCl [oX0 c_a c_points c_count c_as c_ad c_ar c_ah c_ed, aI cI c_as 20 c_sets, aD cD c_ad 20 c_scores, aZ cZ c_ar 20 c_rated, aI cI c_ah 8 c_hold] H := hP
        have hD : va_D A [oX0 c_a c_points c_count c_as c_ad c_ar c_ah c_ed, aI cI c_as 20 c_sets, aD cD c_ad 20 c_scores, aZ cZ c_ar 20 c_rated, aI cI c_ah 8 c_hold] := hD
        refine va_put (D := G) (ci := 0) (v := .int r_1) (ty := .int) (C := RX0) (T := TX0) (N := 7) hx hb hts i_X0 tyX0 tyX0_ok nmX0 hown hK.1 hP hD hS 0 rfl rfl 0 (by decide) f_9 (fun _ h9 => h9) rfl (tyX0_ok 0 (by decide)) rfl rfl (Nat.le_of_ble_eq_true rfl) dX0_narrow_72 (fun H locs hP hD hS => ?_)
        have hP : va_P G vwCl [oX0 c_a r_1 c_count c_as c_ad c_ar c_ah c_ed, aI cI c_as 20 c_sets, aD cD c_ad 20 c_scores, aZ cZ c_ar 20 c_rated, aI cI c_ah 8 c_hold] H := hP
        have hD : va_D A [oX0 c_a r_1 c_count c_as c_ad c_ar c_ah c_ed, aI cI c_as 20 c_sets, aD cD c_ad 20 c_scores, aZ cZ c_ar 20 c_rated, aI cI c_ah 8 c_hold] := hD
        refine lv_aload_n hx hb dX0_narrow_75 rfl (lv_at hl 0 rfl) ?_
        refine k_Vv (wr := []) (wf := (fun (u : Int32 × (Nat → Int32)) => [oX0 c_a r_1 c_count c_as c_ad c_ar c_ah u.1, aI cI c_as 20 c_sets, aD cD c_ad 20 c_scores, aZ cZ c_ar 20 c_rated, aI cI c_ah 8 u.2])) (As := []) (rest := []) ⟨hx, hb, hml, hown, hts⟩ hK hP hD hS hA (c_X0_reindex l G cI cD cZ cJ cO c_a c_as c_ad c_ar c_ah r_1 c_count c_ed c_sets c_scores c_rated c_hold _ h) (cwV 0 hts gX0_narrow_X0_reindex rfl rfl rfl (by decide +kernel) ⟨Nat.le_of_ble_eq_true rfl, Nat.le_of_ble_eq_true rfl⟩) 0 rfl rfl [0, 1, 2, 3, 4] [] [0, 1, 2, 3, 4] rfl rfl rfl (fun _ => rfl) rfl rfl hl.1 (Nat.le_of_ble_eq_true rfl) ⟨Nat.zero_le _, Nat.zero_le _⟩ dX0_narrow_76 (fun u H locs h hP hD hS => ?_)
        obtain ⟨c_ed_2, c_hold_3⟩ := u
        have hP : va_P G vwCl [oX0 c_a r_1 c_count c_as c_ad c_ar c_ah c_ed_2, aI cI c_as 20 c_sets, aD cD c_ad 20 c_scores, aZ cZ c_ar 20 c_rated, aI cI c_ah 8 c_hold_3] H := hP
        have hD : va_D A [oX0 c_a r_1 c_count c_as c_ad c_ar c_ah c_ed_2, aI cI c_as 20 c_sets, aD cD c_ad 20 c_scores, aZ cZ c_ar 20 c_rated, aI cI c_ah 8 c_hold_3] := hD
        exact hret (r_1, c_count, c_ed_2, c_sets, c_scores, c_rated, c_hold_3) _ _ _ _ h hP hD hS dX0_narrow_79
      · have h := hf hc
        clear ha hf
        refine lv_aload_n hx hb dX0_narrow_17 rfl (lv_at hl 0 rfl) ?_
        refine va_get (D := G) (ci := 0) (v := .ref c_as) (C := RX0) (T := TX0) (N := 7) hx hb hts i_X0 hown hK.1 hP 0 rfl rfl 2 (by decide) f_18 (fun _ h9 => h9) rfl dX0_narrow_18 ?_
        refine lv_iload_n hx hb dX0_narrow_21 rfl (lv_at hl 3 rfl) ?_
        obtain ⟨hi, h⟩ := h
        refine va_iald hx hb hK.1 hP 1 0 rfl rfl hi dX0_narrow_22 ?_
        refine lv_iload_n hx hb dX0_narrow_23 rfl (lv_at hl 1 rfl) ?_
        refine k_Si (wr := [oX0 c_a c_points c_count c_as c_ad c_ar c_ah c_ed, aI cI c_as 20 c_sets, aD cD c_ad 20 c_scores, aZ cZ c_ar 20 c_rated, aI cI c_ah 8 c_hold]) (wf := (fun (u : Unit) => [oX0 c_a c_points c_count c_as c_ad c_ar c_ah c_ed, aI cI c_as 20 c_sets, aD cD c_ad 20 c_scores, aZ cZ c_ar 20 c_rated, aI cI c_ah 8 c_hold])) (As := [.int (c_sets x3.toNatClampNeg), .int x1]) (rest := []) ⟨hx, hb, hml, hown, hts⟩ hK hP hD hS hA (c_X0_squeeze l G cI cD cZ cJ cO (c_sets x3.toNatClampNeg) x1 _ h) (va_cwS 2 hts gX0_narrow_X0_squeeze rfl rfl rfl (by decide +kernel) ⟨Nat.le_of_ble_eq_true rfl, Nat.le_of_ble_eq_true rfl⟩) [] [0, 1, 2, 3, 4] [0, 1, 2, 3, 4] rfl rfl rfl (fun _ => rfl) rfl rfl hl.1 (Nat.le_of_ble_eq_true rfl) ⟨Nat.zero_le _, Nat.zero_le _⟩ dX0_narrow_24 (fun r_4 u H locs h hP hD hS => ?_)
        have hP : va_P G vwCl [oX0 c_a c_points c_count c_as c_ad c_ar c_ah c_ed, aI cI c_as 20 c_sets, aD cD c_ad 20 c_scores, aZ cZ c_ar 20 c_rated, aI cI c_ah 8 c_hold] H := hP
        have hD : va_D A [oX0 c_a c_points c_count c_as c_ad c_ar c_ah c_ed, aI cI c_as 20 c_sets, aD cD c_ad 20 c_scores, aZ cZ c_ar 20 c_rated, aI cI c_ah 8 c_hold] := hD
        refine lv_istore (lv' := [(4, .int r_4), (0, .ref c_a), (1, .int x1), (2, .int x2), (3, .int x3)]) hx hb dX0_narrow_27 hl (by decide) rfl (fun ls hl => ?_)
        refine lv_aload_n hx hb dX0_narrow_29 rfl (lv_at hl 1 rfl) ?_
        refine lv_iload hx hb dX0_narrow_30 (lv_at hl 0 rfl) ?_
        refine k_Vi (wr := []) (wf := (fun (u : Unit) => [oX0 c_a c_points c_count c_as c_ad c_ar c_ah c_ed, aI cI c_as 20 c_sets, aD cD c_ad 20 c_scores, aZ cZ c_ar 20 c_rated, aI cI c_ah 8 c_hold])) (As := [.int r_4]) (rest := []) ⟨hx, hb, hml, hown, hts⟩ hK hP hD hS hA (c_X0_find l G cI cD cZ cJ cO c_a c_as c_ad c_ar c_ah c_points c_count c_ed c_sets c_scores c_rated c_hold r_4 _ h) (cwV 1 hts gX0_narrow_X0_find rfl rfl rfl (by decide +kernel) ⟨Nat.le_of_ble_eq_true rfl, Nat.le_of_ble_eq_true rfl⟩) 0 rfl rfl [0, 1, 2, 3, 4] [] [0, 1, 2, 3, 4] rfl rfl rfl (fun _ => rfl) rfl rfl hl.1 (Nat.le_of_ble_eq_true rfl) ⟨Nat.zero_le _, Nat.zero_le _⟩ dX0_narrow_32 (fun r_5 u H locs h hP hD hS => ?_)
        have hP : va_P G vwCl [oX0 c_a c_points c_count c_as c_ad c_ar c_ah c_ed, aI cI c_as 20 c_sets, aD cD c_ad 20 c_scores, aZ cZ c_ar 20 c_rated, aI cI c_ah 8 c_hold] H := hP
        have hD : va_D A [oX0 c_a c_points c_count c_as c_ad c_ar c_ah c_ed, aI cI c_as 20 c_sets, aD cD c_ad 20 c_scores, aZ cZ c_ar 20 c_rated, aI cI c_ah 8 c_hold] := hD
        refine lv_bipush (v := (-6 : Int32)) hx hb dX0_narrow_35 (by decide) ?_
        obtain ⟨ha, hf⟩ := h
        refine lv_icmp_ne (tgt := 61) hx hb dX0_narrow_37 (by decide) (fun hc => ?_) (fun hc => ?_)
        · have h := ha hc
          clear ha hf
          refine lv_iinc (v := (x3 + (1 : Int32))) (lv' := [(3, .int (x3 + (1 : Int32))), (4, .int r_4), (0, .ref c_a), (1, .int x1), (2, .int x2)]) hx hb dX0_narrow_61 hl (k := 4) rfl rfl (by decide) rfl (fun ls hl => ?_)
          refine lv_goto (tgt := 12) hx hb dX0_narrow_64 (by decide) ?_
          exact ih _ _ _ _ _ _ _ _ _ h _ _ _ ⟨hP, hD, hS, lv_sub hl [2, 3, 4, 0] rfl⟩
        · have h := hf hc
          clear ha hf
          refine lv_aload_n hx hb dX0_narrow_40 rfl (lv_at hl 1 rfl) ?_
          refine lv_iload_n hx hb dX0_narrow_41 rfl (lv_at hl 4 rfl) ?_
          refine lv_aload_n hx hb dX0_narrow_42 rfl (lv_at hl 1 rfl) ?_
          refine va_get (D := G) (ci := 0) (v := .int c_count) (C := RX0) (T := TX0) (N := 7) hx hb hts i_X0 hown hK.1 hP 0 rfl rfl 1 (by decide) f_15 (fun _ h9 => h9) rfl dX0_narrow_43 ?_
          refine lv_iload hx hb dX0_narrow_46 (lv_at hl 0 rfl) ?_
          refine k_Vv (wr := []) (wf := (fun (u : (Nat → Int32) × (Nat → UInt64) × (Nat → Int32)) => [oX0 c_a c_points c_count c_as c_ad c_ar c_ah c_ed, aI cI c_as 20 u.1, aD cD c_ad 20 u.2.1, aZ cZ c_ar 20 u.2.2, aI cI c_ah 8 c_hold])) (As := [.int x3, .int c_count, .int r_4]) (rest := []) ⟨hx, hb, hml, hown, hts⟩ hK hP hD hS hA (c_X0_move l G cI cD cZ cJ cO c_a c_as c_ad c_ar c_ah c_points c_count c_ed c_sets c_scores c_rated c_hold x3 c_count r_4 _ h) (cwV 3 hts gX0_narrow_X0_move rfl rfl rfl (by decide +kernel) ⟨Nat.le_of_ble_eq_true rfl, Nat.le_of_ble_eq_true rfl⟩) 0 rfl rfl [0, 1, 2, 3, 4] [] [0, 1, 2, 3, 4] rfl rfl rfl (fun _ => rfl) rfl rfl hl.1 (Nat.le_of_ble_eq_true rfl) ⟨Nat.zero_le _, Nat.zero_le _⟩ dX0_narrow_48 (fun u H locs h hP hD hS => ?_)
          obtain ⟨c_sets_6, c_scores_7, c_rated_8⟩ := u
          have hP : va_P G vwCl [oX0 c_a c_points c_count c_as c_ad c_ar c_ah c_ed, aI cI c_as 20 c_sets_6, aD cD c_ad 20 c_scores_7, aZ cZ c_ar 20 c_rated_8, aI cI c_ah 8 c_hold] H := hP
          have hD : va_D A [oX0 c_a c_points c_count c_as c_ad c_ar c_ah c_ed, aI cI c_as 20 c_sets_6, aD cD c_ad 20 c_scores_7, aZ cZ c_ar 20 c_rated_8, aI cI c_ah 8 c_hold] := hD
          refine lv_aload_n hx hb dX0_narrow_51 rfl (lv_at hl 1 rfl) ?_
          refine lv_dup hx hb dX0_narrow_52 rfl ?_
          refine va_get (D := G) (ci := 0) (v := .int c_count) (C := RX0) (T := TX0) (N := 7) hx hb hts i_X0 hown hK.1 hP 0 rfl rfl 1 (by decide) f_15 (fun _ h9 => h9) rfl dX0_narrow_53 ?_
          refine lv_iconst (v := (1 : Int32)) hx hb dX0_narrow_56 (by decide) ?_
          refine lv_iadd hx hb dX0_narrow_57 ?_
          refine va_put (D := G) (ci := 0) (v := .int (c_count + (1 : Int32))) (ty := .int) (C := RX0) (T := TX0) (N := 7) hx hb hts i_X0 tyX0 tyX0_ok nmX0 hown hK.1 hP hD hS 0 rfl rfl 1 (by decide) f_15 (fun _ h9 => h9) rfl (tyX0_ok 1 (by decide)) rfl rfl (Nat.le_of_ble_eq_true rfl) dX0_narrow_58 (fun H locs hP hD hS => ?_)
          have hP : va_P G vwCl [oX0 c_a c_points (c_count + (1 : Int32)) c_as c_ad c_ar c_ah c_ed, aI cI c_as 20 c_sets_6, aD cD c_ad 20 c_scores_7, aZ cZ c_ar 20 c_rated_8, aI cI c_ah 8 c_hold] H := hP
          have hD : va_D A [oX0 c_a c_points (c_count + (1 : Int32)) c_as c_ad c_ar c_ah c_ed, aI cI c_as 20 c_sets_6, aD cD c_ad 20 c_scores_7, aZ cZ c_ar 20 c_rated_8, aI cI c_ah 8 c_hold] := hD
          refine lv_iinc (v := (x3 + (1 : Int32))) (lv' := [(3, .int (x3 + (1 : Int32))), (4, .int r_4), (0, .ref c_a), (1, .int x1), (2, .int x2)]) hx hb dX0_narrow_61 hl (k := 4) rfl rfl (by decide) rfl (fun ls hl => ?_)
          refine lv_goto (tgt := 12) hx hb dX0_narrow_64 (by decide) ?_
          exact ih _ _ _ _ _ _ _ _ _ h _ _ _ ⟨hP, hD, hS, lv_sub hl [2, 3, 4, 0] rfl⟩
  refine lv_aload_n hx hb dX0_narrow_0 rfl (lv_at hl 0 rfl) ?_
  refine va_get (D := G) (ci := 0) (v := .int c_count) (C := RX0) (T := TX0) (N := 7) hx hb hts i_X0 hown hK.1 hP 0 rfl rfl 1 (by decide) f_15 (fun _ h9 => h9) rfl dX0_narrow_1 ?_
  refine lv_istore_n (lv' := [(2, .int c_count), (0, .ref c_a), (1, .int x1)]) hx hb dX0_narrow_4 rfl hl (by decide) rfl (fun ls hl => ?_)
  refine lv_aload_n hx hb dX0_narrow_5 rfl (lv_at hl 1 rfl) ?_
  refine lv_iconst (v := (0 : Int32)) hx hb dX0_narrow_6 (by decide) ?_
  refine va_put (D := G) (ci := 0) (v := .int (0 : Int32)) (ty := .int) (C := RX0) (T := TX0) (N := 7) hx hb hts i_X0 tyX0 tyX0_ok nmX0 hown hK.1 hP hD hS 0 rfl rfl 1 (by decide) f_15 (fun _ h9 => h9) rfl (tyX0_ok 1 (by decide)) rfl rfl (Nat.le_of_ble_eq_true rfl) dX0_narrow_7 (fun H locs hP hD hS => ?_)
  have hP : va_P G vwCl [oX0 c_a c_points (0 : Int32) c_as c_ad c_ar c_ah c_ed, aI cI c_as 20 c_sets, aD cD c_ad 20 c_scores, aZ cZ c_ar 20 c_rated, aI cI c_ah 8 c_hold] H := hP
  have hD : va_D A [oX0 c_a c_points (0 : Int32) c_as c_ad c_ar c_ah c_ed, aI cI c_as 20 c_sets, aD cD c_ad 20 c_scores, aZ cZ c_ar 20 c_rated, aI cI c_ah 8 c_hold] := hD
  refine lv_iconst (v := (0 : Int32)) hx hb dX0_narrow_10 (by decide) ?_
  refine lv_istore_n (lv' := [(3, .int (0 : Int32)), (2, .int c_count), (0, .ref c_a), (1, .int x1)]) hx hb dX0_narrow_11 rfl hl (by decide) rfl (fun ls hl => ?_)
  obtain ⟨j, h⟩ := h
  exact b_12  j _ _ _ _ _ _ _ _ _ h _ _ _ ⟨hP, hD, hS, lv_sub hl [2, 3, 1, 0] rfl⟩
abbrev rm_X0_rate : Room := { frames := 0, cells := 0, slots := 0, locals := 0 }
def wp_X0_rate_b25 (x1 : Int32) (x2 : UInt64) (Q : Int32 → (Nat → UInt64) → (Nat → Int32) → Prop)  (t0 : Int32) (c_scores : Nat → UInt64) (c_rated : Nat → Int32) : Prop := vp_in x1 20 ∧ vp_in x1 20 ∧ (narrow .boolean (.int t0) = .int t0) ∧ Q t0 (vf_upd c_scores x1.toNatClampNeg x2) (upd c_rated x1.toNatClampNeg (vp_nar .boolean (1 : Int32)))
def wp_X0_rate_b24 (x1 : Int32) (x2 : UInt64) (Q : Int32 → (Nat → UInt64) → (Nat → Int32) → Prop)  (c_scores : Nat → UInt64) (c_rated : Nat → Int32) : Prop := wp_X0_rate_b25 x1 x2 Q (0 : Int32) c_scores c_rated
def wp_X0_rate (x1 : Int32) (x2 : UInt64) (c_scores : Nat → UInt64) (c_rated : Nat → Int32) (Q : Int32 → (Nat → UInt64) → (Nat → Int32) → Prop) : Prop := vp_in x1 20 ∧ (((c_rated x1.toNatClampNeg) = 0) → wp_X0_rate_b24 x1 x2 Q c_scores c_rated) ∧ ((¬ (c_rated x1.toNatClampNeg) = 0) → vp_in x1 20 ∧ ((¬ (Op.cmpValue (FP.dcmp (c_scores x1.toNatClampNeg) x2) .l) = 0) → wp_X0_rate_b24 x1 x2 Q c_scores c_rated) ∧ (((Op.cmpValue (FP.dcmp (c_scores x1.toNatClampNeg) x2) .l) = 0) → wp_X0_rate_b25 x1 x2 Q (1 : Int32) c_scores c_rated))
set_option maxRecDepth 100000 in
set_option maxHeartbeats 4000000 in
theorem c_X0_rate (l : Launch) (G : va_G) (cI cD cZ cJ cO : ClassId) (c_a c_as c_ad c_ar c_ah : Nat) (c_points : Int32) (c_count : Int32) (c_ed : Int32) (c_sets : Nat → Int32) (c_scores : Nat → UInt64) (c_rated : Nat → Int32) (c_hold : Nat → Int32) (x1 : Int32) (x2 : UInt64) (Q : Int32 → (Nat → UInt64) → (Nat → Int32) → Prop) (h : wp_X0_rate x1 x2 c_scores c_rated Q) : CtI l yX0_rate wsX0_rate rm_X0_rate G (TY cI cD cZ cJ cO) [.ref c_a, .int x1, .double x2] [oX0 c_a c_points c_count c_as c_ad c_ar c_ah c_ed, aI cI c_as 20 c_sets, aD cD c_ad 20 c_scores, aZ cZ c_ar 20 c_rated, aI cI c_ah 8 c_hold] (fun (r : Int32) (u : (Nat → UInt64) × (Nat → Int32)) => Q r u.1 u.2) (fun (u : (Nat → UInt64) × (Nat → Int32)) => [oX0 c_a c_points c_count c_as c_ad c_ar c_ah c_ed, aI cI c_as 20 c_sets, aD cD c_ad 20 u.1, aZ cZ c_ar 20 u.2, aI cI c_ah 8 c_hold]) := by
  refine ct_openI (cc := cX0_rate) (maxL := 5) (ty := .boolean) (by decide) rfl (Nat.le_of_ble_eq_true rfl) ?_
  intro p e s m args below meth c A Z ls hx hb hml hown hts hK hA hret hP hD hS hl
  have hown : s.vm.findClass RX0 = some m.cls := hown
  have hl : lv_has ls 5 [(0, .ref c_a), (1, .int x1), (2, .double x2)] := hl
  have f_26 := hts (.fieldLink RX0 26 "TeachingSets$Concepts" "rated" "[Z") (List.mem_of_getElem? (i := 1) rfl)
  have f_22 := hts (.fieldLink RX0 22 "TeachingSets$Concepts" "scores" "[D") (List.mem_of_getElem? (i := 2) rfl)
  have i_X0 : ∀ w ∈ wsX00, w ∈ wsX0_rate := fun _ h => List.mem_cons_of_mem _ (List.mem_append_right _ (h))
  have b_25 : ∀ (t0 : Int32) (c_scores : Nat → UInt64) (c_rated : Nat → Int32), wp_X0_rate_b25 x1 x2 Q t0 c_scores c_rated → ∀ (H : Heap) (locs : List Loc) (ls : Array Slot), ST G A s.heap [oX0 c_a c_points c_count c_as c_ad c_ar c_ah c_ed, aI cI c_as 20 c_sets, aD cD c_ad 20 c_scores, aZ cZ c_ar 20 c_rated, aI cI c_ah 8 c_hold] 5 [(0, .ref c_a), (1, .int x1), (2, .double x2)] H locs ls → W p l e rm_X0_rate s m args below meth c H locs 0 0 Z (F0 m 25 ls [.int t0]) := by
    intro t0 c_scores c_rated h H locs ls hst
    obtain ⟨hP, hD, hS, hl⟩ := hst
    refine lv_istore (lv' := [(4, .int t0), (0, .ref c_a), (1, .int x1), (2, .double x2)]) hx hb dX0_rate_25 hl (by decide) rfl (fun ls hl => ?_)
    refine lv_aload_n hx hb dX0_rate_27 rfl (lv_at hl 1 rfl) ?_
    refine va_get (D := G) (ci := 0) (v := .ref c_ar) (C := RX0) (T := TX0) (N := 7) hx hb hts i_X0 hown hK.1 hP 0 rfl rfl 4 (by decide) f_26 (fun _ h9 => h9) rfl dX0_rate_28 ?_
    refine lv_iload_n hx hb dX0_rate_31 rfl (lv_at hl 2 rfl) ?_
    refine lv_iconst (v := (1 : Int32)) hx hb dX0_rate_32 (by decide) ?_
    obtain ⟨hi, h⟩ := h
    refine va_zast hx hb hK.1 hP hD hS 3 2 rfl rfl hi dX0_rate_33 (fun H locs hP hD hS => ?_)
    have hP : va_P G vwCl [oX0 c_a c_points c_count c_as c_ad c_ar c_ah c_ed, aI cI c_as 20 c_sets, aD cD c_ad 20 c_scores, aZ cZ c_ar 20 (upd c_rated x1.toNatClampNeg (vp_nar .boolean (1 : Int32))), aI cI c_ah 8 c_hold] H := hP
    have hD : va_D A [oX0 c_a c_points c_count c_as c_ad c_ar c_ah c_ed, aI cI c_as 20 c_sets, aD cD c_ad 20 c_scores, aZ cZ c_ar 20 (upd c_rated x1.toNatClampNeg (vp_nar .boolean (1 : Int32))), aI cI c_ah 8 c_hold] := hD
    refine lv_aload_n hx hb dX0_rate_34 rfl (lv_at hl 1 rfl) ?_
    refine va_get (D := G) (ci := 0) (v := .ref c_ad) (C := RX0) (T := TX0) (N := 7) hx hb hts i_X0 hown hK.1 hP 0 rfl rfl 3 (by decide) f_22 (fun _ h9 => h9) rfl dX0_rate_35 ?_
    refine lv_iload_n hx hb dX0_rate_38 rfl (lv_at hl 2 rfl) ?_
    refine lv_dload_n hx hb dX0_rate_39 rfl (lv_at hl 3 rfl) ?_
    obtain ⟨hi, h⟩ := h
    refine va_dast hx hb hK.1 hP hD hS 2 1 rfl rfl hi dX0_rate_40 (fun H locs hP hD hS => ?_)
    have hP : va_P G vwCl [oX0 c_a c_points c_count c_as c_ad c_ar c_ah c_ed, aI cI c_as 20 c_sets, aD cD c_ad 20 (vf_upd c_scores x1.toNatClampNeg x2), aZ cZ c_ar 20 (upd c_rated x1.toNatClampNeg (vp_nar .boolean (1 : Int32))), aI cI c_ah 8 c_hold] H := hP
    have hD : va_D A [oX0 c_a c_points c_count c_as c_ad c_ar c_ah c_ed, aI cI c_as 20 c_sets, aD cD c_ad 20 (vf_upd c_scores x1.toNatClampNeg x2), aZ cZ c_ar 20 (upd c_rated x1.toNatClampNeg (vp_nar .boolean (1 : Int32))), aI cI c_ah 8 c_hold] := hD
    refine lv_iload hx hb dX0_rate_41 (lv_at hl 0 rfl) ?_
    obtain ⟨hnr, h⟩ := h
    exact hret _ ((vf_upd c_scores x1.toNatClampNeg x2), (upd c_rated x1.toNatClampNeg (vp_nar .boolean (1 : Int32)))) _ _ _ _ hnr h hP hD hS dX0_rate_43
  have b_24 : ∀ (c_scores : Nat → UInt64) (c_rated : Nat → Int32), wp_X0_rate_b24 x1 x2 Q c_scores c_rated → ∀ (H : Heap) (locs : List Loc) (ls : Array Slot), ST G A s.heap [oX0 c_a c_points c_count c_as c_ad c_ar c_ah c_ed, aI cI c_as 20 c_sets, aD cD c_ad 20 c_scores, aZ cZ c_ar 20 c_rated, aI cI c_ah 8 c_hold] 5 [(0, .ref c_a), (1, .int x1), (2, .double x2)] H locs ls → W p l e rm_X0_rate s m args below meth c H locs 0 0 Z (F0 m 24 ls []) := by
    intro c_scores c_rated h H locs ls hst
    obtain ⟨hP, hD, hS, hl⟩ := hst
    refine lv_iconst (v := (0 : Int32)) hx hb dX0_rate_24 (by decide) ?_
    exact b_25  _ _ _ h _ _ _ ⟨hP, hD, hS, lv_sub hl [0, 1, 2] rfl⟩
  refine lv_aload_n hx hb dX0_rate_0 rfl (lv_at hl 0 rfl) ?_
  refine va_get (D := G) (ci := 0) (v := .ref c_ar) (C := RX0) (T := TX0) (N := 7) hx hb hts i_X0 hown hK.1 hP 0 rfl rfl 4 (by decide) f_26 (fun _ h9 => h9) rfl dX0_rate_1 ?_
  refine lv_iload_n hx hb dX0_rate_4 rfl (lv_at hl 1 rfl) ?_
  obtain ⟨hi, h⟩ := h
  refine va_zald hx hb hK.1 hP 3 2 rfl rfl hi dX0_rate_5 ?_
  obtain ⟨ha, hf⟩ := h
  refine lv_if_eq (tgt := 24) hx hb dX0_rate_6 (by decide) (fun hc => ?_) (fun hc => ?_)
  · have h := ha hc
    clear ha hf
    exact b_24  _ _ h _ _ _ ⟨hP, hD, hS, lv_sub hl [0, 1, 2] rfl⟩
  · have h := hf hc
    clear ha hf
    refine lv_aload_n hx hb dX0_rate_9 rfl (lv_at hl 0 rfl) ?_
    refine va_get (D := G) (ci := 0) (v := .ref c_ad) (C := RX0) (T := TX0) (N := 7) hx hb hts i_X0 hown hK.1 hP 0 rfl rfl 3 (by decide) f_22 (fun _ h9 => h9) rfl dX0_rate_10 ?_
    refine lv_iload_n hx hb dX0_rate_13 rfl (lv_at hl 1 rfl) ?_
    obtain ⟨hi, h⟩ := h
    refine va_dald hx hb hK.1 hP 2 1 rfl rfl hi dX0_rate_14 ?_
    refine lv_dload_n hx hb dX0_rate_15 rfl (lv_at hl 2 rfl) ?_
    refine lv_dcmp hx hb dX0_rate_16 ?_
    obtain ⟨ha, hf⟩ := h
    refine lv_if_ne (tgt := 24) hx hb dX0_rate_17 (by decide) (fun hc => ?_) (fun hc => ?_)
    · have h := ha hc
      clear ha hf
      exact b_24  _ _ h _ _ _ ⟨hP, hD, hS, lv_sub hl [0, 1, 2] rfl⟩
    · have h := hf hc
      clear ha hf
      refine lv_iconst (v := (1 : Int32)) hx hb dX0_rate_20 (by decide) ?_
      refine lv_goto (tgt := 25) hx hb dX0_rate_21 (by decide) ?_
      exact b_25  _ _ _ h _ _ _ ⟨hP, hD, hS, lv_sub hl [0, 1, 2] rfl⟩
abbrev rm_X0_take : Room := { frames := 3, cells := 0, slots := 0, locals := 64 }
def wp_X0_take_b18 (d_points : Int32) (d_count : Int32) (d_sets : Nat → Int32) (d_scores : Nat → UInt64) (d_rated : Nat → Int32) (Q : Int32 → Int32 → Int32 → (Nat → Int32) → (Nat → UInt64) → (Nat → Int32) → (Nat → Int32) → Prop)  : Nat → Int32 → Int32 → Int32 → Int32 → (Nat → Int32) → (Nat → UInt64) → (Nat → Int32) → (Nat → Int32) → Prop
  | 0, _, _, _, _, _, _, _, _ => False
  | n + 1, x2, c_points, c_count, c_ed, c_sets, c_scores, c_rated, c_hold => ((c_count ≤ x2) → wp_X0_reindex c_points c_count c_ed c_sets c_hold (fun (c_ed_1 : Int32) (c_hold_2 : Nat → Int32) => Q c_points c_count c_ed_1 c_sets c_scores c_rated c_hold_2)) ∧ ((¬ c_count ≤ x2) → vp_in x2 20 ∧ vp_in x2 20 ∧ vp_in x2 20 ∧ vp_in x2 20 ∧ vp_in x2 20 ∧ vp_in x2 20 ∧ wp_X0_take_b18 d_points d_count d_sets d_scores d_rated Q n (x2 + (1 : Int32)) c_points c_count c_ed (upd c_sets x2.toNatClampNeg (d_sets x2.toNatClampNeg)) (vf_upd c_scores x2.toNatClampNeg (d_scores x2.toNatClampNeg)) (upd c_rated x2.toNatClampNeg (vp_nar .boolean (d_rated x2.toNatClampNeg))) c_hold)
def wp_X0_take (c_points : Int32) (c_count : Int32) (c_ed : Int32) (c_sets : Nat → Int32) (c_scores : Nat → UInt64) (c_rated : Nat → Int32) (c_hold : Nat → Int32) (d_points : Int32) (d_count : Int32) (d_sets : Nat → Int32) (d_scores : Nat → UInt64) (d_rated : Nat → Int32) (Q : Int32 → Int32 → Int32 → (Nat → Int32) → (Nat → UInt64) → (Nat → Int32) → (Nat → Int32) → Prop) : Prop := ∃ j18, wp_X0_take_b18 d_points d_count d_sets d_scores d_rated Q j18 (0 : Int32) d_points d_count c_ed c_sets c_scores c_rated c_hold
set_option maxRecDepth 100000 in
set_option maxHeartbeats 4000000 in
theorem c_X0_take (l : Launch) (G : va_G) (cI cD cZ cJ cO : ClassId) (c_a c_as c_ad c_ar c_ah d_a d_as d_ad d_ar d_ah : Nat) (c_points : Int32) (c_count : Int32) (c_ed : Int32) (c_sets : Nat → Int32) (c_scores : Nat → UInt64) (c_rated : Nat → Int32) (c_hold : Nat → Int32) (d_points : Int32) (d_count : Int32) (d_ed : Int32) (d_sets : Nat → Int32) (d_scores : Nat → UInt64) (d_rated : Nat → Int32) (d_hold : Nat → Int32) (Q : Int32 → Int32 → Int32 → (Nat → Int32) → (Nat → UInt64) → (Nat → Int32) → (Nat → Int32) → Prop) (h : wp_X0_take c_points c_count c_ed c_sets c_scores c_rated c_hold d_points d_count d_sets d_scores d_rated Q) : CtV l yX0_take wsX0_take rm_X0_take G (TY cI cD cZ cJ cO) [.ref c_a, .ref d_a] [oX0 c_a c_points c_count c_as c_ad c_ar c_ah c_ed, aI cI c_as 20 c_sets, aD cD c_ad 20 c_scores, aZ cZ c_ar 20 c_rated, aI cI c_ah 8 c_hold, oX0 d_a d_points d_count d_as d_ad d_ar d_ah d_ed, aI cI d_as 20 d_sets, aD cD d_ad 20 d_scores, aZ cZ d_ar 20 d_rated, aI cI d_ah 8 d_hold] (fun (u : Int32 × Int32 × Int32 × (Nat → Int32) × (Nat → UInt64) × (Nat → Int32) × (Nat → Int32)) => Q u.1 u.2.1 u.2.2.1 u.2.2.2.1 u.2.2.2.2.1 u.2.2.2.2.2.1 u.2.2.2.2.2.2) (fun (u : Int32 × Int32 × Int32 × (Nat → Int32) × (Nat → UInt64) × (Nat → Int32) × (Nat → Int32)) => [oX0 c_a u.1 u.2.1 c_as c_ad c_ar c_ah u.2.2.1, aI cI c_as 20 u.2.2.2.1, aD cD c_ad 20 u.2.2.2.2.1, aZ cZ c_ar 20 u.2.2.2.2.2.1, aI cI c_ah 8 u.2.2.2.2.2.2, oX0 d_a d_points d_count d_as d_ad d_ar d_ah d_ed, aI cI d_as 20 d_sets, aD cD d_ad 20 d_scores, aZ cZ d_ar 20 d_rated, aI cI d_ah 8 d_hold]) := by
  refine ct_openV (cc := cX0_take) (maxL := 3) (by decide) rfl (Nat.le_of_ble_eq_true rfl) ?_
  intro p e s m args below meth c A Z ls hx hb hml hown hts hK hA hret hP hD hS hl
  have hown : s.vm.findClass RX0 = some m.cls := hown
  have hl : lv_has ls 3 [(0, .ref c_a), (1, .ref d_a)] := hl
  have f_9 := hts (.fieldLink RX0 9 "TeachingSets$Concepts" "points" "I") (List.mem_of_getElem? (i := 1) rfl)
  have f_15 := hts (.fieldLink RX0 15 "TeachingSets$Concepts" "count" "I") (List.mem_of_getElem? (i := 2) rfl)
  have f_18 := hts (.fieldLink RX0 18 "TeachingSets$Concepts" "sets" "[I") (List.mem_of_getElem? (i := 3) rfl)
  have f_22 := hts (.fieldLink RX0 22 "TeachingSets$Concepts" "scores" "[D") (List.mem_of_getElem? (i := 4) rfl)
  have f_26 := hts (.fieldLink RX0 26 "TeachingSets$Concepts" "rated" "[Z") (List.mem_of_getElem? (i := 5) rfl)
  have i_X0 : ∀ w ∈ wsX00, w ∈ wsX0_take := fun _ h => List.mem_cons_of_mem _ (List.mem_append_right _ (h))
  have b_18 : ∀ (n : Nat) (x2 : Int32) (c_points : Int32) (c_count : Int32) (c_ed : Int32) (c_sets : Nat → Int32) (c_scores : Nat → UInt64) (c_rated : Nat → Int32) (c_hold : Nat → Int32), wp_X0_take_b18 d_points d_count d_sets d_scores d_rated Q n x2 c_points c_count c_ed c_sets c_scores c_rated c_hold → ∀ (H : Heap) (locs : List Loc) (ls : Array Slot), ST G A s.heap [oX0 c_a c_points c_count c_as c_ad c_ar c_ah c_ed, aI cI c_as 20 c_sets, aD cD c_ad 20 c_scores, aZ cZ c_ar 20 c_rated, aI cI c_ah 8 c_hold, oX0 d_a d_points d_count d_as d_ad d_ar d_ah d_ed, aI cI d_as 20 d_sets, aD cD d_ad 20 d_scores, aZ cZ d_ar 20 d_rated, aI cI d_ah 8 d_hold] 3 [(0, .ref c_a), (1, .ref d_a), (2, .int x2)] H locs ls → W p l e rm_X0_take s m args below meth c H locs 0 0 Z (F0 m 18 ls []) := by
    intro n
    induction n with
    | zero =>
      intro x2 c_points c_count c_ed c_sets c_scores c_rated c_hold h; exact False.elim h
    | succ n ih =>
      intro x2 c_points c_count c_ed c_sets c_scores c_rated c_hold h H locs ls hst
      obtain ⟨hP, hD, hS, hl⟩ := hst
      refine lv_iload_n hx hb dX0_take_18 rfl (lv_at hl 2 rfl) ?_
      refine lv_aload_n hx hb dX0_take_19 rfl (lv_at hl 0 rfl) ?_
      refine va_get (D := G) (ci := 0) (v := .int c_count) (C := RX0) (T := TX0) (N := 7) hx hb hts i_X0 hown hK.1 hP 0 rfl rfl 1 (by decide) f_15 (fun _ h9 => h9) rfl dX0_take_20 ?_
      obtain ⟨ha, hf⟩ := h
      refine lv_icmp_ge (tgt := 68) hx hb dX0_take_23 (by decide) (fun hc => ?_) (fun hc => ?_)
      · have h := ha hc
        clear ha hf
        refine lv_aload_n hx hb dX0_take_68 rfl (lv_at hl 0 rfl) ?_
        refine k_Vv (wr := [oX0 d_a d_points d_count d_as d_ad d_ar d_ah d_ed, aI cI d_as 20 d_sets, aD cD d_ad 20 d_scores, aZ cZ d_ar 20 d_rated, aI cI d_ah 8 d_hold]) (wf := (fun (u : Int32 × (Nat → Int32)) => [oX0 c_a c_points c_count c_as c_ad c_ar c_ah u.1, aI cI c_as 20 c_sets, aD cD c_ad 20 c_scores, aZ cZ c_ar 20 c_rated, aI cI c_ah 8 u.2, oX0 d_a d_points d_count d_as d_ad d_ar d_ah d_ed, aI cI d_as 20 d_sets, aD cD d_ad 20 d_scores, aZ cZ d_ar 20 d_rated, aI cI d_ah 8 d_hold])) (As := []) (rest := []) ⟨hx, hb, hml, hown, hts⟩ hK hP hD hS hA (c_X0_reindex l G cI cD cZ cJ cO c_a c_as c_ad c_ar c_ah c_points c_count c_ed c_sets c_scores c_rated c_hold _ h) (cwV 0 hts gX0_take_X0_reindex rfl rfl rfl (by decide +kernel) ⟨Nat.le_of_ble_eq_true rfl, Nat.le_of_ble_eq_true rfl⟩) 0 rfl rfl [0, 1, 2, 3, 4] [5, 6, 7, 8, 9] [5, 6, 7, 8, 9, 0, 1, 2, 3, 4] rfl rfl rfl (fun _ => rfl) rfl rfl hl.1 (Nat.le_of_ble_eq_true rfl) ⟨Nat.zero_le _, Nat.zero_le _⟩ dX0_take_69 (fun u H locs h hP hD hS => ?_)
        obtain ⟨c_ed_1, c_hold_2⟩ := u
        have hP : va_P G vwCl [oX0 c_a c_points c_count c_as c_ad c_ar c_ah c_ed_1, aI cI c_as 20 c_sets, aD cD c_ad 20 c_scores, aZ cZ c_ar 20 c_rated, aI cI c_ah 8 c_hold_2, oX0 d_a d_points d_count d_as d_ad d_ar d_ah d_ed, aI cI d_as 20 d_sets, aD cD d_ad 20 d_scores, aZ cZ d_ar 20 d_rated, aI cI d_ah 8 d_hold] H := hP
        have hD : va_D A [oX0 c_a c_points c_count c_as c_ad c_ar c_ah c_ed_1, aI cI c_as 20 c_sets, aD cD c_ad 20 c_scores, aZ cZ c_ar 20 c_rated, aI cI c_ah 8 c_hold_2, oX0 d_a d_points d_count d_as d_ad d_ar d_ah d_ed, aI cI d_as 20 d_sets, aD cD d_ad 20 d_scores, aZ cZ d_ar 20 d_rated, aI cI d_ah 8 d_hold] := hD
        exact hret (c_points, c_count, c_ed_1, c_sets, c_scores, c_rated, c_hold_2) _ _ _ _ h hP hD hS dX0_take_72
      · have h := hf hc
        clear ha hf
        refine lv_aload_n hx hb dX0_take_26 rfl (lv_at hl 0 rfl) ?_
        refine va_get (D := G) (ci := 0) (v := .ref c_as) (C := RX0) (T := TX0) (N := 7) hx hb hts i_X0 hown hK.1 hP 0 rfl rfl 2 (by decide) f_18 (fun _ h9 => h9) rfl dX0_take_27 ?_
        refine lv_iload_n hx hb dX0_take_30 rfl (lv_at hl 2 rfl) ?_
        refine lv_aload_n hx hb dX0_take_31 rfl (lv_at hl 1 rfl) ?_
        refine va_get (D := G) (ci := 0) (v := .ref d_as) (C := RX0) (T := TX0) (N := 7) hx hb hts i_X0 hown hK.1 hP 5 rfl rfl 2 (by decide) f_18 (fun _ h9 => h9) rfl dX0_take_32 ?_
        refine lv_iload_n hx hb dX0_take_35 rfl (lv_at hl 2 rfl) ?_
        obtain ⟨hi, h⟩ := h
        refine va_iald hx hb hK.1 hP 6 0 rfl rfl hi dX0_take_36 ?_
        obtain ⟨hi, h⟩ := h
        refine va_iast hx hb hK.1 hP hD hS 1 0 rfl rfl hi dX0_take_37 (fun H locs hP hD hS => ?_)
        have hP : va_P G vwCl [oX0 c_a c_points c_count c_as c_ad c_ar c_ah c_ed, aI cI c_as 20 (upd c_sets x2.toNatClampNeg (d_sets x2.toNatClampNeg)), aD cD c_ad 20 c_scores, aZ cZ c_ar 20 c_rated, aI cI c_ah 8 c_hold, oX0 d_a d_points d_count d_as d_ad d_ar d_ah d_ed, aI cI d_as 20 d_sets, aD cD d_ad 20 d_scores, aZ cZ d_ar 20 d_rated, aI cI d_ah 8 d_hold] H := hP
        have hD : va_D A [oX0 c_a c_points c_count c_as c_ad c_ar c_ah c_ed, aI cI c_as 20 (upd c_sets x2.toNatClampNeg (d_sets x2.toNatClampNeg)), aD cD c_ad 20 c_scores, aZ cZ c_ar 20 c_rated, aI cI c_ah 8 c_hold, oX0 d_a d_points d_count d_as d_ad d_ar d_ah d_ed, aI cI d_as 20 d_sets, aD cD d_ad 20 d_scores, aZ cZ d_ar 20 d_rated, aI cI d_ah 8 d_hold] := hD
        refine lv_aload_n hx hb dX0_take_38 rfl (lv_at hl 0 rfl) ?_
        refine va_get (D := G) (ci := 0) (v := .ref c_ad) (C := RX0) (T := TX0) (N := 7) hx hb hts i_X0 hown hK.1 hP 0 rfl rfl 3 (by decide) f_22 (fun _ h9 => h9) rfl dX0_take_39 ?_
        refine lv_iload_n hx hb dX0_take_42 rfl (lv_at hl 2 rfl) ?_
        refine lv_aload_n hx hb dX0_take_43 rfl (lv_at hl 1 rfl) ?_
        refine va_get (D := G) (ci := 0) (v := .ref d_ad) (C := RX0) (T := TX0) (N := 7) hx hb hts i_X0 hown hK.1 hP 5 rfl rfl 3 (by decide) f_22 (fun _ h9 => h9) rfl dX0_take_44 ?_
        refine lv_iload_n hx hb dX0_take_47 rfl (lv_at hl 2 rfl) ?_
        obtain ⟨hi, h⟩ := h
        refine va_dald hx hb hK.1 hP 7 1 rfl rfl hi dX0_take_48 ?_
        obtain ⟨hi, h⟩ := h
        refine va_dast hx hb hK.1 hP hD hS 2 1 rfl rfl hi dX0_take_49 (fun H locs hP hD hS => ?_)
        have hP : va_P G vwCl [oX0 c_a c_points c_count c_as c_ad c_ar c_ah c_ed, aI cI c_as 20 (upd c_sets x2.toNatClampNeg (d_sets x2.toNatClampNeg)), aD cD c_ad 20 (vf_upd c_scores x2.toNatClampNeg (d_scores x2.toNatClampNeg)), aZ cZ c_ar 20 c_rated, aI cI c_ah 8 c_hold, oX0 d_a d_points d_count d_as d_ad d_ar d_ah d_ed, aI cI d_as 20 d_sets, aD cD d_ad 20 d_scores, aZ cZ d_ar 20 d_rated, aI cI d_ah 8 d_hold] H := hP
        have hD : va_D A [oX0 c_a c_points c_count c_as c_ad c_ar c_ah c_ed, aI cI c_as 20 (upd c_sets x2.toNatClampNeg (d_sets x2.toNatClampNeg)), aD cD c_ad 20 (vf_upd c_scores x2.toNatClampNeg (d_scores x2.toNatClampNeg)), aZ cZ c_ar 20 c_rated, aI cI c_ah 8 c_hold, oX0 d_a d_points d_count d_as d_ad d_ar d_ah d_ed, aI cI d_as 20 d_sets, aD cD d_ad 20 d_scores, aZ cZ d_ar 20 d_rated, aI cI d_ah 8 d_hold] := hD
        refine lv_aload_n hx hb dX0_take_50 rfl (lv_at hl 0 rfl) ?_
        refine va_get (D := G) (ci := 0) (v := .ref c_ar) (C := RX0) (T := TX0) (N := 7) hx hb hts i_X0 hown hK.1 hP 0 rfl rfl 4 (by decide) f_26 (fun _ h9 => h9) rfl dX0_take_51 ?_
        refine lv_iload_n hx hb dX0_take_54 rfl (lv_at hl 2 rfl) ?_
        refine lv_aload_n hx hb dX0_take_55 rfl (lv_at hl 1 rfl) ?_
        refine va_get (D := G) (ci := 0) (v := .ref d_ar) (C := RX0) (T := TX0) (N := 7) hx hb hts i_X0 hown hK.1 hP 5 rfl rfl 4 (by decide) f_26 (fun _ h9 => h9) rfl dX0_take_56 ?_
        refine lv_iload_n hx hb dX0_take_59 rfl (lv_at hl 2 rfl) ?_
        obtain ⟨hi, h⟩ := h
        refine va_zald hx hb hK.1 hP 8 2 rfl rfl hi dX0_take_60 ?_
        obtain ⟨hi, h⟩ := h
        refine va_zast hx hb hK.1 hP hD hS 3 2 rfl rfl hi dX0_take_61 (fun H locs hP hD hS => ?_)
        have hP : va_P G vwCl [oX0 c_a c_points c_count c_as c_ad c_ar c_ah c_ed, aI cI c_as 20 (upd c_sets x2.toNatClampNeg (d_sets x2.toNatClampNeg)), aD cD c_ad 20 (vf_upd c_scores x2.toNatClampNeg (d_scores x2.toNatClampNeg)), aZ cZ c_ar 20 (upd c_rated x2.toNatClampNeg (vp_nar .boolean (d_rated x2.toNatClampNeg))), aI cI c_ah 8 c_hold, oX0 d_a d_points d_count d_as d_ad d_ar d_ah d_ed, aI cI d_as 20 d_sets, aD cD d_ad 20 d_scores, aZ cZ d_ar 20 d_rated, aI cI d_ah 8 d_hold] H := hP
        have hD : va_D A [oX0 c_a c_points c_count c_as c_ad c_ar c_ah c_ed, aI cI c_as 20 (upd c_sets x2.toNatClampNeg (d_sets x2.toNatClampNeg)), aD cD c_ad 20 (vf_upd c_scores x2.toNatClampNeg (d_scores x2.toNatClampNeg)), aZ cZ c_ar 20 (upd c_rated x2.toNatClampNeg (vp_nar .boolean (d_rated x2.toNatClampNeg))), aI cI c_ah 8 c_hold, oX0 d_a d_points d_count d_as d_ad d_ar d_ah d_ed, aI cI d_as 20 d_sets, aD cD d_ad 20 d_scores, aZ cZ d_ar 20 d_rated, aI cI d_ah 8 d_hold] := hD
        refine lv_iinc (v := (x2 + (1 : Int32))) (lv' := [(2, .int (x2 + (1 : Int32))), (0, .ref c_a), (1, .ref d_a)]) hx hb dX0_take_62 hl (k := 2) rfl rfl (by decide) rfl (fun ls hl => ?_)
        refine lv_goto (tgt := 18) hx hb dX0_take_65 (by decide) ?_
        exact ih _ _ _ _ _ _ _ _ h _ _ _ ⟨hP, hD, hS, lv_sub hl [1, 2, 0] rfl⟩
  refine lv_aload_n hx hb dX0_take_0 rfl (lv_at hl 0 rfl) ?_
  refine lv_aload_n hx hb dX0_take_1 rfl (lv_at hl 1 rfl) ?_
  refine va_get (D := G) (ci := 0) (v := .int d_points) (C := RX0) (T := TX0) (N := 7) hx hb hts i_X0 hown hK.1 hP 5 rfl rfl 0 (by decide) f_9 (fun _ h9 => h9) rfl dX0_take_2 ?_
  refine va_put (D := G) (ci := 0) (v := .int d_points) (ty := .int) (C := RX0) (T := TX0) (N := 7) hx hb hts i_X0 tyX0 tyX0_ok nmX0 hown hK.1 hP hD hS 0 rfl rfl 0 (by decide) f_9 (fun _ h9 => h9) rfl (tyX0_ok 0 (by decide)) rfl rfl (Nat.le_of_ble_eq_true rfl) dX0_take_5 (fun H locs hP hD hS => ?_)
  have hP : va_P G vwCl [oX0 c_a d_points c_count c_as c_ad c_ar c_ah c_ed, aI cI c_as 20 c_sets, aD cD c_ad 20 c_scores, aZ cZ c_ar 20 c_rated, aI cI c_ah 8 c_hold, oX0 d_a d_points d_count d_as d_ad d_ar d_ah d_ed, aI cI d_as 20 d_sets, aD cD d_ad 20 d_scores, aZ cZ d_ar 20 d_rated, aI cI d_ah 8 d_hold] H := hP
  have hD : va_D A [oX0 c_a d_points c_count c_as c_ad c_ar c_ah c_ed, aI cI c_as 20 c_sets, aD cD c_ad 20 c_scores, aZ cZ c_ar 20 c_rated, aI cI c_ah 8 c_hold, oX0 d_a d_points d_count d_as d_ad d_ar d_ah d_ed, aI cI d_as 20 d_sets, aD cD d_ad 20 d_scores, aZ cZ d_ar 20 d_rated, aI cI d_ah 8 d_hold] := hD
  refine lv_aload_n hx hb dX0_take_8 rfl (lv_at hl 0 rfl) ?_
  refine lv_aload_n hx hb dX0_take_9 rfl (lv_at hl 1 rfl) ?_
  refine va_get (D := G) (ci := 0) (v := .int d_count) (C := RX0) (T := TX0) (N := 7) hx hb hts i_X0 hown hK.1 hP 5 rfl rfl 1 (by decide) f_15 (fun _ h9 => h9) rfl dX0_take_10 ?_
  refine va_put (D := G) (ci := 0) (v := .int d_count) (ty := .int) (C := RX0) (T := TX0) (N := 7) hx hb hts i_X0 tyX0 tyX0_ok nmX0 hown hK.1 hP hD hS 0 rfl rfl 1 (by decide) f_15 (fun _ h9 => h9) rfl (tyX0_ok 1 (by decide)) rfl rfl (Nat.le_of_ble_eq_true rfl) dX0_take_13 (fun H locs hP hD hS => ?_)
  have hP : va_P G vwCl [oX0 c_a d_points d_count c_as c_ad c_ar c_ah c_ed, aI cI c_as 20 c_sets, aD cD c_ad 20 c_scores, aZ cZ c_ar 20 c_rated, aI cI c_ah 8 c_hold, oX0 d_a d_points d_count d_as d_ad d_ar d_ah d_ed, aI cI d_as 20 d_sets, aD cD d_ad 20 d_scores, aZ cZ d_ar 20 d_rated, aI cI d_ah 8 d_hold] H := hP
  have hD : va_D A [oX0 c_a d_points d_count c_as c_ad c_ar c_ah c_ed, aI cI c_as 20 c_sets, aD cD c_ad 20 c_scores, aZ cZ c_ar 20 c_rated, aI cI c_ah 8 c_hold, oX0 d_a d_points d_count d_as d_ad d_ar d_ah d_ed, aI cI d_as 20 d_sets, aD cD d_ad 20 d_scores, aZ cZ d_ar 20 d_rated, aI cI d_ah 8 d_hold] := hD
  refine lv_iconst (v := (0 : Int32)) hx hb dX0_take_16 (by decide) ?_
  refine lv_istore_n (lv' := [(2, .int (0 : Int32)), (0, .ref c_a), (1, .ref d_a)]) hx hb dX0_take_17 rfl hl (by decide) rfl (fun ls hl => ?_)
  obtain ⟨j, h⟩ := h
  exact b_18  j _ _ _ _ _ _ _ _ h _ _ _ ⟨hP, hD, hS, lv_sub hl [1, 2, 0] rfl⟩
