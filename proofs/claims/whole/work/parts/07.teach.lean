abbrev rm_X7_pointCount : Room := { frames := 0, cells := 0, slots := 0, locals := 0 }
def wp_X7_pointCount (c_points : Int32) (Q : Int32 → Prop) : Prop := Q c_points
set_option maxRecDepth 100000 in
set_option maxHeartbeats 4000000 in
theorem c_X7_pointCount (l : Launch) (G : va_G) (cI cD cZ cJ cO : ClassId) (z_a c_a c_as c_ad c_ar c_ah s_a d_a t_a e_a p_a r_a q_a z_as : Nat) (z_saved : Int32) (c_points : Int32) (c_count : Int32) (c_ed : Int32) (c_sets : Nat → Int32) (c_scores : Nat → UInt64) (c_rated : Nat → Int32) (c_hold : Nat → Int32) (Q : Int32 → Prop) (h : wp_X7_pointCount c_points Q) : CtI l yX7_pointCount wsX7_pointCount rm_X7_pointCount G (TY cI cD cZ cJ cO) [.ref z_a] [oX7 z_a c_a s_a d_a t_a z_saved e_a p_a r_a q_a z_as, oX0 c_a c_points c_count c_as c_ad c_ar c_ah c_ed, aI cI c_as 20 c_sets, aD cD c_ad 20 c_scores, aZ cZ c_ar 20 c_rated, aI cI c_ah 8 c_hold] (fun (r : Int32) (u : Unit) => Q r) (fun (u : Unit) => [oX7 z_a c_a s_a d_a t_a z_saved e_a p_a r_a q_a z_as, oX0 c_a c_points c_count c_as c_ad c_ar c_ah c_ed, aI cI c_as 20 c_sets, aD cD c_ad 20 c_scores, aZ cZ c_ar 20 c_rated, aI cI c_ah 8 c_hold]) := by
  refine ct_openI (cc := cX7_pointCount) (maxL := 1) (ty := .int) (by decide) rfl (Nat.le_of_ble_eq_true rfl) ?_
  intro p e s m args below meth c A Z ls hx hb hml hown hts hK hA hret hP hD hS hl
  have hown : s.vm.findClass RX7 = some m.cls := hown
  have hl : lv_has ls 1 [(0, .ref z_a)] := hl
  have f_12 := hts (.fieldLink RX7 12 "TeachingSets" "concepts" "LTeachingSets$Concepts;") (List.mem_of_getElem? (i := 1) rfl)
  have f_74 := hts (.fieldLink RX7 74 "TeachingSets$Concepts" "points" "I") (List.mem_of_getElem? (i := 2) rfl)
  have i_X7 : ∀ w ∈ wsX70, w ∈ wsX7_pointCount := fun _ h => List.mem_cons_of_mem _ (List.mem_append_left _ (List.mem_append_right _ (h)))
  have i_X0 : ∀ w ∈ wsX00, w ∈ wsX7_pointCount := fun _ h => List.mem_cons_of_mem _ (List.mem_append_right _ (h))
  refine lv_aload_n hx hb dX7_pointCount_0 rfl (lv_at hl 0 rfl) ?_
  refine va_get (D := G) (ci := 7) (v := .ref c_a) (C := RX7) (T := TX7) (N := 10) hx hb hts i_X7 hown hK.1 hP 0 rfl rfl 0 (by decide) f_12 (fun _ h9 => h9) rfl dX7_pointCount_1 ?_
  refine va_get (D := G) (ci := 0) (v := .int c_points) (C := RX0) (T := TX0) (N := 7) hx hb hts i_X0 hown hK.1 hP 1 rfl rfl 0 (by decide) f_74 (fun _ h9 => h9) rfl dX7_pointCount_4 ?_
  exact hret _ () _ _ _ _ rfl h hP hD hS dX7_pointCount_7
abbrev rm_X7_addConcept : Room := { frames := 3, cells := 0, slots := 0, locals := 64 }
def wp_X7_addConcept (x1 : Int32) (c_points : Int32) (c_count : Int32) (c_ed : Int32) (c_sets : Nat → Int32) (c_scores : Nat → UInt64) (c_rated : Nat → Int32) (c_hold : Nat → Int32) (Q : Int32 → Int32 → Int32 → (Nat → Int32) → (Nat → UInt64) → (Nat → Int32) → (Nat → Int32) → Prop) : Prop := wp_X0_isSet x1 c_points (fun (r_1 : Int32) => ((¬ r_1 = 0) → wp_X0_find x1 c_count c_sets (fun (r_2 : Int32) => ((r_2 = (-6 : Int32)) → wp_X0_addIfNew x1 c_points c_count c_ed c_sets c_scores c_rated c_hold (fun (r_3 : Int32) (c_count_4 : Int32) (c_ed_5 : Int32) (c_sets_6 : Nat → Int32) (c_scores_7 : Nat → UInt64) (c_rated_8 : Nat → Int32) (c_hold_9 : Nat → Int32) => ((¬ r_3 = 0) → Q (c_count_4 - (1 : Int32)) c_count_4 c_ed_5 c_sets_6 c_scores_7 c_rated_8 c_hold_9) ∧ ((r_3 = 0) → Q (-4 : Int32) c_count_4 c_ed_5 c_sets_6 c_scores_7 c_rated_8 c_hold_9))) ∧ ((¬ r_2 = (-6 : Int32)) → Q (-5 : Int32) c_count c_ed c_sets c_scores c_rated c_hold))) ∧ ((r_1 = 0) → Q (-1 : Int32) c_count c_ed c_sets c_scores c_rated c_hold))
set_option maxRecDepth 100000 in
set_option maxHeartbeats 4000000 in
theorem c_X7_addConcept (l : Launch) (G : va_G) (cI cD cZ cJ cO : ClassId) (z_a c_a c_as c_ad c_ar c_ah s_a d_a t_a e_a p_a r_a q_a z_as : Nat) (z_saved : Int32) (c_points : Int32) (c_count : Int32) (c_ed : Int32) (c_sets : Nat → Int32) (c_scores : Nat → UInt64) (c_rated : Nat → Int32) (c_hold : Nat → Int32) (x1 : Int32) (Q : Int32 → Int32 → Int32 → (Nat → Int32) → (Nat → UInt64) → (Nat → Int32) → (Nat → Int32) → Prop) (h : wp_X7_addConcept x1 c_points c_count c_ed c_sets c_scores c_rated c_hold Q) : CtI l yX7_addConcept wsX7_addConcept rm_X7_addConcept G (TY cI cD cZ cJ cO) [.ref z_a, .int x1] [oX7 z_a c_a s_a d_a t_a z_saved e_a p_a r_a q_a z_as, oX0 c_a c_points c_count c_as c_ad c_ar c_ah c_ed, aI cI c_as 20 c_sets, aD cD c_ad 20 c_scores, aZ cZ c_ar 20 c_rated, aI cI c_ah 8 c_hold] (fun (r : Int32) (u : Int32 × Int32 × (Nat → Int32) × (Nat → UInt64) × (Nat → Int32) × (Nat → Int32)) => Q r u.1 u.2.1 u.2.2.1 u.2.2.2.1 u.2.2.2.2.1 u.2.2.2.2.2) (fun (u : Int32 × Int32 × (Nat → Int32) × (Nat → UInt64) × (Nat → Int32) × (Nat → Int32)) => [oX7 z_a c_a s_a d_a t_a z_saved e_a p_a r_a q_a z_as, oX0 c_a c_points u.1 c_as c_ad c_ar c_ah u.2.1, aI cI c_as 20 u.2.2.1, aD cD c_ad 20 u.2.2.2.1, aZ cZ c_ar 20 u.2.2.2.2.1, aI cI c_ah 8 u.2.2.2.2.2]) := by
  refine ct_openI (cc := cX7_addConcept) (maxL := 2) (ty := .int) (by decide) rfl (Nat.le_of_ble_eq_true rfl) ?_
  intro p e s m args below meth c A Z ls hx hb hml hown hts hK hA hret hP hD hS hl
  have hown : s.vm.findClass RX7 = some m.cls := hown
  have hl : lv_has ls 2 [(0, .ref z_a), (1, .int x1)] := hl
  have f_12 := hts (.fieldLink RX7 12 "TeachingSets" "concepts" "LTeachingSets$Concepts;") (List.mem_of_getElem? (i := 1) rfl)
  have f_96 := hts (.fieldLink RX7 96 "TeachingSets$Concepts" "count" "I") (List.mem_of_getElem? (i := 2) rfl)
  have i_X7 : ∀ w ∈ wsX70, w ∈ wsX7_addConcept := fun _ h => List.mem_cons_of_mem _ (List.mem_append_left _ (List.mem_append_right _ (h)))
  have i_X0 : ∀ w ∈ wsX00, w ∈ wsX7_addConcept := fun _ h => List.mem_cons_of_mem _ (List.mem_append_right _ (h))
  refine lv_aload_n hx hb dX7_addConcept_0 rfl (lv_at hl 0 rfl) ?_
  refine va_get (D := G) (ci := 7) (v := .ref c_a) (C := RX7) (T := TX7) (N := 10) hx hb hts i_X7 hown hK.1 hP 0 rfl rfl 0 (by decide) f_12 (fun _ h9 => h9) rfl dX7_addConcept_1 ?_
  refine lv_iload_n hx hb dX7_addConcept_4 rfl (lv_at hl 1 rfl) ?_
  refine k_Vi (wr := [oX7 z_a c_a s_a d_a t_a z_saved e_a p_a r_a q_a z_as]) (wf := (fun (u : Unit) => [oX7 z_a c_a s_a d_a t_a z_saved e_a p_a r_a q_a z_as, oX0 c_a c_points c_count c_as c_ad c_ar c_ah c_ed, aI cI c_as 20 c_sets, aD cD c_ad 20 c_scores, aZ cZ c_ar 20 c_rated, aI cI c_ah 8 c_hold])) (As := [.int x1]) (rest := []) ⟨hx, hb, hml, hown, hts⟩ hK hP hD hS hA (c_X0_isSet l G cI cD cZ cJ cO c_a c_as c_ad c_ar c_ah c_points c_count c_ed c_sets c_scores c_rated c_hold x1 _ h) (cwV 1 hts gX7_addConcept_X0_isSet rfl rfl rfl (by decide +kernel) ⟨Nat.le_of_ble_eq_true rfl, Nat.le_of_ble_eq_true rfl⟩) 0 rfl rfl [1, 2, 3, 4, 5] [0] [0, 1, 2, 3, 4, 5] rfl rfl rfl (fun _ => rfl) rfl rfl hl.1 (Nat.le_of_ble_eq_true rfl) ⟨Nat.zero_le _, Nat.zero_le _⟩ dX7_addConcept_5 (fun r_1 u H locs h hP hD hS => ?_)
  have hP : va_P G vwCl [oX7 z_a c_a s_a d_a t_a z_saved e_a p_a r_a q_a z_as, oX0 c_a c_points c_count c_as c_ad c_ar c_ah c_ed, aI cI c_as 20 c_sets, aD cD c_ad 20 c_scores, aZ cZ c_ar 20 c_rated, aI cI c_ah 8 c_hold] H := hP
  have hD : va_D A [oX7 z_a c_a s_a d_a t_a z_saved e_a p_a r_a q_a z_as, oX0 c_a c_points c_count c_as c_ad c_ar c_ah c_ed, aI cI c_as 20 c_sets, aD cD c_ad 20 c_scores, aZ cZ c_ar 20 c_rated, aI cI c_ah 8 c_hold] := hD
  obtain ⟨ha, hf⟩ := h
  refine lv_if_ne (tgt := 13) hx hb dX7_addConcept_8 (by decide) (fun hc => ?_) (fun hc => ?_)
  · have h := ha hc
    clear ha hf
    refine lv_aload_n hx hb dX7_addConcept_13 rfl (lv_at hl 0 rfl) ?_
    refine va_get (D := G) (ci := 7) (v := .ref c_a) (C := RX7) (T := TX7) (N := 10) hx hb hts i_X7 hown hK.1 hP 0 rfl rfl 0 (by decide) f_12 (fun _ h9 => h9) rfl dX7_addConcept_14 ?_
    refine lv_iload_n hx hb dX7_addConcept_17 rfl (lv_at hl 1 rfl) ?_
    refine k_Vi (wr := [oX7 z_a c_a s_a d_a t_a z_saved e_a p_a r_a q_a z_as]) (wf := (fun (u : Unit) => [oX7 z_a c_a s_a d_a t_a z_saved e_a p_a r_a q_a z_as, oX0 c_a c_points c_count c_as c_ad c_ar c_ah c_ed, aI cI c_as 20 c_sets, aD cD c_ad 20 c_scores, aZ cZ c_ar 20 c_rated, aI cI c_ah 8 c_hold])) (As := [.int x1]) (rest := []) ⟨hx, hb, hml, hown, hts⟩ hK hP hD hS hA (c_X0_find l G cI cD cZ cJ cO c_a c_as c_ad c_ar c_ah c_points c_count c_ed c_sets c_scores c_rated c_hold x1 _ h) (cwV 1 hts gX7_addConcept_X0_find rfl rfl rfl (by decide +kernel) ⟨Nat.le_of_ble_eq_true rfl, Nat.le_of_ble_eq_true rfl⟩) 0 rfl rfl [1, 2, 3, 4, 5] [0] [0, 1, 2, 3, 4, 5] rfl rfl rfl (fun _ => rfl) rfl rfl hl.1 (Nat.le_of_ble_eq_true rfl) ⟨Nat.zero_le _, Nat.zero_le _⟩ dX7_addConcept_18 (fun r_2 u H locs h hP hD hS => ?_)
    have hP : va_P G vwCl [oX7 z_a c_a s_a d_a t_a z_saved e_a p_a r_a q_a z_as, oX0 c_a c_points c_count c_as c_ad c_ar c_ah c_ed, aI cI c_as 20 c_sets, aD cD c_ad 20 c_scores, aZ cZ c_ar 20 c_rated, aI cI c_ah 8 c_hold] H := hP
    have hD : va_D A [oX7 z_a c_a s_a d_a t_a z_saved e_a p_a r_a q_a z_as, oX0 c_a c_points c_count c_as c_ad c_ar c_ah c_ed, aI cI c_as 20 c_sets, aD cD c_ad 20 c_scores, aZ cZ c_ar 20 c_rated, aI cI c_ah 8 c_hold] := hD
    refine lv_bipush (v := (-6 : Int32)) hx hb dX7_addConcept_21 (by decide) ?_
    obtain ⟨ha, hf⟩ := h
    refine lv_icmp_eq (tgt := 29) hx hb dX7_addConcept_23 (by decide) (fun hc => ?_) (fun hc => ?_)
    · have h := ha hc
      clear ha hf
      refine lv_aload_n hx hb dX7_addConcept_29 rfl (lv_at hl 0 rfl) ?_
      refine va_get (D := G) (ci := 7) (v := .ref c_a) (C := RX7) (T := TX7) (N := 10) hx hb hts i_X7 hown hK.1 hP 0 rfl rfl 0 (by decide) f_12 (fun _ h9 => h9) rfl dX7_addConcept_30 ?_
      refine lv_iload_n hx hb dX7_addConcept_33 rfl (lv_at hl 1 rfl) ?_
      refine k_Vi (wr := [oX7 z_a c_a s_a d_a t_a z_saved e_a p_a r_a q_a z_as]) (wf := (fun (u : Int32 × Int32 × (Nat → Int32) × (Nat → UInt64) × (Nat → Int32) × (Nat → Int32)) => [oX7 z_a c_a s_a d_a t_a z_saved e_a p_a r_a q_a z_as, oX0 c_a c_points u.1 c_as c_ad c_ar c_ah u.2.1, aI cI c_as 20 u.2.2.1, aD cD c_ad 20 u.2.2.2.1, aZ cZ c_ar 20 u.2.2.2.2.1, aI cI c_ah 8 u.2.2.2.2.2])) (As := [.int x1]) (rest := []) ⟨hx, hb, hml, hown, hts⟩ hK hP hD hS hA (c_X0_addIfNew l G cI cD cZ cJ cO c_a c_as c_ad c_ar c_ah c_points c_count c_ed c_sets c_scores c_rated c_hold x1 _ h) (cwV 1 hts gX7_addConcept_X0_addIfNew rfl rfl rfl (by decide +kernel) ⟨Nat.le_of_ble_eq_true rfl, Nat.le_of_ble_eq_true rfl⟩) 0 rfl rfl [1, 2, 3, 4, 5] [0] [0, 1, 2, 3, 4, 5] rfl rfl rfl (fun _ => rfl) rfl rfl hl.1 (Nat.le_of_ble_eq_true rfl) ⟨Nat.zero_le _, Nat.zero_le _⟩ dX7_addConcept_34 (fun r_3 u H locs h hP hD hS => ?_)
      obtain ⟨c_count_4, c_ed_5, c_sets_6, c_scores_7, c_rated_8, c_hold_9⟩ := u
      have hP : va_P G vwCl [oX7 z_a c_a s_a d_a t_a z_saved e_a p_a r_a q_a z_as, oX0 c_a c_points c_count_4 c_as c_ad c_ar c_ah c_ed_5, aI cI c_as 20 c_sets_6, aD cD c_ad 20 c_scores_7, aZ cZ c_ar 20 c_rated_8, aI cI c_ah 8 c_hold_9] H := hP
      have hD : va_D A [oX7 z_a c_a s_a d_a t_a z_saved e_a p_a r_a q_a z_as, oX0 c_a c_points c_count_4 c_as c_ad c_ar c_ah c_ed_5, aI cI c_as 20 c_sets_6, aD cD c_ad 20 c_scores_7, aZ cZ c_ar 20 c_rated_8, aI cI c_ah 8 c_hold_9] := hD
      obtain ⟨ha, hf⟩ := h
      refine lv_if_ne (tgt := 43) hx hb dX7_addConcept_37 (by decide) (fun hc => ?_) (fun hc => ?_)
      · have h := ha hc
        clear ha hf
        refine lv_aload_n hx hb dX7_addConcept_43 rfl (lv_at hl 0 rfl) ?_
        refine va_get (D := G) (ci := 7) (v := .ref c_a) (C := RX7) (T := TX7) (N := 10) hx hb hts i_X7 hown hK.1 hP 0 rfl rfl 0 (by decide) f_12 (fun _ h9 => h9) rfl dX7_addConcept_44 ?_
        refine va_get (D := G) (ci := 0) (v := .int c_count_4) (C := RX0) (T := TX0) (N := 7) hx hb hts i_X0 hown hK.1 hP 1 rfl rfl 1 (by decide) f_96 (fun _ h9 => h9) rfl dX7_addConcept_47 ?_
        refine lv_iconst (v := (1 : Int32)) hx hb dX7_addConcept_50 (by decide) ?_
        refine lv_isub hx hb dX7_addConcept_51 ?_
        exact hret _ (c_count_4, c_ed_5, c_sets_6, c_scores_7, c_rated_8, c_hold_9) _ _ _ _ rfl h hP hD hS dX7_addConcept_52
      · have h := hf hc
        clear ha hf
        refine lv_bipush (v := (-4 : Int32)) hx hb dX7_addConcept_40 (by decide) ?_
        exact hret _ (c_count_4, c_ed_5, c_sets_6, c_scores_7, c_rated_8, c_hold_9) _ _ _ _ rfl h hP hD hS dX7_addConcept_42
    · have h := hf hc
      clear ha hf
      refine lv_bipush (v := (-5 : Int32)) hx hb dX7_addConcept_26 (by decide) ?_
      exact hret _ (c_count, c_ed, c_sets, c_scores, c_rated, c_hold) _ _ _ _ rfl h hP hD hS dX7_addConcept_28
  · have h := hf hc
    clear ha hf
    refine lv_iconst (v := (-1 : Int32)) hx hb dX7_addConcept_11 (by decide) ?_
    exact hret _ (c_count, c_ed, c_sets, c_scores, c_rated, c_hold) _ _ _ _ rfl h hP hD hS dX7_addConcept_12
abbrev rm_X7_addIntervals : Room := { frames := 3, cells := 0, slots := 0, locals := 64 }
def wp_X7_addIntervals_b23 (c_points : Int32) (Q : Int32 → Int32 → Int32 → (Nat → Int32) → (Nat → UInt64) → (Nat → Int32) → (Nat → Int32) → Prop) (k10 : Int32 → Int32 → Int32 → Int32 → (Nat → Int32) → (Nat → UInt64) → (Nat → Int32) → (Nat → Int32) → Prop) : Nat → Int32 → Int32 → Int32 → Int32 → Int32 → (Nat → Int32) → (Nat → UInt64) → (Nat → Int32) → (Nat → Int32) → Prop
  | 0, _, _, _, _, _, _, _, _, _ => False
  | n + 1, x1, x2, x3, c_count, c_ed, c_sets, c_scores, c_rated, c_hold => ((c_points ≤ x3) → k10 x1 (x2 + (1 : Int32)) c_count c_ed c_sets c_scores c_rated c_hold) ∧ ((¬ c_points ≤ x3) → wp_X0_addIfNew (((2 : Int32) <<< (x3 &&& 31)) - ((1 : Int32) <<< (x2 &&& 31))) c_points c_count c_ed c_sets c_scores c_rated c_hold (fun (r_1 : Int32) (c_count_2 : Int32) (c_ed_3 : Int32) (c_sets_4 : Nat → Int32) (c_scores_5 : Nat → UInt64) (c_rated_6 : Nat → Int32) (c_hold_7 : Nat → Int32) => wp_X7_addIntervals_b23 c_points Q k10 n x1 x2 (x3 + (1 : Int32)) c_count_2 c_ed_3 c_sets_4 c_scores_5 c_rated_6 c_hold_7))
def wp_X7_addIntervals_b10 (c_points : Int32) (Q : Int32 → Int32 → Int32 → (Nat → Int32) → (Nat → UInt64) → (Nat → Int32) → (Nat → Int32) → Prop)  : Nat → Int32 → Int32 → Int32 → Int32 → (Nat → Int32) → (Nat → UInt64) → (Nat → Int32) → (Nat → Int32) → Prop
  | 0, _, _, _, _, _, _, _, _ => False
  | n + 1, x1, x2, c_count, c_ed, c_sets, c_scores, c_rated, c_hold => ((c_points ≤ x2) → Q (c_count - x1) c_count c_ed c_sets c_scores c_rated c_hold) ∧ ((¬ c_points ≤ x2) → ∃ j23, wp_X7_addIntervals_b23 c_points Q (fun (x1 : Int32) (x2 : Int32) (c_count : Int32) (c_ed : Int32) (c_sets : Nat → Int32) (c_scores : Nat → UInt64) (c_rated : Nat → Int32) (c_hold : Nat → Int32) => wp_X7_addIntervals_b10 c_points Q n x1 x2 c_count c_ed c_sets c_scores c_rated c_hold) j23 x1 x2 x2 c_count c_ed c_sets c_scores c_rated c_hold)
def wp_X7_addIntervals (c_points : Int32) (c_count : Int32) (c_ed : Int32) (c_sets : Nat → Int32) (c_scores : Nat → UInt64) (c_rated : Nat → Int32) (c_hold : Nat → Int32) (Q : Int32 → Int32 → Int32 → (Nat → Int32) → (Nat → UInt64) → (Nat → Int32) → (Nat → Int32) → Prop) : Prop := ∃ j10, wp_X7_addIntervals_b10 c_points Q j10 c_count (0 : Int32) c_count c_ed c_sets c_scores c_rated c_hold
set_option maxRecDepth 100000 in
set_option maxHeartbeats 4000000 in
theorem c_X7_addIntervals (l : Launch) (G : va_G) (cI cD cZ cJ cO : ClassId) (z_a c_a c_as c_ad c_ar c_ah s_a d_a t_a e_a p_a r_a q_a z_as : Nat) (z_saved : Int32) (c_points : Int32) (c_count : Int32) (c_ed : Int32) (c_sets : Nat → Int32) (c_scores : Nat → UInt64) (c_rated : Nat → Int32) (c_hold : Nat → Int32) (Q : Int32 → Int32 → Int32 → (Nat → Int32) → (Nat → UInt64) → (Nat → Int32) → (Nat → Int32) → Prop) (h : wp_X7_addIntervals c_points c_count c_ed c_sets c_scores c_rated c_hold Q) : CtI l yX7_addIntervals wsX7_addIntervals rm_X7_addIntervals G (TY cI cD cZ cJ cO) [.ref z_a] [oX7 z_a c_a s_a d_a t_a z_saved e_a p_a r_a q_a z_as, oX0 c_a c_points c_count c_as c_ad c_ar c_ah c_ed, aI cI c_as 20 c_sets, aD cD c_ad 20 c_scores, aZ cZ c_ar 20 c_rated, aI cI c_ah 8 c_hold] (fun (r : Int32) (u : Int32 × Int32 × (Nat → Int32) × (Nat → UInt64) × (Nat → Int32) × (Nat → Int32)) => Q r u.1 u.2.1 u.2.2.1 u.2.2.2.1 u.2.2.2.2.1 u.2.2.2.2.2) (fun (u : Int32 × Int32 × (Nat → Int32) × (Nat → UInt64) × (Nat → Int32) × (Nat → Int32)) => [oX7 z_a c_a s_a d_a t_a z_saved e_a p_a r_a q_a z_as, oX0 c_a c_points u.1 c_as c_ad c_ar c_ah u.2.1, aI cI c_as 20 u.2.2.1, aD cD c_ad 20 u.2.2.2.1, aZ cZ c_ar 20 u.2.2.2.2.1, aI cI c_ah 8 u.2.2.2.2.2]) := by
  refine ct_openI (cc := cX7_addIntervals) (maxL := 4) (ty := .int) (by decide) rfl (Nat.le_of_ble_eq_true rfl) ?_
  intro p e s m args below meth c A Z ls hx hb hml hown hts hK hA hret hP hD hS hl
  have hown : s.vm.findClass RX7 = some m.cls := hown
  have hl : lv_has ls 4 [(0, .ref z_a)] := hl
  have f_12 := hts (.fieldLink RX7 12 "TeachingSets" "concepts" "LTeachingSets$Concepts;") (List.mem_of_getElem? (i := 1) rfl)
  have f_96 := hts (.fieldLink RX7 96 "TeachingSets$Concepts" "count" "I") (List.mem_of_getElem? (i := 2) rfl)
  have f_74 := hts (.fieldLink RX7 74 "TeachingSets$Concepts" "points" "I") (List.mem_of_getElem? (i := 3) rfl)
  have i_X7 : ∀ w ∈ wsX70, w ∈ wsX7_addIntervals := fun _ h => List.mem_cons_of_mem _ (List.mem_append_left _ (List.mem_append_right _ (h)))
  have i_X0 : ∀ w ∈ wsX00, w ∈ wsX7_addIntervals := fun _ h => List.mem_cons_of_mem _ (List.mem_append_right _ (h))
  have b_23 : ∀ (k10 : Int32 → Int32 → Int32 → Int32 → (Nat → Int32) → (Nat → UInt64) → (Nat → Int32) → (Nat → Int32) → Prop), (∀ (x1 : Int32) (x2 : Int32) (c_count : Int32) (c_ed : Int32) (c_sets : Nat → Int32) (c_scores : Nat → UInt64) (c_rated : Nat → Int32) (c_hold : Nat → Int32), k10 x1 x2 c_count c_ed c_sets c_scores c_rated c_hold → ∀ (H : Heap) (locs : List Loc) (ls : Array Slot), ST G A s.heap [oX7 z_a c_a s_a d_a t_a z_saved e_a p_a r_a q_a z_as, oX0 c_a c_points c_count c_as c_ad c_ar c_ah c_ed, aI cI c_as 20 c_sets, aD cD c_ad 20 c_scores, aZ cZ c_ar 20 c_rated, aI cI c_ah 8 c_hold] 4 [(0, .ref z_a), (1, .int x1), (2, .int x2)] H locs ls → W p l e rm_X7_addIntervals s m args below meth c H locs 0 0 Z (F0 m 10 ls [])) → ∀ (n : Nat) (x1 : Int32) (x2 : Int32) (x3 : Int32) (c_count : Int32) (c_ed : Int32) (c_sets : Nat → Int32) (c_scores : Nat → UInt64) (c_rated : Nat → Int32) (c_hold : Nat → Int32), wp_X7_addIntervals_b23 c_points Q k10 n x1 x2 x3 c_count c_ed c_sets c_scores c_rated c_hold → ∀ (H : Heap) (locs : List Loc) (ls : Array Slot), ST G A s.heap [oX7 z_a c_a s_a d_a t_a z_saved e_a p_a r_a q_a z_as, oX0 c_a c_points c_count c_as c_ad c_ar c_ah c_ed, aI cI c_as 20 c_sets, aD cD c_ad 20 c_scores, aZ cZ c_ar 20 c_rated, aI cI c_ah 8 c_hold] 4 [(0, .ref z_a), (1, .int x1), (2, .int x2), (3, .int x3)] H locs ls → W p l e rm_X7_addIntervals s m args below meth c H locs 0 0 Z (F0 m 23 ls []) := by
    intro k10 hk10 n
    induction n with
    | zero =>
      intro x1 x2 x3 c_count c_ed c_sets c_scores c_rated c_hold h; exact False.elim h
    | succ n ih =>
      intro x1 x2 x3 c_count c_ed c_sets c_scores c_rated c_hold h H locs ls hst
      obtain ⟨hP, hD, hS, hl⟩ := hst
      refine lv_iload_n hx hb dX7_addIntervals_23 rfl (lv_at hl 3 rfl) ?_
      refine lv_aload_n hx hb dX7_addIntervals_24 rfl (lv_at hl 0 rfl) ?_
      refine va_get (D := G) (ci := 7) (v := .ref c_a) (C := RX7) (T := TX7) (N := 10) hx hb hts i_X7 hown hK.1 hP 0 rfl rfl 0 (by decide) f_12 (fun _ h9 => h9) rfl dX7_addIntervals_25 ?_
      refine va_get (D := G) (ci := 0) (v := .int c_points) (C := RX0) (T := TX0) (N := 7) hx hb hts i_X0 hown hK.1 hP 1 rfl rfl 0 (by decide) f_74 (fun _ h9 => h9) rfl dX7_addIntervals_28 ?_
      obtain ⟨ha, hf⟩ := h
      refine lv_icmp_ge (tgt := 55) hx hb dX7_addIntervals_31 (by decide) (fun hc => ?_) (fun hc => ?_)
      · have h := ha hc
        clear ha hf
        refine lv_iinc (v := (x2 + (1 : Int32))) (lv' := [(2, .int (x2 + (1 : Int32))), (0, .ref z_a), (1, .int x1), (3, .int x3)]) hx hb dX7_addIntervals_55 hl (k := 2) rfl rfl (by decide) rfl (fun ls hl => ?_)
        refine lv_goto (tgt := 10) hx hb dX7_addIntervals_58 (by decide) ?_
        exact hk10 _ _ _ _ _ _ _ _ h _ _ _ ⟨hP, hD, hS, lv_sub hl [1, 2, 0] rfl⟩
      · have h := hf hc
        clear ha hf
        refine lv_aload_n hx hb dX7_addIntervals_34 rfl (lv_at hl 0 rfl) ?_
        refine va_get (D := G) (ci := 7) (v := .ref c_a) (C := RX7) (T := TX7) (N := 10) hx hb hts i_X7 hown hK.1 hP 0 rfl rfl 0 (by decide) f_12 (fun _ h9 => h9) rfl dX7_addIntervals_35 ?_
        refine lv_iconst (v := (2 : Int32)) hx hb dX7_addIntervals_38 (by decide) ?_
        refine lv_iload_n hx hb dX7_addIntervals_39 rfl (lv_at hl 3 rfl) ?_
        refine lv_ishl hx hb dX7_addIntervals_40 ?_
        refine lv_iconst (v := (1 : Int32)) hx hb dX7_addIntervals_41 (by decide) ?_
        refine lv_iload_n hx hb dX7_addIntervals_42 rfl (lv_at hl 2 rfl) ?_
        refine lv_ishl hx hb dX7_addIntervals_43 ?_
        refine lv_isub hx hb dX7_addIntervals_44 ?_
        refine k_Vi (wr := [oX7 z_a c_a s_a d_a t_a z_saved e_a p_a r_a q_a z_as]) (wf := (fun (u : Int32 × Int32 × (Nat → Int32) × (Nat → UInt64) × (Nat → Int32) × (Nat → Int32)) => [oX7 z_a c_a s_a d_a t_a z_saved e_a p_a r_a q_a z_as, oX0 c_a c_points u.1 c_as c_ad c_ar c_ah u.2.1, aI cI c_as 20 u.2.2.1, aD cD c_ad 20 u.2.2.2.1, aZ cZ c_ar 20 u.2.2.2.2.1, aI cI c_ah 8 u.2.2.2.2.2])) (As := [.int (((2 : Int32) <<< (x3 &&& 31)) - ((1 : Int32) <<< (x2 &&& 31)))]) (rest := []) ⟨hx, hb, hml, hown, hts⟩ hK hP hD hS hA (c_X0_addIfNew l G cI cD cZ cJ cO c_a c_as c_ad c_ar c_ah c_points c_count c_ed c_sets c_scores c_rated c_hold (((2 : Int32) <<< (x3 &&& 31)) - ((1 : Int32) <<< (x2 &&& 31))) _ h) (cwV 1 hts gX7_addIntervals_X0_addIfNew rfl rfl rfl (by decide +kernel) ⟨Nat.le_of_ble_eq_true rfl, Nat.le_of_ble_eq_true rfl⟩) 0 rfl rfl [1, 2, 3, 4, 5] [0] [0, 1, 2, 3, 4, 5] rfl rfl rfl (fun _ => rfl) rfl rfl hl.1 (Nat.le_of_ble_eq_true rfl) ⟨Nat.zero_le _, Nat.zero_le _⟩ dX7_addIntervals_45 (fun r_1 u H locs h hP hD hS => ?_)
        obtain ⟨c_count_2, c_ed_3, c_sets_4, c_scores_5, c_rated_6, c_hold_7⟩ := u
        have hP : va_P G vwCl [oX7 z_a c_a s_a d_a t_a z_saved e_a p_a r_a q_a z_as, oX0 c_a c_points c_count_2 c_as c_ad c_ar c_ah c_ed_3, aI cI c_as 20 c_sets_4, aD cD c_ad 20 c_scores_5, aZ cZ c_ar 20 c_rated_6, aI cI c_ah 8 c_hold_7] H := hP
        have hD : va_D A [oX7 z_a c_a s_a d_a t_a z_saved e_a p_a r_a q_a z_as, oX0 c_a c_points c_count_2 c_as c_ad c_ar c_ah c_ed_3, aI cI c_as 20 c_sets_4, aD cD c_ad 20 c_scores_5, aZ cZ c_ar 20 c_rated_6, aI cI c_ah 8 c_hold_7] := hD
        refine lv_pop hx hb dX7_addIntervals_48 rfl ?_
        refine lv_iinc (v := (x3 + (1 : Int32))) (lv' := [(3, .int (x3 + (1 : Int32))), (0, .ref z_a), (1, .int x1), (2, .int x2)]) hx hb dX7_addIntervals_49 hl (k := 3) rfl rfl (by decide) rfl (fun ls hl => ?_)
        refine lv_goto (tgt := 23) hx hb dX7_addIntervals_52 (by decide) ?_
        exact ih _ _ _ _ _ _ _ _ _ h _ _ _ ⟨hP, hD, hS, lv_sub hl [1, 2, 3, 0] rfl⟩
  have b_10 : ∀ (n : Nat) (x1 : Int32) (x2 : Int32) (c_count : Int32) (c_ed : Int32) (c_sets : Nat → Int32) (c_scores : Nat → UInt64) (c_rated : Nat → Int32) (c_hold : Nat → Int32), wp_X7_addIntervals_b10 c_points Q n x1 x2 c_count c_ed c_sets c_scores c_rated c_hold → ∀ (H : Heap) (locs : List Loc) (ls : Array Slot), ST G A s.heap [oX7 z_a c_a s_a d_a t_a z_saved e_a p_a r_a q_a z_as, oX0 c_a c_points c_count c_as c_ad c_ar c_ah c_ed, aI cI c_as 20 c_sets, aD cD c_ad 20 c_scores, aZ cZ c_ar 20 c_rated, aI cI c_ah 8 c_hold] 4 [(0, .ref z_a), (1, .int x1), (2, .int x2)] H locs ls → W p l e rm_X7_addIntervals s m args below meth c H locs 0 0 Z (F0 m 10 ls []) := by
    intro n
    induction n with
    | zero =>
      intro x1 x2 c_count c_ed c_sets c_scores c_rated c_hold h; exact False.elim h
    | succ n ih =>
      intro x1 x2 c_count c_ed c_sets c_scores c_rated c_hold h H locs ls hst
      obtain ⟨hP, hD, hS, hl⟩ := hst
      refine lv_iload_n hx hb dX7_addIntervals_10 rfl (lv_at hl 2 rfl) ?_
      refine lv_aload_n hx hb dX7_addIntervals_11 rfl (lv_at hl 0 rfl) ?_
      refine va_get (D := G) (ci := 7) (v := .ref c_a) (C := RX7) (T := TX7) (N := 10) hx hb hts i_X7 hown hK.1 hP 0 rfl rfl 0 (by decide) f_12 (fun _ h9 => h9) rfl dX7_addIntervals_12 ?_
      refine va_get (D := G) (ci := 0) (v := .int c_points) (C := RX0) (T := TX0) (N := 7) hx hb hts i_X0 hown hK.1 hP 1 rfl rfl 0 (by decide) f_74 (fun _ h9 => h9) rfl dX7_addIntervals_15 ?_
      obtain ⟨ha, hf⟩ := h
      refine lv_icmp_ge (tgt := 61) hx hb dX7_addIntervals_18 (by decide) (fun hc => ?_) (fun hc => ?_)
      · have h := ha hc
        clear ha hf
        refine lv_aload_n hx hb dX7_addIntervals_61 rfl (lv_at hl 0 rfl) ?_
        refine va_get (D := G) (ci := 7) (v := .ref c_a) (C := RX7) (T := TX7) (N := 10) hx hb hts i_X7 hown hK.1 hP 0 rfl rfl 0 (by decide) f_12 (fun _ h9 => h9) rfl dX7_addIntervals_62 ?_
        refine va_get (D := G) (ci := 0) (v := .int c_count) (C := RX0) (T := TX0) (N := 7) hx hb hts i_X0 hown hK.1 hP 1 rfl rfl 1 (by decide) f_96 (fun _ h9 => h9) rfl dX7_addIntervals_65 ?_
        refine lv_iload_n hx hb dX7_addIntervals_68 rfl (lv_at hl 1 rfl) ?_
        refine lv_isub hx hb dX7_addIntervals_69 ?_
        exact hret _ (c_count, c_ed, c_sets, c_scores, c_rated, c_hold) _ _ _ _ rfl h hP hD hS dX7_addIntervals_70
      · have h := hf hc
        clear ha hf
        refine lv_iload_n hx hb dX7_addIntervals_21 rfl (lv_at hl 2 rfl) ?_
        refine lv_istore_n (lv' := [(3, .int x2), (0, .ref z_a), (1, .int x1), (2, .int x2)]) hx hb dX7_addIntervals_22 rfl hl (by decide) rfl (fun ls hl => ?_)
        obtain ⟨j, h⟩ := h
        exact b_23 _ ih j _ _ _ _ _ _ _ _ _ h _ _ _ ⟨hP, hD, hS, lv_sub hl [1, 2, 3, 0] rfl⟩
  refine lv_aload_n hx hb dX7_addIntervals_0 rfl (lv_at hl 0 rfl) ?_
  refine va_get (D := G) (ci := 7) (v := .ref c_a) (C := RX7) (T := TX7) (N := 10) hx hb hts i_X7 hown hK.1 hP 0 rfl rfl 0 (by decide) f_12 (fun _ h9 => h9) rfl dX7_addIntervals_1 ?_
  refine va_get (D := G) (ci := 0) (v := .int c_count) (C := RX0) (T := TX0) (N := 7) hx hb hts i_X0 hown hK.1 hP 1 rfl rfl 1 (by decide) f_96 (fun _ h9 => h9) rfl dX7_addIntervals_4 ?_
  refine lv_istore_n (lv' := [(1, .int c_count), (0, .ref z_a)]) hx hb dX7_addIntervals_7 rfl hl (by decide) rfl (fun ls hl => ?_)
  refine lv_iconst (v := (0 : Int32)) hx hb dX7_addIntervals_8 (by decide) ?_
  refine lv_istore_n (lv' := [(2, .int (0 : Int32)), (1, .int c_count), (0, .ref z_a)]) hx hb dX7_addIntervals_9 rfl hl (by decide) rfl (fun ls hl => ?_)
  obtain ⟨j, h⟩ := h
  exact b_10  j _ _ _ _ _ _ _ _ h _ _ _ ⟨hP, hD, hS, lv_sub hl [2, 1, 0] rfl⟩
abbrev rm_X7_removeConcept : Room := { frames := 4, cells := 0, slots := 0, locals := 86 }
def wp_X7_removeConcept (x1 : Int32) (c_points : Int32) (c_count : Int32) (c_ed : Int32) (c_sets : Nat → Int32) (c_scores : Nat → UInt64) (c_rated : Nat → Int32) (c_hold : Nat → Int32) (Q : Int32 → Int32 → Int32 → (Nat → Int32) → (Nat → UInt64) → (Nat → Int32) → (Nat → Int32) → Prop) : Prop := wp_X0_has x1 c_count (fun (r_1 : Int32) => ((¬ r_1 = 0) → wp_X0_drop x1 c_points c_count c_ed c_sets c_scores c_rated c_hold (fun (c_count_2 : Int32) (c_ed_3 : Int32) (c_sets_4 : Nat → Int32) (c_scores_5 : Nat → UInt64) (c_rated_6 : Nat → Int32) (c_hold_7 : Nat → Int32) => Q c_count_2 c_count_2 c_ed_3 c_sets_4 c_scores_5 c_rated_6 c_hold_7)) ∧ ((r_1 = 0) → Q (-2 : Int32) c_count c_ed c_sets c_scores c_rated c_hold))
set_option maxRecDepth 100000 in
set_option maxHeartbeats 4000000 in
theorem c_X7_removeConcept (l : Launch) (G : va_G) (cI cD cZ cJ cO : ClassId) (z_a c_a c_as c_ad c_ar c_ah s_a d_a t_a e_a p_a r_a q_a z_as : Nat) (z_saved : Int32) (c_points : Int32) (c_count : Int32) (c_ed : Int32) (c_sets : Nat → Int32) (c_scores : Nat → UInt64) (c_rated : Nat → Int32) (c_hold : Nat → Int32) (x1 : Int32) (Q : Int32 → Int32 → Int32 → (Nat → Int32) → (Nat → UInt64) → (Nat → Int32) → (Nat → Int32) → Prop) (h : wp_X7_removeConcept x1 c_points c_count c_ed c_sets c_scores c_rated c_hold Q) : CtI l yX7_removeConcept wsX7_removeConcept rm_X7_removeConcept G (TY cI cD cZ cJ cO) [.ref z_a, .int x1] [oX7 z_a c_a s_a d_a t_a z_saved e_a p_a r_a q_a z_as, oX0 c_a c_points c_count c_as c_ad c_ar c_ah c_ed, aI cI c_as 20 c_sets, aD cD c_ad 20 c_scores, aZ cZ c_ar 20 c_rated, aI cI c_ah 8 c_hold] (fun (r : Int32) (u : Int32 × Int32 × (Nat → Int32) × (Nat → UInt64) × (Nat → Int32) × (Nat → Int32)) => Q r u.1 u.2.1 u.2.2.1 u.2.2.2.1 u.2.2.2.2.1 u.2.2.2.2.2) (fun (u : Int32 × Int32 × (Nat → Int32) × (Nat → UInt64) × (Nat → Int32) × (Nat → Int32)) => [oX7 z_a c_a s_a d_a t_a z_saved e_a p_a r_a q_a z_as, oX0 c_a c_points u.1 c_as c_ad c_ar c_ah u.2.1, aI cI c_as 20 u.2.2.1, aD cD c_ad 20 u.2.2.2.1, aZ cZ c_ar 20 u.2.2.2.2.1, aI cI c_ah 8 u.2.2.2.2.2]) := by
  refine ct_openI (cc := cX7_removeConcept) (maxL := 2) (ty := .int) (by decide) rfl (Nat.le_of_ble_eq_true rfl) ?_
  intro p e s m args below meth c A Z ls hx hb hml hown hts hK hA hret hP hD hS hl
  have hown : s.vm.findClass RX7 = some m.cls := hown
  have hl : lv_has ls 2 [(0, .ref z_a), (1, .int x1)] := hl
  have f_12 := hts (.fieldLink RX7 12 "TeachingSets" "concepts" "LTeachingSets$Concepts;") (List.mem_of_getElem? (i := 1) rfl)
  have f_96 := hts (.fieldLink RX7 96 "TeachingSets$Concepts" "count" "I") (List.mem_of_getElem? (i := 2) rfl)
  have i_X7 : ∀ w ∈ wsX70, w ∈ wsX7_removeConcept := fun _ h => List.mem_cons_of_mem _ (List.mem_append_left _ (List.mem_append_right _ (h)))
  have i_X0 : ∀ w ∈ wsX00, w ∈ wsX7_removeConcept := fun _ h => List.mem_cons_of_mem _ (List.mem_append_right _ (h))
  refine lv_aload_n hx hb dX7_removeConcept_0 rfl (lv_at hl 0 rfl) ?_
  refine va_get (D := G) (ci := 7) (v := .ref c_a) (C := RX7) (T := TX7) (N := 10) hx hb hts i_X7 hown hK.1 hP 0 rfl rfl 0 (by decide) f_12 (fun _ h9 => h9) rfl dX7_removeConcept_1 ?_
  refine lv_iload_n hx hb dX7_removeConcept_4 rfl (lv_at hl 1 rfl) ?_
  refine k_Vi (wr := [oX7 z_a c_a s_a d_a t_a z_saved e_a p_a r_a q_a z_as]) (wf := (fun (u : Unit) => [oX7 z_a c_a s_a d_a t_a z_saved e_a p_a r_a q_a z_as, oX0 c_a c_points c_count c_as c_ad c_ar c_ah c_ed, aI cI c_as 20 c_sets, aD cD c_ad 20 c_scores, aZ cZ c_ar 20 c_rated, aI cI c_ah 8 c_hold])) (As := [.int x1]) (rest := []) ⟨hx, hb, hml, hown, hts⟩ hK hP hD hS hA (c_X0_has l G cI cD cZ cJ cO c_a c_as c_ad c_ar c_ah c_points c_count c_ed c_sets c_scores c_rated c_hold x1 _ h) (cwV 1 hts gX7_removeConcept_X0_has rfl rfl rfl (by decide +kernel) ⟨Nat.le_of_ble_eq_true rfl, Nat.le_of_ble_eq_true rfl⟩) 0 rfl rfl [1, 2, 3, 4, 5] [0] [0, 1, 2, 3, 4, 5] rfl rfl rfl (fun _ => rfl) rfl rfl hl.1 (Nat.le_of_ble_eq_true rfl) ⟨Nat.zero_le _, Nat.zero_le _⟩ dX7_removeConcept_5 (fun r_1 u H locs h hP hD hS => ?_)
  have hP : va_P G vwCl [oX7 z_a c_a s_a d_a t_a z_saved e_a p_a r_a q_a z_as, oX0 c_a c_points c_count c_as c_ad c_ar c_ah c_ed, aI cI c_as 20 c_sets, aD cD c_ad 20 c_scores, aZ cZ c_ar 20 c_rated, aI cI c_ah 8 c_hold] H := hP
  have hD : va_D A [oX7 z_a c_a s_a d_a t_a z_saved e_a p_a r_a q_a z_as, oX0 c_a c_points c_count c_as c_ad c_ar c_ah c_ed, aI cI c_as 20 c_sets, aD cD c_ad 20 c_scores, aZ cZ c_ar 20 c_rated, aI cI c_ah 8 c_hold] := hD
  obtain ⟨ha, hf⟩ := h
  refine lv_if_ne (tgt := 14) hx hb dX7_removeConcept_8 (by decide) (fun hc => ?_) (fun hc => ?_)
  · have h := ha hc
    clear ha hf
    refine lv_aload_n hx hb dX7_removeConcept_14 rfl (lv_at hl 0 rfl) ?_
    refine va_get (D := G) (ci := 7) (v := .ref c_a) (C := RX7) (T := TX7) (N := 10) hx hb hts i_X7 hown hK.1 hP 0 rfl rfl 0 (by decide) f_12 (fun _ h9 => h9) rfl dX7_removeConcept_15 ?_
    refine lv_iload_n hx hb dX7_removeConcept_18 rfl (lv_at hl 1 rfl) ?_
    refine k_Vv (wr := [oX7 z_a c_a s_a d_a t_a z_saved e_a p_a r_a q_a z_as]) (wf := (fun (u : Int32 × Int32 × (Nat → Int32) × (Nat → UInt64) × (Nat → Int32) × (Nat → Int32)) => [oX7 z_a c_a s_a d_a t_a z_saved e_a p_a r_a q_a z_as, oX0 c_a c_points u.1 c_as c_ad c_ar c_ah u.2.1, aI cI c_as 20 u.2.2.1, aD cD c_ad 20 u.2.2.2.1, aZ cZ c_ar 20 u.2.2.2.2.1, aI cI c_ah 8 u.2.2.2.2.2])) (As := [.int x1]) (rest := []) ⟨hx, hb, hml, hown, hts⟩ hK hP hD hS hA (c_X0_drop l G cI cD cZ cJ cO c_a c_as c_ad c_ar c_ah c_points c_count c_ed c_sets c_scores c_rated c_hold x1 _ h) (cwV 1 hts gX7_removeConcept_X0_drop rfl rfl rfl (by decide +kernel) ⟨Nat.le_of_ble_eq_true rfl, Nat.le_of_ble_eq_true rfl⟩) 0 rfl rfl [1, 2, 3, 4, 5] [0] [0, 1, 2, 3, 4, 5] rfl rfl rfl (fun _ => rfl) rfl rfl hl.1 (Nat.le_of_ble_eq_true rfl) ⟨Nat.zero_le _, Nat.zero_le _⟩ dX7_removeConcept_19 (fun u H locs h hP hD hS => ?_)
    obtain ⟨c_count_2, c_ed_3, c_sets_4, c_scores_5, c_rated_6, c_hold_7⟩ := u
    have hP : va_P G vwCl [oX7 z_a c_a s_a d_a t_a z_saved e_a p_a r_a q_a z_as, oX0 c_a c_points c_count_2 c_as c_ad c_ar c_ah c_ed_3, aI cI c_as 20 c_sets_4, aD cD c_ad 20 c_scores_5, aZ cZ c_ar 20 c_rated_6, aI cI c_ah 8 c_hold_7] H := hP
    have hD : va_D A [oX7 z_a c_a s_a d_a t_a z_saved e_a p_a r_a q_a z_as, oX0 c_a c_points c_count_2 c_as c_ad c_ar c_ah c_ed_3, aI cI c_as 20 c_sets_4, aD cD c_ad 20 c_scores_5, aZ cZ c_ar 20 c_rated_6, aI cI c_ah 8 c_hold_7] := hD
    refine lv_aload_n hx hb dX7_removeConcept_22 rfl (lv_at hl 0 rfl) ?_
    refine va_get (D := G) (ci := 7) (v := .ref c_a) (C := RX7) (T := TX7) (N := 10) hx hb hts i_X7 hown hK.1 hP 0 rfl rfl 0 (by decide) f_12 (fun _ h9 => h9) rfl dX7_removeConcept_23 ?_
    refine va_get (D := G) (ci := 0) (v := .int c_count_2) (C := RX0) (T := TX0) (N := 7) hx hb hts i_X0 hown hK.1 hP 1 rfl rfl 1 (by decide) f_96 (fun _ h9 => h9) rfl dX7_removeConcept_26 ?_
    exact hret _ (c_count_2, c_ed_3, c_sets_4, c_scores_5, c_rated_6, c_hold_7) _ _ _ _ rfl h hP hD hS dX7_removeConcept_29
  · have h := hf hc
    clear ha hf
    refine lv_bipush (v := (-2 : Int32)) hx hb dX7_removeConcept_11 (by decide) ?_
    exact hret _ (c_count, c_ed, c_sets, c_scores, c_rated, c_hold) _ _ _ _ rfl h hP hD hS dX7_removeConcept_13
abbrev rm_X7_conceptCount : Room := { frames := 0, cells := 0, slots := 0, locals := 0 }
def wp_X7_conceptCount (c_count : Int32) (Q : Int32 → Prop) : Prop := Q c_count
set_option maxRecDepth 100000 in
set_option maxHeartbeats 4000000 in
theorem c_X7_conceptCount (l : Launch) (G : va_G) (cI cD cZ cJ cO : ClassId) (z_a c_a c_as c_ad c_ar c_ah s_a d_a t_a e_a p_a r_a q_a z_as : Nat) (z_saved : Int32) (c_points : Int32) (c_count : Int32) (c_ed : Int32) (c_sets : Nat → Int32) (c_scores : Nat → UInt64) (c_rated : Nat → Int32) (c_hold : Nat → Int32) (Q : Int32 → Prop) (h : wp_X7_conceptCount c_count Q) : CtI l yX7_conceptCount wsX7_conceptCount rm_X7_conceptCount G (TY cI cD cZ cJ cO) [.ref z_a] [oX7 z_a c_a s_a d_a t_a z_saved e_a p_a r_a q_a z_as, oX0 c_a c_points c_count c_as c_ad c_ar c_ah c_ed, aI cI c_as 20 c_sets, aD cD c_ad 20 c_scores, aZ cZ c_ar 20 c_rated, aI cI c_ah 8 c_hold] (fun (r : Int32) (u : Unit) => Q r) (fun (u : Unit) => [oX7 z_a c_a s_a d_a t_a z_saved e_a p_a r_a q_a z_as, oX0 c_a c_points c_count c_as c_ad c_ar c_ah c_ed, aI cI c_as 20 c_sets, aD cD c_ad 20 c_scores, aZ cZ c_ar 20 c_rated, aI cI c_ah 8 c_hold]) := by
  refine ct_openI (cc := cX7_conceptCount) (maxL := 1) (ty := .int) (by decide) rfl (Nat.le_of_ble_eq_true rfl) ?_
  intro p e s m args below meth c A Z ls hx hb hml hown hts hK hA hret hP hD hS hl
  have hown : s.vm.findClass RX7 = some m.cls := hown
  have hl : lv_has ls 1 [(0, .ref z_a)] := hl
  have f_12 := hts (.fieldLink RX7 12 "TeachingSets" "concepts" "LTeachingSets$Concepts;") (List.mem_of_getElem? (i := 1) rfl)
  have f_96 := hts (.fieldLink RX7 96 "TeachingSets$Concepts" "count" "I") (List.mem_of_getElem? (i := 2) rfl)
  have i_X7 : ∀ w ∈ wsX70, w ∈ wsX7_conceptCount := fun _ h => List.mem_cons_of_mem _ (List.mem_append_left _ (List.mem_append_right _ (h)))
  have i_X0 : ∀ w ∈ wsX00, w ∈ wsX7_conceptCount := fun _ h => List.mem_cons_of_mem _ (List.mem_append_right _ (h))
  refine lv_aload_n hx hb dX7_conceptCount_0 rfl (lv_at hl 0 rfl) ?_
  refine va_get (D := G) (ci := 7) (v := .ref c_a) (C := RX7) (T := TX7) (N := 10) hx hb hts i_X7 hown hK.1 hP 0 rfl rfl 0 (by decide) f_12 (fun _ h9 => h9) rfl dX7_conceptCount_1 ?_
  refine va_get (D := G) (ci := 0) (v := .int c_count) (C := RX0) (T := TX0) (N := 7) hx hb hts i_X0 hown hK.1 hP 1 rfl rfl 1 (by decide) f_96 (fun _ h9 => h9) rfl dX7_conceptCount_4 ?_
  exact hret _ () _ _ _ _ rfl h hP hD hS dX7_conceptCount_7
abbrev rm_X7_concept : Room := { frames := 1, cells := 0, slots := 0, locals := 21 }
def wp_X7_concept (x1 : Int32) (c_count : Int32) (c_sets : Nat → Int32) (Q : Int32 → Prop) : Prop := wp_X0_has x1 c_count (fun (r_1 : Int32) => ((r_1 = 0) → Q (-2 : Int32)) ∧ ((¬ r_1 = 0) → vp_in x1 20 ∧ Q (c_sets x1.toNatClampNeg)))
set_option maxRecDepth 100000 in
set_option maxHeartbeats 4000000 in
theorem c_X7_concept (l : Launch) (G : va_G) (cI cD cZ cJ cO : ClassId) (z_a c_a c_as c_ad c_ar c_ah s_a d_a t_a e_a p_a r_a q_a z_as : Nat) (z_saved : Int32) (c_points : Int32) (c_count : Int32) (c_ed : Int32) (c_sets : Nat → Int32) (c_scores : Nat → UInt64) (c_rated : Nat → Int32) (c_hold : Nat → Int32) (x1 : Int32) (Q : Int32 → Prop) (h : wp_X7_concept x1 c_count c_sets Q) : CtI l yX7_concept wsX7_concept rm_X7_concept G (TY cI cD cZ cJ cO) [.ref z_a, .int x1] [oX7 z_a c_a s_a d_a t_a z_saved e_a p_a r_a q_a z_as, oX0 c_a c_points c_count c_as c_ad c_ar c_ah c_ed, aI cI c_as 20 c_sets, aD cD c_ad 20 c_scores, aZ cZ c_ar 20 c_rated, aI cI c_ah 8 c_hold] (fun (r : Int32) (u : Unit) => Q r) (fun (u : Unit) => [oX7 z_a c_a s_a d_a t_a z_saved e_a p_a r_a q_a z_as, oX0 c_a c_points c_count c_as c_ad c_ar c_ah c_ed, aI cI c_as 20 c_sets, aD cD c_ad 20 c_scores, aZ cZ c_ar 20 c_rated, aI cI c_ah 8 c_hold]) := by
  refine ct_openI (cc := cX7_concept) (maxL := 2) (ty := .int) (by decide) rfl (Nat.le_of_ble_eq_true rfl) ?_
  intro p e s m args below meth c A Z ls hx hb hml hown hts hK hA hret hP hD hS hl
  have hown : s.vm.findClass RX7 = some m.cls := hown
  have hl : lv_has ls 2 [(0, .ref z_a), (1, .int x1)] := hl
  have f_12 := hts (.fieldLink RX7 12 "TeachingSets" "concepts" "LTeachingSets$Concepts;") (List.mem_of_getElem? (i := 1) rfl)
  have f_105 := hts (.fieldLink RX7 105 "TeachingSets$Concepts" "sets" "[I") (List.mem_of_getElem? (i := 2) rfl)
  have i_X7 : ∀ w ∈ wsX70, w ∈ wsX7_concept := fun _ h => List.mem_cons_of_mem _ (List.mem_append_left _ (List.mem_append_right _ (h)))
  have i_X0 : ∀ w ∈ wsX00, w ∈ wsX7_concept := fun _ h => List.mem_cons_of_mem _ (List.mem_append_right _ (h))
  refine lv_aload_n hx hb dX7_concept_0 rfl (lv_at hl 0 rfl) ?_
  refine va_get (D := G) (ci := 7) (v := .ref c_a) (C := RX7) (T := TX7) (N := 10) hx hb hts i_X7 hown hK.1 hP 0 rfl rfl 0 (by decide) f_12 (fun _ h9 => h9) rfl dX7_concept_1 ?_
  refine lv_iload_n hx hb dX7_concept_4 rfl (lv_at hl 1 rfl) ?_
  refine k_Vi (wr := [oX7 z_a c_a s_a d_a t_a z_saved e_a p_a r_a q_a z_as]) (wf := (fun (u : Unit) => [oX7 z_a c_a s_a d_a t_a z_saved e_a p_a r_a q_a z_as, oX0 c_a c_points c_count c_as c_ad c_ar c_ah c_ed, aI cI c_as 20 c_sets, aD cD c_ad 20 c_scores, aZ cZ c_ar 20 c_rated, aI cI c_ah 8 c_hold])) (As := [.int x1]) (rest := []) ⟨hx, hb, hml, hown, hts⟩ hK hP hD hS hA (c_X0_has l G cI cD cZ cJ cO c_a c_as c_ad c_ar c_ah c_points c_count c_ed c_sets c_scores c_rated c_hold x1 _ h) (cwV 1 hts gX7_concept_X0_has rfl rfl rfl (by decide +kernel) ⟨Nat.le_of_ble_eq_true rfl, Nat.le_of_ble_eq_true rfl⟩) 0 rfl rfl [1, 2, 3, 4, 5] [0] [0, 1, 2, 3, 4, 5] rfl rfl rfl (fun _ => rfl) rfl rfl hl.1 (Nat.le_of_ble_eq_true rfl) ⟨Nat.zero_le _, Nat.zero_le _⟩ dX7_concept_5 (fun r_1 u H locs h hP hD hS => ?_)
  have hP : va_P G vwCl [oX7 z_a c_a s_a d_a t_a z_saved e_a p_a r_a q_a z_as, oX0 c_a c_points c_count c_as c_ad c_ar c_ah c_ed, aI cI c_as 20 c_sets, aD cD c_ad 20 c_scores, aZ cZ c_ar 20 c_rated, aI cI c_ah 8 c_hold] H := hP
  have hD : va_D A [oX7 z_a c_a s_a d_a t_a z_saved e_a p_a r_a q_a z_as, oX0 c_a c_points c_count c_as c_ad c_ar c_ah c_ed, aI cI c_as 20 c_sets, aD cD c_ad 20 c_scores, aZ cZ c_ar 20 c_rated, aI cI c_ah 8 c_hold] := hD
  obtain ⟨ha, hf⟩ := h
  refine lv_if_eq (tgt := 23) hx hb dX7_concept_8 (by decide) (fun hc => ?_) (fun hc => ?_)
  · have h := ha hc
    clear ha hf
    refine lv_bipush (v := (-2 : Int32)) hx hb dX7_concept_23 (by decide) ?_
    exact hret _ () _ _ _ _ rfl h hP hD hS dX7_concept_25
  · have h := hf hc
    clear ha hf
    refine lv_aload_n hx hb dX7_concept_11 rfl (lv_at hl 0 rfl) ?_
    refine va_get (D := G) (ci := 7) (v := .ref c_a) (C := RX7) (T := TX7) (N := 10) hx hb hts i_X7 hown hK.1 hP 0 rfl rfl 0 (by decide) f_12 (fun _ h9 => h9) rfl dX7_concept_12 ?_
    refine va_get (D := G) (ci := 0) (v := .ref c_as) (C := RX0) (T := TX0) (N := 7) hx hb hts i_X0 hown hK.1 hP 1 rfl rfl 2 (by decide) f_105 (fun _ h9 => h9) rfl dX7_concept_15 ?_
    refine lv_iload_n hx hb dX7_concept_18 rfl (lv_at hl 1 rfl) ?_
    obtain ⟨hi, h⟩ := h
    refine va_iald hx hb hK.1 hP 2 0 rfl rfl hi dX7_concept_19 ?_
    refine lv_goto (tgt := 25) hx hb dX7_concept_20 (by decide) ?_
    exact hret _ () _ _ _ _ rfl h hP hD hS dX7_concept_25
abbrev rm_X7_numberOf : Room := { frames := 1, cells := 0, slots := 0, locals := 22 }
def wp_X7_numberOf (x1 : Int32) (c_count : Int32) (c_sets : Nat → Int32) (Q : Int32 → Prop) : Prop := wp_X0_find x1 c_count c_sets (fun (r_1 : Int32) => Q r_1)
set_option maxRecDepth 100000 in
set_option maxHeartbeats 4000000 in
theorem c_X7_numberOf (l : Launch) (G : va_G) (cI cD cZ cJ cO : ClassId) (z_a c_a c_as c_ad c_ar c_ah s_a d_a t_a e_a p_a r_a q_a z_as : Nat) (z_saved : Int32) (c_points : Int32) (c_count : Int32) (c_ed : Int32) (c_sets : Nat → Int32) (c_scores : Nat → UInt64) (c_rated : Nat → Int32) (c_hold : Nat → Int32) (x1 : Int32) (Q : Int32 → Prop) (h : wp_X7_numberOf x1 c_count c_sets Q) : CtI l yX7_numberOf wsX7_numberOf rm_X7_numberOf G (TY cI cD cZ cJ cO) [.ref z_a, .int x1] [oX7 z_a c_a s_a d_a t_a z_saved e_a p_a r_a q_a z_as, oX0 c_a c_points c_count c_as c_ad c_ar c_ah c_ed, aI cI c_as 20 c_sets, aD cD c_ad 20 c_scores, aZ cZ c_ar 20 c_rated, aI cI c_ah 8 c_hold] (fun (r : Int32) (u : Unit) => Q r) (fun (u : Unit) => [oX7 z_a c_a s_a d_a t_a z_saved e_a p_a r_a q_a z_as, oX0 c_a c_points c_count c_as c_ad c_ar c_ah c_ed, aI cI c_as 20 c_sets, aD cD c_ad 20 c_scores, aZ cZ c_ar 20 c_rated, aI cI c_ah 8 c_hold]) := by
  refine ct_openI (cc := cX7_numberOf) (maxL := 2) (ty := .int) (by decide) rfl (Nat.le_of_ble_eq_true rfl) ?_
  intro p e s m args below meth c A Z ls hx hb hml hown hts hK hA hret hP hD hS hl
  have hown : s.vm.findClass RX7 = some m.cls := hown
  have hl : lv_has ls 2 [(0, .ref z_a), (1, .int x1)] := hl
  have f_12 := hts (.fieldLink RX7 12 "TeachingSets" "concepts" "LTeachingSets$Concepts;") (List.mem_of_getElem? (i := 1) rfl)
  have i_X7 : ∀ w ∈ wsX70, w ∈ wsX7_numberOf := fun _ h => List.mem_cons_of_mem _ (List.mem_append_left _ (List.mem_append_right _ (h)))
  refine lv_aload_n hx hb dX7_numberOf_0 rfl (lv_at hl 0 rfl) ?_
  refine va_get (D := G) (ci := 7) (v := .ref c_a) (C := RX7) (T := TX7) (N := 10) hx hb hts i_X7 hown hK.1 hP 0 rfl rfl 0 (by decide) f_12 (fun _ h9 => h9) rfl dX7_numberOf_1 ?_
  refine lv_iload_n hx hb dX7_numberOf_4 rfl (lv_at hl 1 rfl) ?_
  refine k_Vi (wr := [oX7 z_a c_a s_a d_a t_a z_saved e_a p_a r_a q_a z_as]) (wf := (fun (u : Unit) => [oX7 z_a c_a s_a d_a t_a z_saved e_a p_a r_a q_a z_as, oX0 c_a c_points c_count c_as c_ad c_ar c_ah c_ed, aI cI c_as 20 c_sets, aD cD c_ad 20 c_scores, aZ cZ c_ar 20 c_rated, aI cI c_ah 8 c_hold])) (As := [.int x1]) (rest := []) ⟨hx, hb, hml, hown, hts⟩ hK hP hD hS hA (c_X0_find l G cI cD cZ cJ cO c_a c_as c_ad c_ar c_ah c_points c_count c_ed c_sets c_scores c_rated c_hold x1 _ h) (cwV 1 hts gX7_numberOf_X0_find rfl rfl rfl (by decide +kernel) ⟨Nat.le_of_ble_eq_true rfl, Nat.le_of_ble_eq_true rfl⟩) 0 rfl rfl [1, 2, 3, 4, 5] [0] [0, 1, 2, 3, 4, 5] rfl rfl rfl (fun _ => rfl) rfl rfl hl.1 (Nat.le_of_ble_eq_true rfl) ⟨Nat.zero_le _, Nat.zero_le _⟩ dX7_numberOf_5 (fun r_1 u H locs h hP hD hS => ?_)
  have hP : va_P G vwCl [oX7 z_a c_a s_a d_a t_a z_saved e_a p_a r_a q_a z_as, oX0 c_a c_points c_count c_as c_ad c_ar c_ah c_ed, aI cI c_as 20 c_sets, aD cD c_ad 20 c_scores, aZ cZ c_ar 20 c_rated, aI cI c_ah 8 c_hold] H := hP
  have hD : va_D A [oX7 z_a c_a s_a d_a t_a z_saved e_a p_a r_a q_a z_as, oX0 c_a c_points c_count c_as c_ad c_ar c_ah c_ed, aI cI c_as 20 c_sets, aD cD c_ad 20 c_scores, aZ cZ c_ar 20 c_rated, aI cI c_ah 8 c_hold] := hD
  exact hret _ () _ _ _ _ rfl h hP hD hS dX7_numberOf_8
abbrev rm_X7_complementAll : Room := { frames := 4, cells := 0, slots := 0, locals := 85 }
def wp_X7_complementAll (c_points : Int32) (c_count : Int32) (c_ed : Int32) (c_sets : Nat → Int32) (c_hold : Nat → Int32) (Q : Int32 → Int32 → (Nat → Int32) → (Nat → Int32) → Prop) : Prop := wp_X0_flip c_points c_count c_ed c_sets c_hold (fun (c_ed_1 : Int32) (c_sets_2 : Nat → Int32) (c_hold_3 : Nat → Int32) => Q c_count c_ed_1 c_sets_2 c_hold_3)
set_option maxRecDepth 100000 in
set_option maxHeartbeats 4000000 in
theorem c_X7_complementAll (l : Launch) (G : va_G) (cI cD cZ cJ cO : ClassId) (z_a c_a c_as c_ad c_ar c_ah s_a d_a t_a e_a p_a r_a q_a z_as : Nat) (z_saved : Int32) (c_points : Int32) (c_count : Int32) (c_ed : Int32) (c_sets : Nat → Int32) (c_scores : Nat → UInt64) (c_rated : Nat → Int32) (c_hold : Nat → Int32) (Q : Int32 → Int32 → (Nat → Int32) → (Nat → Int32) → Prop) (h : wp_X7_complementAll c_points c_count c_ed c_sets c_hold Q) : CtI l yX7_complementAll wsX7_complementAll rm_X7_complementAll G (TY cI cD cZ cJ cO) [.ref z_a] [oX7 z_a c_a s_a d_a t_a z_saved e_a p_a r_a q_a z_as, oX0 c_a c_points c_count c_as c_ad c_ar c_ah c_ed, aI cI c_as 20 c_sets, aD cD c_ad 20 c_scores, aZ cZ c_ar 20 c_rated, aI cI c_ah 8 c_hold] (fun (r : Int32) (u : Int32 × (Nat → Int32) × (Nat → Int32)) => Q r u.1 u.2.1 u.2.2) (fun (u : Int32 × (Nat → Int32) × (Nat → Int32)) => [oX7 z_a c_a s_a d_a t_a z_saved e_a p_a r_a q_a z_as, oX0 c_a c_points c_count c_as c_ad c_ar c_ah u.1, aI cI c_as 20 u.2.1, aD cD c_ad 20 c_scores, aZ cZ c_ar 20 c_rated, aI cI c_ah 8 u.2.2]) := by
  refine ct_openI (cc := cX7_complementAll) (maxL := 1) (ty := .int) (by decide) rfl (Nat.le_of_ble_eq_true rfl) ?_
  intro p e s m args below meth c A Z ls hx hb hml hown hts hK hA hret hP hD hS hl
  have hown : s.vm.findClass RX7 = some m.cls := hown
  have hl : lv_has ls 1 [(0, .ref z_a)] := hl
  have f_12 := hts (.fieldLink RX7 12 "TeachingSets" "concepts" "LTeachingSets$Concepts;") (List.mem_of_getElem? (i := 1) rfl)
  have f_96 := hts (.fieldLink RX7 96 "TeachingSets$Concepts" "count" "I") (List.mem_of_getElem? (i := 2) rfl)
  have i_X7 : ∀ w ∈ wsX70, w ∈ wsX7_complementAll := fun _ h => List.mem_cons_of_mem _ (List.mem_append_left _ (List.mem_append_right _ (h)))
  have i_X0 : ∀ w ∈ wsX00, w ∈ wsX7_complementAll := fun _ h => List.mem_cons_of_mem _ (List.mem_append_right _ (h))
  refine lv_aload_n hx hb dX7_complementAll_0 rfl (lv_at hl 0 rfl) ?_
  refine va_get (D := G) (ci := 7) (v := .ref c_a) (C := RX7) (T := TX7) (N := 10) hx hb hts i_X7 hown hK.1 hP 0 rfl rfl 0 (by decide) f_12 (fun _ h9 => h9) rfl dX7_complementAll_1 ?_
  refine k_Vv (wr := [oX7 z_a c_a s_a d_a t_a z_saved e_a p_a r_a q_a z_as]) (wf := (fun (u : Int32 × (Nat → Int32) × (Nat → Int32)) => [oX7 z_a c_a s_a d_a t_a z_saved e_a p_a r_a q_a z_as, oX0 c_a c_points c_count c_as c_ad c_ar c_ah u.1, aI cI c_as 20 u.2.1, aD cD c_ad 20 c_scores, aZ cZ c_ar 20 c_rated, aI cI c_ah 8 u.2.2])) (As := []) (rest := []) ⟨hx, hb, hml, hown, hts⟩ hK hP hD hS hA (c_X0_flip l G cI cD cZ cJ cO c_a c_as c_ad c_ar c_ah c_points c_count c_ed c_sets c_scores c_rated c_hold _ h) (cwV 0 hts gX7_complementAll_X0_flip rfl rfl rfl (by decide +kernel) ⟨Nat.le_of_ble_eq_true rfl, Nat.le_of_ble_eq_true rfl⟩) 0 rfl rfl [1, 2, 3, 4, 5] [0] [0, 1, 2, 3, 4, 5] rfl rfl rfl (fun _ => rfl) rfl rfl hl.1 (Nat.le_of_ble_eq_true rfl) ⟨Nat.zero_le _, Nat.zero_le _⟩ dX7_complementAll_4 (fun u H locs h hP hD hS => ?_)
  obtain ⟨c_ed_1, c_sets_2, c_hold_3⟩ := u
  have hP : va_P G vwCl [oX7 z_a c_a s_a d_a t_a z_saved e_a p_a r_a q_a z_as, oX0 c_a c_points c_count c_as c_ad c_ar c_ah c_ed_1, aI cI c_as 20 c_sets_2, aD cD c_ad 20 c_scores, aZ cZ c_ar 20 c_rated, aI cI c_ah 8 c_hold_3] H := hP
  have hD : va_D A [oX7 z_a c_a s_a d_a t_a z_saved e_a p_a r_a q_a z_as, oX0 c_a c_points c_count c_as c_ad c_ar c_ah c_ed_1, aI cI c_as 20 c_sets_2, aD cD c_ad 20 c_scores, aZ cZ c_ar 20 c_rated, aI cI c_ah 8 c_hold_3] := hD
  refine lv_aload_n hx hb dX7_complementAll_7 rfl (lv_at hl 0 rfl) ?_
  refine va_get (D := G) (ci := 7) (v := .ref c_a) (C := RX7) (T := TX7) (N := 10) hx hb hts i_X7 hown hK.1 hP 0 rfl rfl 0 (by decide) f_12 (fun _ h9 => h9) rfl dX7_complementAll_8 ?_
  refine va_get (D := G) (ci := 0) (v := .int c_count) (C := RX0) (T := TX0) (N := 7) hx hb hts i_X0 hown hK.1 hP 1 rfl rfl 1 (by decide) f_96 (fun _ h9 => h9) rfl dX7_complementAll_11 ?_
  exact hret _ (c_ed_1, c_sets_2, c_hold_3) _ _ _ _ rfl h hP hD hS dX7_complementAll_14
abbrev rm_X7_isIntersectionClosed : Room := { frames := 1, cells := 0, slots := 0, locals := 22 }
def wp_X7_isIntersectionClosed_b15 (c_count : Int32) (c_sets : Nat → Int32) (Q : Int32 → Prop) (k2 : Int32 → Prop) : Nat → Int32 → Int32 → Prop
  | 0, _, _ => False
  | n + 1, x1, x2 => ((x1 ≤ x2) → k2 (x1 + (1 : Int32))) ∧ ((¬ x1 ≤ x2) → vp_in x1 20 ∧ vp_in x2 20 ∧ wp_X0_find ((c_sets x1.toNatClampNeg) &&& (c_sets x2.toNatClampNeg)) c_count c_sets (fun (r_1 : Int32) => ((¬ r_1 = (-6 : Int32)) → wp_X7_isIntersectionClosed_b15 c_count c_sets Q k2 n x1 (x2 + (1 : Int32))) ∧ ((r_1 = (-6 : Int32)) → Q (0 : Int32))))
def wp_X7_isIntersectionClosed_b2 (c_count : Int32) (c_sets : Nat → Int32) (Q : Int32 → Prop)  : Nat → Int32 → Prop
  | 0, _ => False
  | n + 1, x1 => ((c_count ≤ x1) → Q (1 : Int32)) ∧ ((¬ c_count ≤ x1) → ∃ j15, wp_X7_isIntersectionClosed_b15 c_count c_sets Q (fun (x1 : Int32) => wp_X7_isIntersectionClosed_b2 c_count c_sets Q n x1) j15 x1 (0 : Int32))
def wp_X7_isIntersectionClosed (c_count : Int32) (c_sets : Nat → Int32) (Q : Int32 → Prop) : Prop := ∃ j2, wp_X7_isIntersectionClosed_b2 c_count c_sets Q j2 (0 : Int32)
set_option maxRecDepth 100000 in
set_option maxHeartbeats 4000000 in
theorem c_X7_isIntersectionClosed (l : Launch) (G : va_G) (cI cD cZ cJ cO : ClassId) (z_a c_a c_as c_ad c_ar c_ah s_a d_a t_a e_a p_a r_a q_a z_as : Nat) (z_saved : Int32) (c_points : Int32) (c_count : Int32) (c_ed : Int32) (c_sets : Nat → Int32) (c_scores : Nat → UInt64) (c_rated : Nat → Int32) (c_hold : Nat → Int32) (Q : Int32 → Prop) (h : wp_X7_isIntersectionClosed c_count c_sets Q) : CtI l yX7_isIntersectionClosed wsX7_isIntersectionClosed rm_X7_isIntersectionClosed G (TY cI cD cZ cJ cO) [.ref z_a] [oX7 z_a c_a s_a d_a t_a z_saved e_a p_a r_a q_a z_as, oX0 c_a c_points c_count c_as c_ad c_ar c_ah c_ed, aI cI c_as 20 c_sets, aD cD c_ad 20 c_scores, aZ cZ c_ar 20 c_rated, aI cI c_ah 8 c_hold] (fun (r : Int32) (u : Unit) => Q r) (fun (u : Unit) => [oX7 z_a c_a s_a d_a t_a z_saved e_a p_a r_a q_a z_as, oX0 c_a c_points c_count c_as c_ad c_ar c_ah c_ed, aI cI c_as 20 c_sets, aD cD c_ad 20 c_scores, aZ cZ c_ar 20 c_rated, aI cI c_ah 8 c_hold]) := by
  refine ct_openI (cc := cX7_isIntersectionClosed) (maxL := 3) (ty := .int) (by decide) rfl (Nat.le_of_ble_eq_true rfl) ?_
  intro p e s m args below meth c A Z ls hx hb hml hown hts hK hA hret hP hD hS hl
  have hown : s.vm.findClass RX7 = some m.cls := hown
  have hl : lv_has ls 3 [(0, .ref z_a)] := hl
  have f_12 := hts (.fieldLink RX7 12 "TeachingSets" "concepts" "LTeachingSets$Concepts;") (List.mem_of_getElem? (i := 1) rfl)
  have f_96 := hts (.fieldLink RX7 96 "TeachingSets$Concepts" "count" "I") (List.mem_of_getElem? (i := 2) rfl)
  have f_105 := hts (.fieldLink RX7 105 "TeachingSets$Concepts" "sets" "[I") (List.mem_of_getElem? (i := 3) rfl)
  have i_X7 : ∀ w ∈ wsX70, w ∈ wsX7_isIntersectionClosed := fun _ h => List.mem_cons_of_mem _ (List.mem_append_left _ (List.mem_append_right _ (h)))
  have i_X0 : ∀ w ∈ wsX00, w ∈ wsX7_isIntersectionClosed := fun _ h => List.mem_cons_of_mem _ (List.mem_append_right _ (h))
  have b_15 : ∀ (k2 : Int32 → Prop), (∀ (x1 : Int32), k2 x1 → ∀ (H : Heap) (locs : List Loc) (ls : Array Slot), ST G A s.heap [oX7 z_a c_a s_a d_a t_a z_saved e_a p_a r_a q_a z_as, oX0 c_a c_points c_count c_as c_ad c_ar c_ah c_ed, aI cI c_as 20 c_sets, aD cD c_ad 20 c_scores, aZ cZ c_ar 20 c_rated, aI cI c_ah 8 c_hold] 3 [(0, .ref z_a), (1, .int x1)] H locs ls → W p l e rm_X7_isIntersectionClosed s m args below meth c H locs 0 0 Z (F0 m 2 ls [])) → ∀ (n : Nat) (x1 : Int32) (x2 : Int32), wp_X7_isIntersectionClosed_b15 c_count c_sets Q k2 n x1 x2 → ∀ (H : Heap) (locs : List Loc) (ls : Array Slot), ST G A s.heap [oX7 z_a c_a s_a d_a t_a z_saved e_a p_a r_a q_a z_as, oX0 c_a c_points c_count c_as c_ad c_ar c_ah c_ed, aI cI c_as 20 c_sets, aD cD c_ad 20 c_scores, aZ cZ c_ar 20 c_rated, aI cI c_ah 8 c_hold] 3 [(0, .ref z_a), (1, .int x1), (2, .int x2)] H locs ls → W p l e rm_X7_isIntersectionClosed s m args below meth c H locs 0 0 Z (F0 m 15 ls []) := by
    intro k2 hk2 n
    induction n with
    | zero =>
      intro x1 x2 h; exact False.elim h
    | succ n ih =>
      intro x1 x2 h H locs ls hst
      obtain ⟨hP, hD, hS, hl⟩ := hst
      refine lv_iload_n hx hb dX7_isIntersectionClosed_15 rfl (lv_at hl 2 rfl) ?_
      refine lv_iload_n hx hb dX7_isIntersectionClosed_16 rfl (lv_at hl 1 rfl) ?_
      obtain ⟨ha, hf⟩ := h
      refine lv_icmp_ge (tgt := 59) hx hb dX7_isIntersectionClosed_17 (by decide) (fun hc => ?_) (fun hc => ?_)
      · have h := ha hc
        clear ha hf
        refine lv_iinc (v := (x1 + (1 : Int32))) (lv' := [(1, .int (x1 + (1 : Int32))), (0, .ref z_a), (2, .int x2)]) hx hb dX7_isIntersectionClosed_59 hl (k := 1) rfl rfl (by decide) rfl (fun ls hl => ?_)
        refine lv_goto (tgt := 2) hx hb dX7_isIntersectionClosed_62 (by decide) ?_
        exact hk2 _ h _ _ _ ⟨hP, hD, hS, lv_sub hl [1, 0] rfl⟩
      · have h := hf hc
        clear ha hf
        refine lv_aload_n hx hb dX7_isIntersectionClosed_20 rfl (lv_at hl 0 rfl) ?_
        refine va_get (D := G) (ci := 7) (v := .ref c_a) (C := RX7) (T := TX7) (N := 10) hx hb hts i_X7 hown hK.1 hP 0 rfl rfl 0 (by decide) f_12 (fun _ h9 => h9) rfl dX7_isIntersectionClosed_21 ?_
        refine lv_aload_n hx hb dX7_isIntersectionClosed_24 rfl (lv_at hl 0 rfl) ?_
        refine va_get (D := G) (ci := 7) (v := .ref c_a) (C := RX7) (T := TX7) (N := 10) hx hb hts i_X7 hown hK.1 hP 0 rfl rfl 0 (by decide) f_12 (fun _ h9 => h9) rfl dX7_isIntersectionClosed_25 ?_
        refine va_get (D := G) (ci := 0) (v := .ref c_as) (C := RX0) (T := TX0) (N := 7) hx hb hts i_X0 hown hK.1 hP 1 rfl rfl 2 (by decide) f_105 (fun _ h9 => h9) rfl dX7_isIntersectionClosed_28 ?_
        refine lv_iload_n hx hb dX7_isIntersectionClosed_31 rfl (lv_at hl 1 rfl) ?_
        obtain ⟨hi, h⟩ := h
        refine va_iald hx hb hK.1 hP 2 0 rfl rfl hi dX7_isIntersectionClosed_32 ?_
        refine lv_aload_n hx hb dX7_isIntersectionClosed_33 rfl (lv_at hl 0 rfl) ?_
        refine va_get (D := G) (ci := 7) (v := .ref c_a) (C := RX7) (T := TX7) (N := 10) hx hb hts i_X7 hown hK.1 hP 0 rfl rfl 0 (by decide) f_12 (fun _ h9 => h9) rfl dX7_isIntersectionClosed_34 ?_
        refine va_get (D := G) (ci := 0) (v := .ref c_as) (C := RX0) (T := TX0) (N := 7) hx hb hts i_X0 hown hK.1 hP 1 rfl rfl 2 (by decide) f_105 (fun _ h9 => h9) rfl dX7_isIntersectionClosed_37 ?_
        refine lv_iload_n hx hb dX7_isIntersectionClosed_40 rfl (lv_at hl 2 rfl) ?_
        obtain ⟨hi, h⟩ := h
        refine va_iald hx hb hK.1 hP 2 0 rfl rfl hi dX7_isIntersectionClosed_41 ?_
        refine lv_iand hx hb dX7_isIntersectionClosed_42 ?_
        refine k_Vi (wr := [oX7 z_a c_a s_a d_a t_a z_saved e_a p_a r_a q_a z_as]) (wf := (fun (u : Unit) => [oX7 z_a c_a s_a d_a t_a z_saved e_a p_a r_a q_a z_as, oX0 c_a c_points c_count c_as c_ad c_ar c_ah c_ed, aI cI c_as 20 c_sets, aD cD c_ad 20 c_scores, aZ cZ c_ar 20 c_rated, aI cI c_ah 8 c_hold])) (As := [.int ((c_sets x1.toNatClampNeg) &&& (c_sets x2.toNatClampNeg))]) (rest := []) ⟨hx, hb, hml, hown, hts⟩ hK hP hD hS hA (c_X0_find l G cI cD cZ cJ cO c_a c_as c_ad c_ar c_ah c_points c_count c_ed c_sets c_scores c_rated c_hold ((c_sets x1.toNatClampNeg) &&& (c_sets x2.toNatClampNeg)) _ h) (cwV 1 hts gX7_isIntersectionClosed_X0_find rfl rfl rfl (by decide +kernel) ⟨Nat.le_of_ble_eq_true rfl, Nat.le_of_ble_eq_true rfl⟩) 0 rfl rfl [1, 2, 3, 4, 5] [0] [0, 1, 2, 3, 4, 5] rfl rfl rfl (fun _ => rfl) rfl rfl hl.1 (Nat.le_of_ble_eq_true rfl) ⟨Nat.zero_le _, Nat.zero_le _⟩ dX7_isIntersectionClosed_43 (fun r_1 u H locs h hP hD hS => ?_)
        have hP : va_P G vwCl [oX7 z_a c_a s_a d_a t_a z_saved e_a p_a r_a q_a z_as, oX0 c_a c_points c_count c_as c_ad c_ar c_ah c_ed, aI cI c_as 20 c_sets, aD cD c_ad 20 c_scores, aZ cZ c_ar 20 c_rated, aI cI c_ah 8 c_hold] H := hP
        have hD : va_D A [oX7 z_a c_a s_a d_a t_a z_saved e_a p_a r_a q_a z_as, oX0 c_a c_points c_count c_as c_ad c_ar c_ah c_ed, aI cI c_as 20 c_sets, aD cD c_ad 20 c_scores, aZ cZ c_ar 20 c_rated, aI cI c_ah 8 c_hold] := hD
        refine lv_bipush (v := (-6 : Int32)) hx hb dX7_isIntersectionClosed_46 (by decide) ?_
        obtain ⟨ha, hf⟩ := h
        refine lv_icmp_ne (tgt := 53) hx hb dX7_isIntersectionClosed_48 (by decide) (fun hc => ?_) (fun hc => ?_)
        · have h := ha hc
          clear ha hf
          refine lv_iinc (v := (x2 + (1 : Int32))) (lv' := [(2, .int (x2 + (1 : Int32))), (0, .ref z_a), (1, .int x1)]) hx hb dX7_isIntersectionClosed_53 hl (k := 2) rfl rfl (by decide) rfl (fun ls hl => ?_)
          refine lv_goto (tgt := 15) hx hb dX7_isIntersectionClosed_56 (by decide) ?_
          exact ih _ _ h _ _ _ ⟨hP, hD, hS, lv_sub hl [1, 2, 0] rfl⟩
        · have h := hf hc
          clear ha hf
          refine lv_iconst (v := (0 : Int32)) hx hb dX7_isIntersectionClosed_51 (by decide) ?_
          exact hret _ () _ _ _ _ rfl h hP hD hS dX7_isIntersectionClosed_52
  have b_2 : ∀ (n : Nat) (x1 : Int32), wp_X7_isIntersectionClosed_b2 c_count c_sets Q n x1 → ∀ (H : Heap) (locs : List Loc) (ls : Array Slot), ST G A s.heap [oX7 z_a c_a s_a d_a t_a z_saved e_a p_a r_a q_a z_as, oX0 c_a c_points c_count c_as c_ad c_ar c_ah c_ed, aI cI c_as 20 c_sets, aD cD c_ad 20 c_scores, aZ cZ c_ar 20 c_rated, aI cI c_ah 8 c_hold] 3 [(0, .ref z_a), (1, .int x1)] H locs ls → W p l e rm_X7_isIntersectionClosed s m args below meth c H locs 0 0 Z (F0 m 2 ls []) := by
    intro n
    induction n with
    | zero =>
      intro x1 h; exact False.elim h
    | succ n ih =>
      intro x1 h H locs ls hst
      obtain ⟨hP, hD, hS, hl⟩ := hst
      refine lv_iload_n hx hb dX7_isIntersectionClosed_2 rfl (lv_at hl 1 rfl) ?_
      refine lv_aload_n hx hb dX7_isIntersectionClosed_3 rfl (lv_at hl 0 rfl) ?_
      refine va_get (D := G) (ci := 7) (v := .ref c_a) (C := RX7) (T := TX7) (N := 10) hx hb hts i_X7 hown hK.1 hP 0 rfl rfl 0 (by decide) f_12 (fun _ h9 => h9) rfl dX7_isIntersectionClosed_4 ?_
      refine va_get (D := G) (ci := 0) (v := .int c_count) (C := RX0) (T := TX0) (N := 7) hx hb hts i_X0 hown hK.1 hP 1 rfl rfl 1 (by decide) f_96 (fun _ h9 => h9) rfl dX7_isIntersectionClosed_7 ?_
      obtain ⟨ha, hf⟩ := h
      refine lv_icmp_ge (tgt := 65) hx hb dX7_isIntersectionClosed_10 (by decide) (fun hc => ?_) (fun hc => ?_)
      · have h := ha hc
        clear ha hf
        refine lv_iconst (v := (1 : Int32)) hx hb dX7_isIntersectionClosed_65 (by decide) ?_
        exact hret _ () _ _ _ _ rfl h hP hD hS dX7_isIntersectionClosed_66
      · have h := hf hc
        clear ha hf
        refine lv_iconst (v := (0 : Int32)) hx hb dX7_isIntersectionClosed_13 (by decide) ?_
        refine lv_istore_n (lv' := [(2, .int (0 : Int32)), (0, .ref z_a), (1, .int x1)]) hx hb dX7_isIntersectionClosed_14 rfl hl (by decide) rfl (fun ls hl => ?_)
        obtain ⟨j, h⟩ := h
        exact b_15 _ ih j _ _ h _ _ _ ⟨hP, hD, hS, lv_sub hl [1, 2, 0] rfl⟩
  refine lv_iconst (v := (0 : Int32)) hx hb dX7_isIntersectionClosed_0 (by decide) ?_
  refine lv_istore_n (lv' := [(1, .int (0 : Int32)), (0, .ref z_a)]) hx hb dX7_isIntersectionClosed_1 rfl hl (by decide) rfl (fun ls hl => ?_)
  obtain ⟨j, h⟩ := h
  exact b_2  j _ h _ _ _ ⟨hP, hD, hS, lv_sub hl [1, 0] rfl⟩
abbrev rm_X7_compareScores : Room := { frames := 1, cells := 0, slots := 0, locals := 22 }
def wp_X7_compareScores (x1 : Int32) (x2 : Int32) (c_count : Int32) (c_scores : Nat → UInt64) (c_rated : Nat → Int32) (Q : Int32 → Prop) : Prop := wp_X0_has x1 c_count (fun (r_1 : Int32) => ((r_1 = 0) → Q (-2 : Int32)) ∧ ((¬ r_1 = 0) → wp_X0_has x2 c_count (fun (r_2 : Int32) => ((¬ r_2 = 0) → vp_in x1 20 ∧ (((c_rated x1.toNatClampNeg) = 0) → Q (3 : Int32)) ∧ ((¬ (c_rated x1.toNatClampNeg) = 0) → vp_in x2 20 ∧ ((¬ (c_rated x2.toNatClampNeg) = 0) → wp_X0_isLess x1 x2 c_scores c_rated (fun (r_3 : Int32) => ((r_3 = 0) → wp_X0_isLess x2 x1 c_scores c_rated (fun (r_4 : Int32) => ((r_4 = 0) → Q (1 : Int32)) ∧ ((¬ r_4 = 0) → Q (2 : Int32)))) ∧ ((¬ r_3 = 0) → Q (0 : Int32)))) ∧ (((c_rated x2.toNatClampNeg) = 0) → Q (3 : Int32)))) ∧ ((r_2 = 0) → Q (-2 : Int32)))))
set_option maxRecDepth 100000 in
set_option maxHeartbeats 4000000 in
theorem c_X7_compareScores (l : Launch) (G : va_G) (cI cD cZ cJ cO : ClassId) (z_a c_a c_as c_ad c_ar c_ah s_a d_a t_a e_a p_a r_a q_a z_as : Nat) (z_saved : Int32) (c_points : Int32) (c_count : Int32) (c_ed : Int32) (c_sets : Nat → Int32) (c_scores : Nat → UInt64) (c_rated : Nat → Int32) (c_hold : Nat → Int32) (x1 : Int32) (x2 : Int32) (Q : Int32 → Prop) (h : wp_X7_compareScores x1 x2 c_count c_scores c_rated Q) : CtI l yX7_compareScores wsX7_compareScores rm_X7_compareScores G (TY cI cD cZ cJ cO) [.ref z_a, .int x1, .int x2] [oX7 z_a c_a s_a d_a t_a z_saved e_a p_a r_a q_a z_as, oX0 c_a c_points c_count c_as c_ad c_ar c_ah c_ed, aI cI c_as 20 c_sets, aD cD c_ad 20 c_scores, aZ cZ c_ar 20 c_rated, aI cI c_ah 8 c_hold] (fun (r : Int32) (u : Unit) => Q r) (fun (u : Unit) => [oX7 z_a c_a s_a d_a t_a z_saved e_a p_a r_a q_a z_as, oX0 c_a c_points c_count c_as c_ad c_ar c_ah c_ed, aI cI c_as 20 c_sets, aD cD c_ad 20 c_scores, aZ cZ c_ar 20 c_rated, aI cI c_ah 8 c_hold]) := by
  refine ct_openI (cc := cX7_compareScores) (maxL := 3) (ty := .int) (by decide) rfl (Nat.le_of_ble_eq_true rfl) ?_
  intro p e s m args below meth c A Z ls hx hb hml hown hts hK hA hret hP hD hS hl
  have hown : s.vm.findClass RX7 = some m.cls := hown
  have hl : lv_has ls 3 [(0, .ref z_a), (1, .int x1), (2, .int x2)] := hl
  have f_12 := hts (.fieldLink RX7 12 "TeachingSets" "concepts" "LTeachingSets$Concepts;") (List.mem_of_getElem? (i := 1) rfl)
  have f_167 := hts (.fieldLink RX7 167 "TeachingSets$Concepts" "rated" "[Z") (List.mem_of_getElem? (i := 2) rfl)
  have i_X7 : ∀ w ∈ wsX70, w ∈ wsX7_compareScores := fun _ h => List.mem_cons_of_mem _ (List.mem_append_left _ (List.mem_append_right _ (h)))
  have i_X0 : ∀ w ∈ wsX00, w ∈ wsX7_compareScores := fun _ h => List.mem_cons_of_mem _ (List.mem_append_right _ (h))
  refine lv_aload_n hx hb dX7_compareScores_0 rfl (lv_at hl 0 rfl) ?_
  refine va_get (D := G) (ci := 7) (v := .ref c_a) (C := RX7) (T := TX7) (N := 10) hx hb hts i_X7 hown hK.1 hP 0 rfl rfl 0 (by decide) f_12 (fun _ h9 => h9) rfl dX7_compareScores_1 ?_
  refine lv_iload_n hx hb dX7_compareScores_4 rfl (lv_at hl 1 rfl) ?_
  refine k_Vi (wr := [oX7 z_a c_a s_a d_a t_a z_saved e_a p_a r_a q_a z_as]) (wf := (fun (u : Unit) => [oX7 z_a c_a s_a d_a t_a z_saved e_a p_a r_a q_a z_as, oX0 c_a c_points c_count c_as c_ad c_ar c_ah c_ed, aI cI c_as 20 c_sets, aD cD c_ad 20 c_scores, aZ cZ c_ar 20 c_rated, aI cI c_ah 8 c_hold])) (As := [.int x1]) (rest := []) ⟨hx, hb, hml, hown, hts⟩ hK hP hD hS hA (c_X0_has l G cI cD cZ cJ cO c_a c_as c_ad c_ar c_ah c_points c_count c_ed c_sets c_scores c_rated c_hold x1 _ h) (cwV 1 hts gX7_compareScores_X0_has rfl rfl rfl (by decide +kernel) ⟨Nat.le_of_ble_eq_true rfl, Nat.le_of_ble_eq_true rfl⟩) 0 rfl rfl [1, 2, 3, 4, 5] [0] [0, 1, 2, 3, 4, 5] rfl rfl rfl (fun _ => rfl) rfl rfl hl.1 (Nat.le_of_ble_eq_true rfl) ⟨Nat.zero_le _, Nat.zero_le _⟩ dX7_compareScores_5 (fun r_1 u H locs h hP hD hS => ?_)
  have hP : va_P G vwCl [oX7 z_a c_a s_a d_a t_a z_saved e_a p_a r_a q_a z_as, oX0 c_a c_points c_count c_as c_ad c_ar c_ah c_ed, aI cI c_as 20 c_sets, aD cD c_ad 20 c_scores, aZ cZ c_ar 20 c_rated, aI cI c_ah 8 c_hold] H := hP
  have hD : va_D A [oX7 z_a c_a s_a d_a t_a z_saved e_a p_a r_a q_a z_as, oX0 c_a c_points c_count c_as c_ad c_ar c_ah c_ed, aI cI c_as 20 c_sets, aD cD c_ad 20 c_scores, aZ cZ c_ar 20 c_rated, aI cI c_ah 8 c_hold] := hD
  obtain ⟨ha, hf⟩ := h
  refine lv_if_eq (tgt := 22) hx hb dX7_compareScores_8 (by decide) (fun hc => ?_) (fun hc => ?_)
  · have h := ha hc
    clear ha hf
    refine lv_bipush (v := (-2 : Int32)) hx hb dX7_compareScores_22 (by decide) ?_
    exact hret _ () _ _ _ _ rfl h hP hD hS dX7_compareScores_24
  · have h := hf hc
    clear ha hf
    refine lv_aload_n hx hb dX7_compareScores_11 rfl (lv_at hl 0 rfl) ?_
    refine va_get (D := G) (ci := 7) (v := .ref c_a) (C := RX7) (T := TX7) (N := 10) hx hb hts i_X7 hown hK.1 hP 0 rfl rfl 0 (by decide) f_12 (fun _ h9 => h9) rfl dX7_compareScores_12 ?_
    refine lv_iload_n hx hb dX7_compareScores_15 rfl (lv_at hl 2 rfl) ?_
    refine k_Vi (wr := [oX7 z_a c_a s_a d_a t_a z_saved e_a p_a r_a q_a z_as]) (wf := (fun (u : Unit) => [oX7 z_a c_a s_a d_a t_a z_saved e_a p_a r_a q_a z_as, oX0 c_a c_points c_count c_as c_ad c_ar c_ah c_ed, aI cI c_as 20 c_sets, aD cD c_ad 20 c_scores, aZ cZ c_ar 20 c_rated, aI cI c_ah 8 c_hold])) (As := [.int x2]) (rest := []) ⟨hx, hb, hml, hown, hts⟩ hK hP hD hS hA (c_X0_has l G cI cD cZ cJ cO c_a c_as c_ad c_ar c_ah c_points c_count c_ed c_sets c_scores c_rated c_hold x2 _ h) (cwV 1 hts gX7_compareScores_X0_has rfl rfl rfl (by decide +kernel) ⟨Nat.le_of_ble_eq_true rfl, Nat.le_of_ble_eq_true rfl⟩) 0 rfl rfl [1, 2, 3, 4, 5] [0] [0, 1, 2, 3, 4, 5] rfl rfl rfl (fun _ => rfl) rfl rfl hl.1 (Nat.le_of_ble_eq_true rfl) ⟨Nat.zero_le _, Nat.zero_le _⟩ dX7_compareScores_16 (fun r_2 u H locs h hP hD hS => ?_)
    have hP : va_P G vwCl [oX7 z_a c_a s_a d_a t_a z_saved e_a p_a r_a q_a z_as, oX0 c_a c_points c_count c_as c_ad c_ar c_ah c_ed, aI cI c_as 20 c_sets, aD cD c_ad 20 c_scores, aZ cZ c_ar 20 c_rated, aI cI c_ah 8 c_hold] H := hP
    have hD : va_D A [oX7 z_a c_a s_a d_a t_a z_saved e_a p_a r_a q_a z_as, oX0 c_a c_points c_count c_as c_ad c_ar c_ah c_ed, aI cI c_as 20 c_sets, aD cD c_ad 20 c_scores, aZ cZ c_ar 20 c_rated, aI cI c_ah 8 c_hold] := hD
    obtain ⟨ha, hf⟩ := h
    refine lv_if_ne (tgt := 25) hx hb dX7_compareScores_19 (by decide) (fun hc => ?_) (fun hc => ?_)
    · have h := ha hc
      clear ha hf
      refine lv_aload_n hx hb dX7_compareScores_25 rfl (lv_at hl 0 rfl) ?_
      refine va_get (D := G) (ci := 7) (v := .ref c_a) (C := RX7) (T := TX7) (N := 10) hx hb hts i_X7 hown hK.1 hP 0 rfl rfl 0 (by decide) f_12 (fun _ h9 => h9) rfl dX7_compareScores_26 ?_
      refine va_get (D := G) (ci := 0) (v := .ref c_ar) (C := RX0) (T := TX0) (N := 7) hx hb hts i_X0 hown hK.1 hP 1 rfl rfl 4 (by decide) f_167 (fun _ h9 => h9) rfl dX7_compareScores_29 ?_
      refine lv_iload_n hx hb dX7_compareScores_32 rfl (lv_at hl 1 rfl) ?_
      obtain ⟨hi, h⟩ := h
      refine va_zald hx hb hK.1 hP 4 2 rfl rfl hi dX7_compareScores_33 ?_
      obtain ⟨ha, hf⟩ := h
      refine lv_if_eq (tgt := 49) hx hb dX7_compareScores_34 (by decide) (fun hc => ?_) (fun hc => ?_)
      · have h := ha hc
        clear ha hf
        refine lv_iconst (v := (3 : Int32)) hx hb dX7_compareScores_49 (by decide) ?_
        exact hret _ () _ _ _ _ rfl h hP hD hS dX7_compareScores_50
      · have h := hf hc
        clear ha hf
        refine lv_aload_n hx hb dX7_compareScores_37 rfl (lv_at hl 0 rfl) ?_
        refine va_get (D := G) (ci := 7) (v := .ref c_a) (C := RX7) (T := TX7) (N := 10) hx hb hts i_X7 hown hK.1 hP 0 rfl rfl 0 (by decide) f_12 (fun _ h9 => h9) rfl dX7_compareScores_38 ?_
        refine va_get (D := G) (ci := 0) (v := .ref c_ar) (C := RX0) (T := TX0) (N := 7) hx hb hts i_X0 hown hK.1 hP 1 rfl rfl 4 (by decide) f_167 (fun _ h9 => h9) rfl dX7_compareScores_41 ?_
        refine lv_iload_n hx hb dX7_compareScores_44 rfl (lv_at hl 2 rfl) ?_
        obtain ⟨hi, h⟩ := h
        refine va_zald hx hb hK.1 hP 4 2 rfl rfl hi dX7_compareScores_45 ?_
        obtain ⟨ha, hf⟩ := h
        refine lv_if_ne (tgt := 51) hx hb dX7_compareScores_46 (by decide) (fun hc => ?_) (fun hc => ?_)
        · have h := ha hc
          clear ha hf
          refine lv_aload_n hx hb dX7_compareScores_51 rfl (lv_at hl 0 rfl) ?_
          refine va_get (D := G) (ci := 7) (v := .ref c_a) (C := RX7) (T := TX7) (N := 10) hx hb hts i_X7 hown hK.1 hP 0 rfl rfl 0 (by decide) f_12 (fun _ h9 => h9) rfl dX7_compareScores_52 ?_
          refine lv_iload_n hx hb dX7_compareScores_55 rfl (lv_at hl 1 rfl) ?_
          refine lv_iload_n hx hb dX7_compareScores_56 rfl (lv_at hl 2 rfl) ?_
          refine k_Vi (wr := [oX7 z_a c_a s_a d_a t_a z_saved e_a p_a r_a q_a z_as]) (wf := (fun (u : Unit) => [oX7 z_a c_a s_a d_a t_a z_saved e_a p_a r_a q_a z_as, oX0 c_a c_points c_count c_as c_ad c_ar c_ah c_ed, aI cI c_as 20 c_sets, aD cD c_ad 20 c_scores, aZ cZ c_ar 20 c_rated, aI cI c_ah 8 c_hold])) (As := [.int x1, .int x2]) (rest := []) ⟨hx, hb, hml, hown, hts⟩ hK hP hD hS hA (c_X0_isLess l G cI cD cZ cJ cO c_a c_as c_ad c_ar c_ah c_points c_count c_ed c_sets c_scores c_rated c_hold x1 x2 _ h) (cwV 2 hts gX7_compareScores_X0_isLess rfl rfl rfl (by decide +kernel) ⟨Nat.le_of_ble_eq_true rfl, Nat.le_of_ble_eq_true rfl⟩) 0 rfl rfl [1, 2, 3, 4, 5] [0] [0, 1, 2, 3, 4, 5] rfl rfl rfl (fun _ => rfl) rfl rfl hl.1 (Nat.le_of_ble_eq_true rfl) ⟨Nat.zero_le _, Nat.zero_le _⟩ dX7_compareScores_57 (fun r_3 u H locs h hP hD hS => ?_)
          have hP : va_P G vwCl [oX7 z_a c_a s_a d_a t_a z_saved e_a p_a r_a q_a z_as, oX0 c_a c_points c_count c_as c_ad c_ar c_ah c_ed, aI cI c_as 20 c_sets, aD cD c_ad 20 c_scores, aZ cZ c_ar 20 c_rated, aI cI c_ah 8 c_hold] H := hP
          have hD : va_D A [oX7 z_a c_a s_a d_a t_a z_saved e_a p_a r_a q_a z_as, oX0 c_a c_points c_count c_as c_ad c_ar c_ah c_ed, aI cI c_as 20 c_sets, aD cD c_ad 20 c_scores, aZ cZ c_ar 20 c_rated, aI cI c_ah 8 c_hold] := hD
          obtain ⟨ha, hf⟩ := h
          refine lv_if_eq (tgt := 65) hx hb dX7_compareScores_60 (by decide) (fun hc => ?_) (fun hc => ?_)
          · have h := ha hc
            clear ha hf
            refine lv_aload_n hx hb dX7_compareScores_65 rfl (lv_at hl 0 rfl) ?_
            refine va_get (D := G) (ci := 7) (v := .ref c_a) (C := RX7) (T := TX7) (N := 10) hx hb hts i_X7 hown hK.1 hP 0 rfl rfl 0 (by decide) f_12 (fun _ h9 => h9) rfl dX7_compareScores_66 ?_
            refine lv_iload_n hx hb dX7_compareScores_69 rfl (lv_at hl 2 rfl) ?_
            refine lv_iload_n hx hb dX7_compareScores_70 rfl (lv_at hl 1 rfl) ?_
            refine k_Vi (wr := [oX7 z_a c_a s_a d_a t_a z_saved e_a p_a r_a q_a z_as]) (wf := (fun (u : Unit) => [oX7 z_a c_a s_a d_a t_a z_saved e_a p_a r_a q_a z_as, oX0 c_a c_points c_count c_as c_ad c_ar c_ah c_ed, aI cI c_as 20 c_sets, aD cD c_ad 20 c_scores, aZ cZ c_ar 20 c_rated, aI cI c_ah 8 c_hold])) (As := [.int x2, .int x1]) (rest := []) ⟨hx, hb, hml, hown, hts⟩ hK hP hD hS hA (c_X0_isLess l G cI cD cZ cJ cO c_a c_as c_ad c_ar c_ah c_points c_count c_ed c_sets c_scores c_rated c_hold x2 x1 _ h) (cwV 2 hts gX7_compareScores_X0_isLess rfl rfl rfl (by decide +kernel) ⟨Nat.le_of_ble_eq_true rfl, Nat.le_of_ble_eq_true rfl⟩) 0 rfl rfl [1, 2, 3, 4, 5] [0] [0, 1, 2, 3, 4, 5] rfl rfl rfl (fun _ => rfl) rfl rfl hl.1 (Nat.le_of_ble_eq_true rfl) ⟨Nat.zero_le _, Nat.zero_le _⟩ dX7_compareScores_71 (fun r_4 u H locs h hP hD hS => ?_)
            have hP : va_P G vwCl [oX7 z_a c_a s_a d_a t_a z_saved e_a p_a r_a q_a z_as, oX0 c_a c_points c_count c_as c_ad c_ar c_ah c_ed, aI cI c_as 20 c_sets, aD cD c_ad 20 c_scores, aZ cZ c_ar 20 c_rated, aI cI c_ah 8 c_hold] H := hP
            have hD : va_D A [oX7 z_a c_a s_a d_a t_a z_saved e_a p_a r_a q_a z_as, oX0 c_a c_points c_count c_as c_ad c_ar c_ah c_ed, aI cI c_as 20 c_sets, aD cD c_ad 20 c_scores, aZ cZ c_ar 20 c_rated, aI cI c_ah 8 c_hold] := hD
            obtain ⟨ha, hf⟩ := h
            refine lv_if_eq (tgt := 81) hx hb dX7_compareScores_74 (by decide) (fun hc => ?_) (fun hc => ?_)
            · have h := ha hc
              clear ha hf
              refine lv_iconst (v := (1 : Int32)) hx hb dX7_compareScores_81 (by decide) ?_
              exact hret _ () _ _ _ _ rfl h hP hD hS dX7_compareScores_82
            · have h := hf hc
              clear ha hf
              refine lv_iconst (v := (2 : Int32)) hx hb dX7_compareScores_77 (by decide) ?_
              refine lv_goto (tgt := 82) hx hb dX7_compareScores_78 (by decide) ?_
              exact hret _ () _ _ _ _ rfl h hP hD hS dX7_compareScores_82
          · have h := hf hc
            clear ha hf
            refine lv_iconst (v := (0 : Int32)) hx hb dX7_compareScores_63 (by decide) ?_
            exact hret _ () _ _ _ _ rfl h hP hD hS dX7_compareScores_64
        · have h := hf hc
          clear ha hf
          refine lv_iconst (v := (3 : Int32)) hx hb dX7_compareScores_49 (by decide) ?_
          exact hret _ () _ _ _ _ rfl h hP hD hS dX7_compareScores_50
    · have h := hf hc
      clear ha hf
      refine lv_bipush (v := (-2 : Int32)) hx hb dX7_compareScores_22 (by decide) ?_
      exact hret _ () _ _ _ _ rfl h hP hD hS dX7_compareScores_24
abbrev rm_X7_halvingMistakes : Room := { frames := 3, cells := 0, slots := 0, locals := 64 }
def wp_X7_halvingMistakes_b81 (x1 : Int32) (c_points : Int32) (c_count : Int32) (c_sets : Nat → Int32) (c_hold : Nat → Int32) (Q : Int32 → Prop) (k27 : Int32 → Int32 → Int32 → Prop) (x2 : Int32) (x3 : Int32) (x4 : Int32) (x6 : Int32) : Prop := wp_X0_labelling x4 x6 c_count c_hold (fun (r_5 : Int32) => k27 (x2 &&& r_5) x3 (x4 + (1 : Int32)))
def wp_X7_halvingMistakes_b57 (x1 : Int32) (c_points : Int32) (c_count : Int32) (c_sets : Nat → Int32) (c_hold : Nat → Int32) (Q : Int32 → Prop) (k27 : Int32 → Int32 → Int32 → Prop) (x2 : Int32) (x3 : Int32) (x4 : Int32) (t0 : Int32) : Prop := wp_X0_labelOf x1 x4 c_sets (fun (r_4 : Int32) => ((t0 = r_4) → wp_X7_halvingMistakes_b81 x1 c_points c_count c_sets c_hold Q k27 x2 x3 x4 r_4) ∧ ((¬ t0 = r_4) → wp_X7_halvingMistakes_b81 x1 c_points c_count c_sets c_hold Q k27 x2 (x3 + (1 : Int32)) x4 r_4))
def wp_X7_halvingMistakes_b27 (x1 : Int32) (c_points : Int32) (c_count : Int32) (c_sets : Nat → Int32) (c_hold : Nat → Int32) (Q : Int32 → Prop)  : Nat → Int32 → Int32 → Int32 → Prop
  | 0, _, _, _ => False
  | n + 1, x2, x3, x4 => ((c_points ≤ x4) → Q x3) ∧ ((¬ c_points ≤ x4) → wp_X0_leadOfOnes x2 x4 c_count c_hold (fun (r_3 : Int32) => ((r_3 ≤ 0) → wp_X7_halvingMistakes_b57 x1 c_points c_count c_sets c_hold Q (fun (x2 : Int32) (x3 : Int32) (x4 : Int32) => wp_X7_halvingMistakes_b27 x1 c_points c_count c_sets c_hold Q n x2 x3 x4) x2 x3 x4 (0 : Int32)) ∧ ((¬ r_3 ≤ 0) → wp_X7_halvingMistakes_b57 x1 c_points c_count c_sets c_hold Q (fun (x2 : Int32) (x3 : Int32) (x4 : Int32) => wp_X7_halvingMistakes_b27 x1 c_points c_count c_sets c_hold Q n x2 x3 x4) x2 x3 x4 (1 : Int32))))
def wp_X7_halvingMistakes (x1 : Int32) (c_points : Int32) (c_count : Int32) (c_sets : Nat → Int32) (c_hold : Nat → Int32) (Q : Int32 → Prop) : Prop := wp_X0_has x1 c_count (fun (r_1 : Int32) => ((¬ r_1 = 0) → wp_X0_allNumbers c_count (fun (r_2 : Int32) => ∃ j27, wp_X7_halvingMistakes_b27 x1 c_points c_count c_sets c_hold Q j27 r_2 (0 : Int32) (0 : Int32))) ∧ ((r_1 = 0) → Q (-2 : Int32)))
set_option maxRecDepth 100000 in
set_option maxHeartbeats 4000000 in
theorem c_X7_halvingMistakes (l : Launch) (G : va_G) (cI cD cZ cJ cO : ClassId) (z_a c_a c_as c_ad c_ar c_ah s_a d_a t_a e_a p_a r_a q_a z_as : Nat) (z_saved : Int32) (c_points : Int32) (c_count : Int32) (c_ed : Int32) (c_sets : Nat → Int32) (c_scores : Nat → UInt64) (c_rated : Nat → Int32) (c_hold : Nat → Int32) (x1 : Int32) (Q : Int32 → Prop) (h : wp_X7_halvingMistakes x1 c_points c_count c_sets c_hold Q) : CtI l yX7_halvingMistakes wsX7_halvingMistakes rm_X7_halvingMistakes G (TY cI cD cZ cJ cO) [.ref z_a, .int x1] [oX7 z_a c_a s_a d_a t_a z_saved e_a p_a r_a q_a z_as, oX0 c_a c_points c_count c_as c_ad c_ar c_ah c_ed, aI cI c_as 20 c_sets, aD cD c_ad 20 c_scores, aZ cZ c_ar 20 c_rated, aI cI c_ah 8 c_hold] (fun (r : Int32) (u : Unit) => Q r) (fun (u : Unit) => [oX7 z_a c_a s_a d_a t_a z_saved e_a p_a r_a q_a z_as, oX0 c_a c_points c_count c_as c_ad c_ar c_ah c_ed, aI cI c_as 20 c_sets, aD cD c_ad 20 c_scores, aZ cZ c_ar 20 c_rated, aI cI c_ah 8 c_hold]) := by
  refine ct_openI (cc := cX7_halvingMistakes) (maxL := 7) (ty := .int) (by decide) rfl (Nat.le_of_ble_eq_true rfl) ?_
  intro p e s m args below meth c A Z ls hx hb hml hown hts hK hA hret hP hD hS hl
  have hown : s.vm.findClass RX7 = some m.cls := hown
  have hl : lv_has ls 7 [(0, .ref z_a), (1, .int x1)] := hl
  have f_12 := hts (.fieldLink RX7 12 "TeachingSets" "concepts" "LTeachingSets$Concepts;") (List.mem_of_getElem? (i := 1) rfl)
  have f_74 := hts (.fieldLink RX7 74 "TeachingSets$Concepts" "points" "I") (List.mem_of_getElem? (i := 2) rfl)
  have i_X7 : ∀ w ∈ wsX70, w ∈ wsX7_halvingMistakes := fun _ h => List.mem_cons_of_mem _ (List.mem_append_left _ (List.mem_append_right _ (h)))
  have i_X0 : ∀ w ∈ wsX00, w ∈ wsX7_halvingMistakes := fun _ h => List.mem_cons_of_mem _ (List.mem_append_right _ (h))
  have b_81 : ∀ (k27 : Int32 → Int32 → Int32 → Prop), (∀ (x2 : Int32) (x3 : Int32) (x4 : Int32), k27 x2 x3 x4 → ∀ (H : Heap) (locs : List Loc) (ls : Array Slot), ST G A s.heap [oX7 z_a c_a s_a d_a t_a z_saved e_a p_a r_a q_a z_as, oX0 c_a c_points c_count c_as c_ad c_ar c_ah c_ed, aI cI c_as 20 c_sets, aD cD c_ad 20 c_scores, aZ cZ c_ar 20 c_rated, aI cI c_ah 8 c_hold] 7 [(0, .ref z_a), (1, .int x1), (2, .int x2), (3, .int x3), (4, .int x4)] H locs ls → W p l e rm_X7_halvingMistakes s m args below meth c H locs 0 0 Z (F0 m 27 ls [])) → ∀ (x2 : Int32) (x3 : Int32) (x4 : Int32) (x6 : Int32), wp_X7_halvingMistakes_b81 x1 c_points c_count c_sets c_hold Q k27 x2 x3 x4 x6 → ∀ (H : Heap) (locs : List Loc) (ls : Array Slot), ST G A s.heap [oX7 z_a c_a s_a d_a t_a z_saved e_a p_a r_a q_a z_as, oX0 c_a c_points c_count c_as c_ad c_ar c_ah c_ed, aI cI c_as 20 c_sets, aD cD c_ad 20 c_scores, aZ cZ c_ar 20 c_rated, aI cI c_ah 8 c_hold] 7 [(0, .ref z_a), (1, .int x1), (2, .int x2), (3, .int x3), (4, .int x4), (6, .int x6)] H locs ls → W p l e rm_X7_halvingMistakes s m args below meth c H locs 0 0 Z (F0 m 81 ls []) := by
    intro k27 hk27 x2 x3 x4 x6 h H locs ls hst
    obtain ⟨hP, hD, hS, hl⟩ := hst
    refine lv_iload_n hx hb dX7_halvingMistakes_81 rfl (lv_at hl 2 rfl) ?_
    refine lv_aload_n hx hb dX7_halvingMistakes_82 rfl (lv_at hl 0 rfl) ?_
    refine va_get (D := G) (ci := 7) (v := .ref c_a) (C := RX7) (T := TX7) (N := 10) hx hb hts i_X7 hown hK.1 hP 0 rfl rfl 0 (by decide) f_12 (fun _ h9 => h9) rfl dX7_halvingMistakes_83 ?_
    refine lv_iload hx hb dX7_halvingMistakes_86 (lv_at hl 4 rfl) ?_
    refine lv_iload hx hb dX7_halvingMistakes_88 (lv_at hl 5 rfl) ?_
    refine k_Vi (wr := [oX7 z_a c_a s_a d_a t_a z_saved e_a p_a r_a q_a z_as]) (wf := (fun (u : Unit) => [oX7 z_a c_a s_a d_a t_a z_saved e_a p_a r_a q_a z_as, oX0 c_a c_points c_count c_as c_ad c_ar c_ah c_ed, aI cI c_as 20 c_sets, aD cD c_ad 20 c_scores, aZ cZ c_ar 20 c_rated, aI cI c_ah 8 c_hold])) (As := [.int x4, .int x6]) (rest := [.int x2]) ⟨hx, hb, hml, hown, hts⟩ hK hP hD hS hA (c_X0_labelling l G cI cD cZ cJ cO c_a c_as c_ad c_ar c_ah c_points c_count c_ed c_sets c_scores c_rated c_hold x4 x6 _ h) (cwV 2 hts gX7_halvingMistakes_X0_labelling rfl rfl rfl (by decide +kernel) ⟨Nat.le_of_ble_eq_true rfl, Nat.le_of_ble_eq_true rfl⟩) 0 rfl rfl [1, 2, 3, 4, 5] [0] [0, 1, 2, 3, 4, 5] rfl rfl rfl (fun _ => rfl) rfl rfl hl.1 (Nat.le_of_ble_eq_true rfl) ⟨Nat.zero_le _, Nat.zero_le _⟩ dX7_halvingMistakes_90 (fun r_5 u H locs h hP hD hS => ?_)
    have hP : va_P G vwCl [oX7 z_a c_a s_a d_a t_a z_saved e_a p_a r_a q_a z_as, oX0 c_a c_points c_count c_as c_ad c_ar c_ah c_ed, aI cI c_as 20 c_sets, aD cD c_ad 20 c_scores, aZ cZ c_ar 20 c_rated, aI cI c_ah 8 c_hold] H := hP
    have hD : va_D A [oX7 z_a c_a s_a d_a t_a z_saved e_a p_a r_a q_a z_as, oX0 c_a c_points c_count c_as c_ad c_ar c_ah c_ed, aI cI c_as 20 c_sets, aD cD c_ad 20 c_scores, aZ cZ c_ar 20 c_rated, aI cI c_ah 8 c_hold] := hD
    refine lv_iand hx hb dX7_halvingMistakes_93 ?_
    refine lv_istore_n (lv' := [(2, .int (x2 &&& r_5)), (0, .ref z_a), (1, .int x1), (3, .int x3), (4, .int x4), (6, .int x6)]) hx hb dX7_halvingMistakes_94 rfl hl (by decide) rfl (fun ls hl => ?_)
    refine lv_iinc (v := (x4 + (1 : Int32))) (lv' := [(4, .int (x4 + (1 : Int32))), (2, .int (x2 &&& r_5)), (0, .ref z_a), (1, .int x1), (3, .int x3), (6, .int x6)]) hx hb dX7_halvingMistakes_95 hl (k := 4) rfl rfl (by decide) rfl (fun ls hl => ?_)
    refine lv_goto (tgt := 27) hx hb dX7_halvingMistakes_98 (by decide) ?_
    exact hk27 _ _ _ h _ _ _ ⟨hP, hD, hS, lv_sub hl [2, 3, 1, 4, 0] rfl⟩
  have b_57 : ∀ (k27 : Int32 → Int32 → Int32 → Prop), (∀ (x2 : Int32) (x3 : Int32) (x4 : Int32), k27 x2 x3 x4 → ∀ (H : Heap) (locs : List Loc) (ls : Array Slot), ST G A s.heap [oX7 z_a c_a s_a d_a t_a z_saved e_a p_a r_a q_a z_as, oX0 c_a c_points c_count c_as c_ad c_ar c_ah c_ed, aI cI c_as 20 c_sets, aD cD c_ad 20 c_scores, aZ cZ c_ar 20 c_rated, aI cI c_ah 8 c_hold] 7 [(0, .ref z_a), (1, .int x1), (2, .int x2), (3, .int x3), (4, .int x4)] H locs ls → W p l e rm_X7_halvingMistakes s m args below meth c H locs 0 0 Z (F0 m 27 ls [])) → ∀ (x2 : Int32) (x3 : Int32) (x4 : Int32) (t0 : Int32), wp_X7_halvingMistakes_b57 x1 c_points c_count c_sets c_hold Q k27 x2 x3 x4 t0 → ∀ (H : Heap) (locs : List Loc) (ls : Array Slot), ST G A s.heap [oX7 z_a c_a s_a d_a t_a z_saved e_a p_a r_a q_a z_as, oX0 c_a c_points c_count c_as c_ad c_ar c_ah c_ed, aI cI c_as 20 c_sets, aD cD c_ad 20 c_scores, aZ cZ c_ar 20 c_rated, aI cI c_ah 8 c_hold] 7 [(0, .ref z_a), (1, .int x1), (2, .int x2), (3, .int x3), (4, .int x4)] H locs ls → W p l e rm_X7_halvingMistakes s m args below meth c H locs 0 0 Z (F0 m 57 ls [.int t0]) := by
    intro k27 hk27 x2 x3 x4 t0 h H locs ls hst
    obtain ⟨hP, hD, hS, hl⟩ := hst
    refine lv_istore (lv' := [(5, .int t0), (0, .ref z_a), (1, .int x1), (2, .int x2), (3, .int x3), (4, .int x4)]) hx hb dX7_halvingMistakes_57 hl (by decide) rfl (fun ls hl => ?_)
    refine lv_aload_n hx hb dX7_halvingMistakes_59 rfl (lv_at hl 1 rfl) ?_
    refine va_get (D := G) (ci := 7) (v := .ref c_a) (C := RX7) (T := TX7) (N := 10) hx hb hts i_X7 hown hK.1 hP 0 rfl rfl 0 (by decide) f_12 (fun _ h9 => h9) rfl dX7_halvingMistakes_60 ?_
    refine lv_iload_n hx hb dX7_halvingMistakes_63 rfl (lv_at hl 2 rfl) ?_
    refine lv_iload hx hb dX7_halvingMistakes_64 (lv_at hl 5 rfl) ?_
    refine k_Vi (wr := [oX7 z_a c_a s_a d_a t_a z_saved e_a p_a r_a q_a z_as]) (wf := (fun (u : Unit) => [oX7 z_a c_a s_a d_a t_a z_saved e_a p_a r_a q_a z_as, oX0 c_a c_points c_count c_as c_ad c_ar c_ah c_ed, aI cI c_as 20 c_sets, aD cD c_ad 20 c_scores, aZ cZ c_ar 20 c_rated, aI cI c_ah 8 c_hold])) (As := [.int x1, .int x4]) (rest := []) ⟨hx, hb, hml, hown, hts⟩ hK hP hD hS hA (c_X0_labelOf l G cI cD cZ cJ cO c_a c_as c_ad c_ar c_ah c_points c_count c_ed c_sets c_scores c_rated c_hold x1 x4 _ h) (cwV 2 hts gX7_halvingMistakes_X0_labelOf rfl rfl rfl (by decide +kernel) ⟨Nat.le_of_ble_eq_true rfl, Nat.le_of_ble_eq_true rfl⟩) 0 rfl rfl [1, 2, 3, 4, 5] [0] [0, 1, 2, 3, 4, 5] rfl rfl rfl (fun _ => rfl) rfl rfl hl.1 (Nat.le_of_ble_eq_true rfl) ⟨Nat.zero_le _, Nat.zero_le _⟩ dX7_halvingMistakes_66 (fun r_4 u H locs h hP hD hS => ?_)
    have hP : va_P G vwCl [oX7 z_a c_a s_a d_a t_a z_saved e_a p_a r_a q_a z_as, oX0 c_a c_points c_count c_as c_ad c_ar c_ah c_ed, aI cI c_as 20 c_sets, aD cD c_ad 20 c_scores, aZ cZ c_ar 20 c_rated, aI cI c_ah 8 c_hold] H := hP
    have hD : va_D A [oX7 z_a c_a s_a d_a t_a z_saved e_a p_a r_a q_a z_as, oX0 c_a c_points c_count c_as c_ad c_ar c_ah c_ed, aI cI c_as 20 c_sets, aD cD c_ad 20 c_scores, aZ cZ c_ar 20 c_rated, aI cI c_ah 8 c_hold] := hD
    refine lv_istore (lv' := [(6, .int r_4), (5, .int t0), (0, .ref z_a), (1, .int x1), (2, .int x2), (3, .int x3), (4, .int x4)]) hx hb dX7_halvingMistakes_69 hl (by decide) rfl (fun ls hl => ?_)
    refine lv_iload hx hb dX7_halvingMistakes_71 (lv_at hl 1 rfl) ?_
    refine lv_iload hx hb dX7_halvingMistakes_73 (lv_at hl 0 rfl) ?_
    obtain ⟨ha, hf⟩ := h
    refine lv_icmp_eq (tgt := 81) hx hb dX7_halvingMistakes_75 (by decide) (fun hc => ?_) (fun hc => ?_)
    · have h := ha hc
      clear ha hf
      exact b_81 _ hk27 _ _ _ _ h _ _ _ ⟨hP, hD, hS, lv_sub hl [2, 3, 4, 5, 6, 0] rfl⟩
    · have h := hf hc
      clear ha hf
      refine lv_iinc (v := (x3 + (1 : Int32))) (lv' := [(3, .int (x3 + (1 : Int32))), (6, .int r_4), (5, .int t0), (0, .ref z_a), (1, .int x1), (2, .int x2), (4, .int x4)]) hx hb dX7_halvingMistakes_78 hl (k := 5) rfl rfl (by decide) rfl (fun ls hl => ?_)
      exact b_81 _ hk27 _ _ _ _ h _ _ _ ⟨hP, hD, hS, lv_sub hl [3, 4, 5, 0, 6, 1] rfl⟩
  have b_27 : ∀ (n : Nat) (x2 : Int32) (x3 : Int32) (x4 : Int32), wp_X7_halvingMistakes_b27 x1 c_points c_count c_sets c_hold Q n x2 x3 x4 → ∀ (H : Heap) (locs : List Loc) (ls : Array Slot), ST G A s.heap [oX7 z_a c_a s_a d_a t_a z_saved e_a p_a r_a q_a z_as, oX0 c_a c_points c_count c_as c_ad c_ar c_ah c_ed, aI cI c_as 20 c_sets, aD cD c_ad 20 c_scores, aZ cZ c_ar 20 c_rated, aI cI c_ah 8 c_hold] 7 [(0, .ref z_a), (1, .int x1), (2, .int x2), (3, .int x3), (4, .int x4)] H locs ls → W p l e rm_X7_halvingMistakes s m args below meth c H locs 0 0 Z (F0 m 27 ls []) := by
    intro n
    induction n with
    | zero =>
      intro x2 x3 x4 h; exact False.elim h
    | succ n ih =>
      intro x2 x3 x4 h H locs ls hst
      obtain ⟨hP, hD, hS, hl⟩ := hst
      refine lv_iload hx hb dX7_halvingMistakes_27 (lv_at hl 4 rfl) ?_
      refine lv_aload_n hx hb dX7_halvingMistakes_29 rfl (lv_at hl 0 rfl) ?_
      refine va_get (D := G) (ci := 7) (v := .ref c_a) (C := RX7) (T := TX7) (N := 10) hx hb hts i_X7 hown hK.1 hP 0 rfl rfl 0 (by decide) f_12 (fun _ h9 => h9) rfl dX7_halvingMistakes_30 ?_
      refine va_get (D := G) (ci := 0) (v := .int c_points) (C := RX0) (T := TX0) (N := 7) hx hb hts i_X0 hown hK.1 hP 1 rfl rfl 0 (by decide) f_74 (fun _ h9 => h9) rfl dX7_halvingMistakes_33 ?_
      obtain ⟨ha, hf⟩ := h
      refine lv_icmp_ge (tgt := 101) hx hb dX7_halvingMistakes_36 (by decide) (fun hc => ?_) (fun hc => ?_)
      · have h := ha hc
        clear ha hf
        refine lv_iload_n hx hb dX7_halvingMistakes_101 rfl (lv_at hl 3 rfl) ?_
        exact hret _ () _ _ _ _ rfl h hP hD hS dX7_halvingMistakes_102
      · have h := hf hc
        clear ha hf
        refine lv_aload_n hx hb dX7_halvingMistakes_39 rfl (lv_at hl 0 rfl) ?_
        refine va_get (D := G) (ci := 7) (v := .ref c_a) (C := RX7) (T := TX7) (N := 10) hx hb hts i_X7 hown hK.1 hP 0 rfl rfl 0 (by decide) f_12 (fun _ h9 => h9) rfl dX7_halvingMistakes_40 ?_
        refine lv_iload_n hx hb dX7_halvingMistakes_43 rfl (lv_at hl 2 rfl) ?_
        refine lv_iload hx hb dX7_halvingMistakes_44 (lv_at hl 4 rfl) ?_
        refine k_Vi (wr := [oX7 z_a c_a s_a d_a t_a z_saved e_a p_a r_a q_a z_as]) (wf := (fun (u : Unit) => [oX7 z_a c_a s_a d_a t_a z_saved e_a p_a r_a q_a z_as, oX0 c_a c_points c_count c_as c_ad c_ar c_ah c_ed, aI cI c_as 20 c_sets, aD cD c_ad 20 c_scores, aZ cZ c_ar 20 c_rated, aI cI c_ah 8 c_hold])) (As := [.int x2, .int x4]) (rest := []) ⟨hx, hb, hml, hown, hts⟩ hK hP hD hS hA (c_X0_leadOfOnes l G cI cD cZ cJ cO c_a c_as c_ad c_ar c_ah c_points c_count c_ed c_sets c_scores c_rated c_hold x2 x4 _ h) (cwV 2 hts gX7_halvingMistakes_X0_leadOfOnes rfl rfl rfl (by decide +kernel) ⟨Nat.le_of_ble_eq_true rfl, Nat.le_of_ble_eq_true rfl⟩) 0 rfl rfl [1, 2, 3, 4, 5] [0] [0, 1, 2, 3, 4, 5] rfl rfl rfl (fun _ => rfl) rfl rfl hl.1 (Nat.le_of_ble_eq_true rfl) ⟨Nat.zero_le _, Nat.zero_le _⟩ dX7_halvingMistakes_46 (fun r_3 u H locs h hP hD hS => ?_)
        have hP : va_P G vwCl [oX7 z_a c_a s_a d_a t_a z_saved e_a p_a r_a q_a z_as, oX0 c_a c_points c_count c_as c_ad c_ar c_ah c_ed, aI cI c_as 20 c_sets, aD cD c_ad 20 c_scores, aZ cZ c_ar 20 c_rated, aI cI c_ah 8 c_hold] H := hP
        have hD : va_D A [oX7 z_a c_a s_a d_a t_a z_saved e_a p_a r_a q_a z_as, oX0 c_a c_points c_count c_as c_ad c_ar c_ah c_ed, aI cI c_as 20 c_sets, aD cD c_ad 20 c_scores, aZ cZ c_ar 20 c_rated, aI cI c_ah 8 c_hold] := hD
        obtain ⟨ha, hf⟩ := h
        refine lv_if_le (tgt := 56) hx hb dX7_halvingMistakes_49 (by decide) (fun hc => ?_) (fun hc => ?_)
        · have h := ha hc
          clear ha hf
          refine lv_iconst (v := (0 : Int32)) hx hb dX7_halvingMistakes_56 (by decide) ?_
          exact b_57 _ ih _ _ _ _ h _ _ _ ⟨hP, hD, hS, lv_sub hl [0, 1, 2, 3, 4] rfl⟩
        · have h := hf hc
          clear ha hf
          refine lv_iconst (v := (1 : Int32)) hx hb dX7_halvingMistakes_52 (by decide) ?_
          refine lv_goto (tgt := 57) hx hb dX7_halvingMistakes_53 (by decide) ?_
          exact b_57 _ ih _ _ _ _ h _ _ _ ⟨hP, hD, hS, lv_sub hl [0, 1, 2, 3, 4] rfl⟩
  refine lv_aload_n hx hb dX7_halvingMistakes_0 rfl (lv_at hl 0 rfl) ?_
  refine va_get (D := G) (ci := 7) (v := .ref c_a) (C := RX7) (T := TX7) (N := 10) hx hb hts i_X7 hown hK.1 hP 0 rfl rfl 0 (by decide) f_12 (fun _ h9 => h9) rfl dX7_halvingMistakes_1 ?_
  refine lv_iload_n hx hb dX7_halvingMistakes_4 rfl (lv_at hl 1 rfl) ?_
  refine k_Vi (wr := [oX7 z_a c_a s_a d_a t_a z_saved e_a p_a r_a q_a z_as]) (wf := (fun (u : Unit) => [oX7 z_a c_a s_a d_a t_a z_saved e_a p_a r_a q_a z_as, oX0 c_a c_points c_count c_as c_ad c_ar c_ah c_ed, aI cI c_as 20 c_sets, aD cD c_ad 20 c_scores, aZ cZ c_ar 20 c_rated, aI cI c_ah 8 c_hold])) (As := [.int x1]) (rest := []) ⟨hx, hb, hml, hown, hts⟩ hK hP hD hS hA (c_X0_has l G cI cD cZ cJ cO c_a c_as c_ad c_ar c_ah c_points c_count c_ed c_sets c_scores c_rated c_hold x1 _ h) (cwV 1 hts gX7_halvingMistakes_X0_has rfl rfl rfl (by decide +kernel) ⟨Nat.le_of_ble_eq_true rfl, Nat.le_of_ble_eq_true rfl⟩) 0 rfl rfl [1, 2, 3, 4, 5] [0] [0, 1, 2, 3, 4, 5] rfl rfl rfl (fun _ => rfl) rfl rfl hl.1 (Nat.le_of_ble_eq_true rfl) ⟨Nat.zero_le _, Nat.zero_le _⟩ dX7_halvingMistakes_5 (fun r_1 u H locs h hP hD hS => ?_)
  have hP : va_P G vwCl [oX7 z_a c_a s_a d_a t_a z_saved e_a p_a r_a q_a z_as, oX0 c_a c_points c_count c_as c_ad c_ar c_ah c_ed, aI cI c_as 20 c_sets, aD cD c_ad 20 c_scores, aZ cZ c_ar 20 c_rated, aI cI c_ah 8 c_hold] H := hP
  have hD : va_D A [oX7 z_a c_a s_a d_a t_a z_saved e_a p_a r_a q_a z_as, oX0 c_a c_points c_count c_as c_ad c_ar c_ah c_ed, aI cI c_as 20 c_sets, aD cD c_ad 20 c_scores, aZ cZ c_ar 20 c_rated, aI cI c_ah 8 c_hold] := hD
  obtain ⟨ha, hf⟩ := h
  refine lv_if_ne (tgt := 14) hx hb dX7_halvingMistakes_8 (by decide) (fun hc => ?_) (fun hc => ?_)
  · have h := ha hc
    clear ha hf
    refine lv_aload_n hx hb dX7_halvingMistakes_14 rfl (lv_at hl 0 rfl) ?_
    refine va_get (D := G) (ci := 7) (v := .ref c_a) (C := RX7) (T := TX7) (N := 10) hx hb hts i_X7 hown hK.1 hP 0 rfl rfl 0 (by decide) f_12 (fun _ h9 => h9) rfl dX7_halvingMistakes_15 ?_
    refine k_Vi (wr := [oX7 z_a c_a s_a d_a t_a z_saved e_a p_a r_a q_a z_as]) (wf := (fun (u : Unit) => [oX7 z_a c_a s_a d_a t_a z_saved e_a p_a r_a q_a z_as, oX0 c_a c_points c_count c_as c_ad c_ar c_ah c_ed, aI cI c_as 20 c_sets, aD cD c_ad 20 c_scores, aZ cZ c_ar 20 c_rated, aI cI c_ah 8 c_hold])) (As := []) (rest := []) ⟨hx, hb, hml, hown, hts⟩ hK hP hD hS hA (c_X0_allNumbers l G cI cD cZ cJ cO c_a c_as c_ad c_ar c_ah c_points c_count c_ed c_sets c_scores c_rated c_hold _ h) (cwV 0 hts gX7_halvingMistakes_X0_allNumbers rfl rfl rfl (by decide +kernel) ⟨Nat.le_of_ble_eq_true rfl, Nat.le_of_ble_eq_true rfl⟩) 0 rfl rfl [1, 2, 3, 4, 5] [0] [0, 1, 2, 3, 4, 5] rfl rfl rfl (fun _ => rfl) rfl rfl hl.1 (Nat.le_of_ble_eq_true rfl) ⟨Nat.zero_le _, Nat.zero_le _⟩ dX7_halvingMistakes_18 (fun r_2 u H locs h hP hD hS => ?_)
    have hP : va_P G vwCl [oX7 z_a c_a s_a d_a t_a z_saved e_a p_a r_a q_a z_as, oX0 c_a c_points c_count c_as c_ad c_ar c_ah c_ed, aI cI c_as 20 c_sets, aD cD c_ad 20 c_scores, aZ cZ c_ar 20 c_rated, aI cI c_ah 8 c_hold] H := hP
    have hD : va_D A [oX7 z_a c_a s_a d_a t_a z_saved e_a p_a r_a q_a z_as, oX0 c_a c_points c_count c_as c_ad c_ar c_ah c_ed, aI cI c_as 20 c_sets, aD cD c_ad 20 c_scores, aZ cZ c_ar 20 c_rated, aI cI c_ah 8 c_hold] := hD
    refine lv_istore_n (lv' := [(2, .int r_2), (0, .ref z_a), (1, .int x1)]) hx hb dX7_halvingMistakes_21 rfl hl (by decide) rfl (fun ls hl => ?_)
    refine lv_iconst (v := (0 : Int32)) hx hb dX7_halvingMistakes_22 (by decide) ?_
    refine lv_istore_n (lv' := [(3, .int (0 : Int32)), (2, .int r_2), (0, .ref z_a), (1, .int x1)]) hx hb dX7_halvingMistakes_23 rfl hl (by decide) rfl (fun ls hl => ?_)
    refine lv_iconst (v := (0 : Int32)) hx hb dX7_halvingMistakes_24 (by decide) ?_
    refine lv_istore (lv' := [(4, .int (0 : Int32)), (3, .int (0 : Int32)), (2, .int r_2), (0, .ref z_a), (1, .int x1)]) hx hb dX7_halvingMistakes_25 hl (by decide) rfl (fun ls hl => ?_)
    obtain ⟨j, h⟩ := h
    exact b_27  j _ _ _ h _ _ _ ⟨hP, hD, hS, lv_sub hl [3, 4, 2, 1, 0] rfl⟩
  · have h := hf hc
    clear ha hf
    refine lv_bipush (v := (-2 : Int32)) hx hb dX7_halvingMistakes_11 (by decide) ?_
    exact hret _ () _ _ _ _ rfl h hP hD hS dX7_halvingMistakes_13
abbrev rm_X7_reset : Room := { frames := 4, cells := 0, slots := 0, locals := 85 }
def wp_X7_reset (x1 : Int32) (c_points : Int32) (c_count : Int32) (c_ed : Int32) (c_sets : Nat → Int32) (c_hold : Nat → Int32) (s_count : Int32) (Q : Int32 → Int32 → Int32 → Int32 → (Nat → Int32) → Int32 → Prop) : Prop := ((x1 < (1 : Int32)) → Q (-1 : Int32) c_points c_count c_ed c_hold s_count) ∧ ((¬ x1 < (1 : Int32)) → ((x1 ≤ (8 : Int32)) → wp_X0_begin x1 c_points c_count c_ed c_sets c_hold (fun (c_points_1 : Int32) (c_count_2 : Int32) (c_ed_3 : Int32) (c_hold_4 : Nat → Int32) => wp_X3_forget s_count (fun (s_count_5 : Int32) => Q c_points c_points_1 c_count_2 c_ed_3 c_hold_4 s_count_5))) ∧ ((¬ x1 ≤ (8 : Int32)) → Q (-1 : Int32) c_points c_count c_ed c_hold s_count))
set_option maxRecDepth 100000 in
set_option maxHeartbeats 4000000 in
theorem c_X7_reset (l : Launch) (G : va_G) (cI cD cZ cJ cO : ClassId) (z_a c_a c_as c_ad c_ar c_ah s_a s_ac d_a t_a e_a p_a r_a q_a z_as : Nat) (z_saved : Int32) (c_points : Int32) (c_count : Int32) (c_ed : Int32) (c_sets : Nat → Int32) (c_scores : Nat → UInt64) (c_rated : Nat → Int32) (c_hold : Nat → Int32) (s_count : Int32) (s_codes : Nat → Int32) (x1 : Int32) (Q : Int32 → Int32 → Int32 → Int32 → (Nat → Int32) → Int32 → Prop) (h : wp_X7_reset x1 c_points c_count c_ed c_sets c_hold s_count Q) : CtI l yX7_reset wsX7_reset rm_X7_reset G (TY cI cD cZ cJ cO) [.ref z_a, .int x1] [oX7 z_a c_a s_a d_a t_a z_saved e_a p_a r_a q_a z_as, oX0 c_a c_points c_count c_as c_ad c_ar c_ah c_ed, aI cI c_as 20 c_sets, aD cD c_ad 20 c_scores, aZ cZ c_ar 20 c_rated, aI cI c_ah 8 c_hold, oX3 s_a s_count s_ac, aI cI s_ac 12 s_codes] (fun (r : Int32) (u : Int32 × Int32 × Int32 × (Nat → Int32) × Int32) => Q r u.1 u.2.1 u.2.2.1 u.2.2.2.1 u.2.2.2.2) (fun (u : Int32 × Int32 × Int32 × (Nat → Int32) × Int32) => [oX7 z_a c_a s_a d_a t_a z_saved e_a p_a r_a q_a z_as, oX0 c_a u.1 u.2.1 c_as c_ad c_ar c_ah u.2.2.1, aI cI c_as 20 c_sets, aD cD c_ad 20 c_scores, aZ cZ c_ar 20 c_rated, aI cI c_ah 8 u.2.2.2.1, oX3 s_a u.2.2.2.2 s_ac, aI cI s_ac 12 s_codes]) := by
  refine ct_openI (cc := cX7_reset) (maxL := 3) (ty := .int) (by decide) rfl (Nat.le_of_ble_eq_true rfl) ?_
  intro p e s m args below meth c A Z ls hx hb hml hown hts hK hA hret hP hD hS hl
  have hown : s.vm.findClass RX7 = some m.cls := hown
  have hl : lv_has ls 3 [(0, .ref z_a), (1, .int x1)] := hl
  have f_12 := hts (.fieldLink RX7 12 "TeachingSets" "concepts" "LTeachingSets$Concepts;") (List.mem_of_getElem? (i := 1) rfl)
  have f_74 := hts (.fieldLink RX7 74 "TeachingSets$Concepts" "points" "I") (List.mem_of_getElem? (i := 2) rfl)
  have f_21 := hts (.fieldLink RX7 21 "TeachingSets" "sample" "LTeachingSets$Sample;") (List.mem_of_getElem? (i := 3) rfl)
  have i_X7 : ∀ w ∈ wsX70, w ∈ wsX7_reset := fun _ h => List.mem_cons_of_mem _ (List.mem_append_left _ (List.mem_append_left _ (List.mem_append_right _ (h))))
  have i_X0 : ∀ w ∈ wsX00, w ∈ wsX7_reset := fun _ h => List.mem_cons_of_mem _ (List.mem_append_left _ (List.mem_append_right _ (h)))
  refine lv_iload_n hx hb dX7_reset_0 rfl (lv_at hl 1 rfl) ?_
  refine lv_iconst (v := (1 : Int32)) hx hb dX7_reset_1 (by decide) ?_
  obtain ⟨ha, hf⟩ := h
  refine lv_icmp_lt (tgt := 11) hx hb dX7_reset_2 (by decide) (fun hc => ?_) (fun hc => ?_)
  · have h := ha hc
    clear ha hf
    refine lv_iconst (v := (-1 : Int32)) hx hb dX7_reset_11 (by decide) ?_
    exact hret _ (c_points, c_count, c_ed, c_hold, s_count) _ _ _ _ rfl h hP hD hS dX7_reset_12
  · have h := hf hc
    clear ha hf
    refine lv_iload_n hx hb dX7_reset_5 rfl (lv_at hl 1 rfl) ?_
    refine lv_bipush (v := (8 : Int32)) hx hb dX7_reset_6 (by decide) ?_
    obtain ⟨ha, hf⟩ := h
    refine lv_icmp_le (tgt := 13) hx hb dX7_reset_8 (by decide) (fun hc => ?_) (fun hc => ?_)
    · have h := ha hc
      clear ha hf
      refine lv_aload_n hx hb dX7_reset_13 rfl (lv_at hl 0 rfl) ?_
      refine va_get (D := G) (ci := 7) (v := .ref c_a) (C := RX7) (T := TX7) (N := 10) hx hb hts i_X7 hown hK.1 hP 0 rfl rfl 0 (by decide) f_12 (fun _ h9 => h9) rfl dX7_reset_14 ?_
      refine va_get (D := G) (ci := 0) (v := .int c_points) (C := RX0) (T := TX0) (N := 7) hx hb hts i_X0 hown hK.1 hP 1 rfl rfl 0 (by decide) f_74 (fun _ h9 => h9) rfl dX7_reset_17 ?_
      refine lv_istore_n (lv' := [(2, .int c_points), (0, .ref z_a), (1, .int x1)]) hx hb dX7_reset_20 rfl hl (by decide) rfl (fun ls hl => ?_)
      refine lv_aload_n hx hb dX7_reset_21 rfl (lv_at hl 1 rfl) ?_
      refine va_get (D := G) (ci := 7) (v := .ref c_a) (C := RX7) (T := TX7) (N := 10) hx hb hts i_X7 hown hK.1 hP 0 rfl rfl 0 (by decide) f_12 (fun _ h9 => h9) rfl dX7_reset_22 ?_
      refine lv_iload_n hx hb dX7_reset_25 rfl (lv_at hl 2 rfl) ?_
      refine k_Vv (wr := [oX7 z_a c_a s_a d_a t_a z_saved e_a p_a r_a q_a z_as, oX3 s_a s_count s_ac, aI cI s_ac 12 s_codes]) (wf := (fun (u : Int32 × Int32 × Int32 × (Nat → Int32)) => [oX7 z_a c_a s_a d_a t_a z_saved e_a p_a r_a q_a z_as, oX0 c_a u.1 u.2.1 c_as c_ad c_ar c_ah u.2.2.1, aI cI c_as 20 c_sets, aD cD c_ad 20 c_scores, aZ cZ c_ar 20 c_rated, aI cI c_ah 8 u.2.2.2, oX3 s_a s_count s_ac, aI cI s_ac 12 s_codes])) (As := [.int x1]) (rest := []) ⟨hx, hb, hml, hown, hts⟩ hK hP hD hS hA (c_X0_begin l G cI cD cZ cJ cO c_a c_as c_ad c_ar c_ah c_points c_count c_ed c_sets c_scores c_rated c_hold x1 _ h) (cwV 1 hts gX7_reset_X0_begin rfl rfl rfl (by decide +kernel) ⟨Nat.le_of_ble_eq_true rfl, Nat.le_of_ble_eq_true rfl⟩) 0 rfl rfl [1, 2, 3, 4, 5] [0, 6, 7] [0, 3, 4, 5, 6, 7, 1, 2] rfl rfl rfl (fun _ => rfl) rfl rfl hl.1 (Nat.le_of_ble_eq_true rfl) ⟨Nat.zero_le _, Nat.zero_le _⟩ dX7_reset_26 (fun u H locs h hP hD hS => ?_)
      obtain ⟨c_points_1, c_count_2, c_ed_3, c_hold_4⟩ := u
      have hP : va_P G vwCl [oX7 z_a c_a s_a d_a t_a z_saved e_a p_a r_a q_a z_as, oX0 c_a c_points_1 c_count_2 c_as c_ad c_ar c_ah c_ed_3, aI cI c_as 20 c_sets, aD cD c_ad 20 c_scores, aZ cZ c_ar 20 c_rated, aI cI c_ah 8 c_hold_4, oX3 s_a s_count s_ac, aI cI s_ac 12 s_codes] H := hP
      have hD : va_D A [oX7 z_a c_a s_a d_a t_a z_saved e_a p_a r_a q_a z_as, oX0 c_a c_points_1 c_count_2 c_as c_ad c_ar c_ah c_ed_3, aI cI c_as 20 c_sets, aD cD c_ad 20 c_scores, aZ cZ c_ar 20 c_rated, aI cI c_ah 8 c_hold_4, oX3 s_a s_count s_ac, aI cI s_ac 12 s_codes] := hD
      refine lv_aload_n hx hb dX7_reset_29 rfl (lv_at hl 1 rfl) ?_
      refine va_get (D := G) (ci := 7) (v := .ref s_a) (C := RX7) (T := TX7) (N := 10) hx hb hts i_X7 hown hK.1 hP 0 rfl rfl 1 (by decide) f_21 (fun _ h9 => h9) rfl dX7_reset_30 ?_
      refine k_Vv (wr := [oX7 z_a c_a s_a d_a t_a z_saved e_a p_a r_a q_a z_as, oX0 c_a c_points_1 c_count_2 c_as c_ad c_ar c_ah c_ed_3, aI cI c_as 20 c_sets, aD cD c_ad 20 c_scores, aZ cZ c_ar 20 c_rated, aI cI c_ah 8 c_hold_4]) (wf := (fun (u : Int32) => [oX7 z_a c_a s_a d_a t_a z_saved e_a p_a r_a q_a z_as, oX0 c_a c_points_1 c_count_2 c_as c_ad c_ar c_ah c_ed_3, aI cI c_as 20 c_sets, aD cD c_ad 20 c_scores, aZ cZ c_ar 20 c_rated, aI cI c_ah 8 c_hold_4, oX3 s_a u s_ac, aI cI s_ac 12 s_codes])) (As := []) (rest := []) ⟨hx, hb, hml, hown, hts⟩ hK hP hD hS hA (c_X3_forget l G cI cD cZ cJ cO s_a s_ac s_count s_codes _ h) (cwV 0 hts gX7_reset_X3_forget rfl rfl rfl (by decide +kernel) ⟨Nat.le_of_ble_eq_true rfl, Nat.le_of_ble_eq_true rfl⟩) 0 rfl rfl [6, 7] [0, 1, 2, 3, 4, 5] [0, 1, 2, 3, 4, 5, 6, 7] rfl rfl rfl (fun _ => rfl) rfl rfl hl.1 (Nat.le_of_ble_eq_true rfl) ⟨Nat.zero_le _, Nat.zero_le _⟩ dX7_reset_33 (fun u H locs h hP hD hS => ?_)
      obtain ⟨s_count_5, rfl⟩ : ∃ z, z = u := ⟨_, rfl⟩
      have hP : va_P G vwCl [oX7 z_a c_a s_a d_a t_a z_saved e_a p_a r_a q_a z_as, oX0 c_a c_points_1 c_count_2 c_as c_ad c_ar c_ah c_ed_3, aI cI c_as 20 c_sets, aD cD c_ad 20 c_scores, aZ cZ c_ar 20 c_rated, aI cI c_ah 8 c_hold_4, oX3 s_a s_count_5 s_ac, aI cI s_ac 12 s_codes] H := hP
      have hD : va_D A [oX7 z_a c_a s_a d_a t_a z_saved e_a p_a r_a q_a z_as, oX0 c_a c_points_1 c_count_2 c_as c_ad c_ar c_ah c_ed_3, aI cI c_as 20 c_sets, aD cD c_ad 20 c_scores, aZ cZ c_ar 20 c_rated, aI cI c_ah 8 c_hold_4, oX3 s_a s_count_5 s_ac, aI cI s_ac 12 s_codes] := hD
      refine lv_iload_n hx hb dX7_reset_36 rfl (lv_at hl 0 rfl) ?_
      exact hret _ (c_points_1, c_count_2, c_ed_3, c_hold_4, s_count_5) _ _ _ _ rfl h hP hD hS dX7_reset_37
    · have h := hf hc
      clear ha hf
      refine lv_iconst (v := (-1 : Int32)) hx hb dX7_reset_11 (by decide) ?_
      exact hret _ (c_points, c_count, c_ed, c_hold, s_count) _ _ _ _ rfl h hP hD hS dX7_reset_12
abbrev rm_X7_restrict : Room := { frames := 4, cells := 0, slots := 0, locals := 88 }
def wp_X7_restrict (x1 : Int32) (c_points : Int32) (c_count : Int32) (c_ed : Int32) (c_sets : Nat → Int32) (c_scores : Nat → UInt64) (c_rated : Nat → Int32) (c_hold : Nat → Int32) (s_count : Int32) (Q : Int32 → Int32 → Int32 → Int32 → (Nat → Int32) → (Nat → UInt64) → (Nat → Int32) → (Nat → Int32) → Int32 → Prop) : Prop := ((x1 = 0) → Q (-1 : Int32) c_points c_count c_ed c_sets c_scores c_rated c_hold s_count) ∧ ((¬ x1 = 0) → wp_X0_isSet x1 c_points (fun (r_1 : Int32) => ((¬ r_1 = 0) → wp_X0_narrow x1 c_points c_count c_ed c_sets c_scores c_rated c_hold (fun (c_points_2 : Int32) (c_count_3 : Int32) (c_ed_4 : Int32) (c_sets_5 : Nat → Int32) (c_scores_6 : Nat → UInt64) (c_rated_7 : Nat → Int32) (c_hold_8 : Nat → Int32) => wp_X3_forget s_count (fun (s_count_9 : Int32) => Q c_count_3 c_points_2 c_count_3 c_ed_4 c_sets_5 c_scores_6 c_rated_7 c_hold_8 s_count_9))) ∧ ((r_1 = 0) → Q (-1 : Int32) c_points c_count c_ed c_sets c_scores c_rated c_hold s_count)))
set_option maxRecDepth 100000 in
set_option maxHeartbeats 4000000 in
theorem c_X7_restrict (l : Launch) (G : va_G) (cI cD cZ cJ cO : ClassId) (z_a c_a c_as c_ad c_ar c_ah s_a s_ac d_a t_a e_a p_a r_a q_a z_as : Nat) (z_saved : Int32) (c_points : Int32) (c_count : Int32) (c_ed : Int32) (c_sets : Nat → Int32) (c_scores : Nat → UInt64) (c_rated : Nat → Int32) (c_hold : Nat → Int32) (s_count : Int32) (s_codes : Nat → Int32) (x1 : Int32) (Q : Int32 → Int32 → Int32 → Int32 → (Nat → Int32) → (Nat → UInt64) → (Nat → Int32) → (Nat → Int32) → Int32 → Prop) (h : wp_X7_restrict x1 c_points c_count c_ed c_sets c_scores c_rated c_hold s_count Q) : CtI l yX7_restrict wsX7_restrict rm_X7_restrict G (TY cI cD cZ cJ cO) [.ref z_a, .int x1] [oX7 z_a c_a s_a d_a t_a z_saved e_a p_a r_a q_a z_as, oX0 c_a c_points c_count c_as c_ad c_ar c_ah c_ed, aI cI c_as 20 c_sets, aD cD c_ad 20 c_scores, aZ cZ c_ar 20 c_rated, aI cI c_ah 8 c_hold, oX3 s_a s_count s_ac, aI cI s_ac 12 s_codes] (fun (r : Int32) (u : Int32 × Int32 × Int32 × (Nat → Int32) × (Nat → UInt64) × (Nat → Int32) × (Nat → Int32) × Int32) => Q r u.1 u.2.1 u.2.2.1 u.2.2.2.1 u.2.2.2.2.1 u.2.2.2.2.2.1 u.2.2.2.2.2.2.1 u.2.2.2.2.2.2.2) (fun (u : Int32 × Int32 × Int32 × (Nat → Int32) × (Nat → UInt64) × (Nat → Int32) × (Nat → Int32) × Int32) => [oX7 z_a c_a s_a d_a t_a z_saved e_a p_a r_a q_a z_as, oX0 c_a u.1 u.2.1 c_as c_ad c_ar c_ah u.2.2.1, aI cI c_as 20 u.2.2.2.1, aD cD c_ad 20 u.2.2.2.2.1, aZ cZ c_ar 20 u.2.2.2.2.2.1, aI cI c_ah 8 u.2.2.2.2.2.2.1, oX3 s_a u.2.2.2.2.2.2.2 s_ac, aI cI s_ac 12 s_codes]) := by
  refine ct_openI (cc := cX7_restrict) (maxL := 2) (ty := .int) (by decide) rfl (Nat.le_of_ble_eq_true rfl) ?_
  intro p e s m args below meth c A Z ls hx hb hml hown hts hK hA hret hP hD hS hl
  have hown : s.vm.findClass RX7 = some m.cls := hown
  have hl : lv_has ls 2 [(0, .ref z_a), (1, .int x1)] := hl
  have f_12 := hts (.fieldLink RX7 12 "TeachingSets" "concepts" "LTeachingSets$Concepts;") (List.mem_of_getElem? (i := 1) rfl)
  have f_21 := hts (.fieldLink RX7 21 "TeachingSets" "sample" "LTeachingSets$Sample;") (List.mem_of_getElem? (i := 2) rfl)
  have f_96 := hts (.fieldLink RX7 96 "TeachingSets$Concepts" "count" "I") (List.mem_of_getElem? (i := 3) rfl)
  have i_X7 : ∀ w ∈ wsX70, w ∈ wsX7_restrict := fun _ h => List.mem_cons_of_mem _ (List.mem_append_left _ (List.mem_append_left _ (List.mem_append_right _ (h))))
  have i_X0 : ∀ w ∈ wsX00, w ∈ wsX7_restrict := fun _ h => List.mem_cons_of_mem _ (List.mem_append_left _ (List.mem_append_right _ (h)))
  refine lv_iload_n hx hb dX7_restrict_0 rfl (lv_at hl 1 rfl) ?_
  obtain ⟨ha, hf⟩ := h
  refine lv_if_eq (tgt := 15) hx hb dX7_restrict_1 (by decide) (fun hc => ?_) (fun hc => ?_)
  · have h := ha hc
    clear ha hf
    refine lv_iconst (v := (-1 : Int32)) hx hb dX7_restrict_15 (by decide) ?_
    exact hret _ (c_points, c_count, c_ed, c_sets, c_scores, c_rated, c_hold, s_count) _ _ _ _ rfl h hP hD hS dX7_restrict_16
  · have h := hf hc
    clear ha hf
    refine lv_aload_n hx hb dX7_restrict_4 rfl (lv_at hl 0 rfl) ?_
    refine va_get (D := G) (ci := 7) (v := .ref c_a) (C := RX7) (T := TX7) (N := 10) hx hb hts i_X7 hown hK.1 hP 0 rfl rfl 0 (by decide) f_12 (fun _ h9 => h9) rfl dX7_restrict_5 ?_
    refine lv_iload_n hx hb dX7_restrict_8 rfl (lv_at hl 1 rfl) ?_
    refine k_Vi (wr := [oX7 z_a c_a s_a d_a t_a z_saved e_a p_a r_a q_a z_as, oX3 s_a s_count s_ac, aI cI s_ac 12 s_codes]) (wf := (fun (u : Unit) => [oX7 z_a c_a s_a d_a t_a z_saved e_a p_a r_a q_a z_as, oX0 c_a c_points c_count c_as c_ad c_ar c_ah c_ed, aI cI c_as 20 c_sets, aD cD c_ad 20 c_scores, aZ cZ c_ar 20 c_rated, aI cI c_ah 8 c_hold, oX3 s_a s_count s_ac, aI cI s_ac 12 s_codes])) (As := [.int x1]) (rest := []) ⟨hx, hb, hml, hown, hts⟩ hK hP hD hS hA (c_X0_isSet l G cI cD cZ cJ cO c_a c_as c_ad c_ar c_ah c_points c_count c_ed c_sets c_scores c_rated c_hold x1 _ h) (cwV 1 hts gX7_restrict_X0_isSet rfl rfl rfl (by decide +kernel) ⟨Nat.le_of_ble_eq_true rfl, Nat.le_of_ble_eq_true rfl⟩) 0 rfl rfl [1, 2, 3, 4, 5] [0, 6, 7] [0, 3, 4, 5, 6, 7, 1, 2] rfl rfl rfl (fun _ => rfl) rfl rfl hl.1 (Nat.le_of_ble_eq_true rfl) ⟨Nat.zero_le _, Nat.zero_le _⟩ dX7_restrict_9 (fun r_1 u H locs h hP hD hS => ?_)
    have hP : va_P G vwCl [oX7 z_a c_a s_a d_a t_a z_saved e_a p_a r_a q_a z_as, oX0 c_a c_points c_count c_as c_ad c_ar c_ah c_ed, aI cI c_as 20 c_sets, aD cD c_ad 20 c_scores, aZ cZ c_ar 20 c_rated, aI cI c_ah 8 c_hold, oX3 s_a s_count s_ac, aI cI s_ac 12 s_codes] H := hP
    have hD : va_D A [oX7 z_a c_a s_a d_a t_a z_saved e_a p_a r_a q_a z_as, oX0 c_a c_points c_count c_as c_ad c_ar c_ah c_ed, aI cI c_as 20 c_sets, aD cD c_ad 20 c_scores, aZ cZ c_ar 20 c_rated, aI cI c_ah 8 c_hold, oX3 s_a s_count s_ac, aI cI s_ac 12 s_codes] := hD
    obtain ⟨ha, hf⟩ := h
    refine lv_if_ne (tgt := 17) hx hb dX7_restrict_12 (by decide) (fun hc => ?_) (fun hc => ?_)
    · have h := ha hc
      clear ha hf
      refine lv_aload_n hx hb dX7_restrict_17 rfl (lv_at hl 0 rfl) ?_
      refine va_get (D := G) (ci := 7) (v := .ref c_a) (C := RX7) (T := TX7) (N := 10) hx hb hts i_X7 hown hK.1 hP 0 rfl rfl 0 (by decide) f_12 (fun _ h9 => h9) rfl dX7_restrict_18 ?_
      refine lv_iload_n hx hb dX7_restrict_21 rfl (lv_at hl 1 rfl) ?_
      refine k_Vv (wr := [oX7 z_a c_a s_a d_a t_a z_saved e_a p_a r_a q_a z_as, oX3 s_a s_count s_ac, aI cI s_ac 12 s_codes]) (wf := (fun (u : Int32 × Int32 × Int32 × (Nat → Int32) × (Nat → UInt64) × (Nat → Int32) × (Nat → Int32)) => [oX7 z_a c_a s_a d_a t_a z_saved e_a p_a r_a q_a z_as, oX0 c_a u.1 u.2.1 c_as c_ad c_ar c_ah u.2.2.1, aI cI c_as 20 u.2.2.2.1, aD cD c_ad 20 u.2.2.2.2.1, aZ cZ c_ar 20 u.2.2.2.2.2.1, aI cI c_ah 8 u.2.2.2.2.2.2, oX3 s_a s_count s_ac, aI cI s_ac 12 s_codes])) (As := [.int x1]) (rest := []) ⟨hx, hb, hml, hown, hts⟩ hK hP hD hS hA (c_X0_narrow l G cI cD cZ cJ cO c_a c_as c_ad c_ar c_ah c_points c_count c_ed c_sets c_scores c_rated c_hold x1 _ h) (cwV 1 hts gX7_restrict_X0_narrow rfl rfl rfl (by decide +kernel) ⟨Nat.le_of_ble_eq_true rfl, Nat.le_of_ble_eq_true rfl⟩) 0 rfl rfl [1, 2, 3, 4, 5] [0, 6, 7] [0, 3, 4, 5, 6, 7, 1, 2] rfl rfl rfl (fun _ => rfl) rfl rfl hl.1 (Nat.le_of_ble_eq_true rfl) ⟨Nat.zero_le _, Nat.zero_le _⟩ dX7_restrict_22 (fun u H locs h hP hD hS => ?_)
      obtain ⟨c_points_2, c_count_3, c_ed_4, c_sets_5, c_scores_6, c_rated_7, c_hold_8⟩ := u
      have hP : va_P G vwCl [oX7 z_a c_a s_a d_a t_a z_saved e_a p_a r_a q_a z_as, oX0 c_a c_points_2 c_count_3 c_as c_ad c_ar c_ah c_ed_4, aI cI c_as 20 c_sets_5, aD cD c_ad 20 c_scores_6, aZ cZ c_ar 20 c_rated_7, aI cI c_ah 8 c_hold_8, oX3 s_a s_count s_ac, aI cI s_ac 12 s_codes] H := hP
      have hD : va_D A [oX7 z_a c_a s_a d_a t_a z_saved e_a p_a r_a q_a z_as, oX0 c_a c_points_2 c_count_3 c_as c_ad c_ar c_ah c_ed_4, aI cI c_as 20 c_sets_5, aD cD c_ad 20 c_scores_6, aZ cZ c_ar 20 c_rated_7, aI cI c_ah 8 c_hold_8, oX3 s_a s_count s_ac, aI cI s_ac 12 s_codes] := hD
      refine lv_aload_n hx hb dX7_restrict_25 rfl (lv_at hl 0 rfl) ?_
      refine va_get (D := G) (ci := 7) (v := .ref s_a) (C := RX7) (T := TX7) (N := 10) hx hb hts i_X7 hown hK.1 hP 0 rfl rfl 1 (by decide) f_21 (fun _ h9 => h9) rfl dX7_restrict_26 ?_
      refine k_Vv (wr := [oX7 z_a c_a s_a d_a t_a z_saved e_a p_a r_a q_a z_as, oX0 c_a c_points_2 c_count_3 c_as c_ad c_ar c_ah c_ed_4, aI cI c_as 20 c_sets_5, aD cD c_ad 20 c_scores_6, aZ cZ c_ar 20 c_rated_7, aI cI c_ah 8 c_hold_8]) (wf := (fun (u : Int32) => [oX7 z_a c_a s_a d_a t_a z_saved e_a p_a r_a q_a z_as, oX0 c_a c_points_2 c_count_3 c_as c_ad c_ar c_ah c_ed_4, aI cI c_as 20 c_sets_5, aD cD c_ad 20 c_scores_6, aZ cZ c_ar 20 c_rated_7, aI cI c_ah 8 c_hold_8, oX3 s_a u s_ac, aI cI s_ac 12 s_codes])) (As := []) (rest := []) ⟨hx, hb, hml, hown, hts⟩ hK hP hD hS hA (c_X3_forget l G cI cD cZ cJ cO s_a s_ac s_count s_codes _ h) (cwV 0 hts gX7_restrict_X3_forget rfl rfl rfl (by decide +kernel) ⟨Nat.le_of_ble_eq_true rfl, Nat.le_of_ble_eq_true rfl⟩) 0 rfl rfl [6, 7] [0, 1, 2, 3, 4, 5] [0, 1, 2, 3, 4, 5, 6, 7] rfl rfl rfl (fun _ => rfl) rfl rfl hl.1 (Nat.le_of_ble_eq_true rfl) ⟨Nat.zero_le _, Nat.zero_le _⟩ dX7_restrict_29 (fun u H locs h hP hD hS => ?_)
      obtain ⟨s_count_9, rfl⟩ : ∃ z, z = u := ⟨_, rfl⟩
      have hP : va_P G vwCl [oX7 z_a c_a s_a d_a t_a z_saved e_a p_a r_a q_a z_as, oX0 c_a c_points_2 c_count_3 c_as c_ad c_ar c_ah c_ed_4, aI cI c_as 20 c_sets_5, aD cD c_ad 20 c_scores_6, aZ cZ c_ar 20 c_rated_7, aI cI c_ah 8 c_hold_8, oX3 s_a s_count_9 s_ac, aI cI s_ac 12 s_codes] H := hP
      have hD : va_D A [oX7 z_a c_a s_a d_a t_a z_saved e_a p_a r_a q_a z_as, oX0 c_a c_points_2 c_count_3 c_as c_ad c_ar c_ah c_ed_4, aI cI c_as 20 c_sets_5, aD cD c_ad 20 c_scores_6, aZ cZ c_ar 20 c_rated_7, aI cI c_ah 8 c_hold_8, oX3 s_a s_count_9 s_ac, aI cI s_ac 12 s_codes] := hD
      refine lv_aload_n hx hb dX7_restrict_32 rfl (lv_at hl 0 rfl) ?_
      refine va_get (D := G) (ci := 7) (v := .ref c_a) (C := RX7) (T := TX7) (N := 10) hx hb hts i_X7 hown hK.1 hP 0 rfl rfl 0 (by decide) f_12 (fun _ h9 => h9) rfl dX7_restrict_33 ?_
      refine va_get (D := G) (ci := 0) (v := .int c_count_3) (C := RX0) (T := TX0) (N := 7) hx hb hts i_X0 hown hK.1 hP 1 rfl rfl 1 (by decide) f_96 (fun _ h9 => h9) rfl dX7_restrict_36 ?_
      exact hret _ (c_points_2, c_count_3, c_ed_4, c_sets_5, c_scores_6, c_rated_7, c_hold_8, s_count_9) _ _ _ _ rfl h hP hD hS dX7_restrict_39
    · have h := hf hc
      clear ha hf
      refine lv_iconst (v := (-1 : Int32)) hx hb dX7_restrict_15 (by decide) ?_
      exact hret _ (c_points, c_count, c_ed, c_sets, c_scores, c_rated, c_hold, s_count) _ _ _ _ rfl h hP hD hS dX7_restrict_16
abbrev rm_X7_addExample : Room := { frames := 1, cells := 0, slots := 0, locals := 22 }
def wp_X7_addExample (x1 : Int32) (x2 : Int32) (c_points : Int32) (s_count : Int32) (s_codes : Nat → Int32) (Q : Int32 → Int32 → (Nat → Int32) → Prop) : Prop := wp_X0_isPoint x1 c_points (fun (r_1 : Int32) => ((¬ r_1 = 0) → ((x2 < 0) → Q (-1 : Int32) s_count s_codes) ∧ ((¬ x2 < 0) → ((x2 ≤ (1 : Int32)) → wp_X3_hasRoomFor (1 : Int32) s_count (fun (r_2 : Int32) => ((¬ r_2 = 0) → wp_X3_append x1 x2 s_count s_codes (fun (s_count_3 : Int32) (s_codes_4 : Nat → Int32) => Q s_count_3 s_count_3 s_codes_4)) ∧ ((r_2 = 0) → Q (-4 : Int32) s_count s_codes))) ∧ ((¬ x2 ≤ (1 : Int32)) → Q (-1 : Int32) s_count s_codes))) ∧ ((r_1 = 0) → Q (-3 : Int32) s_count s_codes))
set_option maxRecDepth 100000 in
set_option maxHeartbeats 4000000 in
theorem c_X7_addExample (l : Launch) (G : va_G) (cI cD cZ cJ cO : ClassId) (z_a c_a c_as c_ad c_ar c_ah s_a s_ac d_a t_a e_a p_a r_a q_a z_as : Nat) (z_saved : Int32) (c_points : Int32) (c_count : Int32) (c_ed : Int32) (c_sets : Nat → Int32) (c_scores : Nat → UInt64) (c_rated : Nat → Int32) (c_hold : Nat → Int32) (s_count : Int32) (s_codes : Nat → Int32) (x1 : Int32) (x2 : Int32) (Q : Int32 → Int32 → (Nat → Int32) → Prop) (h : wp_X7_addExample x1 x2 c_points s_count s_codes Q) : CtI l yX7_addExample wsX7_addExample rm_X7_addExample G (TY cI cD cZ cJ cO) [.ref z_a, .int x1, .int x2] [oX7 z_a c_a s_a d_a t_a z_saved e_a p_a r_a q_a z_as, oX0 c_a c_points c_count c_as c_ad c_ar c_ah c_ed, aI cI c_as 20 c_sets, aD cD c_ad 20 c_scores, aZ cZ c_ar 20 c_rated, aI cI c_ah 8 c_hold, oX3 s_a s_count s_ac, aI cI s_ac 12 s_codes] (fun (r : Int32) (u : Int32 × (Nat → Int32)) => Q r u.1 u.2) (fun (u : Int32 × (Nat → Int32)) => [oX7 z_a c_a s_a d_a t_a z_saved e_a p_a r_a q_a z_as, oX0 c_a c_points c_count c_as c_ad c_ar c_ah c_ed, aI cI c_as 20 c_sets, aD cD c_ad 20 c_scores, aZ cZ c_ar 20 c_rated, aI cI c_ah 8 c_hold, oX3 s_a u.1 s_ac, aI cI s_ac 12 u.2]) := by
  refine ct_openI (cc := cX7_addExample) (maxL := 3) (ty := .int) (by decide) rfl (Nat.le_of_ble_eq_true rfl) ?_
  intro p e s m args below meth c A Z ls hx hb hml hown hts hK hA hret hP hD hS hl
  have hown : s.vm.findClass RX7 = some m.cls := hown
  have hl : lv_has ls 3 [(0, .ref z_a), (1, .int x1), (2, .int x2)] := hl
  have f_12 := hts (.fieldLink RX7 12 "TeachingSets" "concepts" "LTeachingSets$Concepts;") (List.mem_of_getElem? (i := 1) rfl)
  have f_21 := hts (.fieldLink RX7 21 "TeachingSets" "sample" "LTeachingSets$Sample;") (List.mem_of_getElem? (i := 2) rfl)
  have f_200 := hts (.fieldLink RX7 200 "TeachingSets$Sample" "count" "I") (List.mem_of_getElem? (i := 3) rfl)
  have i_X7 : ∀ w ∈ wsX70, w ∈ wsX7_addExample := fun _ h => List.mem_cons_of_mem _ (List.mem_append_left _ (List.mem_append_left _ (List.mem_append_right _ (h))))
  have i_X3 : ∀ w ∈ wsX30, w ∈ wsX7_addExample := fun _ h => List.mem_cons_of_mem _ (List.mem_append_left _ (List.mem_append_right _ (h)))
  refine lv_aload_n hx hb dX7_addExample_0 rfl (lv_at hl 0 rfl) ?_
  refine va_get (D := G) (ci := 7) (v := .ref c_a) (C := RX7) (T := TX7) (N := 10) hx hb hts i_X7 hown hK.1 hP 0 rfl rfl 0 (by decide) f_12 (fun _ h9 => h9) rfl dX7_addExample_1 ?_
  refine lv_iload_n hx hb dX7_addExample_4 rfl (lv_at hl 1 rfl) ?_
  refine k_Vi (wr := [oX7 z_a c_a s_a d_a t_a z_saved e_a p_a r_a q_a z_as, oX3 s_a s_count s_ac, aI cI s_ac 12 s_codes]) (wf := (fun (u : Unit) => [oX7 z_a c_a s_a d_a t_a z_saved e_a p_a r_a q_a z_as, oX0 c_a c_points c_count c_as c_ad c_ar c_ah c_ed, aI cI c_as 20 c_sets, aD cD c_ad 20 c_scores, aZ cZ c_ar 20 c_rated, aI cI c_ah 8 c_hold, oX3 s_a s_count s_ac, aI cI s_ac 12 s_codes])) (As := [.int x1]) (rest := []) ⟨hx, hb, hml, hown, hts⟩ hK hP hD hS hA (c_X0_isPoint l G cI cD cZ cJ cO c_a c_as c_ad c_ar c_ah c_points c_count c_ed c_sets c_scores c_rated c_hold x1 _ h) (cwV 1 hts gX7_addExample_X0_isPoint rfl rfl rfl (by decide +kernel) ⟨Nat.le_of_ble_eq_true rfl, Nat.le_of_ble_eq_true rfl⟩) 0 rfl rfl [1, 2, 3, 4, 5] [0, 6, 7] [0, 3, 4, 5, 6, 7, 1, 2] rfl rfl rfl (fun _ => rfl) rfl rfl hl.1 (Nat.le_of_ble_eq_true rfl) ⟨Nat.zero_le _, Nat.zero_le _⟩ dX7_addExample_5 (fun r_1 u H locs h hP hD hS => ?_)
  have hP : va_P G vwCl [oX7 z_a c_a s_a d_a t_a z_saved e_a p_a r_a q_a z_as, oX0 c_a c_points c_count c_as c_ad c_ar c_ah c_ed, aI cI c_as 20 c_sets, aD cD c_ad 20 c_scores, aZ cZ c_ar 20 c_rated, aI cI c_ah 8 c_hold, oX3 s_a s_count s_ac, aI cI s_ac 12 s_codes] H := hP
  have hD : va_D A [oX7 z_a c_a s_a d_a t_a z_saved e_a p_a r_a q_a z_as, oX0 c_a c_points c_count c_as c_ad c_ar c_ah c_ed, aI cI c_as 20 c_sets, aD cD c_ad 20 c_scores, aZ cZ c_ar 20 c_rated, aI cI c_ah 8 c_hold, oX3 s_a s_count s_ac, aI cI s_ac 12 s_codes] := hD
  obtain ⟨ha, hf⟩ := h
  refine lv_if_ne (tgt := 14) hx hb dX7_addExample_8 (by decide) (fun hc => ?_) (fun hc => ?_)
  · have h := ha hc
    clear ha hf
    refine lv_iload_n hx hb dX7_addExample_14 rfl (lv_at hl 2 rfl) ?_
    obtain ⟨ha, hf⟩ := h
    refine lv_if_lt (tgt := 23) hx hb dX7_addExample_15 (by decide) (fun hc => ?_) (fun hc => ?_)
    · have h := ha hc
      clear ha hf
      refine lv_iconst (v := (-1 : Int32)) hx hb dX7_addExample_23 (by decide) ?_
      exact hret _ (s_count, s_codes) _ _ _ _ rfl h hP hD hS dX7_addExample_24
    · have h := hf hc
      clear ha hf
      refine lv_iload_n hx hb dX7_addExample_18 rfl (lv_at hl 2 rfl) ?_
      refine lv_iconst (v := (1 : Int32)) hx hb dX7_addExample_19 (by decide) ?_
      obtain ⟨ha, hf⟩ := h
      refine lv_icmp_le (tgt := 25) hx hb dX7_addExample_20 (by decide) (fun hc => ?_) (fun hc => ?_)
      · have h := ha hc
        clear ha hf
        refine lv_aload_n hx hb dX7_addExample_25 rfl (lv_at hl 0 rfl) ?_
        refine va_get (D := G) (ci := 7) (v := .ref s_a) (C := RX7) (T := TX7) (N := 10) hx hb hts i_X7 hown hK.1 hP 0 rfl rfl 1 (by decide) f_21 (fun _ h9 => h9) rfl dX7_addExample_26 ?_
        refine lv_iconst (v := (1 : Int32)) hx hb dX7_addExample_29 (by decide) ?_
        refine k_Vi (wr := [oX7 z_a c_a s_a d_a t_a z_saved e_a p_a r_a q_a z_as, oX0 c_a c_points c_count c_as c_ad c_ar c_ah c_ed, aI cI c_as 20 c_sets, aD cD c_ad 20 c_scores, aZ cZ c_ar 20 c_rated, aI cI c_ah 8 c_hold]) (wf := (fun (u : Unit) => [oX7 z_a c_a s_a d_a t_a z_saved e_a p_a r_a q_a z_as, oX0 c_a c_points c_count c_as c_ad c_ar c_ah c_ed, aI cI c_as 20 c_sets, aD cD c_ad 20 c_scores, aZ cZ c_ar 20 c_rated, aI cI c_ah 8 c_hold, oX3 s_a s_count s_ac, aI cI s_ac 12 s_codes])) (As := [.int (1 : Int32)]) (rest := []) ⟨hx, hb, hml, hown, hts⟩ hK hP hD hS hA (c_X3_hasRoomFor l G cI cD cZ cJ cO s_a s_ac s_count s_codes (1 : Int32) _ h) (cwV 1 hts gX7_addExample_X3_hasRoomFor rfl rfl rfl (by decide +kernel) ⟨Nat.le_of_ble_eq_true rfl, Nat.le_of_ble_eq_true rfl⟩) 0 rfl rfl [6, 7] [0, 1, 2, 3, 4, 5] [0, 1, 2, 3, 4, 5, 6, 7] rfl rfl rfl (fun _ => rfl) rfl rfl hl.1 (Nat.le_of_ble_eq_true rfl) ⟨Nat.zero_le _, Nat.zero_le _⟩ dX7_addExample_30 (fun r_2 u H locs h hP hD hS => ?_)
        have hP : va_P G vwCl [oX7 z_a c_a s_a d_a t_a z_saved e_a p_a r_a q_a z_as, oX0 c_a c_points c_count c_as c_ad c_ar c_ah c_ed, aI cI c_as 20 c_sets, aD cD c_ad 20 c_scores, aZ cZ c_ar 20 c_rated, aI cI c_ah 8 c_hold, oX3 s_a s_count s_ac, aI cI s_ac 12 s_codes] H := hP
        have hD : va_D A [oX7 z_a c_a s_a d_a t_a z_saved e_a p_a r_a q_a z_as, oX0 c_a c_points c_count c_as c_ad c_ar c_ah c_ed, aI cI c_as 20 c_sets, aD cD c_ad 20 c_scores, aZ cZ c_ar 20 c_rated, aI cI c_ah 8 c_hold, oX3 s_a s_count s_ac, aI cI s_ac 12 s_codes] := hD
        obtain ⟨ha, hf⟩ := h
        refine lv_if_ne (tgt := 39) hx hb dX7_addExample_33 (by decide) (fun hc => ?_) (fun hc => ?_)
        · have h := ha hc
          clear ha hf
          refine lv_aload_n hx hb dX7_addExample_39 rfl (lv_at hl 0 rfl) ?_
          refine va_get (D := G) (ci := 7) (v := .ref s_a) (C := RX7) (T := TX7) (N := 10) hx hb hts i_X7 hown hK.1 hP 0 rfl rfl 1 (by decide) f_21 (fun _ h9 => h9) rfl dX7_addExample_40 ?_
          refine lv_iload_n hx hb dX7_addExample_43 rfl (lv_at hl 1 rfl) ?_
          refine lv_iload_n hx hb dX7_addExample_44 rfl (lv_at hl 2 rfl) ?_
          refine k_Vv (wr := [oX7 z_a c_a s_a d_a t_a z_saved e_a p_a r_a q_a z_as, oX0 c_a c_points c_count c_as c_ad c_ar c_ah c_ed, aI cI c_as 20 c_sets, aD cD c_ad 20 c_scores, aZ cZ c_ar 20 c_rated, aI cI c_ah 8 c_hold]) (wf := (fun (u : Int32 × (Nat → Int32)) => [oX7 z_a c_a s_a d_a t_a z_saved e_a p_a r_a q_a z_as, oX0 c_a c_points c_count c_as c_ad c_ar c_ah c_ed, aI cI c_as 20 c_sets, aD cD c_ad 20 c_scores, aZ cZ c_ar 20 c_rated, aI cI c_ah 8 c_hold, oX3 s_a u.1 s_ac, aI cI s_ac 12 u.2])) (As := [.int x1, .int x2]) (rest := []) ⟨hx, hb, hml, hown, hts⟩ hK hP hD hS hA (c_X3_append l G cI cD cZ cJ cO s_a s_ac s_count s_codes x1 x2 _ h) (cwV 2 hts gX7_addExample_X3_append rfl rfl rfl (by decide +kernel) ⟨Nat.le_of_ble_eq_true rfl, Nat.le_of_ble_eq_true rfl⟩) 0 rfl rfl [6, 7] [0, 1, 2, 3, 4, 5] [0, 1, 2, 3, 4, 5, 6, 7] rfl rfl rfl (fun _ => rfl) rfl rfl hl.1 (Nat.le_of_ble_eq_true rfl) ⟨Nat.zero_le _, Nat.zero_le _⟩ dX7_addExample_45 (fun u H locs h hP hD hS => ?_)
          obtain ⟨s_count_3, s_codes_4⟩ := u
          have hP : va_P G vwCl [oX7 z_a c_a s_a d_a t_a z_saved e_a p_a r_a q_a z_as, oX0 c_a c_points c_count c_as c_ad c_ar c_ah c_ed, aI cI c_as 20 c_sets, aD cD c_ad 20 c_scores, aZ cZ c_ar 20 c_rated, aI cI c_ah 8 c_hold, oX3 s_a s_count_3 s_ac, aI cI s_ac 12 s_codes_4] H := hP
          have hD : va_D A [oX7 z_a c_a s_a d_a t_a z_saved e_a p_a r_a q_a z_as, oX0 c_a c_points c_count c_as c_ad c_ar c_ah c_ed, aI cI c_as 20 c_sets, aD cD c_ad 20 c_scores, aZ cZ c_ar 20 c_rated, aI cI c_ah 8 c_hold, oX3 s_a s_count_3 s_ac, aI cI s_ac 12 s_codes_4] := hD
          refine lv_aload_n hx hb dX7_addExample_48 rfl (lv_at hl 0 rfl) ?_
          refine va_get (D := G) (ci := 7) (v := .ref s_a) (C := RX7) (T := TX7) (N := 10) hx hb hts i_X7 hown hK.1 hP 0 rfl rfl 1 (by decide) f_21 (fun _ h9 => h9) rfl dX7_addExample_49 ?_
          refine va_get (D := G) (ci := 3) (v := .int s_count_3) (C := RX3) (T := TX3) (N := 2) hx hb hts i_X3 hown hK.1 hP 6 rfl rfl 0 (by decide) f_200 (fun _ h9 => h9) rfl dX7_addExample_52 ?_
          exact hret _ (s_count_3, s_codes_4) _ _ _ _ rfl h hP hD hS dX7_addExample_55
        · have h := hf hc
          clear ha hf
          refine lv_bipush (v := (-4 : Int32)) hx hb dX7_addExample_36 (by decide) ?_
          exact hret _ (s_count, s_codes) _ _ _ _ rfl h hP hD hS dX7_addExample_38
      · have h := hf hc
        clear ha hf
        refine lv_iconst (v := (-1 : Int32)) hx hb dX7_addExample_23 (by decide) ?_
        exact hret _ (s_count, s_codes) _ _ _ _ rfl h hP hD hS dX7_addExample_24
  · have h := hf hc
    clear ha hf
    refine lv_bipush (v := (-3 : Int32)) hx hb dX7_addExample_11 (by decide) ?_
    exact hret _ (s_count, s_codes) _ _ _ _ rfl h hP hD hS dX7_addExample_13
abbrev rm_X7_addExamples : Room := { frames := 2, cells := 0, slots := 0, locals := 43 }
def wp_X7_addExamples_b46 (x1 : Int32) (x2 : Int32) (c_points : Int32) (c_count : Int32) (c_sets : Nat → Int32) (Q : Int32 → Int32 → (Nat → Int32) → Prop)  : Nat → Int32 → Int32 → (Nat → Int32) → Prop
  | 0, _, _, _ => False
  | n + 1, x3, s_count, s_codes => ((c_points ≤ x3) → Q s_count s_count s_codes) ∧ ((¬ c_points ≤ x3) → wp_X7_hasBit x2 x3 (fun (r_5 : Int32) => ((r_5 = 0) → wp_X7_addExamples_b46 x1 x2 c_points c_count c_sets Q n (x3 + (1 : Int32)) s_count s_codes) ∧ ((¬ r_5 = 0) → wp_X0_labelOf x1 x3 c_sets (fun (r_6 : Int32) => wp_X3_append x3 r_6 s_count s_codes (fun (s_count_7 : Int32) (s_codes_8 : Nat → Int32) => wp_X7_addExamples_b46 x1 x2 c_points c_count c_sets Q n (x3 + (1 : Int32)) s_count_7 s_codes_8)))))
def wp_X7_addExamples (x1 : Int32) (x2 : Int32) (c_points : Int32) (c_count : Int32) (c_sets : Nat → Int32) (s_count : Int32) (s_codes : Nat → Int32) (Q : Int32 → Int32 → (Nat → Int32) → Prop) : Prop := wp_X0_has x1 c_count (fun (r_1 : Int32) => ((¬ r_1 = 0) → wp_X0_isSet x2 c_points (fun (r_2 : Int32) => ((¬ r_2 = 0) → wp_J6_bitCount_0f7a4 x2 (fun (r_3 : Int32) => wp_X3_hasRoomFor r_3 s_count (fun (r_4 : Int32) => ((¬ r_4 = 0) → ∃ j46, wp_X7_addExamples_b46 x1 x2 c_points c_count c_sets Q j46 (0 : Int32) s_count s_codes) ∧ ((r_4 = 0) → Q (-4 : Int32) s_count s_codes)))) ∧ ((r_2 = 0) → Q (-1 : Int32) s_count s_codes))) ∧ ((r_1 = 0) → Q (-2 : Int32) s_count s_codes))
set_option maxRecDepth 100000 in
set_option maxHeartbeats 4000000 in
theorem c_X7_addExamples (l : Launch) (G : va_G) (cI cD cZ cJ cO : ClassId) (z_a c_a c_as c_ad c_ar c_ah s_a s_ac d_a t_a e_a p_a r_a q_a z_as : Nat) (z_saved : Int32) (c_points : Int32) (c_count : Int32) (c_ed : Int32) (c_sets : Nat → Int32) (c_scores : Nat → UInt64) (c_rated : Nat → Int32) (c_hold : Nat → Int32) (s_count : Int32) (s_codes : Nat → Int32) (x1 : Int32) (x2 : Int32) (Q : Int32 → Int32 → (Nat → Int32) → Prop) (h : wp_X7_addExamples x1 x2 c_points c_count c_sets s_count s_codes Q) : CtI l yX7_addExamples wsX7_addExamples rm_X7_addExamples G (TY cI cD cZ cJ cO) [.ref z_a, .int x1, .int x2] [oX7 z_a c_a s_a d_a t_a z_saved e_a p_a r_a q_a z_as, oX0 c_a c_points c_count c_as c_ad c_ar c_ah c_ed, aI cI c_as 20 c_sets, aD cD c_ad 20 c_scores, aZ cZ c_ar 20 c_rated, aI cI c_ah 8 c_hold, oX3 s_a s_count s_ac, aI cI s_ac 12 s_codes] (fun (r : Int32) (u : Int32 × (Nat → Int32)) => Q r u.1 u.2) (fun (u : Int32 × (Nat → Int32)) => [oX7 z_a c_a s_a d_a t_a z_saved e_a p_a r_a q_a z_as, oX0 c_a c_points c_count c_as c_ad c_ar c_ah c_ed, aI cI c_as 20 c_sets, aD cD c_ad 20 c_scores, aZ cZ c_ar 20 c_rated, aI cI c_ah 8 c_hold, oX3 s_a u.1 s_ac, aI cI s_ac 12 u.2]) := by
  refine ct_openI (cc := cX7_addExamples) (maxL := 4) (ty := .int) (by decide) rfl (Nat.le_of_ble_eq_true rfl) ?_
  intro p e s m args below meth c A Z ls hx hb hml hown hts hK hA hret hP hD hS hl
  have hown : s.vm.findClass RX7 = some m.cls := hown
  have hl : lv_has ls 4 [(0, .ref z_a), (1, .int x1), (2, .int x2)] := hl
  have f_12 := hts (.fieldLink RX7 12 "TeachingSets" "concepts" "LTeachingSets$Concepts;") (List.mem_of_getElem? (i := 1) rfl)
  have f_21 := hts (.fieldLink RX7 21 "TeachingSets" "sample" "LTeachingSets$Sample;") (List.mem_of_getElem? (i := 2) rfl)
  have f_74 := hts (.fieldLink RX7 74 "TeachingSets$Concepts" "points" "I") (List.mem_of_getElem? (i := 3) rfl)
  have f_200 := hts (.fieldLink RX7 200 "TeachingSets$Sample" "count" "I") (List.mem_of_getElem? (i := 4) rfl)
  have i_X7 : ∀ w ∈ wsX70, w ∈ wsX7_addExamples := fun _ h => List.mem_cons_of_mem _ (List.mem_append_left _ (List.mem_append_left _ (List.mem_append_right _ (h))))
  have i_X0 : ∀ w ∈ wsX00, w ∈ wsX7_addExamples := fun _ h => List.mem_cons_of_mem _ (List.mem_append_left _ (List.mem_append_right _ (h)))
  have i_X3 : ∀ w ∈ wsX30, w ∈ wsX7_addExamples := fun _ h => List.mem_cons_of_mem _ (List.mem_append_right _ (h))
  have b_46 : ∀ (n : Nat) (x3 : Int32) (s_count : Int32) (s_codes : Nat → Int32), wp_X7_addExamples_b46 x1 x2 c_points c_count c_sets Q n x3 s_count s_codes → ∀ (H : Heap) (locs : List Loc) (ls : Array Slot), ST G A s.heap [oX7 z_a c_a s_a d_a t_a z_saved e_a p_a r_a q_a z_as, oX0 c_a c_points c_count c_as c_ad c_ar c_ah c_ed, aI cI c_as 20 c_sets, aD cD c_ad 20 c_scores, aZ cZ c_ar 20 c_rated, aI cI c_ah 8 c_hold, oX3 s_a s_count s_ac, aI cI s_ac 12 s_codes] 4 [(0, .ref z_a), (1, .int x1), (2, .int x2), (3, .int x3)] H locs ls → W p l e rm_X7_addExamples s m args below meth c H locs 0 0 Z (F0 m 46 ls []) := by
    intro n
    induction n with
    | zero =>
      intro x3 s_count s_codes h; exact False.elim h
    | succ n ih =>
      intro x3 s_count s_codes h H locs ls hst
      obtain ⟨hP, hD, hS, hl⟩ := hst
      refine lv_iload_n hx hb dX7_addExamples_46 rfl (lv_at hl 3 rfl) ?_
      refine lv_aload_n hx hb dX7_addExamples_47 rfl (lv_at hl 0 rfl) ?_
      refine va_get (D := G) (ci := 7) (v := .ref c_a) (C := RX7) (T := TX7) (N := 10) hx hb hts i_X7 hown hK.1 hP 0 rfl rfl 0 (by decide) f_12 (fun _ h9 => h9) rfl dX7_addExamples_48 ?_
      refine va_get (D := G) (ci := 0) (v := .int c_points) (C := RX0) (T := TX0) (N := 7) hx hb hts i_X0 hown hK.1 hP 1 rfl rfl 0 (by decide) f_74 (fun _ h9 => h9) rfl dX7_addExamples_51 ?_
      obtain ⟨ha, hf⟩ := h
      refine lv_icmp_ge (tgt := 88) hx hb dX7_addExamples_54 (by decide) (fun hc => ?_) (fun hc => ?_)
      · have h := ha hc
        clear ha hf
        refine lv_aload_n hx hb dX7_addExamples_88 rfl (lv_at hl 0 rfl) ?_
        refine va_get (D := G) (ci := 7) (v := .ref s_a) (C := RX7) (T := TX7) (N := 10) hx hb hts i_X7 hown hK.1 hP 0 rfl rfl 1 (by decide) f_21 (fun _ h9 => h9) rfl dX7_addExamples_89 ?_
        refine va_get (D := G) (ci := 3) (v := .int s_count) (C := RX3) (T := TX3) (N := 2) hx hb hts i_X3 hown hK.1 hP 6 rfl rfl 0 (by decide) f_200 (fun _ h9 => h9) rfl dX7_addExamples_92 ?_
        exact hret _ (s_count, s_codes) _ _ _ _ rfl h hP hD hS dX7_addExamples_95
      · have h := hf hc
        clear ha hf
        refine lv_iload_n hx hb dX7_addExamples_57 rfl (lv_at hl 2 rfl) ?_
        refine lv_iload_n hx hb dX7_addExamples_58 rfl (lv_at hl 3 rfl) ?_
        refine k_Si (wr := [oX7 z_a c_a s_a d_a t_a z_saved e_a p_a r_a q_a z_as, oX0 c_a c_points c_count c_as c_ad c_ar c_ah c_ed, aI cI c_as 20 c_sets, aD cD c_ad 20 c_scores, aZ cZ c_ar 20 c_rated, aI cI c_ah 8 c_hold, oX3 s_a s_count s_ac, aI cI s_ac 12 s_codes]) (wf := (fun (u : Unit) => [oX7 z_a c_a s_a d_a t_a z_saved e_a p_a r_a q_a z_as, oX0 c_a c_points c_count c_as c_ad c_ar c_ah c_ed, aI cI c_as 20 c_sets, aD cD c_ad 20 c_scores, aZ cZ c_ar 20 c_rated, aI cI c_ah 8 c_hold, oX3 s_a s_count s_ac, aI cI s_ac 12 s_codes])) (As := [.int x2, .int x3]) (rest := []) ⟨hx, hb, hml, hown, hts⟩ hK hP hD hS hA (c_X7_hasBit l G cI cD cZ cJ cO x2 x3 _ h) (va_cwS 2 hts gX7_addExamples_X7_hasBit rfl rfl rfl (by decide +kernel) ⟨Nat.le_of_ble_eq_true rfl, Nat.le_of_ble_eq_true rfl⟩) [] [0, 1, 2, 3, 4, 5, 6, 7] [0, 1, 2, 3, 4, 5, 6, 7] rfl rfl rfl (fun _ => rfl) rfl rfl hl.1 (Nat.le_of_ble_eq_true rfl) ⟨Nat.zero_le _, Nat.zero_le _⟩ dX7_addExamples_59 (fun r_5 u H locs h hP hD hS => ?_)
        have hP : va_P G vwCl [oX7 z_a c_a s_a d_a t_a z_saved e_a p_a r_a q_a z_as, oX0 c_a c_points c_count c_as c_ad c_ar c_ah c_ed, aI cI c_as 20 c_sets, aD cD c_ad 20 c_scores, aZ cZ c_ar 20 c_rated, aI cI c_ah 8 c_hold, oX3 s_a s_count s_ac, aI cI s_ac 12 s_codes] H := hP
        have hD : va_D A [oX7 z_a c_a s_a d_a t_a z_saved e_a p_a r_a q_a z_as, oX0 c_a c_points c_count c_as c_ad c_ar c_ah c_ed, aI cI c_as 20 c_sets, aD cD c_ad 20 c_scores, aZ cZ c_ar 20 c_rated, aI cI c_ah 8 c_hold, oX3 s_a s_count s_ac, aI cI s_ac 12 s_codes] := hD
        obtain ⟨ha, hf⟩ := h
        refine lv_if_eq (tgt := 82) hx hb dX7_addExamples_62 (by decide) (fun hc => ?_) (fun hc => ?_)
        · have h := ha hc
          clear ha hf
          refine lv_iinc (v := (x3 + (1 : Int32))) (lv' := [(3, .int (x3 + (1 : Int32))), (0, .ref z_a), (1, .int x1), (2, .int x2)]) hx hb dX7_addExamples_82 hl (k := 3) rfl rfl (by decide) rfl (fun ls hl => ?_)
          refine lv_goto (tgt := 46) hx hb dX7_addExamples_85 (by decide) ?_
          exact ih _ _ _ h _ _ _ ⟨hP, hD, hS, lv_sub hl [1, 2, 3, 0] rfl⟩
        · have h := hf hc
          clear ha hf
          refine lv_aload_n hx hb dX7_addExamples_65 rfl (lv_at hl 0 rfl) ?_
          refine va_get (D := G) (ci := 7) (v := .ref s_a) (C := RX7) (T := TX7) (N := 10) hx hb hts i_X7 hown hK.1 hP 0 rfl rfl 1 (by decide) f_21 (fun _ h9 => h9) rfl dX7_addExamples_66 ?_
          refine lv_iload_n hx hb dX7_addExamples_69 rfl (lv_at hl 3 rfl) ?_
          refine lv_aload_n hx hb dX7_addExamples_70 rfl (lv_at hl 0 rfl) ?_
          refine va_get (D := G) (ci := 7) (v := .ref c_a) (C := RX7) (T := TX7) (N := 10) hx hb hts i_X7 hown hK.1 hP 0 rfl rfl 0 (by decide) f_12 (fun _ h9 => h9) rfl dX7_addExamples_71 ?_
          refine lv_iload_n hx hb dX7_addExamples_74 rfl (lv_at hl 1 rfl) ?_
          refine lv_iload_n hx hb dX7_addExamples_75 rfl (lv_at hl 3 rfl) ?_
          refine k_Vi (wr := [oX7 z_a c_a s_a d_a t_a z_saved e_a p_a r_a q_a z_as, oX3 s_a s_count s_ac, aI cI s_ac 12 s_codes]) (wf := (fun (u : Unit) => [oX7 z_a c_a s_a d_a t_a z_saved e_a p_a r_a q_a z_as, oX0 c_a c_points c_count c_as c_ad c_ar c_ah c_ed, aI cI c_as 20 c_sets, aD cD c_ad 20 c_scores, aZ cZ c_ar 20 c_rated, aI cI c_ah 8 c_hold, oX3 s_a s_count s_ac, aI cI s_ac 12 s_codes])) (As := [.int x1, .int x3]) (rest := [.int x3, .ref s_a]) ⟨hx, hb, hml, hown, hts⟩ hK hP hD hS hA (c_X0_labelOf l G cI cD cZ cJ cO c_a c_as c_ad c_ar c_ah c_points c_count c_ed c_sets c_scores c_rated c_hold x1 x3 _ h) (cwV 2 hts gX7_addExamples_X0_labelOf rfl rfl rfl (by decide +kernel) ⟨Nat.le_of_ble_eq_true rfl, Nat.le_of_ble_eq_true rfl⟩) 0 rfl rfl [1, 2, 3, 4, 5] [0, 6, 7] [0, 3, 4, 5, 6, 7, 1, 2] rfl rfl rfl (fun _ => rfl) rfl rfl hl.1 (Nat.le_of_ble_eq_true rfl) ⟨Nat.zero_le _, Nat.zero_le _⟩ dX7_addExamples_76 (fun r_6 u H locs h hP hD hS => ?_)
          have hP : va_P G vwCl [oX7 z_a c_a s_a d_a t_a z_saved e_a p_a r_a q_a z_as, oX0 c_a c_points c_count c_as c_ad c_ar c_ah c_ed, aI cI c_as 20 c_sets, aD cD c_ad 20 c_scores, aZ cZ c_ar 20 c_rated, aI cI c_ah 8 c_hold, oX3 s_a s_count s_ac, aI cI s_ac 12 s_codes] H := hP
          have hD : va_D A [oX7 z_a c_a s_a d_a t_a z_saved e_a p_a r_a q_a z_as, oX0 c_a c_points c_count c_as c_ad c_ar c_ah c_ed, aI cI c_as 20 c_sets, aD cD c_ad 20 c_scores, aZ cZ c_ar 20 c_rated, aI cI c_ah 8 c_hold, oX3 s_a s_count s_ac, aI cI s_ac 12 s_codes] := hD
          refine k_Vv (wr := [oX7 z_a c_a s_a d_a t_a z_saved e_a p_a r_a q_a z_as, oX0 c_a c_points c_count c_as c_ad c_ar c_ah c_ed, aI cI c_as 20 c_sets, aD cD c_ad 20 c_scores, aZ cZ c_ar 20 c_rated, aI cI c_ah 8 c_hold]) (wf := (fun (u : Int32 × (Nat → Int32)) => [oX7 z_a c_a s_a d_a t_a z_saved e_a p_a r_a q_a z_as, oX0 c_a c_points c_count c_as c_ad c_ar c_ah c_ed, aI cI c_as 20 c_sets, aD cD c_ad 20 c_scores, aZ cZ c_ar 20 c_rated, aI cI c_ah 8 c_hold, oX3 s_a u.1 s_ac, aI cI s_ac 12 u.2])) (As := [.int x3, .int r_6]) (rest := []) ⟨hx, hb, hml, hown, hts⟩ hK hP hD hS hA (c_X3_append l G cI cD cZ cJ cO s_a s_ac s_count s_codes x3 r_6 _ h) (cwV 2 hts gX7_addExamples_X3_append rfl rfl rfl (by decide +kernel) ⟨Nat.le_of_ble_eq_true rfl, Nat.le_of_ble_eq_true rfl⟩) 0 rfl rfl [6, 7] [0, 1, 2, 3, 4, 5] [0, 1, 2, 3, 4, 5, 6, 7] rfl rfl rfl (fun _ => rfl) rfl rfl hl.1 (Nat.le_of_ble_eq_true rfl) ⟨Nat.zero_le _, Nat.zero_le _⟩ dX7_addExamples_79 (fun u H locs h hP hD hS => ?_)
          obtain ⟨s_count_7, s_codes_8⟩ := u
          have hP : va_P G vwCl [oX7 z_a c_a s_a d_a t_a z_saved e_a p_a r_a q_a z_as, oX0 c_a c_points c_count c_as c_ad c_ar c_ah c_ed, aI cI c_as 20 c_sets, aD cD c_ad 20 c_scores, aZ cZ c_ar 20 c_rated, aI cI c_ah 8 c_hold, oX3 s_a s_count_7 s_ac, aI cI s_ac 12 s_codes_8] H := hP
          have hD : va_D A [oX7 z_a c_a s_a d_a t_a z_saved e_a p_a r_a q_a z_as, oX0 c_a c_points c_count c_as c_ad c_ar c_ah c_ed, aI cI c_as 20 c_sets, aD cD c_ad 20 c_scores, aZ cZ c_ar 20 c_rated, aI cI c_ah 8 c_hold, oX3 s_a s_count_7 s_ac, aI cI s_ac 12 s_codes_8] := hD
          refine lv_iinc (v := (x3 + (1 : Int32))) (lv' := [(3, .int (x3 + (1 : Int32))), (0, .ref z_a), (1, .int x1), (2, .int x2)]) hx hb dX7_addExamples_82 hl (k := 3) rfl rfl (by decide) rfl (fun ls hl => ?_)
          refine lv_goto (tgt := 46) hx hb dX7_addExamples_85 (by decide) ?_
          exact ih _ _ _ h _ _ _ ⟨hP, hD, hS, lv_sub hl [1, 2, 3, 0] rfl⟩
  refine lv_aload_n hx hb dX7_addExamples_0 rfl (lv_at hl 0 rfl) ?_
  refine va_get (D := G) (ci := 7) (v := .ref c_a) (C := RX7) (T := TX7) (N := 10) hx hb hts i_X7 hown hK.1 hP 0 rfl rfl 0 (by decide) f_12 (fun _ h9 => h9) rfl dX7_addExamples_1 ?_
  refine lv_iload_n hx hb dX7_addExamples_4 rfl (lv_at hl 1 rfl) ?_
  refine k_Vi (wr := [oX7 z_a c_a s_a d_a t_a z_saved e_a p_a r_a q_a z_as, oX3 s_a s_count s_ac, aI cI s_ac 12 s_codes]) (wf := (fun (u : Unit) => [oX7 z_a c_a s_a d_a t_a z_saved e_a p_a r_a q_a z_as, oX0 c_a c_points c_count c_as c_ad c_ar c_ah c_ed, aI cI c_as 20 c_sets, aD cD c_ad 20 c_scores, aZ cZ c_ar 20 c_rated, aI cI c_ah 8 c_hold, oX3 s_a s_count s_ac, aI cI s_ac 12 s_codes])) (As := [.int x1]) (rest := []) ⟨hx, hb, hml, hown, hts⟩ hK hP hD hS hA (c_X0_has l G cI cD cZ cJ cO c_a c_as c_ad c_ar c_ah c_points c_count c_ed c_sets c_scores c_rated c_hold x1 _ h) (cwV 1 hts gX7_addExamples_X0_has rfl rfl rfl (by decide +kernel) ⟨Nat.le_of_ble_eq_true rfl, Nat.le_of_ble_eq_true rfl⟩) 0 rfl rfl [1, 2, 3, 4, 5] [0, 6, 7] [0, 3, 4, 5, 6, 7, 1, 2] rfl rfl rfl (fun _ => rfl) rfl rfl hl.1 (Nat.le_of_ble_eq_true rfl) ⟨Nat.zero_le _, Nat.zero_le _⟩ dX7_addExamples_5 (fun r_1 u H locs h hP hD hS => ?_)
  have hP : va_P G vwCl [oX7 z_a c_a s_a d_a t_a z_saved e_a p_a r_a q_a z_as, oX0 c_a c_points c_count c_as c_ad c_ar c_ah c_ed, aI cI c_as 20 c_sets, aD cD c_ad 20 c_scores, aZ cZ c_ar 20 c_rated, aI cI c_ah 8 c_hold, oX3 s_a s_count s_ac, aI cI s_ac 12 s_codes] H := hP
  have hD : va_D A [oX7 z_a c_a s_a d_a t_a z_saved e_a p_a r_a q_a z_as, oX0 c_a c_points c_count c_as c_ad c_ar c_ah c_ed, aI cI c_as 20 c_sets, aD cD c_ad 20 c_scores, aZ cZ c_ar 20 c_rated, aI cI c_ah 8 c_hold, oX3 s_a s_count s_ac, aI cI s_ac 12 s_codes] := hD
  obtain ⟨ha, hf⟩ := h
  refine lv_if_ne (tgt := 14) hx hb dX7_addExamples_8 (by decide) (fun hc => ?_) (fun hc => ?_)
  · have h := ha hc
    clear ha hf
    refine lv_aload_n hx hb dX7_addExamples_14 rfl (lv_at hl 0 rfl) ?_
    refine va_get (D := G) (ci := 7) (v := .ref c_a) (C := RX7) (T := TX7) (N := 10) hx hb hts i_X7 hown hK.1 hP 0 rfl rfl 0 (by decide) f_12 (fun _ h9 => h9) rfl dX7_addExamples_15 ?_
    refine lv_iload_n hx hb dX7_addExamples_18 rfl (lv_at hl 2 rfl) ?_
    refine k_Vi (wr := [oX7 z_a c_a s_a d_a t_a z_saved e_a p_a r_a q_a z_as, oX3 s_a s_count s_ac, aI cI s_ac 12 s_codes]) (wf := (fun (u : Unit) => [oX7 z_a c_a s_a d_a t_a z_saved e_a p_a r_a q_a z_as, oX0 c_a c_points c_count c_as c_ad c_ar c_ah c_ed, aI cI c_as 20 c_sets, aD cD c_ad 20 c_scores, aZ cZ c_ar 20 c_rated, aI cI c_ah 8 c_hold, oX3 s_a s_count s_ac, aI cI s_ac 12 s_codes])) (As := [.int x2]) (rest := []) ⟨hx, hb, hml, hown, hts⟩ hK hP hD hS hA (c_X0_isSet l G cI cD cZ cJ cO c_a c_as c_ad c_ar c_ah c_points c_count c_ed c_sets c_scores c_rated c_hold x2 _ h) (cwV 1 hts gX7_addExamples_X0_isSet rfl rfl rfl (by decide +kernel) ⟨Nat.le_of_ble_eq_true rfl, Nat.le_of_ble_eq_true rfl⟩) 0 rfl rfl [1, 2, 3, 4, 5] [0, 6, 7] [0, 3, 4, 5, 6, 7, 1, 2] rfl rfl rfl (fun _ => rfl) rfl rfl hl.1 (Nat.le_of_ble_eq_true rfl) ⟨Nat.zero_le _, Nat.zero_le _⟩ dX7_addExamples_19 (fun r_2 u H locs h hP hD hS => ?_)
    have hP : va_P G vwCl [oX7 z_a c_a s_a d_a t_a z_saved e_a p_a r_a q_a z_as, oX0 c_a c_points c_count c_as c_ad c_ar c_ah c_ed, aI cI c_as 20 c_sets, aD cD c_ad 20 c_scores, aZ cZ c_ar 20 c_rated, aI cI c_ah 8 c_hold, oX3 s_a s_count s_ac, aI cI s_ac 12 s_codes] H := hP
    have hD : va_D A [oX7 z_a c_a s_a d_a t_a z_saved e_a p_a r_a q_a z_as, oX0 c_a c_points c_count c_as c_ad c_ar c_ah c_ed, aI cI c_as 20 c_sets, aD cD c_ad 20 c_scores, aZ cZ c_ar 20 c_rated, aI cI c_ah 8 c_hold, oX3 s_a s_count s_ac, aI cI s_ac 12 s_codes] := hD
    obtain ⟨ha, hf⟩ := h
    refine lv_if_ne (tgt := 27) hx hb dX7_addExamples_22 (by decide) (fun hc => ?_) (fun hc => ?_)
    · have h := ha hc
      clear ha hf
      refine lv_aload_n hx hb dX7_addExamples_27 rfl (lv_at hl 0 rfl) ?_
      refine va_get (D := G) (ci := 7) (v := .ref s_a) (C := RX7) (T := TX7) (N := 10) hx hb hts i_X7 hown hK.1 hP 0 rfl rfl 1 (by decide) f_21 (fun _ h9 => h9) rfl dX7_addExamples_28 ?_
      refine lv_iload_n hx hb dX7_addExamples_31 rfl (lv_at hl 2 rfl) ?_
      refine k_Si (wr := [oX7 z_a c_a s_a d_a t_a z_saved e_a p_a r_a q_a z_as, oX0 c_a c_points c_count c_as c_ad c_ar c_ah c_ed, aI cI c_as 20 c_sets, aD cD c_ad 20 c_scores, aZ cZ c_ar 20 c_rated, aI cI c_ah 8 c_hold, oX3 s_a s_count s_ac, aI cI s_ac 12 s_codes]) (wf := (fun (u : Unit) => [oX7 z_a c_a s_a d_a t_a z_saved e_a p_a r_a q_a z_as, oX0 c_a c_points c_count c_as c_ad c_ar c_ah c_ed, aI cI c_as 20 c_sets, aD cD c_ad 20 c_scores, aZ cZ c_ar 20 c_rated, aI cI c_ah 8 c_hold, oX3 s_a s_count s_ac, aI cI s_ac 12 s_codes])) (As := [.int x2]) (rest := [.ref s_a]) ⟨hx, hb, hml, hown, hts⟩ hK hP hD hS hA (c_J6_bitCount_0f7a4 l G cI cD cZ cJ cO x2 _ h) (va_cwS 1 hts gX7_addExamples_J6_bitCount_0f7a4 rfl rfl rfl (by decide +kernel) ⟨Nat.le_of_ble_eq_true rfl, Nat.le_of_ble_eq_true rfl⟩) [] [0, 1, 2, 3, 4, 5, 6, 7] [0, 1, 2, 3, 4, 5, 6, 7] rfl rfl rfl (fun _ => rfl) rfl rfl hl.1 (Nat.le_of_ble_eq_true rfl) ⟨Nat.zero_le _, Nat.zero_le _⟩ dX7_addExamples_32 (fun r_3 u H locs h hP hD hS => ?_)
      have hP : va_P G vwCl [oX7 z_a c_a s_a d_a t_a z_saved e_a p_a r_a q_a z_as, oX0 c_a c_points c_count c_as c_ad c_ar c_ah c_ed, aI cI c_as 20 c_sets, aD cD c_ad 20 c_scores, aZ cZ c_ar 20 c_rated, aI cI c_ah 8 c_hold, oX3 s_a s_count s_ac, aI cI s_ac 12 s_codes] H := hP
      have hD : va_D A [oX7 z_a c_a s_a d_a t_a z_saved e_a p_a r_a q_a z_as, oX0 c_a c_points c_count c_as c_ad c_ar c_ah c_ed, aI cI c_as 20 c_sets, aD cD c_ad 20 c_scores, aZ cZ c_ar 20 c_rated, aI cI c_ah 8 c_hold, oX3 s_a s_count s_ac, aI cI s_ac 12 s_codes] := hD
      refine k_Vi (wr := [oX7 z_a c_a s_a d_a t_a z_saved e_a p_a r_a q_a z_as, oX0 c_a c_points c_count c_as c_ad c_ar c_ah c_ed, aI cI c_as 20 c_sets, aD cD c_ad 20 c_scores, aZ cZ c_ar 20 c_rated, aI cI c_ah 8 c_hold]) (wf := (fun (u : Unit) => [oX7 z_a c_a s_a d_a t_a z_saved e_a p_a r_a q_a z_as, oX0 c_a c_points c_count c_as c_ad c_ar c_ah c_ed, aI cI c_as 20 c_sets, aD cD c_ad 20 c_scores, aZ cZ c_ar 20 c_rated, aI cI c_ah 8 c_hold, oX3 s_a s_count s_ac, aI cI s_ac 12 s_codes])) (As := [.int r_3]) (rest := []) ⟨hx, hb, hml, hown, hts⟩ hK hP hD hS hA (c_X3_hasRoomFor l G cI cD cZ cJ cO s_a s_ac s_count s_codes r_3 _ h) (cwV 1 hts gX7_addExamples_X3_hasRoomFor rfl rfl rfl (by decide +kernel) ⟨Nat.le_of_ble_eq_true rfl, Nat.le_of_ble_eq_true rfl⟩) 0 rfl rfl [6, 7] [0, 1, 2, 3, 4, 5] [0, 1, 2, 3, 4, 5, 6, 7] rfl rfl rfl (fun _ => rfl) rfl rfl hl.1 (Nat.le_of_ble_eq_true rfl) ⟨Nat.zero_le _, Nat.zero_le _⟩ dX7_addExamples_35 (fun r_4 u H locs h hP hD hS => ?_)
      have hP : va_P G vwCl [oX7 z_a c_a s_a d_a t_a z_saved e_a p_a r_a q_a z_as, oX0 c_a c_points c_count c_as c_ad c_ar c_ah c_ed, aI cI c_as 20 c_sets, aD cD c_ad 20 c_scores, aZ cZ c_ar 20 c_rated, aI cI c_ah 8 c_hold, oX3 s_a s_count s_ac, aI cI s_ac 12 s_codes] H := hP
      have hD : va_D A [oX7 z_a c_a s_a d_a t_a z_saved e_a p_a r_a q_a z_as, oX0 c_a c_points c_count c_as c_ad c_ar c_ah c_ed, aI cI c_as 20 c_sets, aD cD c_ad 20 c_scores, aZ cZ c_ar 20 c_rated, aI cI c_ah 8 c_hold, oX3 s_a s_count s_ac, aI cI s_ac 12 s_codes] := hD
      obtain ⟨ha, hf⟩ := h
      refine lv_if_ne (tgt := 44) hx hb dX7_addExamples_38 (by decide) (fun hc => ?_) (fun hc => ?_)
      · have h := ha hc
        clear ha hf
        refine lv_iconst (v := (0 : Int32)) hx hb dX7_addExamples_44 (by decide) ?_
        refine lv_istore_n (lv' := [(3, .int (0 : Int32)), (0, .ref z_a), (1, .int x1), (2, .int x2)]) hx hb dX7_addExamples_45 rfl hl (by decide) rfl (fun ls hl => ?_)
        obtain ⟨j, h⟩ := h
        exact b_46  j _ _ _ h _ _ _ ⟨hP, hD, hS, lv_sub hl [1, 2, 3, 0] rfl⟩
      · have h := hf hc
        clear ha hf
        refine lv_bipush (v := (-4 : Int32)) hx hb dX7_addExamples_41 (by decide) ?_
        exact hret _ (s_count, s_codes) _ _ _ _ rfl h hP hD hS dX7_addExamples_43
    · have h := hf hc
      clear ha hf
      refine lv_iconst (v := (-1 : Int32)) hx hb dX7_addExamples_25 (by decide) ?_
      exact hret _ (s_count, s_codes) _ _ _ _ rfl h hP hD hS dX7_addExamples_26
  · have h := hf hc
    clear ha hf
    refine lv_bipush (v := (-2 : Int32)) hx hb dX7_addExamples_11 (by decide) ?_
    exact hret _ (s_count, s_codes) _ _ _ _ rfl h hP hD hS dX7_addExamples_13
abbrev rm_X7_versions : Room := { frames := 2, cells := 0, slots := 0, locals := 42 }
def wp_X7_versions_b10 (c_count : Int32) (c_hold : Nat → Int32) (s_count : Int32) (s_codes : Nat → Int32) (Q : Int32 → Prop)  : Nat → Int32 → Int32 → Prop
  | 0, _, _ => False
  | n + 1, x1, x2 => ((s_count ≤ x2) → Q x1) ∧ ((¬ s_count ≤ x2) → wp_X3_pointAt x2 s_codes (fun (r_2 : Int32) => wp_X3_labelAt x2 s_codes (fun (r_3 : Int32) => wp_X0_labelling r_2 r_3 c_count c_hold (fun (r_4 : Int32) => wp_X7_versions_b10 c_count c_hold s_count s_codes Q n (x1 &&& r_4) (x2 + (1 : Int32))))))
def wp_X7_versions (c_count : Int32) (c_hold : Nat → Int32) (s_count : Int32) (s_codes : Nat → Int32) (Q : Int32 → Prop) : Prop := wp_X0_allNumbers c_count (fun (r_1 : Int32) => ∃ j10, wp_X7_versions_b10 c_count c_hold s_count s_codes Q j10 r_1 (0 : Int32))
set_option maxRecDepth 100000 in
set_option maxHeartbeats 4000000 in
theorem c_X7_versions (l : Launch) (G : va_G) (cI cD cZ cJ cO : ClassId) (z_a c_a c_as c_ad c_ar c_ah s_a s_ac d_a t_a e_a p_a r_a q_a z_as : Nat) (z_saved : Int32) (c_points : Int32) (c_count : Int32) (c_ed : Int32) (c_sets : Nat → Int32) (c_scores : Nat → UInt64) (c_rated : Nat → Int32) (c_hold : Nat → Int32) (s_count : Int32) (s_codes : Nat → Int32) (Q : Int32 → Prop) (h : wp_X7_versions c_count c_hold s_count s_codes Q) : CtI l yX7_versions wsX7_versions rm_X7_versions G (TY cI cD cZ cJ cO) [.ref z_a] [oX7 z_a c_a s_a d_a t_a z_saved e_a p_a r_a q_a z_as, oX0 c_a c_points c_count c_as c_ad c_ar c_ah c_ed, aI cI c_as 20 c_sets, aD cD c_ad 20 c_scores, aZ cZ c_ar 20 c_rated, aI cI c_ah 8 c_hold, oX3 s_a s_count s_ac, aI cI s_ac 12 s_codes] (fun (r : Int32) (u : Unit) => Q r) (fun (u : Unit) => [oX7 z_a c_a s_a d_a t_a z_saved e_a p_a r_a q_a z_as, oX0 c_a c_points c_count c_as c_ad c_ar c_ah c_ed, aI cI c_as 20 c_sets, aD cD c_ad 20 c_scores, aZ cZ c_ar 20 c_rated, aI cI c_ah 8 c_hold, oX3 s_a s_count s_ac, aI cI s_ac 12 s_codes]) := by
  refine ct_openI (cc := cX7_versions) (maxL := 3) (ty := .int) (by decide) rfl (Nat.le_of_ble_eq_true rfl) ?_
  intro p e s m args below meth c A Z ls hx hb hml hown hts hK hA hret hP hD hS hl
  have hown : s.vm.findClass RX7 = some m.cls := hown
  have hl : lv_has ls 3 [(0, .ref z_a)] := hl
  have f_12 := hts (.fieldLink RX7 12 "TeachingSets" "concepts" "LTeachingSets$Concepts;") (List.mem_of_getElem? (i := 1) rfl)
  have f_21 := hts (.fieldLink RX7 21 "TeachingSets" "sample" "LTeachingSets$Sample;") (List.mem_of_getElem? (i := 2) rfl)
  have f_200 := hts (.fieldLink RX7 200 "TeachingSets$Sample" "count" "I") (List.mem_of_getElem? (i := 3) rfl)
  have i_X7 : ∀ w ∈ wsX70, w ∈ wsX7_versions := fun _ h => List.mem_cons_of_mem _ (List.mem_append_left _ (List.mem_append_left _ (List.mem_append_right _ (h))))
  have i_X3 : ∀ w ∈ wsX30, w ∈ wsX7_versions := fun _ h => List.mem_cons_of_mem _ (List.mem_append_left _ (List.mem_append_right _ (h)))
  have b_10 : ∀ (n : Nat) (x1 : Int32) (x2 : Int32), wp_X7_versions_b10 c_count c_hold s_count s_codes Q n x1 x2 → ∀ (H : Heap) (locs : List Loc) (ls : Array Slot), ST G A s.heap [oX7 z_a c_a s_a d_a t_a z_saved e_a p_a r_a q_a z_as, oX0 c_a c_points c_count c_as c_ad c_ar c_ah c_ed, aI cI c_as 20 c_sets, aD cD c_ad 20 c_scores, aZ cZ c_ar 20 c_rated, aI cI c_ah 8 c_hold, oX3 s_a s_count s_ac, aI cI s_ac 12 s_codes] 3 [(0, .ref z_a), (1, .int x1), (2, .int x2)] H locs ls → W p l e rm_X7_versions s m args below meth c H locs 0 0 Z (F0 m 10 ls []) := by
    intro n
    induction n with
    | zero =>
      intro x1 x2 h; exact False.elim h
    | succ n ih =>
      intro x1 x2 h H locs ls hst
      obtain ⟨hP, hD, hS, hl⟩ := hst
      refine lv_iload_n hx hb dX7_versions_10 rfl (lv_at hl 2 rfl) ?_
      refine lv_aload_n hx hb dX7_versions_11 rfl (lv_at hl 0 rfl) ?_
      refine va_get (D := G) (ci := 7) (v := .ref s_a) (C := RX7) (T := TX7) (N := 10) hx hb hts i_X7 hown hK.1 hP 0 rfl rfl 1 (by decide) f_21 (fun _ h9 => h9) rfl dX7_versions_12 ?_
      refine va_get (D := G) (ci := 3) (v := .int s_count) (C := RX3) (T := TX3) (N := 2) hx hb hts i_X3 hown hK.1 hP 6 rfl rfl 0 (by decide) f_200 (fun _ h9 => h9) rfl dX7_versions_15 ?_
      obtain ⟨ha, hf⟩ := h
      refine lv_icmp_ge (tgt := 53) hx hb dX7_versions_18 (by decide) (fun hc => ?_) (fun hc => ?_)
      · have h := ha hc
        clear ha hf
        refine lv_iload_n hx hb dX7_versions_53 rfl (lv_at hl 1 rfl) ?_
        exact hret _ () _ _ _ _ rfl h hP hD hS dX7_versions_54
      · have h := hf hc
        clear ha hf
        refine lv_iload_n hx hb dX7_versions_21 rfl (lv_at hl 1 rfl) ?_
        refine lv_aload_n hx hb dX7_versions_22 rfl (lv_at hl 0 rfl) ?_
        refine va_get (D := G) (ci := 7) (v := .ref c_a) (C := RX7) (T := TX7) (N := 10) hx hb hts i_X7 hown hK.1 hP 0 rfl rfl 0 (by decide) f_12 (fun _ h9 => h9) rfl dX7_versions_23 ?_
        refine lv_aload_n hx hb dX7_versions_26 rfl (lv_at hl 0 rfl) ?_
        refine va_get (D := G) (ci := 7) (v := .ref s_a) (C := RX7) (T := TX7) (N := 10) hx hb hts i_X7 hown hK.1 hP 0 rfl rfl 1 (by decide) f_21 (fun _ h9 => h9) rfl dX7_versions_27 ?_
        refine lv_iload_n hx hb dX7_versions_30 rfl (lv_at hl 2 rfl) ?_
        refine k_Vi (wr := [oX7 z_a c_a s_a d_a t_a z_saved e_a p_a r_a q_a z_as, oX0 c_a c_points c_count c_as c_ad c_ar c_ah c_ed, aI cI c_as 20 c_sets, aD cD c_ad 20 c_scores, aZ cZ c_ar 20 c_rated, aI cI c_ah 8 c_hold]) (wf := (fun (u : Unit) => [oX7 z_a c_a s_a d_a t_a z_saved e_a p_a r_a q_a z_as, oX0 c_a c_points c_count c_as c_ad c_ar c_ah c_ed, aI cI c_as 20 c_sets, aD cD c_ad 20 c_scores, aZ cZ c_ar 20 c_rated, aI cI c_ah 8 c_hold, oX3 s_a s_count s_ac, aI cI s_ac 12 s_codes])) (As := [.int x2]) (rest := [.ref c_a, .int x1]) ⟨hx, hb, hml, hown, hts⟩ hK hP hD hS hA (c_X3_pointAt l G cI cD cZ cJ cO s_a s_ac s_count s_codes x2 _ h) (cwV 1 hts gX7_versions_X3_pointAt rfl rfl rfl (by decide +kernel) ⟨Nat.le_of_ble_eq_true rfl, Nat.le_of_ble_eq_true rfl⟩) 0 rfl rfl [6, 7] [0, 1, 2, 3, 4, 5] [0, 1, 2, 3, 4, 5, 6, 7] rfl rfl rfl (fun _ => rfl) rfl rfl hl.1 (Nat.le_of_ble_eq_true rfl) ⟨Nat.zero_le _, Nat.zero_le _⟩ dX7_versions_31 (fun r_2 u H locs h hP hD hS => ?_)
        have hP : va_P G vwCl [oX7 z_a c_a s_a d_a t_a z_saved e_a p_a r_a q_a z_as, oX0 c_a c_points c_count c_as c_ad c_ar c_ah c_ed, aI cI c_as 20 c_sets, aD cD c_ad 20 c_scores, aZ cZ c_ar 20 c_rated, aI cI c_ah 8 c_hold, oX3 s_a s_count s_ac, aI cI s_ac 12 s_codes] H := hP
        have hD : va_D A [oX7 z_a c_a s_a d_a t_a z_saved e_a p_a r_a q_a z_as, oX0 c_a c_points c_count c_as c_ad c_ar c_ah c_ed, aI cI c_as 20 c_sets, aD cD c_ad 20 c_scores, aZ cZ c_ar 20 c_rated, aI cI c_ah 8 c_hold, oX3 s_a s_count s_ac, aI cI s_ac 12 s_codes] := hD
        refine lv_aload_n hx hb dX7_versions_34 rfl (lv_at hl 0 rfl) ?_
        refine va_get (D := G) (ci := 7) (v := .ref s_a) (C := RX7) (T := TX7) (N := 10) hx hb hts i_X7 hown hK.1 hP 0 rfl rfl 1 (by decide) f_21 (fun _ h9 => h9) rfl dX7_versions_35 ?_
        refine lv_iload_n hx hb dX7_versions_38 rfl (lv_at hl 2 rfl) ?_
        refine k_Vi (wr := [oX7 z_a c_a s_a d_a t_a z_saved e_a p_a r_a q_a z_as, oX0 c_a c_points c_count c_as c_ad c_ar c_ah c_ed, aI cI c_as 20 c_sets, aD cD c_ad 20 c_scores, aZ cZ c_ar 20 c_rated, aI cI c_ah 8 c_hold]) (wf := (fun (u : Unit) => [oX7 z_a c_a s_a d_a t_a z_saved e_a p_a r_a q_a z_as, oX0 c_a c_points c_count c_as c_ad c_ar c_ah c_ed, aI cI c_as 20 c_sets, aD cD c_ad 20 c_scores, aZ cZ c_ar 20 c_rated, aI cI c_ah 8 c_hold, oX3 s_a s_count s_ac, aI cI s_ac 12 s_codes])) (As := [.int x2]) (rest := [.int r_2, .ref c_a, .int x1]) ⟨hx, hb, hml, hown, hts⟩ hK hP hD hS hA (c_X3_labelAt l G cI cD cZ cJ cO s_a s_ac s_count s_codes x2 _ h) (cwV 1 hts gX7_versions_X3_labelAt rfl rfl rfl (by decide +kernel) ⟨Nat.le_of_ble_eq_true rfl, Nat.le_of_ble_eq_true rfl⟩) 0 rfl rfl [6, 7] [0, 1, 2, 3, 4, 5] [0, 1, 2, 3, 4, 5, 6, 7] rfl rfl rfl (fun _ => rfl) rfl rfl hl.1 (Nat.le_of_ble_eq_true rfl) ⟨Nat.zero_le _, Nat.zero_le _⟩ dX7_versions_39 (fun r_3 u H locs h hP hD hS => ?_)
        have hP : va_P G vwCl [oX7 z_a c_a s_a d_a t_a z_saved e_a p_a r_a q_a z_as, oX0 c_a c_points c_count c_as c_ad c_ar c_ah c_ed, aI cI c_as 20 c_sets, aD cD c_ad 20 c_scores, aZ cZ c_ar 20 c_rated, aI cI c_ah 8 c_hold, oX3 s_a s_count s_ac, aI cI s_ac 12 s_codes] H := hP
        have hD : va_D A [oX7 z_a c_a s_a d_a t_a z_saved e_a p_a r_a q_a z_as, oX0 c_a c_points c_count c_as c_ad c_ar c_ah c_ed, aI cI c_as 20 c_sets, aD cD c_ad 20 c_scores, aZ cZ c_ar 20 c_rated, aI cI c_ah 8 c_hold, oX3 s_a s_count s_ac, aI cI s_ac 12 s_codes] := hD
        refine k_Vi (wr := [oX7 z_a c_a s_a d_a t_a z_saved e_a p_a r_a q_a z_as, oX3 s_a s_count s_ac, aI cI s_ac 12 s_codes]) (wf := (fun (u : Unit) => [oX7 z_a c_a s_a d_a t_a z_saved e_a p_a r_a q_a z_as, oX0 c_a c_points c_count c_as c_ad c_ar c_ah c_ed, aI cI c_as 20 c_sets, aD cD c_ad 20 c_scores, aZ cZ c_ar 20 c_rated, aI cI c_ah 8 c_hold, oX3 s_a s_count s_ac, aI cI s_ac 12 s_codes])) (As := [.int r_2, .int r_3]) (rest := [.int x1]) ⟨hx, hb, hml, hown, hts⟩ hK hP hD hS hA (c_X0_labelling l G cI cD cZ cJ cO c_a c_as c_ad c_ar c_ah c_points c_count c_ed c_sets c_scores c_rated c_hold r_2 r_3 _ h) (cwV 2 hts gX7_versions_X0_labelling rfl rfl rfl (by decide +kernel) ⟨Nat.le_of_ble_eq_true rfl, Nat.le_of_ble_eq_true rfl⟩) 0 rfl rfl [1, 2, 3, 4, 5] [0, 6, 7] [0, 3, 4, 5, 6, 7, 1, 2] rfl rfl rfl (fun _ => rfl) rfl rfl hl.1 (Nat.le_of_ble_eq_true rfl) ⟨Nat.zero_le _, Nat.zero_le _⟩ dX7_versions_42 (fun r_4 u H locs h hP hD hS => ?_)
        have hP : va_P G vwCl [oX7 z_a c_a s_a d_a t_a z_saved e_a p_a r_a q_a z_as, oX0 c_a c_points c_count c_as c_ad c_ar c_ah c_ed, aI cI c_as 20 c_sets, aD cD c_ad 20 c_scores, aZ cZ c_ar 20 c_rated, aI cI c_ah 8 c_hold, oX3 s_a s_count s_ac, aI cI s_ac 12 s_codes] H := hP
        have hD : va_D A [oX7 z_a c_a s_a d_a t_a z_saved e_a p_a r_a q_a z_as, oX0 c_a c_points c_count c_as c_ad c_ar c_ah c_ed, aI cI c_as 20 c_sets, aD cD c_ad 20 c_scores, aZ cZ c_ar 20 c_rated, aI cI c_ah 8 c_hold, oX3 s_a s_count s_ac, aI cI s_ac 12 s_codes] := hD
        refine lv_iand hx hb dX7_versions_45 ?_
        refine lv_istore_n (lv' := [(1, .int (x1 &&& r_4)), (0, .ref z_a), (2, .int x2)]) hx hb dX7_versions_46 rfl hl (by decide) rfl (fun ls hl => ?_)
        refine lv_iinc (v := (x2 + (1 : Int32))) (lv' := [(2, .int (x2 + (1 : Int32))), (1, .int (x1 &&& r_4)), (0, .ref z_a)]) hx hb dX7_versions_47 hl (k := 2) rfl rfl (by decide) rfl (fun ls hl => ?_)
        refine lv_goto (tgt := 10) hx hb dX7_versions_50 (by decide) ?_
        exact ih _ _ h _ _ _ ⟨hP, hD, hS, lv_sub hl [2, 1, 0] rfl⟩
  refine lv_aload_n hx hb dX7_versions_0 rfl (lv_at hl 0 rfl) ?_
  refine va_get (D := G) (ci := 7) (v := .ref c_a) (C := RX7) (T := TX7) (N := 10) hx hb hts i_X7 hown hK.1 hP 0 rfl rfl 0 (by decide) f_12 (fun _ h9 => h9) rfl dX7_versions_1 ?_
  refine k_Vi (wr := [oX7 z_a c_a s_a d_a t_a z_saved e_a p_a r_a q_a z_as, oX3 s_a s_count s_ac, aI cI s_ac 12 s_codes]) (wf := (fun (u : Unit) => [oX7 z_a c_a s_a d_a t_a z_saved e_a p_a r_a q_a z_as, oX0 c_a c_points c_count c_as c_ad c_ar c_ah c_ed, aI cI c_as 20 c_sets, aD cD c_ad 20 c_scores, aZ cZ c_ar 20 c_rated, aI cI c_ah 8 c_hold, oX3 s_a s_count s_ac, aI cI s_ac 12 s_codes])) (As := []) (rest := []) ⟨hx, hb, hml, hown, hts⟩ hK hP hD hS hA (c_X0_allNumbers l G cI cD cZ cJ cO c_a c_as c_ad c_ar c_ah c_points c_count c_ed c_sets c_scores c_rated c_hold _ h) (cwV 0 hts gX7_versions_X0_allNumbers rfl rfl rfl (by decide +kernel) ⟨Nat.le_of_ble_eq_true rfl, Nat.le_of_ble_eq_true rfl⟩) 0 rfl rfl [1, 2, 3, 4, 5] [0, 6, 7] [0, 3, 4, 5, 6, 7, 1, 2] rfl rfl rfl (fun _ => rfl) rfl rfl hl.1 (Nat.le_of_ble_eq_true rfl) ⟨Nat.zero_le _, Nat.zero_le _⟩ dX7_versions_4 (fun r_1 u H locs h hP hD hS => ?_)
  have hP : va_P G vwCl [oX7 z_a c_a s_a d_a t_a z_saved e_a p_a r_a q_a z_as, oX0 c_a c_points c_count c_as c_ad c_ar c_ah c_ed, aI cI c_as 20 c_sets, aD cD c_ad 20 c_scores, aZ cZ c_ar 20 c_rated, aI cI c_ah 8 c_hold, oX3 s_a s_count s_ac, aI cI s_ac 12 s_codes] H := hP
  have hD : va_D A [oX7 z_a c_a s_a d_a t_a z_saved e_a p_a r_a q_a z_as, oX0 c_a c_points c_count c_as c_ad c_ar c_ah c_ed, aI cI c_as 20 c_sets, aD cD c_ad 20 c_scores, aZ cZ c_ar 20 c_rated, aI cI c_ah 8 c_hold, oX3 s_a s_count s_ac, aI cI s_ac 12 s_codes] := hD
  refine lv_istore_n (lv' := [(1, .int r_1), (0, .ref z_a)]) hx hb dX7_versions_7 rfl hl (by decide) rfl (fun ls hl => ?_)
  refine lv_iconst (v := (0 : Int32)) hx hb dX7_versions_8 (by decide) ?_
  refine lv_istore_n (lv' := [(2, .int (0 : Int32)), (1, .int r_1), (0, .ref z_a)]) hx hb dX7_versions_9 rfl hl (by decide) rfl (fun ls hl => ?_)
  obtain ⟨j, h⟩ := h
  exact b_10  j _ _ h _ _ _ ⟨hP, hD, hS, lv_sub hl [2, 1, 0] rfl⟩
abbrev rm_X7_versionCount : Room := { frames := 3, cells := 0, slots := 0, locals := 64 }
def wp_X7_versionCount (c_count : Int32) (c_hold : Nat → Int32) (s_count : Int32) (s_codes : Nat → Int32) (Q : Int32 → Prop) : Prop := wp_X7_versions c_count c_hold s_count s_codes (fun (r_1 : Int32) => wp_J6_bitCount_0f7a4 r_1 (fun (r_2 : Int32) => Q r_2))
set_option maxRecDepth 100000 in
set_option maxHeartbeats 4000000 in
theorem c_X7_versionCount (l : Launch) (G : va_G) (cI cD cZ cJ cO : ClassId) (z_a c_a c_as c_ad c_ar c_ah s_a s_ac d_a t_a e_a p_a r_a q_a z_as : Nat) (z_saved : Int32) (c_points : Int32) (c_count : Int32) (c_ed : Int32) (c_sets : Nat → Int32) (c_scores : Nat → UInt64) (c_rated : Nat → Int32) (c_hold : Nat → Int32) (s_count : Int32) (s_codes : Nat → Int32) (Q : Int32 → Prop) (h : wp_X7_versionCount c_count c_hold s_count s_codes Q) : CtI l yX7_versionCount wsX7_versionCount rm_X7_versionCount G (TY cI cD cZ cJ cO) [.ref z_a] [oX7 z_a c_a s_a d_a t_a z_saved e_a p_a r_a q_a z_as, oX0 c_a c_points c_count c_as c_ad c_ar c_ah c_ed, aI cI c_as 20 c_sets, aD cD c_ad 20 c_scores, aZ cZ c_ar 20 c_rated, aI cI c_ah 8 c_hold, oX3 s_a s_count s_ac, aI cI s_ac 12 s_codes] (fun (r : Int32) (u : Unit) => Q r) (fun (u : Unit) => [oX7 z_a c_a s_a d_a t_a z_saved e_a p_a r_a q_a z_as, oX0 c_a c_points c_count c_as c_ad c_ar c_ah c_ed, aI cI c_as 20 c_sets, aD cD c_ad 20 c_scores, aZ cZ c_ar 20 c_rated, aI cI c_ah 8 c_hold, oX3 s_a s_count s_ac, aI cI s_ac 12 s_codes]) := by
  refine ct_openI (cc := cX7_versionCount) (maxL := 1) (ty := .int) (by decide) rfl (Nat.le_of_ble_eq_true rfl) ?_
  intro p e s m args below meth c A Z ls hx hb hml hown hts hK hA hret hP hD hS hl
  have hown : s.vm.findClass RX7 = some m.cls := hown
  have hl : lv_has ls 1 [(0, .ref z_a)] := hl
  refine lv_aload_n hx hb dX7_versionCount_0 rfl (lv_at hl 0 rfl) ?_
  refine k_Vi (wr := []) (wf := (fun (u : Unit) => [oX7 z_a c_a s_a d_a t_a z_saved e_a p_a r_a q_a z_as, oX0 c_a c_points c_count c_as c_ad c_ar c_ah c_ed, aI cI c_as 20 c_sets, aD cD c_ad 20 c_scores, aZ cZ c_ar 20 c_rated, aI cI c_ah 8 c_hold, oX3 s_a s_count s_ac, aI cI s_ac 12 s_codes])) (As := []) (rest := []) ⟨hx, hb, hml, hown, hts⟩ hK hP hD hS hA (c_X7_versions l G cI cD cZ cJ cO z_a c_a c_as c_ad c_ar c_ah s_a s_ac d_a t_a e_a p_a r_a q_a z_as z_saved c_points c_count c_ed c_sets c_scores c_rated c_hold s_count s_codes _ h) (cwV 0 hts gX7_versionCount_X7_versions rfl rfl rfl (by decide +kernel) ⟨Nat.le_of_ble_eq_true rfl, Nat.le_of_ble_eq_true rfl⟩) 0 rfl rfl [0, 1, 2, 3, 4, 5, 6, 7] [] [0, 1, 2, 3, 4, 5, 6, 7] rfl rfl rfl (fun _ => rfl) rfl rfl hl.1 (Nat.le_of_ble_eq_true rfl) ⟨Nat.zero_le _, Nat.zero_le _⟩ dX7_versionCount_1 (fun r_1 u H locs h hP hD hS => ?_)
  have hP : va_P G vwCl [oX7 z_a c_a s_a d_a t_a z_saved e_a p_a r_a q_a z_as, oX0 c_a c_points c_count c_as c_ad c_ar c_ah c_ed, aI cI c_as 20 c_sets, aD cD c_ad 20 c_scores, aZ cZ c_ar 20 c_rated, aI cI c_ah 8 c_hold, oX3 s_a s_count s_ac, aI cI s_ac 12 s_codes] H := hP
  have hD : va_D A [oX7 z_a c_a s_a d_a t_a z_saved e_a p_a r_a q_a z_as, oX0 c_a c_points c_count c_as c_ad c_ar c_ah c_ed, aI cI c_as 20 c_sets, aD cD c_ad 20 c_scores, aZ cZ c_ar 20 c_rated, aI cI c_ah 8 c_hold, oX3 s_a s_count s_ac, aI cI s_ac 12 s_codes] := hD
  refine k_Si (wr := [oX7 z_a c_a s_a d_a t_a z_saved e_a p_a r_a q_a z_as, oX0 c_a c_points c_count c_as c_ad c_ar c_ah c_ed, aI cI c_as 20 c_sets, aD cD c_ad 20 c_scores, aZ cZ c_ar 20 c_rated, aI cI c_ah 8 c_hold, oX3 s_a s_count s_ac, aI cI s_ac 12 s_codes]) (wf := (fun (u : Unit) => [oX7 z_a c_a s_a d_a t_a z_saved e_a p_a r_a q_a z_as, oX0 c_a c_points c_count c_as c_ad c_ar c_ah c_ed, aI cI c_as 20 c_sets, aD cD c_ad 20 c_scores, aZ cZ c_ar 20 c_rated, aI cI c_ah 8 c_hold, oX3 s_a s_count s_ac, aI cI s_ac 12 s_codes])) (As := [.int r_1]) (rest := []) ⟨hx, hb, hml, hown, hts⟩ hK hP hD hS hA (c_J6_bitCount_0f7a4 l G cI cD cZ cJ cO r_1 _ h) (va_cwS 1 hts gX7_versionCount_J6_bitCount_0f7a4 rfl rfl rfl (by decide +kernel) ⟨Nat.le_of_ble_eq_true rfl, Nat.le_of_ble_eq_true rfl⟩) [] [0, 1, 2, 3, 4, 5, 6, 7] [0, 1, 2, 3, 4, 5, 6, 7] rfl rfl rfl (fun _ => rfl) rfl rfl hl.1 (Nat.le_of_ble_eq_true rfl) ⟨Nat.zero_le _, Nat.zero_le _⟩ dX7_versionCount_4 (fun r_2 u H locs h hP hD hS => ?_)
  have hP : va_P G vwCl [oX7 z_a c_a s_a d_a t_a z_saved e_a p_a r_a q_a z_as, oX0 c_a c_points c_count c_as c_ad c_ar c_ah c_ed, aI cI c_as 20 c_sets, aD cD c_ad 20 c_scores, aZ cZ c_ar 20 c_rated, aI cI c_ah 8 c_hold, oX3 s_a s_count s_ac, aI cI s_ac 12 s_codes] H := hP
  have hD : va_D A [oX7 z_a c_a s_a d_a t_a z_saved e_a p_a r_a q_a z_as, oX0 c_a c_points c_count c_as c_ad c_ar c_ah c_ed, aI cI c_as 20 c_sets, aD cD c_ad 20 c_scores, aZ cZ c_ar 20 c_rated, aI cI c_ah 8 c_hold, oX3 s_a s_count s_ac, aI cI s_ac 12 s_codes] := hD
  exact hret _ () _ _ _ _ rfl h hP hD hS dX7_versionCount_7
abbrev rm_X7_version : Room := { frames := 3, cells := 0, slots := 0, locals := 64 }
def wp_X7_version_b10 (x1 : Int32) (c_count : Int32) (c_hold : Nat → Int32) (s_count : Int32) (s_codes : Nat → Int32) (Q : Int32 → Prop)  : Nat → Int32 → Int32 → Int32 → Prop
  | 0, _, _, _ => False
  | n + 1, x2, x3, x4 => ((c_count ≤ x4) → Q (-6 : Int32)) ∧ ((¬ c_count ≤ x4) → wp_X7_hasBit x2 x4 (fun (r_2 : Int32) => ((r_2 = 0) → wp_X7_version_b10 x1 c_count c_hold s_count s_codes Q n x2 x3 (x4 + (1 : Int32))) ∧ ((¬ r_2 = 0) → ((¬ x3 = x1) → wp_X7_version_b10 x1 c_count c_hold s_count s_codes Q n x2 (x3 + (1 : Int32)) (x4 + (1 : Int32))) ∧ ((x3 = x1) → Q x4))))
def wp_X7_version (x1 : Int32) (c_count : Int32) (c_hold : Nat → Int32) (s_count : Int32) (s_codes : Nat → Int32) (Q : Int32 → Prop) : Prop := wp_X7_versions c_count c_hold s_count s_codes (fun (r_1 : Int32) => ∃ j10, wp_X7_version_b10 x1 c_count c_hold s_count s_codes Q j10 r_1 (0 : Int32) (0 : Int32))
set_option maxRecDepth 100000 in
set_option maxHeartbeats 4000000 in
theorem c_X7_version (l : Launch) (G : va_G) (cI cD cZ cJ cO : ClassId) (z_a c_a c_as c_ad c_ar c_ah s_a s_ac d_a t_a e_a p_a r_a q_a z_as : Nat) (z_saved : Int32) (c_points : Int32) (c_count : Int32) (c_ed : Int32) (c_sets : Nat → Int32) (c_scores : Nat → UInt64) (c_rated : Nat → Int32) (c_hold : Nat → Int32) (s_count : Int32) (s_codes : Nat → Int32) (x1 : Int32) (Q : Int32 → Prop) (h : wp_X7_version x1 c_count c_hold s_count s_codes Q) : CtI l yX7_version wsX7_version rm_X7_version G (TY cI cD cZ cJ cO) [.ref z_a, .int x1] [oX7 z_a c_a s_a d_a t_a z_saved e_a p_a r_a q_a z_as, oX0 c_a c_points c_count c_as c_ad c_ar c_ah c_ed, aI cI c_as 20 c_sets, aD cD c_ad 20 c_scores, aZ cZ c_ar 20 c_rated, aI cI c_ah 8 c_hold, oX3 s_a s_count s_ac, aI cI s_ac 12 s_codes] (fun (r : Int32) (u : Unit) => Q r) (fun (u : Unit) => [oX7 z_a c_a s_a d_a t_a z_saved e_a p_a r_a q_a z_as, oX0 c_a c_points c_count c_as c_ad c_ar c_ah c_ed, aI cI c_as 20 c_sets, aD cD c_ad 20 c_scores, aZ cZ c_ar 20 c_rated, aI cI c_ah 8 c_hold, oX3 s_a s_count s_ac, aI cI s_ac 12 s_codes]) := by
  refine ct_openI (cc := cX7_version) (maxL := 5) (ty := .int) (by decide) rfl (Nat.le_of_ble_eq_true rfl) ?_
  intro p e s m args below meth c A Z ls hx hb hml hown hts hK hA hret hP hD hS hl
  have hown : s.vm.findClass RX7 = some m.cls := hown
  have hl : lv_has ls 5 [(0, .ref z_a), (1, .int x1)] := hl
  have f_12 := hts (.fieldLink RX7 12 "TeachingSets" "concepts" "LTeachingSets$Concepts;") (List.mem_of_getElem? (i := 1) rfl)
  have f_96 := hts (.fieldLink RX7 96 "TeachingSets$Concepts" "count" "I") (List.mem_of_getElem? (i := 2) rfl)
  have i_X7 : ∀ w ∈ wsX70, w ∈ wsX7_version := fun _ h => List.mem_cons_of_mem _ (List.mem_append_left _ (List.mem_append_left _ (List.mem_append_right _ (h))))
  have i_X0 : ∀ w ∈ wsX00, w ∈ wsX7_version := fun _ h => List.mem_cons_of_mem _ (List.mem_append_left _ (List.mem_append_right _ (h)))
  have b_10 : ∀ (n : Nat) (x2 : Int32) (x3 : Int32) (x4 : Int32), wp_X7_version_b10 x1 c_count c_hold s_count s_codes Q n x2 x3 x4 → ∀ (H : Heap) (locs : List Loc) (ls : Array Slot), ST G A s.heap [oX7 z_a c_a s_a d_a t_a z_saved e_a p_a r_a q_a z_as, oX0 c_a c_points c_count c_as c_ad c_ar c_ah c_ed, aI cI c_as 20 c_sets, aD cD c_ad 20 c_scores, aZ cZ c_ar 20 c_rated, aI cI c_ah 8 c_hold, oX3 s_a s_count s_ac, aI cI s_ac 12 s_codes] 5 [(0, .ref z_a), (1, .int x1), (2, .int x2), (3, .int x3), (4, .int x4)] H locs ls → W p l e rm_X7_version s m args below meth c H locs 0 0 Z (F0 m 10 ls []) := by
    intro n
    induction n with
    | zero =>
      intro x2 x3 x4 h; exact False.elim h
    | succ n ih =>
      intro x2 x3 x4 h H locs ls hst
      obtain ⟨hP, hD, hS, hl⟩ := hst
      refine lv_iload hx hb dX7_version_10 (lv_at hl 4 rfl) ?_
      refine lv_aload_n hx hb dX7_version_12 rfl (lv_at hl 0 rfl) ?_
      refine va_get (D := G) (ci := 7) (v := .ref c_a) (C := RX7) (T := TX7) (N := 10) hx hb hts i_X7 hown hK.1 hP 0 rfl rfl 0 (by decide) f_12 (fun _ h9 => h9) rfl dX7_version_13 ?_
      refine va_get (D := G) (ci := 0) (v := .int c_count) (C := RX0) (T := TX0) (N := 7) hx hb hts i_X0 hown hK.1 hP 1 rfl rfl 1 (by decide) f_96 (fun _ h9 => h9) rfl dX7_version_16 ?_
      obtain ⟨ha, hf⟩ := h
      refine lv_icmp_ge (tgt := 48) hx hb dX7_version_19 (by decide) (fun hc => ?_) (fun hc => ?_)
      · have h := ha hc
        clear ha hf
        refine lv_bipush (v := (-6 : Int32)) hx hb dX7_version_48 (by decide) ?_
        exact hret _ () _ _ _ _ rfl h hP hD hS dX7_version_50
      · have h := hf hc
        clear ha hf
        refine lv_iload_n hx hb dX7_version_22 rfl (lv_at hl 2 rfl) ?_
        refine lv_iload hx hb dX7_version_23 (lv_at hl 4 rfl) ?_
        refine k_Si (wr := [oX7 z_a c_a s_a d_a t_a z_saved e_a p_a r_a q_a z_as, oX0 c_a c_points c_count c_as c_ad c_ar c_ah c_ed, aI cI c_as 20 c_sets, aD cD c_ad 20 c_scores, aZ cZ c_ar 20 c_rated, aI cI c_ah 8 c_hold, oX3 s_a s_count s_ac, aI cI s_ac 12 s_codes]) (wf := (fun (u : Unit) => [oX7 z_a c_a s_a d_a t_a z_saved e_a p_a r_a q_a z_as, oX0 c_a c_points c_count c_as c_ad c_ar c_ah c_ed, aI cI c_as 20 c_sets, aD cD c_ad 20 c_scores, aZ cZ c_ar 20 c_rated, aI cI c_ah 8 c_hold, oX3 s_a s_count s_ac, aI cI s_ac 12 s_codes])) (As := [.int x2, .int x4]) (rest := []) ⟨hx, hb, hml, hown, hts⟩ hK hP hD hS hA (c_X7_hasBit l G cI cD cZ cJ cO x2 x4 _ h) (va_cwS 2 hts gX7_version_X7_hasBit rfl rfl rfl (by decide +kernel) ⟨Nat.le_of_ble_eq_true rfl, Nat.le_of_ble_eq_true rfl⟩) [] [0, 1, 2, 3, 4, 5, 6, 7] [0, 1, 2, 3, 4, 5, 6, 7] rfl rfl rfl (fun _ => rfl) rfl rfl hl.1 (Nat.le_of_ble_eq_true rfl) ⟨Nat.zero_le _, Nat.zero_le _⟩ dX7_version_25 (fun r_2 u H locs h hP hD hS => ?_)
        have hP : va_P G vwCl [oX7 z_a c_a s_a d_a t_a z_saved e_a p_a r_a q_a z_as, oX0 c_a c_points c_count c_as c_ad c_ar c_ah c_ed, aI cI c_as 20 c_sets, aD cD c_ad 20 c_scores, aZ cZ c_ar 20 c_rated, aI cI c_ah 8 c_hold, oX3 s_a s_count s_ac, aI cI s_ac 12 s_codes] H := hP
        have hD : va_D A [oX7 z_a c_a s_a d_a t_a z_saved e_a p_a r_a q_a z_as, oX0 c_a c_points c_count c_as c_ad c_ar c_ah c_ed, aI cI c_as 20 c_sets, aD cD c_ad 20 c_scores, aZ cZ c_ar 20 c_rated, aI cI c_ah 8 c_hold, oX3 s_a s_count s_ac, aI cI s_ac 12 s_codes] := hD
        obtain ⟨ha, hf⟩ := h
        refine lv_if_eq (tgt := 42) hx hb dX7_version_28 (by decide) (fun hc => ?_) (fun hc => ?_)
        · have h := ha hc
          clear ha hf
          refine lv_iinc (v := (x4 + (1 : Int32))) (lv' := [(4, .int (x4 + (1 : Int32))), (0, .ref z_a), (1, .int x1), (2, .int x2), (3, .int x3)]) hx hb dX7_version_42 hl (k := 4) rfl rfl (by decide) rfl (fun ls hl => ?_)
          refine lv_goto (tgt := 10) hx hb dX7_version_45 (by decide) ?_
          exact ih _ _ _ h _ _ _ ⟨hP, hD, hS, lv_sub hl [1, 2, 3, 4, 0] rfl⟩
        · have h := hf hc
          clear ha hf
          refine lv_iload_n hx hb dX7_version_31 rfl (lv_at hl 3 rfl) ?_
          refine lv_iload_n hx hb dX7_version_32 rfl (lv_at hl 1 rfl) ?_
          obtain ⟨ha, hf⟩ := h
          refine lv_icmp_ne (tgt := 39) hx hb dX7_version_33 (by decide) (fun hc => ?_) (fun hc => ?_)
          · have h := ha hc
            clear ha hf
            refine lv_iinc (v := (x3 + (1 : Int32))) (lv' := [(3, .int (x3 + (1 : Int32))), (0, .ref z_a), (1, .int x1), (2, .int x2), (4, .int x4)]) hx hb dX7_version_39 hl (k := 3) rfl rfl (by decide) rfl (fun ls hl => ?_)
            refine lv_iinc (v := (x4 + (1 : Int32))) (lv' := [(4, .int (x4 + (1 : Int32))), (3, .int (x3 + (1 : Int32))), (0, .ref z_a), (1, .int x1), (2, .int x2)]) hx hb dX7_version_42 hl (k := 4) rfl rfl (by decide) rfl (fun ls hl => ?_)
            refine lv_goto (tgt := 10) hx hb dX7_version_45 (by decide) ?_
            exact ih _ _ _ h _ _ _ ⟨hP, hD, hS, lv_sub hl [2, 3, 4, 1, 0] rfl⟩
          · have h := hf hc
            clear ha hf
            refine lv_iload hx hb dX7_version_36 (lv_at hl 4 rfl) ?_
            exact hret _ () _ _ _ _ rfl h hP hD hS dX7_version_38
  refine lv_aload_n hx hb dX7_version_0 rfl (lv_at hl 0 rfl) ?_
  refine k_Vi (wr := []) (wf := (fun (u : Unit) => [oX7 z_a c_a s_a d_a t_a z_saved e_a p_a r_a q_a z_as, oX0 c_a c_points c_count c_as c_ad c_ar c_ah c_ed, aI cI c_as 20 c_sets, aD cD c_ad 20 c_scores, aZ cZ c_ar 20 c_rated, aI cI c_ah 8 c_hold, oX3 s_a s_count s_ac, aI cI s_ac 12 s_codes])) (As := []) (rest := []) ⟨hx, hb, hml, hown, hts⟩ hK hP hD hS hA (c_X7_versions l G cI cD cZ cJ cO z_a c_a c_as c_ad c_ar c_ah s_a s_ac d_a t_a e_a p_a r_a q_a z_as z_saved c_points c_count c_ed c_sets c_scores c_rated c_hold s_count s_codes _ h) (cwV 0 hts gX7_version_X7_versions rfl rfl rfl (by decide +kernel) ⟨Nat.le_of_ble_eq_true rfl, Nat.le_of_ble_eq_true rfl⟩) 0 rfl rfl [0, 1, 2, 3, 4, 5, 6, 7] [] [0, 1, 2, 3, 4, 5, 6, 7] rfl rfl rfl (fun _ => rfl) rfl rfl hl.1 (Nat.le_of_ble_eq_true rfl) ⟨Nat.zero_le _, Nat.zero_le _⟩ dX7_version_1 (fun r_1 u H locs h hP hD hS => ?_)
  have hP : va_P G vwCl [oX7 z_a c_a s_a d_a t_a z_saved e_a p_a r_a q_a z_as, oX0 c_a c_points c_count c_as c_ad c_ar c_ah c_ed, aI cI c_as 20 c_sets, aD cD c_ad 20 c_scores, aZ cZ c_ar 20 c_rated, aI cI c_ah 8 c_hold, oX3 s_a s_count s_ac, aI cI s_ac 12 s_codes] H := hP
  have hD : va_D A [oX7 z_a c_a s_a d_a t_a z_saved e_a p_a r_a q_a z_as, oX0 c_a c_points c_count c_as c_ad c_ar c_ah c_ed, aI cI c_as 20 c_sets, aD cD c_ad 20 c_scores, aZ cZ c_ar 20 c_rated, aI cI c_ah 8 c_hold, oX3 s_a s_count s_ac, aI cI s_ac 12 s_codes] := hD
  refine lv_istore_n (lv' := [(2, .int r_1), (0, .ref z_a), (1, .int x1)]) hx hb dX7_version_4 rfl hl (by decide) rfl (fun ls hl => ?_)
  refine lv_iconst (v := (0 : Int32)) hx hb dX7_version_5 (by decide) ?_
  refine lv_istore_n (lv' := [(3, .int (0 : Int32)), (2, .int r_1), (0, .ref z_a), (1, .int x1)]) hx hb dX7_version_6 rfl hl (by decide) rfl (fun ls hl => ?_)
  refine lv_iconst (v := (0 : Int32)) hx hb dX7_version_7 (by decide) ?_
  refine lv_istore (lv' := [(4, .int (0 : Int32)), (3, .int (0 : Int32)), (2, .int r_1), (0, .ref z_a), (1, .int x1)]) hx hb dX7_version_8 hl (by decide) rfl (fun ls hl => ?_)
  obtain ⟨j, h⟩ := h
  exact b_10  j _ _ _ h _ _ _ ⟨hP, hD, hS, lv_sub hl [3, 4, 2, 1, 0] rfl⟩
abbrev rm_X7_majority : Room := { frames := 3, cells := 0, slots := 0, locals := 64 }
def wp_X7_majority (x1 : Int32) (c_points : Int32) (c_count : Int32) (c_hold : Nat → Int32) (s_count : Int32) (s_codes : Nat → Int32) (Q : Int32 → Prop) : Prop := wp_X0_isPoint x1 c_points (fun (r_1 : Int32) => ((¬ r_1 = 0) → wp_X7_versions c_count c_hold s_count s_codes (fun (r_2 : Int32) => ((¬ r_2 = 0) → wp_X0_leadOfOnes r_2 x1 c_count c_hold (fun (r_3 : Int32) => ((¬ r_3 = 0) → ((r_3 ≤ 0) → Q (0 : Int32)) ∧ ((¬ r_3 ≤ 0) → Q (1 : Int32))) ∧ ((r_3 = 0) → Q (2 : Int32)))) ∧ ((r_2 = 0) → Q (-7 : Int32)))) ∧ ((r_1 = 0) → Q (-3 : Int32)))
set_option maxRecDepth 100000 in
set_option maxHeartbeats 4000000 in
theorem c_X7_majority (l : Launch) (G : va_G) (cI cD cZ cJ cO : ClassId) (z_a c_a c_as c_ad c_ar c_ah s_a s_ac d_a t_a e_a p_a r_a q_a z_as : Nat) (z_saved : Int32) (c_points : Int32) (c_count : Int32) (c_ed : Int32) (c_sets : Nat → Int32) (c_scores : Nat → UInt64) (c_rated : Nat → Int32) (c_hold : Nat → Int32) (s_count : Int32) (s_codes : Nat → Int32) (x1 : Int32) (Q : Int32 → Prop) (h : wp_X7_majority x1 c_points c_count c_hold s_count s_codes Q) : CtI l yX7_majority wsX7_majority rm_X7_majority G (TY cI cD cZ cJ cO) [.ref z_a, .int x1] [oX7 z_a c_a s_a d_a t_a z_saved e_a p_a r_a q_a z_as, oX0 c_a c_points c_count c_as c_ad c_ar c_ah c_ed, aI cI c_as 20 c_sets, aD cD c_ad 20 c_scores, aZ cZ c_ar 20 c_rated, aI cI c_ah 8 c_hold, oX3 s_a s_count s_ac, aI cI s_ac 12 s_codes] (fun (r : Int32) (u : Unit) => Q r) (fun (u : Unit) => [oX7 z_a c_a s_a d_a t_a z_saved e_a p_a r_a q_a z_as, oX0 c_a c_points c_count c_as c_ad c_ar c_ah c_ed, aI cI c_as 20 c_sets, aD cD c_ad 20 c_scores, aZ cZ c_ar 20 c_rated, aI cI c_ah 8 c_hold, oX3 s_a s_count s_ac, aI cI s_ac 12 s_codes]) := by
  refine ct_openI (cc := cX7_majority) (maxL := 4) (ty := .int) (by decide) rfl (Nat.le_of_ble_eq_true rfl) ?_
  intro p e s m args below meth c A Z ls hx hb hml hown hts hK hA hret hP hD hS hl
  have hown : s.vm.findClass RX7 = some m.cls := hown
  have hl : lv_has ls 4 [(0, .ref z_a), (1, .int x1)] := hl
  have f_12 := hts (.fieldLink RX7 12 "TeachingSets" "concepts" "LTeachingSets$Concepts;") (List.mem_of_getElem? (i := 1) rfl)
  have i_X7 : ∀ w ∈ wsX70, w ∈ wsX7_majority := fun _ h => List.mem_cons_of_mem _ (List.mem_append_left _ (List.mem_append_left _ (List.mem_append_right _ (h))))
  refine lv_aload_n hx hb dX7_majority_0 rfl (lv_at hl 0 rfl) ?_
  refine va_get (D := G) (ci := 7) (v := .ref c_a) (C := RX7) (T := TX7) (N := 10) hx hb hts i_X7 hown hK.1 hP 0 rfl rfl 0 (by decide) f_12 (fun _ h9 => h9) rfl dX7_majority_1 ?_
  refine lv_iload_n hx hb dX7_majority_4 rfl (lv_at hl 1 rfl) ?_
  refine k_Vi (wr := [oX7 z_a c_a s_a d_a t_a z_saved e_a p_a r_a q_a z_as, oX3 s_a s_count s_ac, aI cI s_ac 12 s_codes]) (wf := (fun (u : Unit) => [oX7 z_a c_a s_a d_a t_a z_saved e_a p_a r_a q_a z_as, oX0 c_a c_points c_count c_as c_ad c_ar c_ah c_ed, aI cI c_as 20 c_sets, aD cD c_ad 20 c_scores, aZ cZ c_ar 20 c_rated, aI cI c_ah 8 c_hold, oX3 s_a s_count s_ac, aI cI s_ac 12 s_codes])) (As := [.int x1]) (rest := []) ⟨hx, hb, hml, hown, hts⟩ hK hP hD hS hA (c_X0_isPoint l G cI cD cZ cJ cO c_a c_as c_ad c_ar c_ah c_points c_count c_ed c_sets c_scores c_rated c_hold x1 _ h) (cwV 1 hts gX7_majority_X0_isPoint rfl rfl rfl (by decide +kernel) ⟨Nat.le_of_ble_eq_true rfl, Nat.le_of_ble_eq_true rfl⟩) 0 rfl rfl [1, 2, 3, 4, 5] [0, 6, 7] [0, 3, 4, 5, 6, 7, 1, 2] rfl rfl rfl (fun _ => rfl) rfl rfl hl.1 (Nat.le_of_ble_eq_true rfl) ⟨Nat.zero_le _, Nat.zero_le _⟩ dX7_majority_5 (fun r_1 u H locs h hP hD hS => ?_)
  have hP : va_P G vwCl [oX7 z_a c_a s_a d_a t_a z_saved e_a p_a r_a q_a z_as, oX0 c_a c_points c_count c_as c_ad c_ar c_ah c_ed, aI cI c_as 20 c_sets, aD cD c_ad 20 c_scores, aZ cZ c_ar 20 c_rated, aI cI c_ah 8 c_hold, oX3 s_a s_count s_ac, aI cI s_ac 12 s_codes] H := hP
  have hD : va_D A [oX7 z_a c_a s_a d_a t_a z_saved e_a p_a r_a q_a z_as, oX0 c_a c_points c_count c_as c_ad c_ar c_ah c_ed, aI cI c_as 20 c_sets, aD cD c_ad 20 c_scores, aZ cZ c_ar 20 c_rated, aI cI c_ah 8 c_hold, oX3 s_a s_count s_ac, aI cI s_ac 12 s_codes] := hD
  obtain ⟨ha, hf⟩ := h
  refine lv_if_ne (tgt := 14) hx hb dX7_majority_8 (by decide) (fun hc => ?_) (fun hc => ?_)
  · have h := ha hc
    clear ha hf
    refine lv_aload_n hx hb dX7_majority_14 rfl (lv_at hl 0 rfl) ?_
    refine k_Vi (wr := []) (wf := (fun (u : Unit) => [oX7 z_a c_a s_a d_a t_a z_saved e_a p_a r_a q_a z_as, oX0 c_a c_points c_count c_as c_ad c_ar c_ah c_ed, aI cI c_as 20 c_sets, aD cD c_ad 20 c_scores, aZ cZ c_ar 20 c_rated, aI cI c_ah 8 c_hold, oX3 s_a s_count s_ac, aI cI s_ac 12 s_codes])) (As := []) (rest := []) ⟨hx, hb, hml, hown, hts⟩ hK hP hD hS hA (c_X7_versions l G cI cD cZ cJ cO z_a c_a c_as c_ad c_ar c_ah s_a s_ac d_a t_a e_a p_a r_a q_a z_as z_saved c_points c_count c_ed c_sets c_scores c_rated c_hold s_count s_codes _ h) (cwV 0 hts gX7_majority_X7_versions rfl rfl rfl (by decide +kernel) ⟨Nat.le_of_ble_eq_true rfl, Nat.le_of_ble_eq_true rfl⟩) 0 rfl rfl [0, 1, 2, 3, 4, 5, 6, 7] [] [0, 1, 2, 3, 4, 5, 6, 7] rfl rfl rfl (fun _ => rfl) rfl rfl hl.1 (Nat.le_of_ble_eq_true rfl) ⟨Nat.zero_le _, Nat.zero_le _⟩ dX7_majority_15 (fun r_2 u H locs h hP hD hS => ?_)
    have hP : va_P G vwCl [oX7 z_a c_a s_a d_a t_a z_saved e_a p_a r_a q_a z_as, oX0 c_a c_points c_count c_as c_ad c_ar c_ah c_ed, aI cI c_as 20 c_sets, aD cD c_ad 20 c_scores, aZ cZ c_ar 20 c_rated, aI cI c_ah 8 c_hold, oX3 s_a s_count s_ac, aI cI s_ac 12 s_codes] H := hP
    have hD : va_D A [oX7 z_a c_a s_a d_a t_a z_saved e_a p_a r_a q_a z_as, oX0 c_a c_points c_count c_as c_ad c_ar c_ah c_ed, aI cI c_as 20 c_sets, aD cD c_ad 20 c_scores, aZ cZ c_ar 20 c_rated, aI cI c_ah 8 c_hold, oX3 s_a s_count s_ac, aI cI s_ac 12 s_codes] := hD
    refine lv_istore_n (lv' := [(2, .int r_2), (0, .ref z_a), (1, .int x1)]) hx hb dX7_majority_18 rfl hl (by decide) rfl (fun ls hl => ?_)
    refine lv_iload_n hx hb dX7_majority_19 rfl (lv_at hl 0 rfl) ?_
    obtain ⟨ha, hf⟩ := h
    refine lv_if_ne (tgt := 26) hx hb dX7_majority_20 (by decide) (fun hc => ?_) (fun hc => ?_)
    · have h := ha hc
      clear ha hf
      refine lv_aload_n hx hb dX7_majority_26 rfl (lv_at hl 1 rfl) ?_
      refine va_get (D := G) (ci := 7) (v := .ref c_a) (C := RX7) (T := TX7) (N := 10) hx hb hts i_X7 hown hK.1 hP 0 rfl rfl 0 (by decide) f_12 (fun _ h9 => h9) rfl dX7_majority_27 ?_
      refine lv_iload_n hx hb dX7_majority_30 rfl (lv_at hl 0 rfl) ?_
      refine lv_iload_n hx hb dX7_majority_31 rfl (lv_at hl 2 rfl) ?_
      refine k_Vi (wr := [oX7 z_a c_a s_a d_a t_a z_saved e_a p_a r_a q_a z_as, oX3 s_a s_count s_ac, aI cI s_ac 12 s_codes]) (wf := (fun (u : Unit) => [oX7 z_a c_a s_a d_a t_a z_saved e_a p_a r_a q_a z_as, oX0 c_a c_points c_count c_as c_ad c_ar c_ah c_ed, aI cI c_as 20 c_sets, aD cD c_ad 20 c_scores, aZ cZ c_ar 20 c_rated, aI cI c_ah 8 c_hold, oX3 s_a s_count s_ac, aI cI s_ac 12 s_codes])) (As := [.int r_2, .int x1]) (rest := []) ⟨hx, hb, hml, hown, hts⟩ hK hP hD hS hA (c_X0_leadOfOnes l G cI cD cZ cJ cO c_a c_as c_ad c_ar c_ah c_points c_count c_ed c_sets c_scores c_rated c_hold r_2 x1 _ h) (cwV 2 hts gX7_majority_X0_leadOfOnes rfl rfl rfl (by decide +kernel) ⟨Nat.le_of_ble_eq_true rfl, Nat.le_of_ble_eq_true rfl⟩) 0 rfl rfl [1, 2, 3, 4, 5] [0, 6, 7] [0, 3, 4, 5, 6, 7, 1, 2] rfl rfl rfl (fun _ => rfl) rfl rfl hl.1 (Nat.le_of_ble_eq_true rfl) ⟨Nat.zero_le _, Nat.zero_le _⟩ dX7_majority_32 (fun r_3 u H locs h hP hD hS => ?_)
      have hP : va_P G vwCl [oX7 z_a c_a s_a d_a t_a z_saved e_a p_a r_a q_a z_as, oX0 c_a c_points c_count c_as c_ad c_ar c_ah c_ed, aI cI c_as 20 c_sets, aD cD c_ad 20 c_scores, aZ cZ c_ar 20 c_rated, aI cI c_ah 8 c_hold, oX3 s_a s_count s_ac, aI cI s_ac 12 s_codes] H := hP
      have hD : va_D A [oX7 z_a c_a s_a d_a t_a z_saved e_a p_a r_a q_a z_as, oX0 c_a c_points c_count c_as c_ad c_ar c_ah c_ed, aI cI c_as 20 c_sets, aD cD c_ad 20 c_scores, aZ cZ c_ar 20 c_rated, aI cI c_ah 8 c_hold, oX3 s_a s_count s_ac, aI cI s_ac 12 s_codes] := hD
      refine lv_istore_n (lv' := [(3, .int r_3), (2, .int r_2), (0, .ref z_a), (1, .int x1)]) hx hb dX7_majority_35 rfl hl (by decide) rfl (fun ls hl => ?_)
      refine lv_iload_n hx hb dX7_majority_36 rfl (lv_at hl 0 rfl) ?_
      obtain ⟨ha, hf⟩ := h
      refine lv_if_ne (tgt := 42) hx hb dX7_majority_37 (by decide) (fun hc => ?_) (fun hc => ?_)
      · have h := ha hc
        clear ha hf
        refine lv_iload_n hx hb dX7_majority_42 rfl (lv_at hl 0 rfl) ?_
        obtain ⟨ha, hf⟩ := h
        refine lv_if_le (tgt := 50) hx hb dX7_majority_43 (by decide) (fun hc => ?_) (fun hc => ?_)
        · have h := ha hc
          clear ha hf
          refine lv_iconst (v := (0 : Int32)) hx hb dX7_majority_50 (by decide) ?_
          exact hret _ () _ _ _ _ rfl h hP hD hS dX7_majority_51
        · have h := hf hc
          clear ha hf
          refine lv_iconst (v := (1 : Int32)) hx hb dX7_majority_46 (by decide) ?_
          refine lv_goto (tgt := 51) hx hb dX7_majority_47 (by decide) ?_
          exact hret _ () _ _ _ _ rfl h hP hD hS dX7_majority_51
      · have h := hf hc
        clear ha hf
        refine lv_iconst (v := (2 : Int32)) hx hb dX7_majority_40 (by decide) ?_
        exact hret _ () _ _ _ _ rfl h hP hD hS dX7_majority_41
    · have h := hf hc
      clear ha hf
      refine lv_bipush (v := (-7 : Int32)) hx hb dX7_majority_23 (by decide) ?_
      exact hret _ () _ _ _ _ rfl h hP hD hS dX7_majority_25
  · have h := hf hc
    clear ha hf
    refine lv_bipush (v := (-3 : Int32)) hx hb dX7_majority_11 (by decide) ?_
    exact hret _ () _ _ _ _ rfl h hP hD hS dX7_majority_13
abbrev rm_X7_clearSample : Room := { frames := 1, cells := 0, slots := 0, locals := 20 }
def wp_X7_clearSample (s_count : Int32) (Q : Int32 → Int32 → Prop) : Prop := wp_X3_forget s_count (fun (s_count_1 : Int32) => Q s_count s_count_1)
set_option maxRecDepth 100000 in
set_option maxHeartbeats 4000000 in
theorem c_X7_clearSample (l : Launch) (G : va_G) (cI cD cZ cJ cO : ClassId) (z_a s_a s_ac c_a d_a t_a e_a p_a r_a q_a z_as : Nat) (z_saved : Int32) (s_count : Int32) (s_codes : Nat → Int32) (Q : Int32 → Int32 → Prop) (h : wp_X7_clearSample s_count Q) : CtI l yX7_clearSample wsX7_clearSample rm_X7_clearSample G (TY cI cD cZ cJ cO) [.ref z_a] [oX7 z_a c_a s_a d_a t_a z_saved e_a p_a r_a q_a z_as, oX3 s_a s_count s_ac, aI cI s_ac 12 s_codes] (fun (r : Int32) (u : Int32) => Q r u) (fun (u : Int32) => [oX7 z_a c_a s_a d_a t_a z_saved e_a p_a r_a q_a z_as, oX3 s_a u s_ac, aI cI s_ac 12 s_codes]) := by
  refine ct_openI (cc := cX7_clearSample) (maxL := 2) (ty := .int) (by decide) rfl (Nat.le_of_ble_eq_true rfl) ?_
  intro p e s m args below meth c A Z ls hx hb hml hown hts hK hA hret hP hD hS hl
  have hown : s.vm.findClass RX7 = some m.cls := hown
  have hl : lv_has ls 2 [(0, .ref z_a)] := hl
  have f_21 := hts (.fieldLink RX7 21 "TeachingSets" "sample" "LTeachingSets$Sample;") (List.mem_of_getElem? (i := 1) rfl)
  have f_200 := hts (.fieldLink RX7 200 "TeachingSets$Sample" "count" "I") (List.mem_of_getElem? (i := 2) rfl)
  have i_X7 : ∀ w ∈ wsX70, w ∈ wsX7_clearSample := fun _ h => List.mem_cons_of_mem _ (List.mem_append_left _ (List.mem_append_right _ (h)))
  have i_X3 : ∀ w ∈ wsX30, w ∈ wsX7_clearSample := fun _ h => List.mem_cons_of_mem _ (List.mem_append_right _ (h))
  refine lv_aload_n hx hb dX7_clearSample_0 rfl (lv_at hl 0 rfl) ?_
  refine va_get (D := G) (ci := 7) (v := .ref s_a) (C := RX7) (T := TX7) (N := 10) hx hb hts i_X7 hown hK.1 hP 0 rfl rfl 1 (by decide) f_21 (fun _ h9 => h9) rfl dX7_clearSample_1 ?_
  refine va_get (D := G) (ci := 3) (v := .int s_count) (C := RX3) (T := TX3) (N := 2) hx hb hts i_X3 hown hK.1 hP 1 rfl rfl 0 (by decide) f_200 (fun _ h9 => h9) rfl dX7_clearSample_4 ?_
  refine lv_istore_n (lv' := [(1, .int s_count), (0, .ref z_a)]) hx hb dX7_clearSample_7 rfl hl (by decide) rfl (fun ls hl => ?_)
  refine lv_aload_n hx hb dX7_clearSample_8 rfl (lv_at hl 1 rfl) ?_
  refine va_get (D := G) (ci := 7) (v := .ref s_a) (C := RX7) (T := TX7) (N := 10) hx hb hts i_X7 hown hK.1 hP 0 rfl rfl 1 (by decide) f_21 (fun _ h9 => h9) rfl dX7_clearSample_9 ?_
  refine k_Vv (wr := [oX7 z_a c_a s_a d_a t_a z_saved e_a p_a r_a q_a z_as]) (wf := (fun (u : Int32) => [oX7 z_a c_a s_a d_a t_a z_saved e_a p_a r_a q_a z_as, oX3 s_a u s_ac, aI cI s_ac 12 s_codes])) (As := []) (rest := []) ⟨hx, hb, hml, hown, hts⟩ hK hP hD hS hA (c_X3_forget l G cI cD cZ cJ cO s_a s_ac s_count s_codes _ h) (cwV 0 hts gX7_clearSample_X3_forget rfl rfl rfl (by decide +kernel) ⟨Nat.le_of_ble_eq_true rfl, Nat.le_of_ble_eq_true rfl⟩) 0 rfl rfl [1, 2] [0] [0, 1, 2] rfl rfl rfl (fun _ => rfl) rfl rfl hl.1 (Nat.le_of_ble_eq_true rfl) ⟨Nat.zero_le _, Nat.zero_le _⟩ dX7_clearSample_12 (fun u H locs h hP hD hS => ?_)
  obtain ⟨s_count_1, rfl⟩ : ∃ z, z = u := ⟨_, rfl⟩
  have hP : va_P G vwCl [oX7 z_a c_a s_a d_a t_a z_saved e_a p_a r_a q_a z_as, oX3 s_a s_count_1 s_ac, aI cI s_ac 12 s_codes] H := hP
  have hD : va_D A [oX7 z_a c_a s_a d_a t_a z_saved e_a p_a r_a q_a z_as, oX3 s_a s_count_1 s_ac, aI cI s_ac 12 s_codes] := hD
  refine lv_iload_n hx hb dX7_clearSample_15 rfl (lv_at hl 0 rfl) ?_
  exact hret _ s_count_1 _ _ _ _ rfl h hP hD hS dX7_clearSample_16
abbrev rm_X7_example : Room := { frames := 0, cells := 0, slots := 0, locals := 0 }
def wp_X7_example (x1 : Int32) (s_count : Int32) (s_codes : Nat → Int32) (Q : Int32 → Prop) : Prop := ((x1 < 0) → Q (-6 : Int32)) ∧ ((¬ x1 < 0) → ((s_count ≤ x1) → Q (-6 : Int32)) ∧ ((¬ s_count ≤ x1) → vp_in x1 12 ∧ Q (s_codes x1.toNatClampNeg)))
set_option maxRecDepth 100000 in
set_option maxHeartbeats 4000000 in
theorem c_X7_example (l : Launch) (G : va_G) (cI cD cZ cJ cO : ClassId) (z_a s_a s_ac c_a d_a t_a e_a p_a r_a q_a z_as : Nat) (z_saved : Int32) (s_count : Int32) (s_codes : Nat → Int32) (x1 : Int32) (Q : Int32 → Prop) (h : wp_X7_example x1 s_count s_codes Q) : CtI l yX7_example wsX7_example rm_X7_example G (TY cI cD cZ cJ cO) [.ref z_a, .int x1] [oX7 z_a c_a s_a d_a t_a z_saved e_a p_a r_a q_a z_as, oX3 s_a s_count s_ac, aI cI s_ac 12 s_codes] (fun (r : Int32) (u : Unit) => Q r) (fun (u : Unit) => [oX7 z_a c_a s_a d_a t_a z_saved e_a p_a r_a q_a z_as, oX3 s_a s_count s_ac, aI cI s_ac 12 s_codes]) := by
  refine ct_openI (cc := cX7_example) (maxL := 2) (ty := .int) (by decide) rfl (Nat.le_of_ble_eq_true rfl) ?_
  intro p e s m args below meth c A Z ls hx hb hml hown hts hK hA hret hP hD hS hl
  have hown : s.vm.findClass RX7 = some m.cls := hown
  have hl : lv_has ls 2 [(0, .ref z_a), (1, .int x1)] := hl
  have f_21 := hts (.fieldLink RX7 21 "TeachingSets" "sample" "LTeachingSets$Sample;") (List.mem_of_getElem? (i := 1) rfl)
  have f_200 := hts (.fieldLink RX7 200 "TeachingSets$Sample" "count" "I") (List.mem_of_getElem? (i := 2) rfl)
  have f_207 := hts (.fieldLink RX7 207 "TeachingSets$Sample" "codes" "[I") (List.mem_of_getElem? (i := 3) rfl)
  have i_X7 : ∀ w ∈ wsX70, w ∈ wsX7_example := fun _ h => List.mem_cons_of_mem _ (List.mem_append_left _ (List.mem_append_right _ (h)))
  have i_X3 : ∀ w ∈ wsX30, w ∈ wsX7_example := fun _ h => List.mem_cons_of_mem _ (List.mem_append_right _ (h))
  refine lv_iload_n hx hb dX7_example_0 rfl (lv_at hl 1 rfl) ?_
  obtain ⟨ha, hf⟩ := h
  refine lv_if_lt (tgt := 27) hx hb dX7_example_1 (by decide) (fun hc => ?_) (fun hc => ?_)
  · have h := ha hc
    clear ha hf
    refine lv_bipush (v := (-6 : Int32)) hx hb dX7_example_27 (by decide) ?_
    exact hret _ () _ _ _ _ rfl h hP hD hS dX7_example_29
  · have h := hf hc
    clear ha hf
    refine lv_iload_n hx hb dX7_example_4 rfl (lv_at hl 1 rfl) ?_
    refine lv_aload_n hx hb dX7_example_5 rfl (lv_at hl 0 rfl) ?_
    refine va_get (D := G) (ci := 7) (v := .ref s_a) (C := RX7) (T := TX7) (N := 10) hx hb hts i_X7 hown hK.1 hP 0 rfl rfl 1 (by decide) f_21 (fun _ h9 => h9) rfl dX7_example_6 ?_
    refine va_get (D := G) (ci := 3) (v := .int s_count) (C := RX3) (T := TX3) (N := 2) hx hb hts i_X3 hown hK.1 hP 1 rfl rfl 0 (by decide) f_200 (fun _ h9 => h9) rfl dX7_example_9 ?_
    obtain ⟨ha, hf⟩ := h
    refine lv_icmp_ge (tgt := 27) hx hb dX7_example_12 (by decide) (fun hc => ?_) (fun hc => ?_)
    · have h := ha hc
      clear ha hf
      refine lv_bipush (v := (-6 : Int32)) hx hb dX7_example_27 (by decide) ?_
      exact hret _ () _ _ _ _ rfl h hP hD hS dX7_example_29
    · have h := hf hc
      clear ha hf
      refine lv_aload_n hx hb dX7_example_15 rfl (lv_at hl 0 rfl) ?_
      refine va_get (D := G) (ci := 7) (v := .ref s_a) (C := RX7) (T := TX7) (N := 10) hx hb hts i_X7 hown hK.1 hP 0 rfl rfl 1 (by decide) f_21 (fun _ h9 => h9) rfl dX7_example_16 ?_
      refine va_get (D := G) (ci := 3) (v := .ref s_ac) (C := RX3) (T := TX3) (N := 2) hx hb hts i_X3 hown hK.1 hP 1 rfl rfl 1 (by decide) f_207 (fun _ h9 => h9) rfl dX7_example_19 ?_
      refine lv_iload_n hx hb dX7_example_22 rfl (lv_at hl 1 rfl) ?_
      obtain ⟨hi, h⟩ := h
      refine va_iald hx hb hK.1 hP 2 0 rfl rfl hi dX7_example_23 ?_
      refine lv_goto (tgt := 29) hx hb dX7_example_24 (by decide) ?_
      exact hret _ () _ _ _ _ rfl h hP hD hS dX7_example_29
abbrev rm_X7_isTeachingSet : Room := { frames := 4, cells := 0, slots := 0, locals := 92 }
def wp_X7_isTeachingSet (x1 : Int32) (x2 : Int32) (c_points : Int32) (c_count : Int32) (c_sets : Nat → Int32) (c_hold : Nat → Int32) (e_stand : Nat → Int32) (Q : Int32 → (Nat → Int32) → Prop) : Prop := wp_X0_has x1 c_count (fun (r_1 : Int32) => ((¬ r_1 = 0) → wp_X0_isSet x2 c_points (fun (r_2 : Int32) => ((¬ r_2 = 0) → wp_X0_others x1 c_count (fun (r_3 : Int32) => wp_X4_beats x1 r_3 x2 e_stand c_points c_count c_sets c_hold (fun (r_4 : Int32) (e_stand_5 : Nat → Int32) => ((r_4 = 0) → Q (0 : Int32) e_stand_5) ∧ ((¬ r_4 = 0) → Q (1 : Int32) e_stand_5)))) ∧ ((r_2 = 0) → Q (-1 : Int32) e_stand))) ∧ ((r_1 = 0) → Q (-2 : Int32) e_stand))
set_option maxRecDepth 100000 in
set_option maxHeartbeats 4000000 in
theorem c_X7_isTeachingSet (l : Launch) (G : va_G) (cI cD cZ cJ cO : ClassId) (z_a c_a c_as c_ad c_ar c_ah e_a e_at s_a d_a t_a p_a r_a q_a z_as : Nat) (z_saved : Int32) (c_points : Int32) (c_count : Int32) (c_ed : Int32) (c_sets : Nat → Int32) (c_scores : Nat → UInt64) (c_rated : Nat → Int32) (c_hold : Nat → Int32) (e_stand : Nat → Int32) (x1 : Int32) (x2 : Int32) (Q : Int32 → (Nat → Int32) → Prop) (h : wp_X7_isTeachingSet x1 x2 c_points c_count c_sets c_hold e_stand Q) : CtI l yX7_isTeachingSet wsX7_isTeachingSet rm_X7_isTeachingSet G (TY cI cD cZ cJ cO) [.ref z_a, .int x1, .int x2] [oX7 z_a c_a s_a d_a t_a z_saved e_a p_a r_a q_a z_as, oX0 c_a c_points c_count c_as c_ad c_ar c_ah c_ed, aI cI c_as 20 c_sets, aD cD c_ad 20 c_scores, aZ cZ c_ar 20 c_rated, aI cI c_ah 8 c_hold, oX4 e_a c_a e_at, aI cI e_at 256 e_stand] (fun (r : Int32) (u : (Nat → Int32)) => Q r u) (fun (u : (Nat → Int32)) => [oX7 z_a c_a s_a d_a t_a z_saved e_a p_a r_a q_a z_as, oX0 c_a c_points c_count c_as c_ad c_ar c_ah c_ed, aI cI c_as 20 c_sets, aD cD c_ad 20 c_scores, aZ cZ c_ar 20 c_rated, aI cI c_ah 8 c_hold, oX4 e_a c_a e_at, aI cI e_at 256 u]) := by
  refine ct_openI (cc := cX7_isTeachingSet) (maxL := 3) (ty := .int) (by decide) rfl (Nat.le_of_ble_eq_true rfl) ?_
  intro p e s m args below meth c A Z ls hx hb hml hown hts hK hA hret hP hD hS hl
  have hown : s.vm.findClass RX7 = some m.cls := hown
  have hl : lv_has ls 3 [(0, .ref z_a), (1, .int x1), (2, .int x2)] := hl
  have f_12 := hts (.fieldLink RX7 12 "TeachingSets" "concepts" "LTeachingSets$Concepts;") (List.mem_of_getElem? (i := 1) rfl)
  have f_40 := hts (.fieldLink RX7 40 "TeachingSets" "search" "LTeachingSets$Search;") (List.mem_of_getElem? (i := 2) rfl)
  have i_X7 : ∀ w ∈ wsX70, w ∈ wsX7_isTeachingSet := fun _ h => List.mem_cons_of_mem _ (List.mem_append_left _ (List.mem_append_left _ (List.mem_append_right _ (h))))
  refine lv_aload_n hx hb dX7_isTeachingSet_0 rfl (lv_at hl 0 rfl) ?_
  refine va_get (D := G) (ci := 7) (v := .ref c_a) (C := RX7) (T := TX7) (N := 10) hx hb hts i_X7 hown hK.1 hP 0 rfl rfl 0 (by decide) f_12 (fun _ h9 => h9) rfl dX7_isTeachingSet_1 ?_
  refine lv_iload_n hx hb dX7_isTeachingSet_4 rfl (lv_at hl 1 rfl) ?_
  refine k_Vi (wr := [oX7 z_a c_a s_a d_a t_a z_saved e_a p_a r_a q_a z_as, oX4 e_a c_a e_at, aI cI e_at 256 e_stand]) (wf := (fun (u : Unit) => [oX7 z_a c_a s_a d_a t_a z_saved e_a p_a r_a q_a z_as, oX0 c_a c_points c_count c_as c_ad c_ar c_ah c_ed, aI cI c_as 20 c_sets, aD cD c_ad 20 c_scores, aZ cZ c_ar 20 c_rated, aI cI c_ah 8 c_hold, oX4 e_a c_a e_at, aI cI e_at 256 e_stand])) (As := [.int x1]) (rest := []) ⟨hx, hb, hml, hown, hts⟩ hK hP hD hS hA (c_X0_has l G cI cD cZ cJ cO c_a c_as c_ad c_ar c_ah c_points c_count c_ed c_sets c_scores c_rated c_hold x1 _ h) (cwV 1 hts gX7_isTeachingSet_X0_has rfl rfl rfl (by decide +kernel) ⟨Nat.le_of_ble_eq_true rfl, Nat.le_of_ble_eq_true rfl⟩) 0 rfl rfl [1, 2, 3, 4, 5] [0, 6, 7] [0, 3, 4, 5, 6, 7, 1, 2] rfl rfl rfl (fun _ => rfl) rfl rfl hl.1 (Nat.le_of_ble_eq_true rfl) ⟨Nat.zero_le _, Nat.zero_le _⟩ dX7_isTeachingSet_5 (fun r_1 u H locs h hP hD hS => ?_)
  have hP : va_P G vwCl [oX7 z_a c_a s_a d_a t_a z_saved e_a p_a r_a q_a z_as, oX0 c_a c_points c_count c_as c_ad c_ar c_ah c_ed, aI cI c_as 20 c_sets, aD cD c_ad 20 c_scores, aZ cZ c_ar 20 c_rated, aI cI c_ah 8 c_hold, oX4 e_a c_a e_at, aI cI e_at 256 e_stand] H := hP
  have hD : va_D A [oX7 z_a c_a s_a d_a t_a z_saved e_a p_a r_a q_a z_as, oX0 c_a c_points c_count c_as c_ad c_ar c_ah c_ed, aI cI c_as 20 c_sets, aD cD c_ad 20 c_scores, aZ cZ c_ar 20 c_rated, aI cI c_ah 8 c_hold, oX4 e_a c_a e_at, aI cI e_at 256 e_stand] := hD
  obtain ⟨ha, hf⟩ := h
  refine lv_if_ne (tgt := 14) hx hb dX7_isTeachingSet_8 (by decide) (fun hc => ?_) (fun hc => ?_)
  · have h := ha hc
    clear ha hf
    refine lv_aload_n hx hb dX7_isTeachingSet_14 rfl (lv_at hl 0 rfl) ?_
    refine va_get (D := G) (ci := 7) (v := .ref c_a) (C := RX7) (T := TX7) (N := 10) hx hb hts i_X7 hown hK.1 hP 0 rfl rfl 0 (by decide) f_12 (fun _ h9 => h9) rfl dX7_isTeachingSet_15 ?_
    refine lv_iload_n hx hb dX7_isTeachingSet_18 rfl (lv_at hl 2 rfl) ?_
    refine k_Vi (wr := [oX7 z_a c_a s_a d_a t_a z_saved e_a p_a r_a q_a z_as, oX4 e_a c_a e_at, aI cI e_at 256 e_stand]) (wf := (fun (u : Unit) => [oX7 z_a c_a s_a d_a t_a z_saved e_a p_a r_a q_a z_as, oX0 c_a c_points c_count c_as c_ad c_ar c_ah c_ed, aI cI c_as 20 c_sets, aD cD c_ad 20 c_scores, aZ cZ c_ar 20 c_rated, aI cI c_ah 8 c_hold, oX4 e_a c_a e_at, aI cI e_at 256 e_stand])) (As := [.int x2]) (rest := []) ⟨hx, hb, hml, hown, hts⟩ hK hP hD hS hA (c_X0_isSet l G cI cD cZ cJ cO c_a c_as c_ad c_ar c_ah c_points c_count c_ed c_sets c_scores c_rated c_hold x2 _ h) (cwV 1 hts gX7_isTeachingSet_X0_isSet rfl rfl rfl (by decide +kernel) ⟨Nat.le_of_ble_eq_true rfl, Nat.le_of_ble_eq_true rfl⟩) 0 rfl rfl [1, 2, 3, 4, 5] [0, 6, 7] [0, 3, 4, 5, 6, 7, 1, 2] rfl rfl rfl (fun _ => rfl) rfl rfl hl.1 (Nat.le_of_ble_eq_true rfl) ⟨Nat.zero_le _, Nat.zero_le _⟩ dX7_isTeachingSet_19 (fun r_2 u H locs h hP hD hS => ?_)
    have hP : va_P G vwCl [oX7 z_a c_a s_a d_a t_a z_saved e_a p_a r_a q_a z_as, oX0 c_a c_points c_count c_as c_ad c_ar c_ah c_ed, aI cI c_as 20 c_sets, aD cD c_ad 20 c_scores, aZ cZ c_ar 20 c_rated, aI cI c_ah 8 c_hold, oX4 e_a c_a e_at, aI cI e_at 256 e_stand] H := hP
    have hD : va_D A [oX7 z_a c_a s_a d_a t_a z_saved e_a p_a r_a q_a z_as, oX0 c_a c_points c_count c_as c_ad c_ar c_ah c_ed, aI cI c_as 20 c_sets, aD cD c_ad 20 c_scores, aZ cZ c_ar 20 c_rated, aI cI c_ah 8 c_hold, oX4 e_a c_a e_at, aI cI e_at 256 e_stand] := hD
    obtain ⟨ha, hf⟩ := h
    refine lv_if_ne (tgt := 27) hx hb dX7_isTeachingSet_22 (by decide) (fun hc => ?_) (fun hc => ?_)
    · have h := ha hc
      clear ha hf
      refine lv_aload_n hx hb dX7_isTeachingSet_27 rfl (lv_at hl 0 rfl) ?_
      refine va_get (D := G) (ci := 7) (v := .ref e_a) (C := RX7) (T := TX7) (N := 10) hx hb hts i_X7 hown hK.1 hP 0 rfl rfl 5 (by decide) f_40 (fun _ h9 => h9) rfl dX7_isTeachingSet_28 ?_
      refine lv_iload_n hx hb dX7_isTeachingSet_31 rfl (lv_at hl 1 rfl) ?_
      refine lv_aload_n hx hb dX7_isTeachingSet_32 rfl (lv_at hl 0 rfl) ?_
      refine va_get (D := G) (ci := 7) (v := .ref c_a) (C := RX7) (T := TX7) (N := 10) hx hb hts i_X7 hown hK.1 hP 0 rfl rfl 0 (by decide) f_12 (fun _ h9 => h9) rfl dX7_isTeachingSet_33 ?_
      refine lv_iload_n hx hb dX7_isTeachingSet_36 rfl (lv_at hl 1 rfl) ?_
      refine k_Vi (wr := [oX7 z_a c_a s_a d_a t_a z_saved e_a p_a r_a q_a z_as, oX4 e_a c_a e_at, aI cI e_at 256 e_stand]) (wf := (fun (u : Unit) => [oX7 z_a c_a s_a d_a t_a z_saved e_a p_a r_a q_a z_as, oX0 c_a c_points c_count c_as c_ad c_ar c_ah c_ed, aI cI c_as 20 c_sets, aD cD c_ad 20 c_scores, aZ cZ c_ar 20 c_rated, aI cI c_ah 8 c_hold, oX4 e_a c_a e_at, aI cI e_at 256 e_stand])) (As := [.int x1]) (rest := [.int x1, .ref e_a]) ⟨hx, hb, hml, hown, hts⟩ hK hP hD hS hA (c_X0_others l G cI cD cZ cJ cO c_a c_as c_ad c_ar c_ah c_points c_count c_ed c_sets c_scores c_rated c_hold x1 _ h) (cwV 1 hts gX7_isTeachingSet_X0_others rfl rfl rfl (by decide +kernel) ⟨Nat.le_of_ble_eq_true rfl, Nat.le_of_ble_eq_true rfl⟩) 0 rfl rfl [1, 2, 3, 4, 5] [0, 6, 7] [0, 3, 4, 5, 6, 7, 1, 2] rfl rfl rfl (fun _ => rfl) rfl rfl hl.1 (Nat.le_of_ble_eq_true rfl) ⟨Nat.zero_le _, Nat.zero_le _⟩ dX7_isTeachingSet_37 (fun r_3 u H locs h hP hD hS => ?_)
      have hP : va_P G vwCl [oX7 z_a c_a s_a d_a t_a z_saved e_a p_a r_a q_a z_as, oX0 c_a c_points c_count c_as c_ad c_ar c_ah c_ed, aI cI c_as 20 c_sets, aD cD c_ad 20 c_scores, aZ cZ c_ar 20 c_rated, aI cI c_ah 8 c_hold, oX4 e_a c_a e_at, aI cI e_at 256 e_stand] H := hP
      have hD : va_D A [oX7 z_a c_a s_a d_a t_a z_saved e_a p_a r_a q_a z_as, oX0 c_a c_points c_count c_as c_ad c_ar c_ah c_ed, aI cI c_as 20 c_sets, aD cD c_ad 20 c_scores, aZ cZ c_ar 20 c_rated, aI cI c_ah 8 c_hold, oX4 e_a c_a e_at, aI cI e_at 256 e_stand] := hD
      refine lv_iload_n hx hb dX7_isTeachingSet_40 rfl (lv_at hl 2 rfl) ?_
      refine k_Vi (wr := [oX7 z_a c_a s_a d_a t_a z_saved e_a p_a r_a q_a z_as]) (wf := (fun (u : (Nat → Int32)) => [oX7 z_a c_a s_a d_a t_a z_saved e_a p_a r_a q_a z_as, oX0 c_a c_points c_count c_as c_ad c_ar c_ah c_ed, aI cI c_as 20 c_sets, aD cD c_ad 20 c_scores, aZ cZ c_ar 20 c_rated, aI cI c_ah 8 c_hold, oX4 e_a c_a e_at, aI cI e_at 256 u])) (As := [.int x1, .int r_3, .int x2]) (rest := []) ⟨hx, hb, hml, hown, hts⟩ hK hP hD hS hA (c_X4_beats l G cI cD cZ cJ cO e_a e_at c_a c_as c_ad c_ar c_ah e_stand c_points c_count c_ed c_sets c_scores c_rated c_hold x1 r_3 x2 _ h) (cwV 3 hts gX7_isTeachingSet_X4_beats rfl rfl rfl (by decide +kernel) ⟨Nat.le_of_ble_eq_true rfl, Nat.le_of_ble_eq_true rfl⟩) 0 rfl rfl [6, 7, 1, 2, 3, 4, 5] [0] [0, 3, 4, 5, 6, 7, 1, 2] rfl rfl rfl (fun _ => rfl) rfl rfl hl.1 (Nat.le_of_ble_eq_true rfl) ⟨Nat.zero_le _, Nat.zero_le _⟩ dX7_isTeachingSet_41 (fun r_4 u H locs h hP hD hS => ?_)
      obtain ⟨e_stand_5, rfl⟩ : ∃ z, z = u := ⟨_, rfl⟩
      have hP : va_P G vwCl [oX7 z_a c_a s_a d_a t_a z_saved e_a p_a r_a q_a z_as, oX0 c_a c_points c_count c_as c_ad c_ar c_ah c_ed, aI cI c_as 20 c_sets, aD cD c_ad 20 c_scores, aZ cZ c_ar 20 c_rated, aI cI c_ah 8 c_hold, oX4 e_a c_a e_at, aI cI e_at 256 e_stand_5] H := hP
      have hD : va_D A [oX7 z_a c_a s_a d_a t_a z_saved e_a p_a r_a q_a z_as, oX0 c_a c_points c_count c_as c_ad c_ar c_ah c_ed, aI cI c_as 20 c_sets, aD cD c_ad 20 c_scores, aZ cZ c_ar 20 c_rated, aI cI c_ah 8 c_hold, oX4 e_a c_a e_at, aI cI e_at 256 e_stand_5] := hD
      obtain ⟨ha, hf⟩ := h
      refine lv_if_eq (tgt := 51) hx hb dX7_isTeachingSet_44 (by decide) (fun hc => ?_) (fun hc => ?_)
      · have h := ha hc
        clear ha hf
        refine lv_iconst (v := (0 : Int32)) hx hb dX7_isTeachingSet_51 (by decide) ?_
        exact hret _ e_stand_5 _ _ _ _ rfl h hP hD hS dX7_isTeachingSet_52
      · have h := hf hc
        clear ha hf
        refine lv_iconst (v := (1 : Int32)) hx hb dX7_isTeachingSet_47 (by decide) ?_
        refine lv_goto (tgt := 52) hx hb dX7_isTeachingSet_48 (by decide) ?_
        exact hret _ e_stand_5 _ _ _ _ rfl h hP hD hS dX7_isTeachingSet_52
    · have h := hf hc
      clear ha hf
      refine lv_iconst (v := (-1 : Int32)) hx hb dX7_isTeachingSet_25 (by decide) ?_
      exact hret _ e_stand _ _ _ _ rfl h hP hD hS dX7_isTeachingSet_26
  · have h := hf hc
    clear ha hf
    refine lv_bipush (v := (-2 : Int32)) hx hb dX7_isTeachingSet_11 (by decide) ?_
    exact hret _ e_stand _ _ _ _ rfl h hP hD hS dX7_isTeachingSet_13
abbrev rm_X7_teachingSet : Room := { frames := 4, cells := 0, slots := 0, locals := 93 }
def wp_X7_teachingSet (x1 : Int32) (c_points : Int32) (c_count : Int32) (c_sets : Nat → Int32) (c_hold : Nat → Int32) (e_stand : Nat → Int32) (Q : Int32 → (Nat → Int32) → Prop) : Prop := wp_X0_has x1 c_count (fun (r_1 : Int32) => ((¬ r_1 = 0) → wp_X0_others x1 c_count (fun (r_2 : Int32) => wp_X4_smallest x1 r_2 e_stand c_points c_count c_sets c_hold (fun (r_3 : Int32) (e_stand_4 : Nat → Int32) => Q r_3 e_stand_4))) ∧ ((r_1 = 0) → Q (-2 : Int32) e_stand))
set_option maxRecDepth 100000 in
set_option maxHeartbeats 4000000 in
theorem c_X7_teachingSet (l : Launch) (G : va_G) (cI cD cZ cJ cO : ClassId) (z_a c_a c_as c_ad c_ar c_ah e_a e_at s_a d_a t_a p_a r_a q_a z_as : Nat) (z_saved : Int32) (c_points : Int32) (c_count : Int32) (c_ed : Int32) (c_sets : Nat → Int32) (c_scores : Nat → UInt64) (c_rated : Nat → Int32) (c_hold : Nat → Int32) (e_stand : Nat → Int32) (x1 : Int32) (Q : Int32 → (Nat → Int32) → Prop) (h : wp_X7_teachingSet x1 c_points c_count c_sets c_hold e_stand Q) : CtI l yX7_teachingSet wsX7_teachingSet rm_X7_teachingSet G (TY cI cD cZ cJ cO) [.ref z_a, .int x1] [oX7 z_a c_a s_a d_a t_a z_saved e_a p_a r_a q_a z_as, oX0 c_a c_points c_count c_as c_ad c_ar c_ah c_ed, aI cI c_as 20 c_sets, aD cD c_ad 20 c_scores, aZ cZ c_ar 20 c_rated, aI cI c_ah 8 c_hold, oX4 e_a c_a e_at, aI cI e_at 256 e_stand] (fun (r : Int32) (u : (Nat → Int32)) => Q r u) (fun (u : (Nat → Int32)) => [oX7 z_a c_a s_a d_a t_a z_saved e_a p_a r_a q_a z_as, oX0 c_a c_points c_count c_as c_ad c_ar c_ah c_ed, aI cI c_as 20 c_sets, aD cD c_ad 20 c_scores, aZ cZ c_ar 20 c_rated, aI cI c_ah 8 c_hold, oX4 e_a c_a e_at, aI cI e_at 256 u]) := by
  refine ct_openI (cc := cX7_teachingSet) (maxL := 2) (ty := .int) (by decide) rfl (Nat.le_of_ble_eq_true rfl) ?_
  intro p e s m args below meth c A Z ls hx hb hml hown hts hK hA hret hP hD hS hl
  have hown : s.vm.findClass RX7 = some m.cls := hown
  have hl : lv_has ls 2 [(0, .ref z_a), (1, .int x1)] := hl
  have f_12 := hts (.fieldLink RX7 12 "TeachingSets" "concepts" "LTeachingSets$Concepts;") (List.mem_of_getElem? (i := 1) rfl)
  have f_40 := hts (.fieldLink RX7 40 "TeachingSets" "search" "LTeachingSets$Search;") (List.mem_of_getElem? (i := 2) rfl)
  have i_X7 : ∀ w ∈ wsX70, w ∈ wsX7_teachingSet := fun _ h => List.mem_cons_of_mem _ (List.mem_append_left _ (List.mem_append_left _ (List.mem_append_right _ (h))))
  refine lv_aload_n hx hb dX7_teachingSet_0 rfl (lv_at hl 0 rfl) ?_
  refine va_get (D := G) (ci := 7) (v := .ref c_a) (C := RX7) (T := TX7) (N := 10) hx hb hts i_X7 hown hK.1 hP 0 rfl rfl 0 (by decide) f_12 (fun _ h9 => h9) rfl dX7_teachingSet_1 ?_
  refine lv_iload_n hx hb dX7_teachingSet_4 rfl (lv_at hl 1 rfl) ?_
  refine k_Vi (wr := [oX7 z_a c_a s_a d_a t_a z_saved e_a p_a r_a q_a z_as, oX4 e_a c_a e_at, aI cI e_at 256 e_stand]) (wf := (fun (u : Unit) => [oX7 z_a c_a s_a d_a t_a z_saved e_a p_a r_a q_a z_as, oX0 c_a c_points c_count c_as c_ad c_ar c_ah c_ed, aI cI c_as 20 c_sets, aD cD c_ad 20 c_scores, aZ cZ c_ar 20 c_rated, aI cI c_ah 8 c_hold, oX4 e_a c_a e_at, aI cI e_at 256 e_stand])) (As := [.int x1]) (rest := []) ⟨hx, hb, hml, hown, hts⟩ hK hP hD hS hA (c_X0_has l G cI cD cZ cJ cO c_a c_as c_ad c_ar c_ah c_points c_count c_ed c_sets c_scores c_rated c_hold x1 _ h) (cwV 1 hts gX7_teachingSet_X0_has rfl rfl rfl (by decide +kernel) ⟨Nat.le_of_ble_eq_true rfl, Nat.le_of_ble_eq_true rfl⟩) 0 rfl rfl [1, 2, 3, 4, 5] [0, 6, 7] [0, 3, 4, 5, 6, 7, 1, 2] rfl rfl rfl (fun _ => rfl) rfl rfl hl.1 (Nat.le_of_ble_eq_true rfl) ⟨Nat.zero_le _, Nat.zero_le _⟩ dX7_teachingSet_5 (fun r_1 u H locs h hP hD hS => ?_)
  have hP : va_P G vwCl [oX7 z_a c_a s_a d_a t_a z_saved e_a p_a r_a q_a z_as, oX0 c_a c_points c_count c_as c_ad c_ar c_ah c_ed, aI cI c_as 20 c_sets, aD cD c_ad 20 c_scores, aZ cZ c_ar 20 c_rated, aI cI c_ah 8 c_hold, oX4 e_a c_a e_at, aI cI e_at 256 e_stand] H := hP
  have hD : va_D A [oX7 z_a c_a s_a d_a t_a z_saved e_a p_a r_a q_a z_as, oX0 c_a c_points c_count c_as c_ad c_ar c_ah c_ed, aI cI c_as 20 c_sets, aD cD c_ad 20 c_scores, aZ cZ c_ar 20 c_rated, aI cI c_ah 8 c_hold, oX4 e_a c_a e_at, aI cI e_at 256 e_stand] := hD
  obtain ⟨ha, hf⟩ := h
  refine lv_if_ne (tgt := 14) hx hb dX7_teachingSet_8 (by decide) (fun hc => ?_) (fun hc => ?_)
  · have h := ha hc
    clear ha hf
    refine lv_aload_n hx hb dX7_teachingSet_14 rfl (lv_at hl 0 rfl) ?_
    refine va_get (D := G) (ci := 7) (v := .ref e_a) (C := RX7) (T := TX7) (N := 10) hx hb hts i_X7 hown hK.1 hP 0 rfl rfl 5 (by decide) f_40 (fun _ h9 => h9) rfl dX7_teachingSet_15 ?_
    refine lv_iload_n hx hb dX7_teachingSet_18 rfl (lv_at hl 1 rfl) ?_
    refine lv_aload_n hx hb dX7_teachingSet_19 rfl (lv_at hl 0 rfl) ?_
    refine va_get (D := G) (ci := 7) (v := .ref c_a) (C := RX7) (T := TX7) (N := 10) hx hb hts i_X7 hown hK.1 hP 0 rfl rfl 0 (by decide) f_12 (fun _ h9 => h9) rfl dX7_teachingSet_20 ?_
    refine lv_iload_n hx hb dX7_teachingSet_23 rfl (lv_at hl 1 rfl) ?_
    refine k_Vi (wr := [oX7 z_a c_a s_a d_a t_a z_saved e_a p_a r_a q_a z_as, oX4 e_a c_a e_at, aI cI e_at 256 e_stand]) (wf := (fun (u : Unit) => [oX7 z_a c_a s_a d_a t_a z_saved e_a p_a r_a q_a z_as, oX0 c_a c_points c_count c_as c_ad c_ar c_ah c_ed, aI cI c_as 20 c_sets, aD cD c_ad 20 c_scores, aZ cZ c_ar 20 c_rated, aI cI c_ah 8 c_hold, oX4 e_a c_a e_at, aI cI e_at 256 e_stand])) (As := [.int x1]) (rest := [.int x1, .ref e_a]) ⟨hx, hb, hml, hown, hts⟩ hK hP hD hS hA (c_X0_others l G cI cD cZ cJ cO c_a c_as c_ad c_ar c_ah c_points c_count c_ed c_sets c_scores c_rated c_hold x1 _ h) (cwV 1 hts gX7_teachingSet_X0_others rfl rfl rfl (by decide +kernel) ⟨Nat.le_of_ble_eq_true rfl, Nat.le_of_ble_eq_true rfl⟩) 0 rfl rfl [1, 2, 3, 4, 5] [0, 6, 7] [0, 3, 4, 5, 6, 7, 1, 2] rfl rfl rfl (fun _ => rfl) rfl rfl hl.1 (Nat.le_of_ble_eq_true rfl) ⟨Nat.zero_le _, Nat.zero_le _⟩ dX7_teachingSet_24 (fun r_2 u H locs h hP hD hS => ?_)
    have hP : va_P G vwCl [oX7 z_a c_a s_a d_a t_a z_saved e_a p_a r_a q_a z_as, oX0 c_a c_points c_count c_as c_ad c_ar c_ah c_ed, aI cI c_as 20 c_sets, aD cD c_ad 20 c_scores, aZ cZ c_ar 20 c_rated, aI cI c_ah 8 c_hold, oX4 e_a c_a e_at, aI cI e_at 256 e_stand] H := hP
    have hD : va_D A [oX7 z_a c_a s_a d_a t_a z_saved e_a p_a r_a q_a z_as, oX0 c_a c_points c_count c_as c_ad c_ar c_ah c_ed, aI cI c_as 20 c_sets, aD cD c_ad 20 c_scores, aZ cZ c_ar 20 c_rated, aI cI c_ah 8 c_hold, oX4 e_a c_a e_at, aI cI e_at 256 e_stand] := hD
    refine k_Vi (wr := [oX7 z_a c_a s_a d_a t_a z_saved e_a p_a r_a q_a z_as]) (wf := (fun (u : (Nat → Int32)) => [oX7 z_a c_a s_a d_a t_a z_saved e_a p_a r_a q_a z_as, oX0 c_a c_points c_count c_as c_ad c_ar c_ah c_ed, aI cI c_as 20 c_sets, aD cD c_ad 20 c_scores, aZ cZ c_ar 20 c_rated, aI cI c_ah 8 c_hold, oX4 e_a c_a e_at, aI cI e_at 256 u])) (As := [.int x1, .int r_2]) (rest := []) ⟨hx, hb, hml, hown, hts⟩ hK hP hD hS hA (c_X4_smallest l G cI cD cZ cJ cO e_a e_at c_a c_as c_ad c_ar c_ah e_stand c_points c_count c_ed c_sets c_scores c_rated c_hold x1 r_2 _ h) (cwV 2 hts gX7_teachingSet_X4_smallest rfl rfl rfl (by decide +kernel) ⟨Nat.le_of_ble_eq_true rfl, Nat.le_of_ble_eq_true rfl⟩) 0 rfl rfl [6, 7, 1, 2, 3, 4, 5] [0] [0, 3, 4, 5, 6, 7, 1, 2] rfl rfl rfl (fun _ => rfl) rfl rfl hl.1 (Nat.le_of_ble_eq_true rfl) ⟨Nat.zero_le _, Nat.zero_le _⟩ dX7_teachingSet_27 (fun r_3 u H locs h hP hD hS => ?_)
    obtain ⟨e_stand_4, rfl⟩ : ∃ z, z = u := ⟨_, rfl⟩
    have hP : va_P G vwCl [oX7 z_a c_a s_a d_a t_a z_saved e_a p_a r_a q_a z_as, oX0 c_a c_points c_count c_as c_ad c_ar c_ah c_ed, aI cI c_as 20 c_sets, aD cD c_ad 20 c_scores, aZ cZ c_ar 20 c_rated, aI cI c_ah 8 c_hold, oX4 e_a c_a e_at, aI cI e_at 256 e_stand_4] H := hP
    have hD : va_D A [oX7 z_a c_a s_a d_a t_a z_saved e_a p_a r_a q_a z_as, oX0 c_a c_points c_count c_as c_ad c_ar c_ah c_ed, aI cI c_as 20 c_sets, aD cD c_ad 20 c_scores, aZ cZ c_ar 20 c_rated, aI cI c_ah 8 c_hold, oX4 e_a c_a e_at, aI cI e_at 256 e_stand_4] := hD
    exact hret _ e_stand_4 _ _ _ _ rfl h hP hD hS dX7_teachingSet_30
  · have h := hf hc
    clear ha hf
    refine lv_bipush (v := (-2 : Int32)) hx hb dX7_teachingSet_11 (by decide) ?_
    exact hret _ e_stand _ _ _ _ rfl h hP hD hS dX7_teachingSet_13
abbrev rm_X7_teachingSetCount : Room := { frames := 4, cells := 0, slots := 0, locals := 94 }
def wp_X7_teachingSetCount (x1 : Int32) (x2 : Int32) (c_points : Int32) (c_count : Int32) (c_sets : Nat → Int32) (c_hold : Nat → Int32) (e_stand : Nat → Int32) (Q : Int32 → (Nat → Int32) → Prop) : Prop := wp_X0_has x1 c_count (fun (r_1 : Int32) => ((¬ r_1 = 0) → wp_X0_isSize x2 c_points (fun (r_2 : Int32) => ((¬ r_2 = 0) → wp_X0_others x1 c_count (fun (r_3 : Int32) => wp_X4_countOfSize x1 r_3 x2 e_stand c_points c_count c_sets c_hold (fun (r_4 : Int32) (e_stand_5 : Nat → Int32) => Q r_4 e_stand_5))) ∧ ((r_2 = 0) → Q (-1 : Int32) e_stand))) ∧ ((r_1 = 0) → Q (-2 : Int32) e_stand))
set_option maxRecDepth 100000 in
set_option maxHeartbeats 4000000 in
theorem c_X7_teachingSetCount (l : Launch) (G : va_G) (cI cD cZ cJ cO : ClassId) (z_a c_a c_as c_ad c_ar c_ah e_a e_at s_a d_a t_a p_a r_a q_a z_as : Nat) (z_saved : Int32) (c_points : Int32) (c_count : Int32) (c_ed : Int32) (c_sets : Nat → Int32) (c_scores : Nat → UInt64) (c_rated : Nat → Int32) (c_hold : Nat → Int32) (e_stand : Nat → Int32) (x1 : Int32) (x2 : Int32) (Q : Int32 → (Nat → Int32) → Prop) (h : wp_X7_teachingSetCount x1 x2 c_points c_count c_sets c_hold e_stand Q) : CtI l yX7_teachingSetCount wsX7_teachingSetCount rm_X7_teachingSetCount G (TY cI cD cZ cJ cO) [.ref z_a, .int x1, .int x2] [oX7 z_a c_a s_a d_a t_a z_saved e_a p_a r_a q_a z_as, oX0 c_a c_points c_count c_as c_ad c_ar c_ah c_ed, aI cI c_as 20 c_sets, aD cD c_ad 20 c_scores, aZ cZ c_ar 20 c_rated, aI cI c_ah 8 c_hold, oX4 e_a c_a e_at, aI cI e_at 256 e_stand] (fun (r : Int32) (u : (Nat → Int32)) => Q r u) (fun (u : (Nat → Int32)) => [oX7 z_a c_a s_a d_a t_a z_saved e_a p_a r_a q_a z_as, oX0 c_a c_points c_count c_as c_ad c_ar c_ah c_ed, aI cI c_as 20 c_sets, aD cD c_ad 20 c_scores, aZ cZ c_ar 20 c_rated, aI cI c_ah 8 c_hold, oX4 e_a c_a e_at, aI cI e_at 256 u]) := by
  refine ct_openI (cc := cX7_teachingSetCount) (maxL := 3) (ty := .int) (by decide) rfl (Nat.le_of_ble_eq_true rfl) ?_
  intro p e s m args below meth c A Z ls hx hb hml hown hts hK hA hret hP hD hS hl
  have hown : s.vm.findClass RX7 = some m.cls := hown
  have hl : lv_has ls 3 [(0, .ref z_a), (1, .int x1), (2, .int x2)] := hl
  have f_12 := hts (.fieldLink RX7 12 "TeachingSets" "concepts" "LTeachingSets$Concepts;") (List.mem_of_getElem? (i := 1) rfl)
  have f_40 := hts (.fieldLink RX7 40 "TeachingSets" "search" "LTeachingSets$Search;") (List.mem_of_getElem? (i := 2) rfl)
  have i_X7 : ∀ w ∈ wsX70, w ∈ wsX7_teachingSetCount := fun _ h => List.mem_cons_of_mem _ (List.mem_append_left _ (List.mem_append_left _ (List.mem_append_right _ (h))))
  refine lv_aload_n hx hb dX7_teachingSetCount_0 rfl (lv_at hl 0 rfl) ?_
  refine va_get (D := G) (ci := 7) (v := .ref c_a) (C := RX7) (T := TX7) (N := 10) hx hb hts i_X7 hown hK.1 hP 0 rfl rfl 0 (by decide) f_12 (fun _ h9 => h9) rfl dX7_teachingSetCount_1 ?_
  refine lv_iload_n hx hb dX7_teachingSetCount_4 rfl (lv_at hl 1 rfl) ?_
  refine k_Vi (wr := [oX7 z_a c_a s_a d_a t_a z_saved e_a p_a r_a q_a z_as, oX4 e_a c_a e_at, aI cI e_at 256 e_stand]) (wf := (fun (u : Unit) => [oX7 z_a c_a s_a d_a t_a z_saved e_a p_a r_a q_a z_as, oX0 c_a c_points c_count c_as c_ad c_ar c_ah c_ed, aI cI c_as 20 c_sets, aD cD c_ad 20 c_scores, aZ cZ c_ar 20 c_rated, aI cI c_ah 8 c_hold, oX4 e_a c_a e_at, aI cI e_at 256 e_stand])) (As := [.int x1]) (rest := []) ⟨hx, hb, hml, hown, hts⟩ hK hP hD hS hA (c_X0_has l G cI cD cZ cJ cO c_a c_as c_ad c_ar c_ah c_points c_count c_ed c_sets c_scores c_rated c_hold x1 _ h) (cwV 1 hts gX7_teachingSetCount_X0_has rfl rfl rfl (by decide +kernel) ⟨Nat.le_of_ble_eq_true rfl, Nat.le_of_ble_eq_true rfl⟩) 0 rfl rfl [1, 2, 3, 4, 5] [0, 6, 7] [0, 3, 4, 5, 6, 7, 1, 2] rfl rfl rfl (fun _ => rfl) rfl rfl hl.1 (Nat.le_of_ble_eq_true rfl) ⟨Nat.zero_le _, Nat.zero_le _⟩ dX7_teachingSetCount_5 (fun r_1 u H locs h hP hD hS => ?_)
  have hP : va_P G vwCl [oX7 z_a c_a s_a d_a t_a z_saved e_a p_a r_a q_a z_as, oX0 c_a c_points c_count c_as c_ad c_ar c_ah c_ed, aI cI c_as 20 c_sets, aD cD c_ad 20 c_scores, aZ cZ c_ar 20 c_rated, aI cI c_ah 8 c_hold, oX4 e_a c_a e_at, aI cI e_at 256 e_stand] H := hP
  have hD : va_D A [oX7 z_a c_a s_a d_a t_a z_saved e_a p_a r_a q_a z_as, oX0 c_a c_points c_count c_as c_ad c_ar c_ah c_ed, aI cI c_as 20 c_sets, aD cD c_ad 20 c_scores, aZ cZ c_ar 20 c_rated, aI cI c_ah 8 c_hold, oX4 e_a c_a e_at, aI cI e_at 256 e_stand] := hD
  obtain ⟨ha, hf⟩ := h
  refine lv_if_ne (tgt := 14) hx hb dX7_teachingSetCount_8 (by decide) (fun hc => ?_) (fun hc => ?_)
  · have h := ha hc
    clear ha hf
    refine lv_aload_n hx hb dX7_teachingSetCount_14 rfl (lv_at hl 0 rfl) ?_
    refine va_get (D := G) (ci := 7) (v := .ref c_a) (C := RX7) (T := TX7) (N := 10) hx hb hts i_X7 hown hK.1 hP 0 rfl rfl 0 (by decide) f_12 (fun _ h9 => h9) rfl dX7_teachingSetCount_15 ?_
    refine lv_iload_n hx hb dX7_teachingSetCount_18 rfl (lv_at hl 2 rfl) ?_
    refine k_Vi (wr := [oX7 z_a c_a s_a d_a t_a z_saved e_a p_a r_a q_a z_as, oX4 e_a c_a e_at, aI cI e_at 256 e_stand]) (wf := (fun (u : Unit) => [oX7 z_a c_a s_a d_a t_a z_saved e_a p_a r_a q_a z_as, oX0 c_a c_points c_count c_as c_ad c_ar c_ah c_ed, aI cI c_as 20 c_sets, aD cD c_ad 20 c_scores, aZ cZ c_ar 20 c_rated, aI cI c_ah 8 c_hold, oX4 e_a c_a e_at, aI cI e_at 256 e_stand])) (As := [.int x2]) (rest := []) ⟨hx, hb, hml, hown, hts⟩ hK hP hD hS hA (c_X0_isSize l G cI cD cZ cJ cO c_a c_as c_ad c_ar c_ah c_points c_count c_ed c_sets c_scores c_rated c_hold x2 _ h) (cwV 1 hts gX7_teachingSetCount_X0_isSize rfl rfl rfl (by decide +kernel) ⟨Nat.le_of_ble_eq_true rfl, Nat.le_of_ble_eq_true rfl⟩) 0 rfl rfl [1, 2, 3, 4, 5] [0, 6, 7] [0, 3, 4, 5, 6, 7, 1, 2] rfl rfl rfl (fun _ => rfl) rfl rfl hl.1 (Nat.le_of_ble_eq_true rfl) ⟨Nat.zero_le _, Nat.zero_le _⟩ dX7_teachingSetCount_19 (fun r_2 u H locs h hP hD hS => ?_)
    have hP : va_P G vwCl [oX7 z_a c_a s_a d_a t_a z_saved e_a p_a r_a q_a z_as, oX0 c_a c_points c_count c_as c_ad c_ar c_ah c_ed, aI cI c_as 20 c_sets, aD cD c_ad 20 c_scores, aZ cZ c_ar 20 c_rated, aI cI c_ah 8 c_hold, oX4 e_a c_a e_at, aI cI e_at 256 e_stand] H := hP
    have hD : va_D A [oX7 z_a c_a s_a d_a t_a z_saved e_a p_a r_a q_a z_as, oX0 c_a c_points c_count c_as c_ad c_ar c_ah c_ed, aI cI c_as 20 c_sets, aD cD c_ad 20 c_scores, aZ cZ c_ar 20 c_rated, aI cI c_ah 8 c_hold, oX4 e_a c_a e_at, aI cI e_at 256 e_stand] := hD
    obtain ⟨ha, hf⟩ := h
    refine lv_if_ne (tgt := 27) hx hb dX7_teachingSetCount_22 (by decide) (fun hc => ?_) (fun hc => ?_)
    · have h := ha hc
      clear ha hf
      refine lv_aload_n hx hb dX7_teachingSetCount_27 rfl (lv_at hl 0 rfl) ?_
      refine va_get (D := G) (ci := 7) (v := .ref e_a) (C := RX7) (T := TX7) (N := 10) hx hb hts i_X7 hown hK.1 hP 0 rfl rfl 5 (by decide) f_40 (fun _ h9 => h9) rfl dX7_teachingSetCount_28 ?_
      refine lv_iload_n hx hb dX7_teachingSetCount_31 rfl (lv_at hl 1 rfl) ?_
      refine lv_aload_n hx hb dX7_teachingSetCount_32 rfl (lv_at hl 0 rfl) ?_
      refine va_get (D := G) (ci := 7) (v := .ref c_a) (C := RX7) (T := TX7) (N := 10) hx hb hts i_X7 hown hK.1 hP 0 rfl rfl 0 (by decide) f_12 (fun _ h9 => h9) rfl dX7_teachingSetCount_33 ?_
      refine lv_iload_n hx hb dX7_teachingSetCount_36 rfl (lv_at hl 1 rfl) ?_
      refine k_Vi (wr := [oX7 z_a c_a s_a d_a t_a z_saved e_a p_a r_a q_a z_as, oX4 e_a c_a e_at, aI cI e_at 256 e_stand]) (wf := (fun (u : Unit) => [oX7 z_a c_a s_a d_a t_a z_saved e_a p_a r_a q_a z_as, oX0 c_a c_points c_count c_as c_ad c_ar c_ah c_ed, aI cI c_as 20 c_sets, aD cD c_ad 20 c_scores, aZ cZ c_ar 20 c_rated, aI cI c_ah 8 c_hold, oX4 e_a c_a e_at, aI cI e_at 256 e_stand])) (As := [.int x1]) (rest := [.int x1, .ref e_a]) ⟨hx, hb, hml, hown, hts⟩ hK hP hD hS hA (c_X0_others l G cI cD cZ cJ cO c_a c_as c_ad c_ar c_ah c_points c_count c_ed c_sets c_scores c_rated c_hold x1 _ h) (cwV 1 hts gX7_teachingSetCount_X0_others rfl rfl rfl (by decide +kernel) ⟨Nat.le_of_ble_eq_true rfl, Nat.le_of_ble_eq_true rfl⟩) 0 rfl rfl [1, 2, 3, 4, 5] [0, 6, 7] [0, 3, 4, 5, 6, 7, 1, 2] rfl rfl rfl (fun _ => rfl) rfl rfl hl.1 (Nat.le_of_ble_eq_true rfl) ⟨Nat.zero_le _, Nat.zero_le _⟩ dX7_teachingSetCount_37 (fun r_3 u H locs h hP hD hS => ?_)
      have hP : va_P G vwCl [oX7 z_a c_a s_a d_a t_a z_saved e_a p_a r_a q_a z_as, oX0 c_a c_points c_count c_as c_ad c_ar c_ah c_ed, aI cI c_as 20 c_sets, aD cD c_ad 20 c_scores, aZ cZ c_ar 20 c_rated, aI cI c_ah 8 c_hold, oX4 e_a c_a e_at, aI cI e_at 256 e_stand] H := hP
      have hD : va_D A [oX7 z_a c_a s_a d_a t_a z_saved e_a p_a r_a q_a z_as, oX0 c_a c_points c_count c_as c_ad c_ar c_ah c_ed, aI cI c_as 20 c_sets, aD cD c_ad 20 c_scores, aZ cZ c_ar 20 c_rated, aI cI c_ah 8 c_hold, oX4 e_a c_a e_at, aI cI e_at 256 e_stand] := hD
      refine lv_iload_n hx hb dX7_teachingSetCount_40 rfl (lv_at hl 2 rfl) ?_
      refine k_Vi (wr := [oX7 z_a c_a s_a d_a t_a z_saved e_a p_a r_a q_a z_as]) (wf := (fun (u : (Nat → Int32)) => [oX7 z_a c_a s_a d_a t_a z_saved e_a p_a r_a q_a z_as, oX0 c_a c_points c_count c_as c_ad c_ar c_ah c_ed, aI cI c_as 20 c_sets, aD cD c_ad 20 c_scores, aZ cZ c_ar 20 c_rated, aI cI c_ah 8 c_hold, oX4 e_a c_a e_at, aI cI e_at 256 u])) (As := [.int x1, .int r_3, .int x2]) (rest := []) ⟨hx, hb, hml, hown, hts⟩ hK hP hD hS hA (c_X4_countOfSize l G cI cD cZ cJ cO e_a e_at c_a c_as c_ad c_ar c_ah e_stand c_points c_count c_ed c_sets c_scores c_rated c_hold x1 r_3 x2 _ h) (cwV 3 hts gX7_teachingSetCount_X4_countOfSize rfl rfl rfl (by decide +kernel) ⟨Nat.le_of_ble_eq_true rfl, Nat.le_of_ble_eq_true rfl⟩) 0 rfl rfl [6, 7, 1, 2, 3, 4, 5] [0] [0, 3, 4, 5, 6, 7, 1, 2] rfl rfl rfl (fun _ => rfl) rfl rfl hl.1 (Nat.le_of_ble_eq_true rfl) ⟨Nat.zero_le _, Nat.zero_le _⟩ dX7_teachingSetCount_41 (fun r_4 u H locs h hP hD hS => ?_)
      obtain ⟨e_stand_5, rfl⟩ : ∃ z, z = u := ⟨_, rfl⟩
      have hP : va_P G vwCl [oX7 z_a c_a s_a d_a t_a z_saved e_a p_a r_a q_a z_as, oX0 c_a c_points c_count c_as c_ad c_ar c_ah c_ed, aI cI c_as 20 c_sets, aD cD c_ad 20 c_scores, aZ cZ c_ar 20 c_rated, aI cI c_ah 8 c_hold, oX4 e_a c_a e_at, aI cI e_at 256 e_stand_5] H := hP
      have hD : va_D A [oX7 z_a c_a s_a d_a t_a z_saved e_a p_a r_a q_a z_as, oX0 c_a c_points c_count c_as c_ad c_ar c_ah c_ed, aI cI c_as 20 c_sets, aD cD c_ad 20 c_scores, aZ cZ c_ar 20 c_rated, aI cI c_ah 8 c_hold, oX4 e_a c_a e_at, aI cI e_at 256 e_stand_5] := hD
      exact hret _ e_stand_5 _ _ _ _ rfl h hP hD hS dX7_teachingSetCount_44
    · have h := hf hc
      clear ha hf
      refine lv_iconst (v := (-1 : Int32)) hx hb dX7_teachingSetCount_25 (by decide) ?_
      exact hret _ e_stand _ _ _ _ rfl h hP hD hS dX7_teachingSetCount_26
  · have h := hf hc
    clear ha hf
    refine lv_bipush (v := (-2 : Int32)) hx hb dX7_teachingSetCount_11 (by decide) ?_
    exact hret _ e_stand _ _ _ _ rfl h hP hD hS dX7_teachingSetCount_13
abbrev rm_X7_teachingDimension : Room := { frames := 5, cells := 0, slots := 0, locals := 114 }
def wp_X7_teachingDimension_b32 (x1 : Int32) (c_points : Int32) (c_count : Int32) (c_sets : Nat → Int32) (c_hold : Nat → Int32) (Q : Int32 → (Nat → Int32) → Prop)  : Nat → Int32 → Int32 → Int32 → (Nat → Int32) → Prop
  | 0, _, _, _, _ => False
  | n + 1, x2, x3, x4, e_stand => ((c_count ≤ x4) → ((¬ x1 = 0) → Q x3 e_stand) ∧ ((x1 = 0) → Q x2 e_stand)) ∧ ((¬ c_count ≤ x4) → wp_X4_smallestSize x4 e_stand c_points c_count c_sets c_hold (fun (r_1 : Int32) (e_stand_2 : Nat → Int32) => wp_X7_teachingDimension_b32 x1 c_points c_count c_sets c_hold Q n (if x2 < r_1 then r_1 else x2) (if r_1 < x3 then r_1 else x3) (x4 + (1 : Int32)) e_stand_2))
def wp_X7_teachingDimension (x1 : Int32) (c_points : Int32) (c_count : Int32) (c_sets : Nat → Int32) (c_hold : Nat → Int32) (e_stand : Nat → Int32) (Q : Int32 → (Nat → Int32) → Prop) : Prop := ((x1 < 0) → Q (-1 : Int32) e_stand) ∧ ((¬ x1 < 0) → ((x1 ≤ (1 : Int32)) → ((¬ c_count = 0) → ∃ j32, wp_X7_teachingDimension_b32 x1 c_points c_count c_sets c_hold Q j32 (0 : Int32) (8 : Int32) (0 : Int32) e_stand) ∧ ((c_count = 0) → Q (-7 : Int32) e_stand)) ∧ ((¬ x1 ≤ (1 : Int32)) → Q (-1 : Int32) e_stand))
set_option maxRecDepth 100000 in
set_option maxHeartbeats 4000000 in
theorem c_X7_teachingDimension (l : Launch) (G : va_G) (cI cD cZ cJ cO : ClassId) (z_a c_a c_as c_ad c_ar c_ah e_a e_at s_a d_a t_a p_a r_a q_a z_as : Nat) (z_saved : Int32) (c_points : Int32) (c_count : Int32) (c_ed : Int32) (c_sets : Nat → Int32) (c_scores : Nat → UInt64) (c_rated : Nat → Int32) (c_hold : Nat → Int32) (e_stand : Nat → Int32) (x1 : Int32) (Q : Int32 → (Nat → Int32) → Prop) (h : wp_X7_teachingDimension x1 c_points c_count c_sets c_hold e_stand Q) : CtI l yX7_teachingDimension wsX7_teachingDimension rm_X7_teachingDimension G (TY cI cD cZ cJ cO) [.ref z_a, .int x1] [oX7 z_a c_a s_a d_a t_a z_saved e_a p_a r_a q_a z_as, oX0 c_a c_points c_count c_as c_ad c_ar c_ah c_ed, aI cI c_as 20 c_sets, aD cD c_ad 20 c_scores, aZ cZ c_ar 20 c_rated, aI cI c_ah 8 c_hold, oX4 e_a c_a e_at, aI cI e_at 256 e_stand] (fun (r : Int32) (u : (Nat → Int32)) => Q r u) (fun (u : (Nat → Int32)) => [oX7 z_a c_a s_a d_a t_a z_saved e_a p_a r_a q_a z_as, oX0 c_a c_points c_count c_as c_ad c_ar c_ah c_ed, aI cI c_as 20 c_sets, aD cD c_ad 20 c_scores, aZ cZ c_ar 20 c_rated, aI cI c_ah 8 c_hold, oX4 e_a c_a e_at, aI cI e_at 256 u]) := by
  refine ct_openI (cc := cX7_teachingDimension) (maxL := 6) (ty := .int) (by decide) rfl (Nat.le_of_ble_eq_true rfl) ?_
  intro p e s m args below meth c A Z ls hx hb hml hown hts hK hA hret hP hD hS hl
  have hown : s.vm.findClass RX7 = some m.cls := hown
  have hl : lv_has ls 6 [(0, .ref z_a), (1, .int x1)] := hl
  have f_12 := hts (.fieldLink RX7 12 "TeachingSets" "concepts" "LTeachingSets$Concepts;") (List.mem_of_getElem? (i := 1) rfl)
  have f_96 := hts (.fieldLink RX7 96 "TeachingSets$Concepts" "count" "I") (List.mem_of_getElem? (i := 2) rfl)
  have f_40 := hts (.fieldLink RX7 40 "TeachingSets" "search" "LTeachingSets$Search;") (List.mem_of_getElem? (i := 3) rfl)
  have i_X7 : ∀ w ∈ wsX70, w ∈ wsX7_teachingDimension := fun _ h => List.mem_cons_of_mem _ (List.mem_append_left _ (List.mem_append_left _ (List.mem_append_right _ (h))))
  have i_X0 : ∀ w ∈ wsX00, w ∈ wsX7_teachingDimension := fun _ h => List.mem_cons_of_mem _ (List.mem_append_left _ (List.mem_append_right _ (h)))
  have b_32 : ∀ (n : Nat) (x2 : Int32) (x3 : Int32) (x4 : Int32) (e_stand : Nat → Int32), wp_X7_teachingDimension_b32 x1 c_points c_count c_sets c_hold Q n x2 x3 x4 e_stand → ∀ (H : Heap) (locs : List Loc) (ls : Array Slot), ST G A s.heap [oX7 z_a c_a s_a d_a t_a z_saved e_a p_a r_a q_a z_as, oX0 c_a c_points c_count c_as c_ad c_ar c_ah c_ed, aI cI c_as 20 c_sets, aD cD c_ad 20 c_scores, aZ cZ c_ar 20 c_rated, aI cI c_ah 8 c_hold, oX4 e_a c_a e_at, aI cI e_at 256 e_stand] 6 [(0, .ref z_a), (1, .int x1), (2, .int x2), (3, .int x3), (4, .int x4)] H locs ls → W p l e rm_X7_teachingDimension s m args below meth c H locs 0 0 Z (F0 m 32 ls []) := by
    intro n
    induction n with
    | zero =>
      intro x2 x3 x4 e_stand h; exact False.elim h
    | succ n ih =>
      intro x2 x3 x4 e_stand h H locs ls hst
      obtain ⟨hP, hD, hS, hl⟩ := hst
      refine lv_iload hx hb dX7_teachingDimension_32 (lv_at hl 4 rfl) ?_
      refine lv_aload_n hx hb dX7_teachingDimension_34 rfl (lv_at hl 0 rfl) ?_
      refine va_get (D := G) (ci := 7) (v := .ref c_a) (C := RX7) (T := TX7) (N := 10) hx hb hts i_X7 hown hK.1 hP 0 rfl rfl 0 (by decide) f_12 (fun _ h9 => h9) rfl dX7_teachingDimension_35 ?_
      refine va_get (D := G) (ci := 0) (v := .int c_count) (C := RX0) (T := TX0) (N := 7) hx hb hts i_X0 hown hK.1 hP 1 rfl rfl 1 (by decide) f_96 (fun _ h9 => h9) rfl dX7_teachingDimension_38 ?_
      obtain ⟨ha, hf⟩ := h
      refine lv_icmp_ge (tgt := 75) hx hb dX7_teachingDimension_41 (by decide) (fun hc => ?_) (fun hc => ?_)
      · have h := ha hc
        clear ha hf
        refine lv_iload_n hx hb dX7_teachingDimension_75 rfl (lv_at hl 1 rfl) ?_
        obtain ⟨ha, hf⟩ := h
        refine lv_if_ne (tgt := 83) hx hb dX7_teachingDimension_76 (by decide) (fun hc => ?_) (fun hc => ?_)
        · have h := ha hc
          clear ha hf
          refine lv_iload_n hx hb dX7_teachingDimension_83 rfl (lv_at hl 3 rfl) ?_
          exact hret _ e_stand _ _ _ _ rfl h hP hD hS dX7_teachingDimension_84
        · have h := hf hc
          clear ha hf
          refine lv_iload_n hx hb dX7_teachingDimension_79 rfl (lv_at hl 2 rfl) ?_
          refine lv_goto (tgt := 84) hx hb dX7_teachingDimension_80 (by decide) ?_
          exact hret _ e_stand _ _ _ _ rfl h hP hD hS dX7_teachingDimension_84
      · have h := hf hc
        clear ha hf
        refine lv_aload_n hx hb dX7_teachingDimension_44 rfl (lv_at hl 0 rfl) ?_
        refine va_get (D := G) (ci := 7) (v := .ref e_a) (C := RX7) (T := TX7) (N := 10) hx hb hts i_X7 hown hK.1 hP 0 rfl rfl 5 (by decide) f_40 (fun _ h9 => h9) rfl dX7_teachingDimension_45 ?_
        refine lv_iload hx hb dX7_teachingDimension_48 (lv_at hl 4 rfl) ?_
        refine k_Vi (wr := [oX7 z_a c_a s_a d_a t_a z_saved e_a p_a r_a q_a z_as]) (wf := (fun (u : (Nat → Int32)) => [oX7 z_a c_a s_a d_a t_a z_saved e_a p_a r_a q_a z_as, oX0 c_a c_points c_count c_as c_ad c_ar c_ah c_ed, aI cI c_as 20 c_sets, aD cD c_ad 20 c_scores, aZ cZ c_ar 20 c_rated, aI cI c_ah 8 c_hold, oX4 e_a c_a e_at, aI cI e_at 256 u])) (As := [.int x4]) (rest := []) ⟨hx, hb, hml, hown, hts⟩ hK hP hD hS hA (c_X4_smallestSize l G cI cD cZ cJ cO e_a e_at c_a c_as c_ad c_ar c_ah e_stand c_points c_count c_ed c_sets c_scores c_rated c_hold x4 _ h) (cwV 1 hts gX7_teachingDimension_X4_smallestSize rfl rfl rfl (by decide +kernel) ⟨Nat.le_of_ble_eq_true rfl, Nat.le_of_ble_eq_true rfl⟩) 0 rfl rfl [6, 7, 1, 2, 3, 4, 5] [0] [0, 3, 4, 5, 6, 7, 1, 2] rfl rfl rfl (fun _ => rfl) rfl rfl hl.1 (Nat.le_of_ble_eq_true rfl) ⟨Nat.zero_le _, Nat.zero_le _⟩ dX7_teachingDimension_50 (fun r_1 u H locs h hP hD hS => ?_)
        obtain ⟨e_stand_2, rfl⟩ : ∃ z, z = u := ⟨_, rfl⟩
        have hP : va_P G vwCl [oX7 z_a c_a s_a d_a t_a z_saved e_a p_a r_a q_a z_as, oX0 c_a c_points c_count c_as c_ad c_ar c_ah c_ed, aI cI c_as 20 c_sets, aD cD c_ad 20 c_scores, aZ cZ c_ar 20 c_rated, aI cI c_ah 8 c_hold, oX4 e_a c_a e_at, aI cI e_at 256 e_stand_2] H := hP
        have hD : va_D A [oX7 z_a c_a s_a d_a t_a z_saved e_a p_a r_a q_a z_as, oX0 c_a c_points c_count c_as c_ad c_ar c_ah c_ed, aI cI c_as 20 c_sets, aD cD c_ad 20 c_scores, aZ cZ c_ar 20 c_rated, aI cI c_ah 8 c_hold, oX4 e_a c_a e_at, aI cI e_at 256 e_stand_2] := hD
        refine lv_istore (lv' := [(5, .int r_1), (0, .ref z_a), (1, .int x1), (2, .int x2), (3, .int x3), (4, .int x4)]) hx hb dX7_teachingDimension_53 hl (by decide) rfl (fun ls hl => ?_)
        refine lv_iload_n hx hb dX7_teachingDimension_55 rfl (lv_at hl 3 rfl) ?_
        refine lv_iload hx hb dX7_teachingDimension_56 (lv_at hl 0 rfl) ?_
        refine va_mmax hx hb (hml.trans hl.1.symm) hown (hts _ (List.mem_of_getElem? (i := 4) rfl)) (hts _ (List.mem_of_getElem? (i := 5) rfl)) (hts _ (List.mem_of_getElem? (i := 6) rfl)) (hts _ (List.mem_of_getElem? (i := 7) rfl)) (Nat.le_of_ble_eq_true rfl) (Nat.le_of_ble_eq_true rfl) (Nat.zero_le _) (Nat.zero_le _) dX7_teachingDimension_58 ?_
        refine lv_istore_n (lv' := [(2, .int (if x2 < r_1 then r_1 else x2)), (5, .int r_1), (0, .ref z_a), (1, .int x1), (3, .int x3), (4, .int x4)]) hx hb dX7_teachingDimension_61 rfl hl (by decide) rfl (fun ls hl => ?_)
        refine lv_iload_n hx hb dX7_teachingDimension_62 rfl (lv_at hl 4 rfl) ?_
        refine lv_iload hx hb dX7_teachingDimension_63 (lv_at hl 1 rfl) ?_
        refine va_mmin hx hb (hml.trans hl.1.symm) hown (hts _ (List.mem_of_getElem? (i := 8) rfl)) (hts _ (List.mem_of_getElem? (i := 9) rfl)) (hts _ (List.mem_of_getElem? (i := 6) rfl)) (hts _ (List.mem_of_getElem? (i := 10) rfl)) (Nat.le_of_ble_eq_true rfl) (Nat.le_of_ble_eq_true rfl) (Nat.zero_le _) (Nat.zero_le _) dX7_teachingDimension_65 ?_
        refine lv_istore_n (lv' := [(3, .int (if r_1 < x3 then r_1 else x3)), (2, .int (if x2 < r_1 then r_1 else x2)), (5, .int r_1), (0, .ref z_a), (1, .int x1), (4, .int x4)]) hx hb dX7_teachingDimension_68 rfl hl (by decide) rfl (fun ls hl => ?_)
        refine lv_iinc (v := (x4 + (1 : Int32))) (lv' := [(4, .int (x4 + (1 : Int32))), (3, .int (if r_1 < x3 then r_1 else x3)), (2, .int (if x2 < r_1 then r_1 else x2)), (5, .int r_1), (0, .ref z_a), (1, .int x1)]) hx hb dX7_teachingDimension_69 hl (k := 5) rfl rfl (by decide) rfl (fun ls hl => ?_)
        refine lv_goto (tgt := 32) hx hb dX7_teachingDimension_72 (by decide) ?_
        exact ih _ _ _ _ h _ _ _ ⟨hP, hD, hS, lv_sub hl [4, 5, 2, 1, 0] rfl⟩
  refine lv_iload_n hx hb dX7_teachingDimension_0 rfl (lv_at hl 1 rfl) ?_
  obtain ⟨ha, hf⟩ := h
  refine lv_if_lt (tgt := 9) hx hb dX7_teachingDimension_1 (by decide) (fun hc => ?_) (fun hc => ?_)
  · have h := ha hc
    clear ha hf
    refine lv_iconst (v := (-1 : Int32)) hx hb dX7_teachingDimension_9 (by decide) ?_
    exact hret _ e_stand _ _ _ _ rfl h hP hD hS dX7_teachingDimension_10
  · have h := hf hc
    clear ha hf
    refine lv_iload_n hx hb dX7_teachingDimension_4 rfl (lv_at hl 1 rfl) ?_
    refine lv_iconst (v := (1 : Int32)) hx hb dX7_teachingDimension_5 (by decide) ?_
    obtain ⟨ha, hf⟩ := h
    refine lv_icmp_le (tgt := 11) hx hb dX7_teachingDimension_6 (by decide) (fun hc => ?_) (fun hc => ?_)
    · have h := ha hc
      clear ha hf
      refine lv_aload_n hx hb dX7_teachingDimension_11 rfl (lv_at hl 0 rfl) ?_
      refine va_get (D := G) (ci := 7) (v := .ref c_a) (C := RX7) (T := TX7) (N := 10) hx hb hts i_X7 hown hK.1 hP 0 rfl rfl 0 (by decide) f_12 (fun _ h9 => h9) rfl dX7_teachingDimension_12 ?_
      refine va_get (D := G) (ci := 0) (v := .int c_count) (C := RX0) (T := TX0) (N := 7) hx hb hts i_X0 hown hK.1 hP 1 rfl rfl 1 (by decide) f_96 (fun _ h9 => h9) rfl dX7_teachingDimension_15 ?_
      obtain ⟨ha, hf⟩ := h
      refine lv_if_ne (tgt := 24) hx hb dX7_teachingDimension_18 (by decide) (fun hc => ?_) (fun hc => ?_)
      · have h := ha hc
        clear ha hf
        refine lv_iconst (v := (0 : Int32)) hx hb dX7_teachingDimension_24 (by decide) ?_
        refine lv_istore_n (lv' := [(2, .int (0 : Int32)), (0, .ref z_a), (1, .int x1)]) hx hb dX7_teachingDimension_25 rfl hl (by decide) rfl (fun ls hl => ?_)
        refine lv_bipush (v := (8 : Int32)) hx hb dX7_teachingDimension_26 (by decide) ?_
        refine lv_istore_n (lv' := [(3, .int (8 : Int32)), (2, .int (0 : Int32)), (0, .ref z_a), (1, .int x1)]) hx hb dX7_teachingDimension_28 rfl hl (by decide) rfl (fun ls hl => ?_)
        refine lv_iconst (v := (0 : Int32)) hx hb dX7_teachingDimension_29 (by decide) ?_
        refine lv_istore (lv' := [(4, .int (0 : Int32)), (3, .int (8 : Int32)), (2, .int (0 : Int32)), (0, .ref z_a), (1, .int x1)]) hx hb dX7_teachingDimension_30 hl (by decide) rfl (fun ls hl => ?_)
        obtain ⟨j, h⟩ := h
        exact b_32  j _ _ _ _ h _ _ _ ⟨hP, hD, hS, lv_sub hl [3, 4, 2, 1, 0] rfl⟩
      · have h := hf hc
        clear ha hf
        refine lv_bipush (v := (-7 : Int32)) hx hb dX7_teachingDimension_21 (by decide) ?_
        exact hret _ e_stand _ _ _ _ rfl h hP hD hS dX7_teachingDimension_23
    · have h := hf hc
      clear ha hf
      refine lv_iconst (v := (-1 : Int32)) hx hb dX7_teachingDimension_9 (by decide) ?_
      exact hret _ e_stand _ _ _ _ rfl h hP hD hS dX7_teachingDimension_10
abbrev rm_X7_averageDimension : Room := { frames := 5, cells := 0, slots := 0, locals := 114 }
def wp_X7_averageDimension_b28 (x1 : Int32) (c_points : Int32) (c_count : Int32) (c_sets : Nat → Int32) (c_hold : Nat → Int32) (Q : Int32 → (Nat → Int32) → Prop)  : Nat → Int32 → Int32 → (Nat → Int32) → Prop
  | 0, _, _, _ => False
  | n + 1, x2, x3, e_stand => ((c_count ≤ x3) → wp_X7_reducedPart x2 c_count x1 (fun (r_1 : Int32) => Q r_1 e_stand)) ∧ ((¬ c_count ≤ x3) → wp_X4_smallestSize x3 e_stand c_points c_count c_sets c_hold (fun (r_2 : Int32) (e_stand_3 : Nat → Int32) => wp_X7_averageDimension_b28 x1 c_points c_count c_sets c_hold Q n (x2 + r_2) (x3 + (1 : Int32)) e_stand_3))
def wp_X7_averageDimension (x1 : Int32) (c_points : Int32) (c_count : Int32) (c_sets : Nat → Int32) (c_hold : Nat → Int32) (e_stand : Nat → Int32) (Q : Int32 → (Nat → Int32) → Prop) : Prop := ((x1 < 0) → Q (-1 : Int32) e_stand) ∧ ((¬ x1 < 0) → ((x1 ≤ (1 : Int32)) → ((¬ c_count = 0) → ∃ j28, wp_X7_averageDimension_b28 x1 c_points c_count c_sets c_hold Q j28 (0 : Int32) (0 : Int32) e_stand) ∧ ((c_count = 0) → Q (-7 : Int32) e_stand)) ∧ ((¬ x1 ≤ (1 : Int32)) → Q (-1 : Int32) e_stand))
set_option maxRecDepth 100000 in
set_option maxHeartbeats 4000000 in
theorem c_X7_averageDimension (l : Launch) (G : va_G) (cI cD cZ cJ cO : ClassId) (z_a c_a c_as c_ad c_ar c_ah e_a e_at s_a d_a t_a p_a r_a q_a z_as : Nat) (z_saved : Int32) (c_points : Int32) (c_count : Int32) (c_ed : Int32) (c_sets : Nat → Int32) (c_scores : Nat → UInt64) (c_rated : Nat → Int32) (c_hold : Nat → Int32) (e_stand : Nat → Int32) (x1 : Int32) (Q : Int32 → (Nat → Int32) → Prop) (h : wp_X7_averageDimension x1 c_points c_count c_sets c_hold e_stand Q) : CtI l yX7_averageDimension wsX7_averageDimension rm_X7_averageDimension G (TY cI cD cZ cJ cO) [.ref z_a, .int x1] [oX7 z_a c_a s_a d_a t_a z_saved e_a p_a r_a q_a z_as, oX0 c_a c_points c_count c_as c_ad c_ar c_ah c_ed, aI cI c_as 20 c_sets, aD cD c_ad 20 c_scores, aZ cZ c_ar 20 c_rated, aI cI c_ah 8 c_hold, oX4 e_a c_a e_at, aI cI e_at 256 e_stand] (fun (r : Int32) (u : (Nat → Int32)) => Q r u) (fun (u : (Nat → Int32)) => [oX7 z_a c_a s_a d_a t_a z_saved e_a p_a r_a q_a z_as, oX0 c_a c_points c_count c_as c_ad c_ar c_ah c_ed, aI cI c_as 20 c_sets, aD cD c_ad 20 c_scores, aZ cZ c_ar 20 c_rated, aI cI c_ah 8 c_hold, oX4 e_a c_a e_at, aI cI e_at 256 u]) := by
  refine ct_openI (cc := cX7_averageDimension) (maxL := 4) (ty := .int) (by decide) rfl (Nat.le_of_ble_eq_true rfl) ?_
  intro p e s m args below meth c A Z ls hx hb hml hown hts hK hA hret hP hD hS hl
  have hown : s.vm.findClass RX7 = some m.cls := hown
  have hl : lv_has ls 4 [(0, .ref z_a), (1, .int x1)] := hl
  have f_12 := hts (.fieldLink RX7 12 "TeachingSets" "concepts" "LTeachingSets$Concepts;") (List.mem_of_getElem? (i := 1) rfl)
  have f_96 := hts (.fieldLink RX7 96 "TeachingSets$Concepts" "count" "I") (List.mem_of_getElem? (i := 2) rfl)
  have f_40 := hts (.fieldLink RX7 40 "TeachingSets" "search" "LTeachingSets$Search;") (List.mem_of_getElem? (i := 3) rfl)
  have i_X7 : ∀ w ∈ wsX70, w ∈ wsX7_averageDimension := fun _ h => List.mem_cons_of_mem _ (List.mem_append_left _ (List.mem_append_left _ (List.mem_append_right _ (h))))
  have i_X0 : ∀ w ∈ wsX00, w ∈ wsX7_averageDimension := fun _ h => List.mem_cons_of_mem _ (List.mem_append_left _ (List.mem_append_right _ (h)))
  have b_28 : ∀ (n : Nat) (x2 : Int32) (x3 : Int32) (e_stand : Nat → Int32), wp_X7_averageDimension_b28 x1 c_points c_count c_sets c_hold Q n x2 x3 e_stand → ∀ (H : Heap) (locs : List Loc) (ls : Array Slot), ST G A s.heap [oX7 z_a c_a s_a d_a t_a z_saved e_a p_a r_a q_a z_as, oX0 c_a c_points c_count c_as c_ad c_ar c_ah c_ed, aI cI c_as 20 c_sets, aD cD c_ad 20 c_scores, aZ cZ c_ar 20 c_rated, aI cI c_ah 8 c_hold, oX4 e_a c_a e_at, aI cI e_at 256 e_stand] 4 [(0, .ref z_a), (1, .int x1), (2, .int x2), (3, .int x3)] H locs ls → W p l e rm_X7_averageDimension s m args below meth c H locs 0 0 Z (F0 m 28 ls []) := by
    intro n
    induction n with
    | zero =>
      intro x2 x3 e_stand h; exact False.elim h
    | succ n ih =>
      intro x2 x3 e_stand h H locs ls hst
      obtain ⟨hP, hD, hS, hl⟩ := hst
      refine lv_iload_n hx hb dX7_averageDimension_28 rfl (lv_at hl 3 rfl) ?_
      refine lv_aload_n hx hb dX7_averageDimension_29 rfl (lv_at hl 0 rfl) ?_
      refine va_get (D := G) (ci := 7) (v := .ref c_a) (C := RX7) (T := TX7) (N := 10) hx hb hts i_X7 hown hK.1 hP 0 rfl rfl 0 (by decide) f_12 (fun _ h9 => h9) rfl dX7_averageDimension_30 ?_
      refine va_get (D := G) (ci := 0) (v := .int c_count) (C := RX0) (T := TX0) (N := 7) hx hb hts i_X0 hown hK.1 hP 1 rfl rfl 1 (by decide) f_96 (fun _ h9 => h9) rfl dX7_averageDimension_33 ?_
      obtain ⟨ha, hf⟩ := h
      refine lv_icmp_ge (tgt := 56) hx hb dX7_averageDimension_36 (by decide) (fun hc => ?_) (fun hc => ?_)
      · have h := ha hc
        clear ha hf
        refine lv_iload_n hx hb dX7_averageDimension_56 rfl (lv_at hl 2 rfl) ?_
        refine lv_aload_n hx hb dX7_averageDimension_57 rfl (lv_at hl 0 rfl) ?_
        refine va_get (D := G) (ci := 7) (v := .ref c_a) (C := RX7) (T := TX7) (N := 10) hx hb hts i_X7 hown hK.1 hP 0 rfl rfl 0 (by decide) f_12 (fun _ h9 => h9) rfl dX7_averageDimension_58 ?_
        refine va_get (D := G) (ci := 0) (v := .int c_count) (C := RX0) (T := TX0) (N := 7) hx hb hts i_X0 hown hK.1 hP 1 rfl rfl 1 (by decide) f_96 (fun _ h9 => h9) rfl dX7_averageDimension_61 ?_
        refine lv_iload_n hx hb dX7_averageDimension_64 rfl (lv_at hl 1 rfl) ?_
        refine k_Si (wr := [oX7 z_a c_a s_a d_a t_a z_saved e_a p_a r_a q_a z_as, oX0 c_a c_points c_count c_as c_ad c_ar c_ah c_ed, aI cI c_as 20 c_sets, aD cD c_ad 20 c_scores, aZ cZ c_ar 20 c_rated, aI cI c_ah 8 c_hold, oX4 e_a c_a e_at, aI cI e_at 256 e_stand]) (wf := (fun (u : Unit) => [oX7 z_a c_a s_a d_a t_a z_saved e_a p_a r_a q_a z_as, oX0 c_a c_points c_count c_as c_ad c_ar c_ah c_ed, aI cI c_as 20 c_sets, aD cD c_ad 20 c_scores, aZ cZ c_ar 20 c_rated, aI cI c_ah 8 c_hold, oX4 e_a c_a e_at, aI cI e_at 256 e_stand])) (As := [.int x2, .int c_count, .int x1]) (rest := []) ⟨hx, hb, hml, hown, hts⟩ hK hP hD hS hA (c_X7_reducedPart l G cI cD cZ cJ cO x2 c_count x1 _ h) (va_cwS 3 hts gX7_averageDimension_X7_reducedPart rfl rfl rfl (by decide +kernel) ⟨Nat.le_of_ble_eq_true rfl, Nat.le_of_ble_eq_true rfl⟩) [] [0, 1, 2, 3, 4, 5, 6, 7] [0, 1, 2, 3, 4, 5, 6, 7] rfl rfl rfl (fun _ => rfl) rfl rfl hl.1 (Nat.le_of_ble_eq_true rfl) ⟨Nat.zero_le _, Nat.zero_le _⟩ dX7_averageDimension_65 (fun r_1 u H locs h hP hD hS => ?_)
        have hP : va_P G vwCl [oX7 z_a c_a s_a d_a t_a z_saved e_a p_a r_a q_a z_as, oX0 c_a c_points c_count c_as c_ad c_ar c_ah c_ed, aI cI c_as 20 c_sets, aD cD c_ad 20 c_scores, aZ cZ c_ar 20 c_rated, aI cI c_ah 8 c_hold, oX4 e_a c_a e_at, aI cI e_at 256 e_stand] H := hP
        have hD : va_D A [oX7 z_a c_a s_a d_a t_a z_saved e_a p_a r_a q_a z_as, oX0 c_a c_points c_count c_as c_ad c_ar c_ah c_ed, aI cI c_as 20 c_sets, aD cD c_ad 20 c_scores, aZ cZ c_ar 20 c_rated, aI cI c_ah 8 c_hold, oX4 e_a c_a e_at, aI cI e_at 256 e_stand] := hD
        exact hret _ e_stand _ _ _ _ rfl h hP hD hS dX7_averageDimension_68
      · have h := hf hc
        clear ha hf
        refine lv_iload_n hx hb dX7_averageDimension_39 rfl (lv_at hl 2 rfl) ?_
        refine lv_aload_n hx hb dX7_averageDimension_40 rfl (lv_at hl 0 rfl) ?_
        refine va_get (D := G) (ci := 7) (v := .ref e_a) (C := RX7) (T := TX7) (N := 10) hx hb hts i_X7 hown hK.1 hP 0 rfl rfl 5 (by decide) f_40 (fun _ h9 => h9) rfl dX7_averageDimension_41 ?_
        refine lv_iload_n hx hb dX7_averageDimension_44 rfl (lv_at hl 3 rfl) ?_
        refine k_Vi (wr := [oX7 z_a c_a s_a d_a t_a z_saved e_a p_a r_a q_a z_as]) (wf := (fun (u : (Nat → Int32)) => [oX7 z_a c_a s_a d_a t_a z_saved e_a p_a r_a q_a z_as, oX0 c_a c_points c_count c_as c_ad c_ar c_ah c_ed, aI cI c_as 20 c_sets, aD cD c_ad 20 c_scores, aZ cZ c_ar 20 c_rated, aI cI c_ah 8 c_hold, oX4 e_a c_a e_at, aI cI e_at 256 u])) (As := [.int x3]) (rest := [.int x2]) ⟨hx, hb, hml, hown, hts⟩ hK hP hD hS hA (c_X4_smallestSize l G cI cD cZ cJ cO e_a e_at c_a c_as c_ad c_ar c_ah e_stand c_points c_count c_ed c_sets c_scores c_rated c_hold x3 _ h) (cwV 1 hts gX7_averageDimension_X4_smallestSize rfl rfl rfl (by decide +kernel) ⟨Nat.le_of_ble_eq_true rfl, Nat.le_of_ble_eq_true rfl⟩) 0 rfl rfl [6, 7, 1, 2, 3, 4, 5] [0] [0, 3, 4, 5, 6, 7, 1, 2] rfl rfl rfl (fun _ => rfl) rfl rfl hl.1 (Nat.le_of_ble_eq_true rfl) ⟨Nat.zero_le _, Nat.zero_le _⟩ dX7_averageDimension_45 (fun r_2 u H locs h hP hD hS => ?_)
        obtain ⟨e_stand_3, rfl⟩ : ∃ z, z = u := ⟨_, rfl⟩
        have hP : va_P G vwCl [oX7 z_a c_a s_a d_a t_a z_saved e_a p_a r_a q_a z_as, oX0 c_a c_points c_count c_as c_ad c_ar c_ah c_ed, aI cI c_as 20 c_sets, aD cD c_ad 20 c_scores, aZ cZ c_ar 20 c_rated, aI cI c_ah 8 c_hold, oX4 e_a c_a e_at, aI cI e_at 256 e_stand_3] H := hP
        have hD : va_D A [oX7 z_a c_a s_a d_a t_a z_saved e_a p_a r_a q_a z_as, oX0 c_a c_points c_count c_as c_ad c_ar c_ah c_ed, aI cI c_as 20 c_sets, aD cD c_ad 20 c_scores, aZ cZ c_ar 20 c_rated, aI cI c_ah 8 c_hold, oX4 e_a c_a e_at, aI cI e_at 256 e_stand_3] := hD
        refine lv_iadd hx hb dX7_averageDimension_48 ?_
        refine lv_istore_n (lv' := [(2, .int (x2 + r_2)), (0, .ref z_a), (1, .int x1), (3, .int x3)]) hx hb dX7_averageDimension_49 rfl hl (by decide) rfl (fun ls hl => ?_)
        refine lv_iinc (v := (x3 + (1 : Int32))) (lv' := [(3, .int (x3 + (1 : Int32))), (2, .int (x2 + r_2)), (0, .ref z_a), (1, .int x1)]) hx hb dX7_averageDimension_50 hl (k := 3) rfl rfl (by decide) rfl (fun ls hl => ?_)
        refine lv_goto (tgt := 28) hx hb dX7_averageDimension_53 (by decide) ?_
        exact ih _ _ _ h _ _ _ ⟨hP, hD, hS, lv_sub hl [2, 3, 1, 0] rfl⟩
  refine lv_iload_n hx hb dX7_averageDimension_0 rfl (lv_at hl 1 rfl) ?_
  obtain ⟨ha, hf⟩ := h
  refine lv_if_lt (tgt := 9) hx hb dX7_averageDimension_1 (by decide) (fun hc => ?_) (fun hc => ?_)
  · have h := ha hc
    clear ha hf
    refine lv_iconst (v := (-1 : Int32)) hx hb dX7_averageDimension_9 (by decide) ?_
    exact hret _ e_stand _ _ _ _ rfl h hP hD hS dX7_averageDimension_10
  · have h := hf hc
    clear ha hf
    refine lv_iload_n hx hb dX7_averageDimension_4 rfl (lv_at hl 1 rfl) ?_
    refine lv_iconst (v := (1 : Int32)) hx hb dX7_averageDimension_5 (by decide) ?_
    obtain ⟨ha, hf⟩ := h
    refine lv_icmp_le (tgt := 11) hx hb dX7_averageDimension_6 (by decide) (fun hc => ?_) (fun hc => ?_)
    · have h := ha hc
      clear ha hf
      refine lv_aload_n hx hb dX7_averageDimension_11 rfl (lv_at hl 0 rfl) ?_
      refine va_get (D := G) (ci := 7) (v := .ref c_a) (C := RX7) (T := TX7) (N := 10) hx hb hts i_X7 hown hK.1 hP 0 rfl rfl 0 (by decide) f_12 (fun _ h9 => h9) rfl dX7_averageDimension_12 ?_
      refine va_get (D := G) (ci := 0) (v := .int c_count) (C := RX0) (T := TX0) (N := 7) hx hb hts i_X0 hown hK.1 hP 1 rfl rfl 1 (by decide) f_96 (fun _ h9 => h9) rfl dX7_averageDimension_15 ?_
      obtain ⟨ha, hf⟩ := h
      refine lv_if_ne (tgt := 24) hx hb dX7_averageDimension_18 (by decide) (fun hc => ?_) (fun hc => ?_)
      · have h := ha hc
        clear ha hf
        refine lv_iconst (v := (0 : Int32)) hx hb dX7_averageDimension_24 (by decide) ?_
        refine lv_istore_n (lv' := [(2, .int (0 : Int32)), (0, .ref z_a), (1, .int x1)]) hx hb dX7_averageDimension_25 rfl hl (by decide) rfl (fun ls hl => ?_)
        refine lv_iconst (v := (0 : Int32)) hx hb dX7_averageDimension_26 (by decide) ?_
        refine lv_istore_n (lv' := [(3, .int (0 : Int32)), (2, .int (0 : Int32)), (0, .ref z_a), (1, .int x1)]) hx hb dX7_averageDimension_27 rfl hl (by decide) rfl (fun ls hl => ?_)
        obtain ⟨j, h⟩ := h
        exact b_28  j _ _ _ h _ _ _ ⟨hP, hD, hS, lv_sub hl [2, 3, 1, 0] rfl⟩
      · have h := hf hc
        clear ha hf
        refine lv_bipush (v := (-7 : Int32)) hx hb dX7_averageDimension_21 (by decide) ?_
        exact hret _ e_stand _ _ _ _ rfl h hP hD hS dX7_averageDimension_23
    · have h := hf hc
      clear ha hf
      refine lv_iconst (v := (-1 : Int32)) hx hb dX7_averageDimension_9 (by decide) ?_
      exact hret _ e_stand _ _ _ _ rfl h hP hD hS dX7_averageDimension_10
abbrev rm_X7_preferenceSet : Room := { frames := 4, cells := 0, slots := 0, locals := 93 }
def wp_X7_preferenceSet_b25 (x1 : Int32) (c_points : Int32) (c_count : Int32) (c_sets : Nat → Int32) (c_scores : Nat → UInt64) (c_rated : Nat → Int32) (c_hold : Nat → Int32) (Q : Int32 → (Nat → Int32) → Prop)  : Nat → Int32 → Int32 → (Nat → Int32) → Prop
  | 0, _, _, _ => False
  | n + 1, x2, x3, e_stand => ((c_count ≤ x3) → wp_X4_smallest x1 x2 e_stand c_points c_count c_sets c_hold (fun (r_3 : Int32) (e_stand_4 : Nat → Int32) => Q r_3 e_stand_4)) ∧ ((¬ c_count ≤ x3) → wp_X0_isLess x3 x1 c_scores c_rated (fun (r_5 : Int32) => ((r_5 = 0) → wp_X7_preferenceSet_b25 x1 c_points c_count c_sets c_scores c_rated c_hold Q n x2 (x3 + (1 : Int32)) e_stand) ∧ ((¬ r_5 = 0) → wp_X7_preferenceSet_b25 x1 c_points c_count c_sets c_scores c_rated c_hold Q n (x2 &&& (((1 : Int32) <<< (x3 &&& 31)) ^^^ (-1 : Int32))) (x3 + (1 : Int32)) e_stand)))
def wp_X7_preferenceSet (x1 : Int32) (c_points : Int32) (c_count : Int32) (c_sets : Nat → Int32) (c_scores : Nat → UInt64) (c_rated : Nat → Int32) (c_hold : Nat → Int32) (e_stand : Nat → Int32) (Q : Int32 → (Nat → Int32) → Prop) : Prop := wp_X0_has x1 c_count (fun (r_1 : Int32) => ((¬ r_1 = 0) → wp_X0_others x1 c_count (fun (r_2 : Int32) => ∃ j25, wp_X7_preferenceSet_b25 x1 c_points c_count c_sets c_scores c_rated c_hold Q j25 r_2 (0 : Int32) e_stand)) ∧ ((r_1 = 0) → Q (-2 : Int32) e_stand))
set_option maxRecDepth 100000 in
set_option maxHeartbeats 4000000 in
theorem c_X7_preferenceSet (l : Launch) (G : va_G) (cI cD cZ cJ cO : ClassId) (z_a c_a c_as c_ad c_ar c_ah e_a e_at s_a d_a t_a p_a r_a q_a z_as : Nat) (z_saved : Int32) (c_points : Int32) (c_count : Int32) (c_ed : Int32) (c_sets : Nat → Int32) (c_scores : Nat → UInt64) (c_rated : Nat → Int32) (c_hold : Nat → Int32) (e_stand : Nat → Int32) (x1 : Int32) (Q : Int32 → (Nat → Int32) → Prop) (h : wp_X7_preferenceSet x1 c_points c_count c_sets c_scores c_rated c_hold e_stand Q) : CtI l yX7_preferenceSet wsX7_preferenceSet rm_X7_preferenceSet G (TY cI cD cZ cJ cO) [.ref z_a, .int x1] [oX7 z_a c_a s_a d_a t_a z_saved e_a p_a r_a q_a z_as, oX0 c_a c_points c_count c_as c_ad c_ar c_ah c_ed, aI cI c_as 20 c_sets, aD cD c_ad 20 c_scores, aZ cZ c_ar 20 c_rated, aI cI c_ah 8 c_hold, oX4 e_a c_a e_at, aI cI e_at 256 e_stand] (fun (r : Int32) (u : (Nat → Int32)) => Q r u) (fun (u : (Nat → Int32)) => [oX7 z_a c_a s_a d_a t_a z_saved e_a p_a r_a q_a z_as, oX0 c_a c_points c_count c_as c_ad c_ar c_ah c_ed, aI cI c_as 20 c_sets, aD cD c_ad 20 c_scores, aZ cZ c_ar 20 c_rated, aI cI c_ah 8 c_hold, oX4 e_a c_a e_at, aI cI e_at 256 u]) := by
  refine ct_openI (cc := cX7_preferenceSet) (maxL := 4) (ty := .int) (by decide) rfl (Nat.le_of_ble_eq_true rfl) ?_
  intro p e s m args below meth c A Z ls hx hb hml hown hts hK hA hret hP hD hS hl
  have hown : s.vm.findClass RX7 = some m.cls := hown
  have hl : lv_has ls 4 [(0, .ref z_a), (1, .int x1)] := hl
  have f_12 := hts (.fieldLink RX7 12 "TeachingSets" "concepts" "LTeachingSets$Concepts;") (List.mem_of_getElem? (i := 1) rfl)
  have f_96 := hts (.fieldLink RX7 96 "TeachingSets$Concepts" "count" "I") (List.mem_of_getElem? (i := 2) rfl)
  have f_40 := hts (.fieldLink RX7 40 "TeachingSets" "search" "LTeachingSets$Search;") (List.mem_of_getElem? (i := 3) rfl)
  have i_X7 : ∀ w ∈ wsX70, w ∈ wsX7_preferenceSet := fun _ h => List.mem_cons_of_mem _ (List.mem_append_left _ (List.mem_append_left _ (List.mem_append_right _ (h))))
  have i_X0 : ∀ w ∈ wsX00, w ∈ wsX7_preferenceSet := fun _ h => List.mem_cons_of_mem _ (List.mem_append_left _ (List.mem_append_right _ (h)))
  have b_25 : ∀ (n : Nat) (x2 : Int32) (x3 : Int32) (e_stand : Nat → Int32), wp_X7_preferenceSet_b25 x1 c_points c_count c_sets c_scores c_rated c_hold Q n x2 x3 e_stand → ∀ (H : Heap) (locs : List Loc) (ls : Array Slot), ST G A s.heap [oX7 z_a c_a s_a d_a t_a z_saved e_a p_a r_a q_a z_as, oX0 c_a c_points c_count c_as c_ad c_ar c_ah c_ed, aI cI c_as 20 c_sets, aD cD c_ad 20 c_scores, aZ cZ c_ar 20 c_rated, aI cI c_ah 8 c_hold, oX4 e_a c_a e_at, aI cI e_at 256 e_stand] 4 [(0, .ref z_a), (1, .int x1), (2, .int x2), (3, .int x3)] H locs ls → W p l e rm_X7_preferenceSet s m args below meth c H locs 0 0 Z (F0 m 25 ls []) := by
    intro n
    induction n with
    | zero =>
      intro x2 x3 e_stand h; exact False.elim h
    | succ n ih =>
      intro x2 x3 e_stand h H locs ls hst
      obtain ⟨hP, hD, hS, hl⟩ := hst
      refine lv_iload_n hx hb dX7_preferenceSet_25 rfl (lv_at hl 3 rfl) ?_
      refine lv_aload_n hx hb dX7_preferenceSet_26 rfl (lv_at hl 0 rfl) ?_
      refine va_get (D := G) (ci := 7) (v := .ref c_a) (C := RX7) (T := TX7) (N := 10) hx hb hts i_X7 hown hK.1 hP 0 rfl rfl 0 (by decide) f_12 (fun _ h9 => h9) rfl dX7_preferenceSet_27 ?_
      refine va_get (D := G) (ci := 0) (v := .int c_count) (C := RX0) (T := TX0) (N := 7) hx hb hts i_X0 hown hK.1 hP 1 rfl rfl 1 (by decide) f_96 (fun _ h9 => h9) rfl dX7_preferenceSet_30 ?_
      obtain ⟨ha, hf⟩ := h
      refine lv_icmp_ge (tgt := 62) hx hb dX7_preferenceSet_33 (by decide) (fun hc => ?_) (fun hc => ?_)
      · have h := ha hc
        clear ha hf
        refine lv_aload_n hx hb dX7_preferenceSet_62 rfl (lv_at hl 0 rfl) ?_
        refine va_get (D := G) (ci := 7) (v := .ref e_a) (C := RX7) (T := TX7) (N := 10) hx hb hts i_X7 hown hK.1 hP 0 rfl rfl 5 (by decide) f_40 (fun _ h9 => h9) rfl dX7_preferenceSet_63 ?_
        refine lv_iload_n hx hb dX7_preferenceSet_66 rfl (lv_at hl 1 rfl) ?_
        refine lv_iload_n hx hb dX7_preferenceSet_67 rfl (lv_at hl 2 rfl) ?_
        refine k_Vi (wr := [oX7 z_a c_a s_a d_a t_a z_saved e_a p_a r_a q_a z_as]) (wf := (fun (u : (Nat → Int32)) => [oX7 z_a c_a s_a d_a t_a z_saved e_a p_a r_a q_a z_as, oX0 c_a c_points c_count c_as c_ad c_ar c_ah c_ed, aI cI c_as 20 c_sets, aD cD c_ad 20 c_scores, aZ cZ c_ar 20 c_rated, aI cI c_ah 8 c_hold, oX4 e_a c_a e_at, aI cI e_at 256 u])) (As := [.int x1, .int x2]) (rest := []) ⟨hx, hb, hml, hown, hts⟩ hK hP hD hS hA (c_X4_smallest l G cI cD cZ cJ cO e_a e_at c_a c_as c_ad c_ar c_ah e_stand c_points c_count c_ed c_sets c_scores c_rated c_hold x1 x2 _ h) (cwV 2 hts gX7_preferenceSet_X4_smallest rfl rfl rfl (by decide +kernel) ⟨Nat.le_of_ble_eq_true rfl, Nat.le_of_ble_eq_true rfl⟩) 0 rfl rfl [6, 7, 1, 2, 3, 4, 5] [0] [0, 3, 4, 5, 6, 7, 1, 2] rfl rfl rfl (fun _ => rfl) rfl rfl hl.1 (Nat.le_of_ble_eq_true rfl) ⟨Nat.zero_le _, Nat.zero_le _⟩ dX7_preferenceSet_68 (fun r_3 u H locs h hP hD hS => ?_)
        obtain ⟨e_stand_4, rfl⟩ : ∃ z, z = u := ⟨_, rfl⟩
        have hP : va_P G vwCl [oX7 z_a c_a s_a d_a t_a z_saved e_a p_a r_a q_a z_as, oX0 c_a c_points c_count c_as c_ad c_ar c_ah c_ed, aI cI c_as 20 c_sets, aD cD c_ad 20 c_scores, aZ cZ c_ar 20 c_rated, aI cI c_ah 8 c_hold, oX4 e_a c_a e_at, aI cI e_at 256 e_stand_4] H := hP
        have hD : va_D A [oX7 z_a c_a s_a d_a t_a z_saved e_a p_a r_a q_a z_as, oX0 c_a c_points c_count c_as c_ad c_ar c_ah c_ed, aI cI c_as 20 c_sets, aD cD c_ad 20 c_scores, aZ cZ c_ar 20 c_rated, aI cI c_ah 8 c_hold, oX4 e_a c_a e_at, aI cI e_at 256 e_stand_4] := hD
        exact hret _ e_stand_4 _ _ _ _ rfl h hP hD hS dX7_preferenceSet_71
      · have h := hf hc
        clear ha hf
        refine lv_aload_n hx hb dX7_preferenceSet_36 rfl (lv_at hl 0 rfl) ?_
        refine va_get (D := G) (ci := 7) (v := .ref c_a) (C := RX7) (T := TX7) (N := 10) hx hb hts i_X7 hown hK.1 hP 0 rfl rfl 0 (by decide) f_12 (fun _ h9 => h9) rfl dX7_preferenceSet_37 ?_
        refine lv_iload_n hx hb dX7_preferenceSet_40 rfl (lv_at hl 3 rfl) ?_
        refine lv_iload_n hx hb dX7_preferenceSet_41 rfl (lv_at hl 1 rfl) ?_
        refine k_Vi (wr := [oX7 z_a c_a s_a d_a t_a z_saved e_a p_a r_a q_a z_as, oX4 e_a c_a e_at, aI cI e_at 256 e_stand]) (wf := (fun (u : Unit) => [oX7 z_a c_a s_a d_a t_a z_saved e_a p_a r_a q_a z_as, oX0 c_a c_points c_count c_as c_ad c_ar c_ah c_ed, aI cI c_as 20 c_sets, aD cD c_ad 20 c_scores, aZ cZ c_ar 20 c_rated, aI cI c_ah 8 c_hold, oX4 e_a c_a e_at, aI cI e_at 256 e_stand])) (As := [.int x3, .int x1]) (rest := []) ⟨hx, hb, hml, hown, hts⟩ hK hP hD hS hA (c_X0_isLess l G cI cD cZ cJ cO c_a c_as c_ad c_ar c_ah c_points c_count c_ed c_sets c_scores c_rated c_hold x3 x1 _ h) (cwV 2 hts gX7_preferenceSet_X0_isLess rfl rfl rfl (by decide +kernel) ⟨Nat.le_of_ble_eq_true rfl, Nat.le_of_ble_eq_true rfl⟩) 0 rfl rfl [1, 2, 3, 4, 5] [0, 6, 7] [0, 3, 4, 5, 6, 7, 1, 2] rfl rfl rfl (fun _ => rfl) rfl rfl hl.1 (Nat.le_of_ble_eq_true rfl) ⟨Nat.zero_le _, Nat.zero_le _⟩ dX7_preferenceSet_42 (fun r_5 u H locs h hP hD hS => ?_)
        have hP : va_P G vwCl [oX7 z_a c_a s_a d_a t_a z_saved e_a p_a r_a q_a z_as, oX0 c_a c_points c_count c_as c_ad c_ar c_ah c_ed, aI cI c_as 20 c_sets, aD cD c_ad 20 c_scores, aZ cZ c_ar 20 c_rated, aI cI c_ah 8 c_hold, oX4 e_a c_a e_at, aI cI e_at 256 e_stand] H := hP
        have hD : va_D A [oX7 z_a c_a s_a d_a t_a z_saved e_a p_a r_a q_a z_as, oX0 c_a c_points c_count c_as c_ad c_ar c_ah c_ed, aI cI c_as 20 c_sets, aD cD c_ad 20 c_scores, aZ cZ c_ar 20 c_rated, aI cI c_ah 8 c_hold, oX4 e_a c_a e_at, aI cI e_at 256 e_stand] := hD
        obtain ⟨ha, hf⟩ := h
        refine lv_if_eq (tgt := 56) hx hb dX7_preferenceSet_45 (by decide) (fun hc => ?_) (fun hc => ?_)
        · have h := ha hc
          clear ha hf
          refine lv_iinc (v := (x3 + (1 : Int32))) (lv' := [(3, .int (x3 + (1 : Int32))), (0, .ref z_a), (1, .int x1), (2, .int x2)]) hx hb dX7_preferenceSet_56 hl (k := 3) rfl rfl (by decide) rfl (fun ls hl => ?_)
          refine lv_goto (tgt := 25) hx hb dX7_preferenceSet_59 (by decide) ?_
          exact ih _ _ _ h _ _ _ ⟨hP, hD, hS, lv_sub hl [1, 2, 3, 0] rfl⟩
        · have h := hf hc
          clear ha hf
          refine lv_iload_n hx hb dX7_preferenceSet_48 rfl (lv_at hl 2 rfl) ?_
          refine lv_iconst (v := (1 : Int32)) hx hb dX7_preferenceSet_49 (by decide) ?_
          refine lv_iload_n hx hb dX7_preferenceSet_50 rfl (lv_at hl 3 rfl) ?_
          refine lv_ishl hx hb dX7_preferenceSet_51 ?_
          refine lv_iconst (v := (-1 : Int32)) hx hb dX7_preferenceSet_52 (by decide) ?_
          refine lv_ixor hx hb dX7_preferenceSet_53 ?_
          refine lv_iand hx hb dX7_preferenceSet_54 ?_
          refine lv_istore_n (lv' := [(2, .int (x2 &&& (((1 : Int32) <<< (x3 &&& 31)) ^^^ (-1 : Int32)))), (0, .ref z_a), (1, .int x1), (3, .int x3)]) hx hb dX7_preferenceSet_55 rfl hl (by decide) rfl (fun ls hl => ?_)
          refine lv_iinc (v := (x3 + (1 : Int32))) (lv' := [(3, .int (x3 + (1 : Int32))), (2, .int (x2 &&& (((1 : Int32) <<< (x3 &&& 31)) ^^^ (-1 : Int32)))), (0, .ref z_a), (1, .int x1)]) hx hb dX7_preferenceSet_56 hl (k := 3) rfl rfl (by decide) rfl (fun ls hl => ?_)
          refine lv_goto (tgt := 25) hx hb dX7_preferenceSet_59 (by decide) ?_
          exact ih _ _ _ h _ _ _ ⟨hP, hD, hS, lv_sub hl [2, 3, 1, 0] rfl⟩
  refine lv_aload_n hx hb dX7_preferenceSet_0 rfl (lv_at hl 0 rfl) ?_
  refine va_get (D := G) (ci := 7) (v := .ref c_a) (C := RX7) (T := TX7) (N := 10) hx hb hts i_X7 hown hK.1 hP 0 rfl rfl 0 (by decide) f_12 (fun _ h9 => h9) rfl dX7_preferenceSet_1 ?_
  refine lv_iload_n hx hb dX7_preferenceSet_4 rfl (lv_at hl 1 rfl) ?_
  refine k_Vi (wr := [oX7 z_a c_a s_a d_a t_a z_saved e_a p_a r_a q_a z_as, oX4 e_a c_a e_at, aI cI e_at 256 e_stand]) (wf := (fun (u : Unit) => [oX7 z_a c_a s_a d_a t_a z_saved e_a p_a r_a q_a z_as, oX0 c_a c_points c_count c_as c_ad c_ar c_ah c_ed, aI cI c_as 20 c_sets, aD cD c_ad 20 c_scores, aZ cZ c_ar 20 c_rated, aI cI c_ah 8 c_hold, oX4 e_a c_a e_at, aI cI e_at 256 e_stand])) (As := [.int x1]) (rest := []) ⟨hx, hb, hml, hown, hts⟩ hK hP hD hS hA (c_X0_has l G cI cD cZ cJ cO c_a c_as c_ad c_ar c_ah c_points c_count c_ed c_sets c_scores c_rated c_hold x1 _ h) (cwV 1 hts gX7_preferenceSet_X0_has rfl rfl rfl (by decide +kernel) ⟨Nat.le_of_ble_eq_true rfl, Nat.le_of_ble_eq_true rfl⟩) 0 rfl rfl [1, 2, 3, 4, 5] [0, 6, 7] [0, 3, 4, 5, 6, 7, 1, 2] rfl rfl rfl (fun _ => rfl) rfl rfl hl.1 (Nat.le_of_ble_eq_true rfl) ⟨Nat.zero_le _, Nat.zero_le _⟩ dX7_preferenceSet_5 (fun r_1 u H locs h hP hD hS => ?_)
  have hP : va_P G vwCl [oX7 z_a c_a s_a d_a t_a z_saved e_a p_a r_a q_a z_as, oX0 c_a c_points c_count c_as c_ad c_ar c_ah c_ed, aI cI c_as 20 c_sets, aD cD c_ad 20 c_scores, aZ cZ c_ar 20 c_rated, aI cI c_ah 8 c_hold, oX4 e_a c_a e_at, aI cI e_at 256 e_stand] H := hP
  have hD : va_D A [oX7 z_a c_a s_a d_a t_a z_saved e_a p_a r_a q_a z_as, oX0 c_a c_points c_count c_as c_ad c_ar c_ah c_ed, aI cI c_as 20 c_sets, aD cD c_ad 20 c_scores, aZ cZ c_ar 20 c_rated, aI cI c_ah 8 c_hold, oX4 e_a c_a e_at, aI cI e_at 256 e_stand] := hD
  obtain ⟨ha, hf⟩ := h
  refine lv_if_ne (tgt := 14) hx hb dX7_preferenceSet_8 (by decide) (fun hc => ?_) (fun hc => ?_)
  · have h := ha hc
    clear ha hf
    refine lv_aload_n hx hb dX7_preferenceSet_14 rfl (lv_at hl 0 rfl) ?_
    refine va_get (D := G) (ci := 7) (v := .ref c_a) (C := RX7) (T := TX7) (N := 10) hx hb hts i_X7 hown hK.1 hP 0 rfl rfl 0 (by decide) f_12 (fun _ h9 => h9) rfl dX7_preferenceSet_15 ?_
    refine lv_iload_n hx hb dX7_preferenceSet_18 rfl (lv_at hl 1 rfl) ?_
    refine k_Vi (wr := [oX7 z_a c_a s_a d_a t_a z_saved e_a p_a r_a q_a z_as, oX4 e_a c_a e_at, aI cI e_at 256 e_stand]) (wf := (fun (u : Unit) => [oX7 z_a c_a s_a d_a t_a z_saved e_a p_a r_a q_a z_as, oX0 c_a c_points c_count c_as c_ad c_ar c_ah c_ed, aI cI c_as 20 c_sets, aD cD c_ad 20 c_scores, aZ cZ c_ar 20 c_rated, aI cI c_ah 8 c_hold, oX4 e_a c_a e_at, aI cI e_at 256 e_stand])) (As := [.int x1]) (rest := []) ⟨hx, hb, hml, hown, hts⟩ hK hP hD hS hA (c_X0_others l G cI cD cZ cJ cO c_a c_as c_ad c_ar c_ah c_points c_count c_ed c_sets c_scores c_rated c_hold x1 _ h) (cwV 1 hts gX7_preferenceSet_X0_others rfl rfl rfl (by decide +kernel) ⟨Nat.le_of_ble_eq_true rfl, Nat.le_of_ble_eq_true rfl⟩) 0 rfl rfl [1, 2, 3, 4, 5] [0, 6, 7] [0, 3, 4, 5, 6, 7, 1, 2] rfl rfl rfl (fun _ => rfl) rfl rfl hl.1 (Nat.le_of_ble_eq_true rfl) ⟨Nat.zero_le _, Nat.zero_le _⟩ dX7_preferenceSet_19 (fun r_2 u H locs h hP hD hS => ?_)
    have hP : va_P G vwCl [oX7 z_a c_a s_a d_a t_a z_saved e_a p_a r_a q_a z_as, oX0 c_a c_points c_count c_as c_ad c_ar c_ah c_ed, aI cI c_as 20 c_sets, aD cD c_ad 20 c_scores, aZ cZ c_ar 20 c_rated, aI cI c_ah 8 c_hold, oX4 e_a c_a e_at, aI cI e_at 256 e_stand] H := hP
    have hD : va_D A [oX7 z_a c_a s_a d_a t_a z_saved e_a p_a r_a q_a z_as, oX0 c_a c_points c_count c_as c_ad c_ar c_ah c_ed, aI cI c_as 20 c_sets, aD cD c_ad 20 c_scores, aZ cZ c_ar 20 c_rated, aI cI c_ah 8 c_hold, oX4 e_a c_a e_at, aI cI e_at 256 e_stand] := hD
    refine lv_istore_n (lv' := [(2, .int r_2), (0, .ref z_a), (1, .int x1)]) hx hb dX7_preferenceSet_22 rfl hl (by decide) rfl (fun ls hl => ?_)
    refine lv_iconst (v := (0 : Int32)) hx hb dX7_preferenceSet_23 (by decide) ?_
    refine lv_istore_n (lv' := [(3, .int (0 : Int32)), (2, .int r_2), (0, .ref z_a), (1, .int x1)]) hx hb dX7_preferenceSet_24 rfl hl (by decide) rfl (fun ls hl => ?_)
    obtain ⟨j, h⟩ := h
    exact b_25  j _ _ _ h _ _ _ ⟨hP, hD, hS, lv_sub hl [2, 3, 1, 0] rfl⟩
  · have h := hf hc
    clear ha hf
    refine lv_bipush (v := (-2 : Int32)) hx hb dX7_preferenceSet_11 (by decide) ?_
    exact hret _ e_stand _ _ _ _ rfl h hP hD hS dX7_preferenceSet_13
abbrev rm_X7_recursiveDimension : Room := { frames := 7, cells := 0, slots := 0, locals := 159 }
def wp_X7_recursiveDimension (c_points : Int32) (c_count : Int32) (c_ed : Int32) (c_sets : Nat → Int32) (c_hold : Nat → Int32) (e_stand : Nat → Int32) (p_height : Int32) (p_largest : Int32) (p_ed : Int32) (p_layers : Nat → Int32) (p_sets : Nat → Int32) (Q : Int32 → (Nat → Int32) → Int32 → Int32 → Int32 → (Nat → Int32) → (Nat → Int32) → Prop) : Prop := ((¬ c_count = 0) → wp_X1_renew p_height p_largest p_ed p_layers p_sets e_stand c_points c_count c_ed c_sets c_hold (fun (p_height_1 : Int32) (p_largest_2 : Int32) (p_ed_3 : Int32) (p_layers_4 : Nat → Int32) (p_sets_5 : Nat → Int32) (e_stand_6 : Nat → Int32) => Q p_largest_2 e_stand_6 p_height_1 p_largest_2 p_ed_3 p_layers_4 p_sets_5)) ∧ ((c_count = 0) → Q (-7 : Int32) e_stand p_height p_largest p_ed p_layers p_sets)
set_option maxRecDepth 100000 in
set_option maxHeartbeats 4000000 in
theorem c_X7_recursiveDimension (l : Launch) (G : va_G) (cI cD cZ cJ cO : ClassId) (z_a c_a c_as c_ad c_ar c_ah e_a e_at p_a p_al p_as s_a d_a t_a r_a q_a z_as : Nat) (z_saved : Int32) (c_points : Int32) (c_count : Int32) (c_ed : Int32) (c_sets : Nat → Int32) (c_scores : Nat → UInt64) (c_rated : Nat → Int32) (c_hold : Nat → Int32) (e_stand : Nat → Int32) (p_height : Int32) (p_largest : Int32) (p_ed : Int32) (p_layers : Nat → Int32) (p_sets : Nat → Int32) (Q : Int32 → (Nat → Int32) → Int32 → Int32 → Int32 → (Nat → Int32) → (Nat → Int32) → Prop) (h : wp_X7_recursiveDimension c_points c_count c_ed c_sets c_hold e_stand p_height p_largest p_ed p_layers p_sets Q) : CtI l yX7_recursiveDimension wsX7_recursiveDimension rm_X7_recursiveDimension G (TY cI cD cZ cJ cO) [.ref z_a] [oX7 z_a c_a s_a d_a t_a z_saved e_a p_a r_a q_a z_as, oX0 c_a c_points c_count c_as c_ad c_ar c_ah c_ed, aI cI c_as 20 c_sets, aD cD c_ad 20 c_scores, aZ cZ c_ar 20 c_rated, aI cI c_ah 8 c_hold, oX4 e_a c_a e_at, aI cI e_at 256 e_stand, oX1 p_a c_a e_a p_al p_as p_height p_largest p_ed, aI cI p_al 20 p_layers, aI cI p_as 20 p_sets] (fun (r : Int32) (u : (Nat → Int32) × Int32 × Int32 × Int32 × (Nat → Int32) × (Nat → Int32)) => Q r u.1 u.2.1 u.2.2.1 u.2.2.2.1 u.2.2.2.2.1 u.2.2.2.2.2) (fun (u : (Nat → Int32) × Int32 × Int32 × Int32 × (Nat → Int32) × (Nat → Int32)) => [oX7 z_a c_a s_a d_a t_a z_saved e_a p_a r_a q_a z_as, oX0 c_a c_points c_count c_as c_ad c_ar c_ah c_ed, aI cI c_as 20 c_sets, aD cD c_ad 20 c_scores, aZ cZ c_ar 20 c_rated, aI cI c_ah 8 c_hold, oX4 e_a c_a e_at, aI cI e_at 256 u.1, oX1 p_a c_a e_a p_al p_as u.2.1 u.2.2.1 u.2.2.2.1, aI cI p_al 20 u.2.2.2.2.1, aI cI p_as 20 u.2.2.2.2.2]) := by
  refine ct_openI (cc := cX7_recursiveDimension) (maxL := 1) (ty := .int) (by decide) rfl (Nat.le_of_ble_eq_true rfl) ?_
  intro p e s m args below meth c A Z ls hx hb hml hown hts hK hA hret hP hD hS hl
  have hown : s.vm.findClass RX7 = some m.cls := hown
  have hl : lv_has ls 1 [(0, .ref z_a)] := hl
  have f_12 := hts (.fieldLink RX7 12 "TeachingSets" "concepts" "LTeachingSets$Concepts;") (List.mem_of_getElem? (i := 1) rfl)
  have f_96 := hts (.fieldLink RX7 96 "TeachingSets$Concepts" "count" "I") (List.mem_of_getElem? (i := 2) rfl)
  have f_49 := hts (.fieldLink RX7 49 "TeachingSets" "plan" "LTeachingSets$Plan;") (List.mem_of_getElem? (i := 3) rfl)
  have f_150 := hts (.fieldLink RX7 150 "TeachingSets$Plan" "largest" "I") (List.mem_of_getElem? (i := 4) rfl)
  have i_X7 : ∀ w ∈ wsX70, w ∈ wsX7_recursiveDimension := fun _ h => List.mem_cons_of_mem _ (List.mem_append_left _ (List.mem_append_left _ (List.mem_append_left _ (List.mem_append_right _ (h)))))
  have i_X0 : ∀ w ∈ wsX00, w ∈ wsX7_recursiveDimension := fun _ h => List.mem_cons_of_mem _ (List.mem_append_left _ (List.mem_append_left _ (List.mem_append_right _ (h))))
  have i_X1 : ∀ w ∈ wsX10, w ∈ wsX7_recursiveDimension := fun _ h => List.mem_cons_of_mem _ (List.mem_append_left _ (List.mem_append_right _ (h)))
  refine lv_aload_n hx hb dX7_recursiveDimension_0 rfl (lv_at hl 0 rfl) ?_
  refine va_get (D := G) (ci := 7) (v := .ref c_a) (C := RX7) (T := TX7) (N := 10) hx hb hts i_X7 hown hK.1 hP 0 rfl rfl 0 (by decide) f_12 (fun _ h9 => h9) rfl dX7_recursiveDimension_1 ?_
  refine va_get (D := G) (ci := 0) (v := .int c_count) (C := RX0) (T := TX0) (N := 7) hx hb hts i_X0 hown hK.1 hP 1 rfl rfl 1 (by decide) f_96 (fun _ h9 => h9) rfl dX7_recursiveDimension_4 ?_
  obtain ⟨ha, hf⟩ := h
  refine lv_if_ne (tgt := 13) hx hb dX7_recursiveDimension_7 (by decide) (fun hc => ?_) (fun hc => ?_)
  · have h := ha hc
    clear ha hf
    refine lv_aload_n hx hb dX7_recursiveDimension_13 rfl (lv_at hl 0 rfl) ?_
    refine va_get (D := G) (ci := 7) (v := .ref p_a) (C := RX7) (T := TX7) (N := 10) hx hb hts i_X7 hown hK.1 hP 0 rfl rfl 6 (by decide) f_49 (fun _ h9 => h9) rfl dX7_recursiveDimension_14 ?_
    refine k_Vv (wr := [oX7 z_a c_a s_a d_a t_a z_saved e_a p_a r_a q_a z_as]) (wf := (fun (u : Int32 × Int32 × Int32 × (Nat → Int32) × (Nat → Int32) × (Nat → Int32)) => [oX7 z_a c_a s_a d_a t_a z_saved e_a p_a r_a q_a z_as, oX0 c_a c_points c_count c_as c_ad c_ar c_ah c_ed, aI cI c_as 20 c_sets, aD cD c_ad 20 c_scores, aZ cZ c_ar 20 c_rated, aI cI c_ah 8 c_hold, oX4 e_a c_a e_at, aI cI e_at 256 u.2.2.2.2.2, oX1 p_a c_a e_a p_al p_as u.1 u.2.1 u.2.2.1, aI cI p_al 20 u.2.2.2.1, aI cI p_as 20 u.2.2.2.2.1])) (As := []) (rest := []) ⟨hx, hb, hml, hown, hts⟩ hK hP hD hS hA (c_X1_renew l G cI cD cZ cJ cO p_a p_al p_as e_a e_at c_a c_as c_ad c_ar c_ah p_height p_largest p_ed p_layers p_sets e_stand c_points c_count c_ed c_sets c_scores c_rated c_hold _ h) (cwV 0 hts gX7_recursiveDimension_X1_renew rfl rfl rfl (by decide +kernel) ⟨Nat.le_of_ble_eq_true rfl, Nat.le_of_ble_eq_true rfl⟩) 0 rfl rfl [8, 9, 10, 6, 7, 1, 2, 3, 4, 5] [0] [0, 6, 7, 8, 9, 10, 4, 5, 1, 2, 3] rfl rfl rfl (fun _ => rfl) rfl rfl hl.1 (Nat.le_of_ble_eq_true rfl) ⟨Nat.zero_le _, Nat.zero_le _⟩ dX7_recursiveDimension_17 (fun u H locs h hP hD hS => ?_)
    obtain ⟨p_height_1, p_largest_2, p_ed_3, p_layers_4, p_sets_5, e_stand_6⟩ := u
    have hP : va_P G vwCl [oX7 z_a c_a s_a d_a t_a z_saved e_a p_a r_a q_a z_as, oX0 c_a c_points c_count c_as c_ad c_ar c_ah c_ed, aI cI c_as 20 c_sets, aD cD c_ad 20 c_scores, aZ cZ c_ar 20 c_rated, aI cI c_ah 8 c_hold, oX4 e_a c_a e_at, aI cI e_at 256 e_stand_6, oX1 p_a c_a e_a p_al p_as p_height_1 p_largest_2 p_ed_3, aI cI p_al 20 p_layers_4, aI cI p_as 20 p_sets_5] H := hP
    have hD : va_D A [oX7 z_a c_a s_a d_a t_a z_saved e_a p_a r_a q_a z_as, oX0 c_a c_points c_count c_as c_ad c_ar c_ah c_ed, aI cI c_as 20 c_sets, aD cD c_ad 20 c_scores, aZ cZ c_ar 20 c_rated, aI cI c_ah 8 c_hold, oX4 e_a c_a e_at, aI cI e_at 256 e_stand_6, oX1 p_a c_a e_a p_al p_as p_height_1 p_largest_2 p_ed_3, aI cI p_al 20 p_layers_4, aI cI p_as 20 p_sets_5] := hD
    refine lv_aload_n hx hb dX7_recursiveDimension_20 rfl (lv_at hl 0 rfl) ?_
    refine va_get (D := G) (ci := 7) (v := .ref p_a) (C := RX7) (T := TX7) (N := 10) hx hb hts i_X7 hown hK.1 hP 0 rfl rfl 6 (by decide) f_49 (fun _ h9 => h9) rfl dX7_recursiveDimension_21 ?_
    refine va_get (D := G) (ci := 1) (v := .int p_largest_2) (C := RX1) (T := TX1) (N := 7) hx hb hts i_X1 hown hK.1 hP 8 rfl rfl 5 (by decide) f_150 (fun _ h9 => h9) rfl dX7_recursiveDimension_24 ?_
    exact hret _ (e_stand_6, p_height_1, p_largest_2, p_ed_3, p_layers_4, p_sets_5) _ _ _ _ rfl h hP hD hS dX7_recursiveDimension_27
  · have h := hf hc
    clear ha hf
    refine lv_bipush (v := (-7 : Int32)) hx hb dX7_recursiveDimension_10 (by decide) ?_
    exact hret _ (e_stand, p_height, p_largest, p_ed, p_layers, p_sets) _ _ _ _ rfl h hP hD hS dX7_recursiveDimension_12
abbrev rm_X7_layerCount : Room := { frames := 7, cells := 0, slots := 0, locals := 159 }
def wp_X7_layerCount (c_points : Int32) (c_count : Int32) (c_ed : Int32) (c_sets : Nat → Int32) (c_hold : Nat → Int32) (e_stand : Nat → Int32) (p_height : Int32) (p_largest : Int32) (p_ed : Int32) (p_layers : Nat → Int32) (p_sets : Nat → Int32) (Q : Int32 → (Nat → Int32) → Int32 → Int32 → Int32 → (Nat → Int32) → (Nat → Int32) → Prop) : Prop := wp_X1_renew p_height p_largest p_ed p_layers p_sets e_stand c_points c_count c_ed c_sets c_hold (fun (p_height_1 : Int32) (p_largest_2 : Int32) (p_ed_3 : Int32) (p_layers_4 : Nat → Int32) (p_sets_5 : Nat → Int32) (e_stand_6 : Nat → Int32) => Q p_height_1 e_stand_6 p_height_1 p_largest_2 p_ed_3 p_layers_4 p_sets_5)
set_option maxRecDepth 100000 in
set_option maxHeartbeats 4000000 in
theorem c_X7_layerCount (l : Launch) (G : va_G) (cI cD cZ cJ cO : ClassId) (z_a c_a c_as c_ad c_ar c_ah e_a e_at p_a p_al p_as s_a d_a t_a r_a q_a z_as : Nat) (z_saved : Int32) (c_points : Int32) (c_count : Int32) (c_ed : Int32) (c_sets : Nat → Int32) (c_scores : Nat → UInt64) (c_rated : Nat → Int32) (c_hold : Nat → Int32) (e_stand : Nat → Int32) (p_height : Int32) (p_largest : Int32) (p_ed : Int32) (p_layers : Nat → Int32) (p_sets : Nat → Int32) (Q : Int32 → (Nat → Int32) → Int32 → Int32 → Int32 → (Nat → Int32) → (Nat → Int32) → Prop) (h : wp_X7_layerCount c_points c_count c_ed c_sets c_hold e_stand p_height p_largest p_ed p_layers p_sets Q) : CtI l yX7_layerCount wsX7_layerCount rm_X7_layerCount G (TY cI cD cZ cJ cO) [.ref z_a] [oX7 z_a c_a s_a d_a t_a z_saved e_a p_a r_a q_a z_as, oX0 c_a c_points c_count c_as c_ad c_ar c_ah c_ed, aI cI c_as 20 c_sets, aD cD c_ad 20 c_scores, aZ cZ c_ar 20 c_rated, aI cI c_ah 8 c_hold, oX4 e_a c_a e_at, aI cI e_at 256 e_stand, oX1 p_a c_a e_a p_al p_as p_height p_largest p_ed, aI cI p_al 20 p_layers, aI cI p_as 20 p_sets] (fun (r : Int32) (u : (Nat → Int32) × Int32 × Int32 × Int32 × (Nat → Int32) × (Nat → Int32)) => Q r u.1 u.2.1 u.2.2.1 u.2.2.2.1 u.2.2.2.2.1 u.2.2.2.2.2) (fun (u : (Nat → Int32) × Int32 × Int32 × Int32 × (Nat → Int32) × (Nat → Int32)) => [oX7 z_a c_a s_a d_a t_a z_saved e_a p_a r_a q_a z_as, oX0 c_a c_points c_count c_as c_ad c_ar c_ah c_ed, aI cI c_as 20 c_sets, aD cD c_ad 20 c_scores, aZ cZ c_ar 20 c_rated, aI cI c_ah 8 c_hold, oX4 e_a c_a e_at, aI cI e_at 256 u.1, oX1 p_a c_a e_a p_al p_as u.2.1 u.2.2.1 u.2.2.2.1, aI cI p_al 20 u.2.2.2.2.1, aI cI p_as 20 u.2.2.2.2.2]) := by
  refine ct_openI (cc := cX7_layerCount) (maxL := 1) (ty := .int) (by decide) rfl (Nat.le_of_ble_eq_true rfl) ?_
  intro p e s m args below meth c A Z ls hx hb hml hown hts hK hA hret hP hD hS hl
  have hown : s.vm.findClass RX7 = some m.cls := hown
  have hl : lv_has ls 1 [(0, .ref z_a)] := hl
  have f_49 := hts (.fieldLink RX7 49 "TeachingSets" "plan" "LTeachingSets$Plan;") (List.mem_of_getElem? (i := 1) rfl)
  have f_153 := hts (.fieldLink RX7 153 "TeachingSets$Plan" "height" "I") (List.mem_of_getElem? (i := 2) rfl)
  have i_X7 : ∀ w ∈ wsX70, w ∈ wsX7_layerCount := fun _ h => List.mem_cons_of_mem _ (List.mem_append_left _ (List.mem_append_left _ (List.mem_append_left _ (List.mem_append_right _ (h)))))
  have i_X1 : ∀ w ∈ wsX10, w ∈ wsX7_layerCount := fun _ h => List.mem_cons_of_mem _ (List.mem_append_left _ (List.mem_append_left _ (List.mem_append_right _ (h))))
  refine lv_aload_n hx hb dX7_layerCount_0 rfl (lv_at hl 0 rfl) ?_
  refine va_get (D := G) (ci := 7) (v := .ref p_a) (C := RX7) (T := TX7) (N := 10) hx hb hts i_X7 hown hK.1 hP 0 rfl rfl 6 (by decide) f_49 (fun _ h9 => h9) rfl dX7_layerCount_1 ?_
  refine k_Vv (wr := [oX7 z_a c_a s_a d_a t_a z_saved e_a p_a r_a q_a z_as]) (wf := (fun (u : Int32 × Int32 × Int32 × (Nat → Int32) × (Nat → Int32) × (Nat → Int32)) => [oX7 z_a c_a s_a d_a t_a z_saved e_a p_a r_a q_a z_as, oX0 c_a c_points c_count c_as c_ad c_ar c_ah c_ed, aI cI c_as 20 c_sets, aD cD c_ad 20 c_scores, aZ cZ c_ar 20 c_rated, aI cI c_ah 8 c_hold, oX4 e_a c_a e_at, aI cI e_at 256 u.2.2.2.2.2, oX1 p_a c_a e_a p_al p_as u.1 u.2.1 u.2.2.1, aI cI p_al 20 u.2.2.2.1, aI cI p_as 20 u.2.2.2.2.1])) (As := []) (rest := []) ⟨hx, hb, hml, hown, hts⟩ hK hP hD hS hA (c_X1_renew l G cI cD cZ cJ cO p_a p_al p_as e_a e_at c_a c_as c_ad c_ar c_ah p_height p_largest p_ed p_layers p_sets e_stand c_points c_count c_ed c_sets c_scores c_rated c_hold _ h) (cwV 0 hts gX7_layerCount_X1_renew rfl rfl rfl (by decide +kernel) ⟨Nat.le_of_ble_eq_true rfl, Nat.le_of_ble_eq_true rfl⟩) 0 rfl rfl [8, 9, 10, 6, 7, 1, 2, 3, 4, 5] [0] [0, 6, 7, 8, 9, 10, 4, 5, 1, 2, 3] rfl rfl rfl (fun _ => rfl) rfl rfl hl.1 (Nat.le_of_ble_eq_true rfl) ⟨Nat.zero_le _, Nat.zero_le _⟩ dX7_layerCount_4 (fun u H locs h hP hD hS => ?_)
  obtain ⟨p_height_1, p_largest_2, p_ed_3, p_layers_4, p_sets_5, e_stand_6⟩ := u
  have hP : va_P G vwCl [oX7 z_a c_a s_a d_a t_a z_saved e_a p_a r_a q_a z_as, oX0 c_a c_points c_count c_as c_ad c_ar c_ah c_ed, aI cI c_as 20 c_sets, aD cD c_ad 20 c_scores, aZ cZ c_ar 20 c_rated, aI cI c_ah 8 c_hold, oX4 e_a c_a e_at, aI cI e_at 256 e_stand_6, oX1 p_a c_a e_a p_al p_as p_height_1 p_largest_2 p_ed_3, aI cI p_al 20 p_layers_4, aI cI p_as 20 p_sets_5] H := hP
  have hD : va_D A [oX7 z_a c_a s_a d_a t_a z_saved e_a p_a r_a q_a z_as, oX0 c_a c_points c_count c_as c_ad c_ar c_ah c_ed, aI cI c_as 20 c_sets, aD cD c_ad 20 c_scores, aZ cZ c_ar 20 c_rated, aI cI c_ah 8 c_hold, oX4 e_a c_a e_at, aI cI e_at 256 e_stand_6, oX1 p_a c_a e_a p_al p_as p_height_1 p_largest_2 p_ed_3, aI cI p_al 20 p_layers_4, aI cI p_as 20 p_sets_5] := hD
  refine lv_aload_n hx hb dX7_layerCount_7 rfl (lv_at hl 0 rfl) ?_
  refine va_get (D := G) (ci := 7) (v := .ref p_a) (C := RX7) (T := TX7) (N := 10) hx hb hts i_X7 hown hK.1 hP 0 rfl rfl 6 (by decide) f_49 (fun _ h9 => h9) rfl dX7_layerCount_8 ?_
  refine va_get (D := G) (ci := 1) (v := .int p_height_1) (C := RX1) (T := TX1) (N := 7) hx hb hts i_X1 hown hK.1 hP 8 rfl rfl 4 (by decide) f_153 (fun _ h9 => h9) rfl dX7_layerCount_11 ?_
  exact hret _ (e_stand_6, p_height_1, p_largest_2, p_ed_3, p_layers_4, p_sets_5) _ _ _ _ rfl h hP hD hS dX7_layerCount_14
abbrev rm_X7_layer : Room := { frames := 7, cells := 0, slots := 0, locals := 159 }
def wp_X7_layer (x1 : Int32) (c_points : Int32) (c_count : Int32) (c_ed : Int32) (c_sets : Nat → Int32) (c_hold : Nat → Int32) (e_stand : Nat → Int32) (p_height : Int32) (p_largest : Int32) (p_ed : Int32) (p_layers : Nat → Int32) (p_sets : Nat → Int32) (Q : Int32 → (Nat → Int32) → Int32 → Int32 → Int32 → (Nat → Int32) → (Nat → Int32) → Prop) : Prop := wp_X0_has x1 c_count (fun (r_1 : Int32) => ((¬ r_1 = 0) → wp_X1_renew p_height p_largest p_ed p_layers p_sets e_stand c_points c_count c_ed c_sets c_hold (fun (p_height_2 : Int32) (p_largest_3 : Int32) (p_ed_4 : Int32) (p_layers_5 : Nat → Int32) (p_sets_6 : Nat → Int32) (e_stand_7 : Nat → Int32) => vp_in x1 20 ∧ Q (p_layers_5 x1.toNatClampNeg) e_stand_7 p_height_2 p_largest_3 p_ed_4 p_layers_5 p_sets_6)) ∧ ((r_1 = 0) → Q (-2 : Int32) e_stand p_height p_largest p_ed p_layers p_sets))
set_option maxRecDepth 100000 in
set_option maxHeartbeats 4000000 in
theorem c_X7_layer (l : Launch) (G : va_G) (cI cD cZ cJ cO : ClassId) (z_a c_a c_as c_ad c_ar c_ah e_a e_at p_a p_al p_as s_a d_a t_a r_a q_a z_as : Nat) (z_saved : Int32) (c_points : Int32) (c_count : Int32) (c_ed : Int32) (c_sets : Nat → Int32) (c_scores : Nat → UInt64) (c_rated : Nat → Int32) (c_hold : Nat → Int32) (e_stand : Nat → Int32) (p_height : Int32) (p_largest : Int32) (p_ed : Int32) (p_layers : Nat → Int32) (p_sets : Nat → Int32) (x1 : Int32) (Q : Int32 → (Nat → Int32) → Int32 → Int32 → Int32 → (Nat → Int32) → (Nat → Int32) → Prop) (h : wp_X7_layer x1 c_points c_count c_ed c_sets c_hold e_stand p_height p_largest p_ed p_layers p_sets Q) : CtI l yX7_layer wsX7_layer rm_X7_layer G (TY cI cD cZ cJ cO) [.ref z_a, .int x1] [oX7 z_a c_a s_a d_a t_a z_saved e_a p_a r_a q_a z_as, oX0 c_a c_points c_count c_as c_ad c_ar c_ah c_ed, aI cI c_as 20 c_sets, aD cD c_ad 20 c_scores, aZ cZ c_ar 20 c_rated, aI cI c_ah 8 c_hold, oX4 e_a c_a e_at, aI cI e_at 256 e_stand, oX1 p_a c_a e_a p_al p_as p_height p_largest p_ed, aI cI p_al 20 p_layers, aI cI p_as 20 p_sets] (fun (r : Int32) (u : (Nat → Int32) × Int32 × Int32 × Int32 × (Nat → Int32) × (Nat → Int32)) => Q r u.1 u.2.1 u.2.2.1 u.2.2.2.1 u.2.2.2.2.1 u.2.2.2.2.2) (fun (u : (Nat → Int32) × Int32 × Int32 × Int32 × (Nat → Int32) × (Nat → Int32)) => [oX7 z_a c_a s_a d_a t_a z_saved e_a p_a r_a q_a z_as, oX0 c_a c_points c_count c_as c_ad c_ar c_ah c_ed, aI cI c_as 20 c_sets, aD cD c_ad 20 c_scores, aZ cZ c_ar 20 c_rated, aI cI c_ah 8 c_hold, oX4 e_a c_a e_at, aI cI e_at 256 u.1, oX1 p_a c_a e_a p_al p_as u.2.1 u.2.2.1 u.2.2.2.1, aI cI p_al 20 u.2.2.2.2.1, aI cI p_as 20 u.2.2.2.2.2]) := by
  refine ct_openI (cc := cX7_layer) (maxL := 2) (ty := .int) (by decide) rfl (Nat.le_of_ble_eq_true rfl) ?_
  intro p e s m args below meth c A Z ls hx hb hml hown hts hK hA hret hP hD hS hl
  have hown : s.vm.findClass RX7 = some m.cls := hown
  have hl : lv_has ls 2 [(0, .ref z_a), (1, .int x1)] := hl
  have f_12 := hts (.fieldLink RX7 12 "TeachingSets" "concepts" "LTeachingSets$Concepts;") (List.mem_of_getElem? (i := 1) rfl)
  have f_49 := hts (.fieldLink RX7 49 "TeachingSets" "plan" "LTeachingSets$Plan;") (List.mem_of_getElem? (i := 2) rfl)
  have f_156 := hts (.fieldLink RX7 156 "TeachingSets$Plan" "layers" "[I") (List.mem_of_getElem? (i := 3) rfl)
  have i_X7 : ∀ w ∈ wsX70, w ∈ wsX7_layer := fun _ h => List.mem_cons_of_mem _ (List.mem_append_left _ (List.mem_append_left _ (List.mem_append_left _ (List.mem_append_right _ (h)))))
  have i_X1 : ∀ w ∈ wsX10, w ∈ wsX7_layer := fun _ h => List.mem_cons_of_mem _ (List.mem_append_left _ (List.mem_append_left _ (List.mem_append_right _ (h))))
  refine lv_aload_n hx hb dX7_layer_0 rfl (lv_at hl 0 rfl) ?_
  refine va_get (D := G) (ci := 7) (v := .ref c_a) (C := RX7) (T := TX7) (N := 10) hx hb hts i_X7 hown hK.1 hP 0 rfl rfl 0 (by decide) f_12 (fun _ h9 => h9) rfl dX7_layer_1 ?_
  refine lv_iload_n hx hb dX7_layer_4 rfl (lv_at hl 1 rfl) ?_
  refine k_Vi (wr := [oX7 z_a c_a s_a d_a t_a z_saved e_a p_a r_a q_a z_as, oX4 e_a c_a e_at, aI cI e_at 256 e_stand, oX1 p_a c_a e_a p_al p_as p_height p_largest p_ed, aI cI p_al 20 p_layers, aI cI p_as 20 p_sets]) (wf := (fun (u : Unit) => [oX7 z_a c_a s_a d_a t_a z_saved e_a p_a r_a q_a z_as, oX0 c_a c_points c_count c_as c_ad c_ar c_ah c_ed, aI cI c_as 20 c_sets, aD cD c_ad 20 c_scores, aZ cZ c_ar 20 c_rated, aI cI c_ah 8 c_hold, oX4 e_a c_a e_at, aI cI e_at 256 e_stand, oX1 p_a c_a e_a p_al p_as p_height p_largest p_ed, aI cI p_al 20 p_layers, aI cI p_as 20 p_sets])) (As := [.int x1]) (rest := []) ⟨hx, hb, hml, hown, hts⟩ hK hP hD hS hA (c_X0_has l G cI cD cZ cJ cO c_a c_as c_ad c_ar c_ah c_points c_count c_ed c_sets c_scores c_rated c_hold x1 _ h) (cwV 1 hts gX7_layer_X0_has rfl rfl rfl (by decide +kernel) ⟨Nat.le_of_ble_eq_true rfl, Nat.le_of_ble_eq_true rfl⟩) 0 rfl rfl [1, 2, 3, 4, 5] [0, 6, 7, 8, 9, 10] [0, 6, 7, 8, 9, 10, 1, 2, 3, 4, 5] rfl rfl rfl (fun _ => rfl) rfl rfl hl.1 (Nat.le_of_ble_eq_true rfl) ⟨Nat.zero_le _, Nat.zero_le _⟩ dX7_layer_5 (fun r_1 u H locs h hP hD hS => ?_)
  have hP : va_P G vwCl [oX7 z_a c_a s_a d_a t_a z_saved e_a p_a r_a q_a z_as, oX0 c_a c_points c_count c_as c_ad c_ar c_ah c_ed, aI cI c_as 20 c_sets, aD cD c_ad 20 c_scores, aZ cZ c_ar 20 c_rated, aI cI c_ah 8 c_hold, oX4 e_a c_a e_at, aI cI e_at 256 e_stand, oX1 p_a c_a e_a p_al p_as p_height p_largest p_ed, aI cI p_al 20 p_layers, aI cI p_as 20 p_sets] H := hP
  have hD : va_D A [oX7 z_a c_a s_a d_a t_a z_saved e_a p_a r_a q_a z_as, oX0 c_a c_points c_count c_as c_ad c_ar c_ah c_ed, aI cI c_as 20 c_sets, aD cD c_ad 20 c_scores, aZ cZ c_ar 20 c_rated, aI cI c_ah 8 c_hold, oX4 e_a c_a e_at, aI cI e_at 256 e_stand, oX1 p_a c_a e_a p_al p_as p_height p_largest p_ed, aI cI p_al 20 p_layers, aI cI p_as 20 p_sets] := hD
  obtain ⟨ha, hf⟩ := h
  refine lv_if_ne (tgt := 14) hx hb dX7_layer_8 (by decide) (fun hc => ?_) (fun hc => ?_)
  · have h := ha hc
    clear ha hf
    refine lv_aload_n hx hb dX7_layer_14 rfl (lv_at hl 0 rfl) ?_
    refine va_get (D := G) (ci := 7) (v := .ref p_a) (C := RX7) (T := TX7) (N := 10) hx hb hts i_X7 hown hK.1 hP 0 rfl rfl 6 (by decide) f_49 (fun _ h9 => h9) rfl dX7_layer_15 ?_
    refine k_Vv (wr := [oX7 z_a c_a s_a d_a t_a z_saved e_a p_a r_a q_a z_as]) (wf := (fun (u : Int32 × Int32 × Int32 × (Nat → Int32) × (Nat → Int32) × (Nat → Int32)) => [oX7 z_a c_a s_a d_a t_a z_saved e_a p_a r_a q_a z_as, oX0 c_a c_points c_count c_as c_ad c_ar c_ah c_ed, aI cI c_as 20 c_sets, aD cD c_ad 20 c_scores, aZ cZ c_ar 20 c_rated, aI cI c_ah 8 c_hold, oX4 e_a c_a e_at, aI cI e_at 256 u.2.2.2.2.2, oX1 p_a c_a e_a p_al p_as u.1 u.2.1 u.2.2.1, aI cI p_al 20 u.2.2.2.1, aI cI p_as 20 u.2.2.2.2.1])) (As := []) (rest := []) ⟨hx, hb, hml, hown, hts⟩ hK hP hD hS hA (c_X1_renew l G cI cD cZ cJ cO p_a p_al p_as e_a e_at c_a c_as c_ad c_ar c_ah p_height p_largest p_ed p_layers p_sets e_stand c_points c_count c_ed c_sets c_scores c_rated c_hold _ h) (cwV 0 hts gX7_layer_X1_renew rfl rfl rfl (by decide +kernel) ⟨Nat.le_of_ble_eq_true rfl, Nat.le_of_ble_eq_true rfl⟩) 0 rfl rfl [8, 9, 10, 6, 7, 1, 2, 3, 4, 5] [0] [0, 6, 7, 8, 9, 10, 4, 5, 1, 2, 3] rfl rfl rfl (fun _ => rfl) rfl rfl hl.1 (Nat.le_of_ble_eq_true rfl) ⟨Nat.zero_le _, Nat.zero_le _⟩ dX7_layer_18 (fun u H locs h hP hD hS => ?_)
    obtain ⟨p_height_2, p_largest_3, p_ed_4, p_layers_5, p_sets_6, e_stand_7⟩ := u
    have hP : va_P G vwCl [oX7 z_a c_a s_a d_a t_a z_saved e_a p_a r_a q_a z_as, oX0 c_a c_points c_count c_as c_ad c_ar c_ah c_ed, aI cI c_as 20 c_sets, aD cD c_ad 20 c_scores, aZ cZ c_ar 20 c_rated, aI cI c_ah 8 c_hold, oX4 e_a c_a e_at, aI cI e_at 256 e_stand_7, oX1 p_a c_a e_a p_al p_as p_height_2 p_largest_3 p_ed_4, aI cI p_al 20 p_layers_5, aI cI p_as 20 p_sets_6] H := hP
    have hD : va_D A [oX7 z_a c_a s_a d_a t_a z_saved e_a p_a r_a q_a z_as, oX0 c_a c_points c_count c_as c_ad c_ar c_ah c_ed, aI cI c_as 20 c_sets, aD cD c_ad 20 c_scores, aZ cZ c_ar 20 c_rated, aI cI c_ah 8 c_hold, oX4 e_a c_a e_at, aI cI e_at 256 e_stand_7, oX1 p_a c_a e_a p_al p_as p_height_2 p_largest_3 p_ed_4, aI cI p_al 20 p_layers_5, aI cI p_as 20 p_sets_6] := hD
    refine lv_aload_n hx hb dX7_layer_21 rfl (lv_at hl 0 rfl) ?_
    refine va_get (D := G) (ci := 7) (v := .ref p_a) (C := RX7) (T := TX7) (N := 10) hx hb hts i_X7 hown hK.1 hP 0 rfl rfl 6 (by decide) f_49 (fun _ h9 => h9) rfl dX7_layer_22 ?_
    refine va_get (D := G) (ci := 1) (v := .ref p_al) (C := RX1) (T := TX1) (N := 7) hx hb hts i_X1 hown hK.1 hP 8 rfl rfl 2 (by decide) f_156 (fun _ h9 => h9) rfl dX7_layer_25 ?_
    refine lv_iload_n hx hb dX7_layer_28 rfl (lv_at hl 1 rfl) ?_
    obtain ⟨hi, h⟩ := h
    refine va_iald hx hb hK.1 hP 9 0 rfl rfl hi dX7_layer_29 ?_
    exact hret _ (e_stand_7, p_height_2, p_largest_3, p_ed_4, p_layers_5, p_sets_6) _ _ _ _ rfl h hP hD hS dX7_layer_30
  · have h := hf hc
    clear ha hf
    refine lv_bipush (v := (-2 : Int32)) hx hb dX7_layer_11 (by decide) ?_
    exact hret _ (e_stand, p_height, p_largest, p_ed, p_layers, p_sets) _ _ _ _ rfl h hP hD hS dX7_layer_13
abbrev rm_X7_planSet : Room := { frames := 7, cells := 0, slots := 0, locals := 159 }
def wp_X7_planSet (x1 : Int32) (c_points : Int32) (c_count : Int32) (c_ed : Int32) (c_sets : Nat → Int32) (c_hold : Nat → Int32) (e_stand : Nat → Int32) (p_height : Int32) (p_largest : Int32) (p_ed : Int32) (p_layers : Nat → Int32) (p_sets : Nat → Int32) (Q : Int32 → (Nat → Int32) → Int32 → Int32 → Int32 → (Nat → Int32) → (Nat → Int32) → Prop) : Prop := wp_X0_has x1 c_count (fun (r_1 : Int32) => ((¬ r_1 = 0) → wp_X1_renew p_height p_largest p_ed p_layers p_sets e_stand c_points c_count c_ed c_sets c_hold (fun (p_height_2 : Int32) (p_largest_3 : Int32) (p_ed_4 : Int32) (p_layers_5 : Nat → Int32) (p_sets_6 : Nat → Int32) (e_stand_7 : Nat → Int32) => vp_in x1 20 ∧ Q (p_sets_6 x1.toNatClampNeg) e_stand_7 p_height_2 p_largest_3 p_ed_4 p_layers_5 p_sets_6)) ∧ ((r_1 = 0) → Q (-2 : Int32) e_stand p_height p_largest p_ed p_layers p_sets))
set_option maxRecDepth 100000 in
set_option maxHeartbeats 4000000 in
theorem c_X7_planSet (l : Launch) (G : va_G) (cI cD cZ cJ cO : ClassId) (z_a c_a c_as c_ad c_ar c_ah e_a e_at p_a p_al p_as s_a d_a t_a r_a q_a z_as : Nat) (z_saved : Int32) (c_points : Int32) (c_count : Int32) (c_ed : Int32) (c_sets : Nat → Int32) (c_scores : Nat → UInt64) (c_rated : Nat → Int32) (c_hold : Nat → Int32) (e_stand : Nat → Int32) (p_height : Int32) (p_largest : Int32) (p_ed : Int32) (p_layers : Nat → Int32) (p_sets : Nat → Int32) (x1 : Int32) (Q : Int32 → (Nat → Int32) → Int32 → Int32 → Int32 → (Nat → Int32) → (Nat → Int32) → Prop) (h : wp_X7_planSet x1 c_points c_count c_ed c_sets c_hold e_stand p_height p_largest p_ed p_layers p_sets Q) : CtI l yX7_planSet wsX7_planSet rm_X7_planSet G (TY cI cD cZ cJ cO) [.ref z_a, .int x1] [oX7 z_a c_a s_a d_a t_a z_saved e_a p_a r_a q_a z_as, oX0 c_a c_points c_count c_as c_ad c_ar c_ah c_ed, aI cI c_as 20 c_sets, aD cD c_ad 20 c_scores, aZ cZ c_ar 20 c_rated, aI cI c_ah 8 c_hold, oX4 e_a c_a e_at, aI cI e_at 256 e_stand, oX1 p_a c_a e_a p_al p_as p_height p_largest p_ed, aI cI p_al 20 p_layers, aI cI p_as 20 p_sets] (fun (r : Int32) (u : (Nat → Int32) × Int32 × Int32 × Int32 × (Nat → Int32) × (Nat → Int32)) => Q r u.1 u.2.1 u.2.2.1 u.2.2.2.1 u.2.2.2.2.1 u.2.2.2.2.2) (fun (u : (Nat → Int32) × Int32 × Int32 × Int32 × (Nat → Int32) × (Nat → Int32)) => [oX7 z_a c_a s_a d_a t_a z_saved e_a p_a r_a q_a z_as, oX0 c_a c_points c_count c_as c_ad c_ar c_ah c_ed, aI cI c_as 20 c_sets, aD cD c_ad 20 c_scores, aZ cZ c_ar 20 c_rated, aI cI c_ah 8 c_hold, oX4 e_a c_a e_at, aI cI e_at 256 u.1, oX1 p_a c_a e_a p_al p_as u.2.1 u.2.2.1 u.2.2.2.1, aI cI p_al 20 u.2.2.2.2.1, aI cI p_as 20 u.2.2.2.2.2]) := by
  refine ct_openI (cc := cX7_planSet) (maxL := 2) (ty := .int) (by decide) rfl (Nat.le_of_ble_eq_true rfl) ?_
  intro p e s m args below meth c A Z ls hx hb hml hown hts hK hA hret hP hD hS hl
  have hown : s.vm.findClass RX7 = some m.cls := hown
  have hl : lv_has ls 2 [(0, .ref z_a), (1, .int x1)] := hl
  have f_12 := hts (.fieldLink RX7 12 "TeachingSets" "concepts" "LTeachingSets$Concepts;") (List.mem_of_getElem? (i := 1) rfl)
  have f_49 := hts (.fieldLink RX7 49 "TeachingSets" "plan" "LTeachingSets$Plan;") (List.mem_of_getElem? (i := 2) rfl)
  have f_159 := hts (.fieldLink RX7 159 "TeachingSets$Plan" "sets" "[I") (List.mem_of_getElem? (i := 3) rfl)
  have i_X7 : ∀ w ∈ wsX70, w ∈ wsX7_planSet := fun _ h => List.mem_cons_of_mem _ (List.mem_append_left _ (List.mem_append_left _ (List.mem_append_left _ (List.mem_append_right _ (h)))))
  have i_X1 : ∀ w ∈ wsX10, w ∈ wsX7_planSet := fun _ h => List.mem_cons_of_mem _ (List.mem_append_left _ (List.mem_append_left _ (List.mem_append_right _ (h))))
  refine lv_aload_n hx hb dX7_planSet_0 rfl (lv_at hl 0 rfl) ?_
  refine va_get (D := G) (ci := 7) (v := .ref c_a) (C := RX7) (T := TX7) (N := 10) hx hb hts i_X7 hown hK.1 hP 0 rfl rfl 0 (by decide) f_12 (fun _ h9 => h9) rfl dX7_planSet_1 ?_
  refine lv_iload_n hx hb dX7_planSet_4 rfl (lv_at hl 1 rfl) ?_
  refine k_Vi (wr := [oX7 z_a c_a s_a d_a t_a z_saved e_a p_a r_a q_a z_as, oX4 e_a c_a e_at, aI cI e_at 256 e_stand, oX1 p_a c_a e_a p_al p_as p_height p_largest p_ed, aI cI p_al 20 p_layers, aI cI p_as 20 p_sets]) (wf := (fun (u : Unit) => [oX7 z_a c_a s_a d_a t_a z_saved e_a p_a r_a q_a z_as, oX0 c_a c_points c_count c_as c_ad c_ar c_ah c_ed, aI cI c_as 20 c_sets, aD cD c_ad 20 c_scores, aZ cZ c_ar 20 c_rated, aI cI c_ah 8 c_hold, oX4 e_a c_a e_at, aI cI e_at 256 e_stand, oX1 p_a c_a e_a p_al p_as p_height p_largest p_ed, aI cI p_al 20 p_layers, aI cI p_as 20 p_sets])) (As := [.int x1]) (rest := []) ⟨hx, hb, hml, hown, hts⟩ hK hP hD hS hA (c_X0_has l G cI cD cZ cJ cO c_a c_as c_ad c_ar c_ah c_points c_count c_ed c_sets c_scores c_rated c_hold x1 _ h) (cwV 1 hts gX7_planSet_X0_has rfl rfl rfl (by decide +kernel) ⟨Nat.le_of_ble_eq_true rfl, Nat.le_of_ble_eq_true rfl⟩) 0 rfl rfl [1, 2, 3, 4, 5] [0, 6, 7, 8, 9, 10] [0, 6, 7, 8, 9, 10, 1, 2, 3, 4, 5] rfl rfl rfl (fun _ => rfl) rfl rfl hl.1 (Nat.le_of_ble_eq_true rfl) ⟨Nat.zero_le _, Nat.zero_le _⟩ dX7_planSet_5 (fun r_1 u H locs h hP hD hS => ?_)
  have hP : va_P G vwCl [oX7 z_a c_a s_a d_a t_a z_saved e_a p_a r_a q_a z_as, oX0 c_a c_points c_count c_as c_ad c_ar c_ah c_ed, aI cI c_as 20 c_sets, aD cD c_ad 20 c_scores, aZ cZ c_ar 20 c_rated, aI cI c_ah 8 c_hold, oX4 e_a c_a e_at, aI cI e_at 256 e_stand, oX1 p_a c_a e_a p_al p_as p_height p_largest p_ed, aI cI p_al 20 p_layers, aI cI p_as 20 p_sets] H := hP
  have hD : va_D A [oX7 z_a c_a s_a d_a t_a z_saved e_a p_a r_a q_a z_as, oX0 c_a c_points c_count c_as c_ad c_ar c_ah c_ed, aI cI c_as 20 c_sets, aD cD c_ad 20 c_scores, aZ cZ c_ar 20 c_rated, aI cI c_ah 8 c_hold, oX4 e_a c_a e_at, aI cI e_at 256 e_stand, oX1 p_a c_a e_a p_al p_as p_height p_largest p_ed, aI cI p_al 20 p_layers, aI cI p_as 20 p_sets] := hD
  obtain ⟨ha, hf⟩ := h
  refine lv_if_ne (tgt := 14) hx hb dX7_planSet_8 (by decide) (fun hc => ?_) (fun hc => ?_)
  · have h := ha hc
    clear ha hf
    refine lv_aload_n hx hb dX7_planSet_14 rfl (lv_at hl 0 rfl) ?_
    refine va_get (D := G) (ci := 7) (v := .ref p_a) (C := RX7) (T := TX7) (N := 10) hx hb hts i_X7 hown hK.1 hP 0 rfl rfl 6 (by decide) f_49 (fun _ h9 => h9) rfl dX7_planSet_15 ?_
    refine k_Vv (wr := [oX7 z_a c_a s_a d_a t_a z_saved e_a p_a r_a q_a z_as]) (wf := (fun (u : Int32 × Int32 × Int32 × (Nat → Int32) × (Nat → Int32) × (Nat → Int32)) => [oX7 z_a c_a s_a d_a t_a z_saved e_a p_a r_a q_a z_as, oX0 c_a c_points c_count c_as c_ad c_ar c_ah c_ed, aI cI c_as 20 c_sets, aD cD c_ad 20 c_scores, aZ cZ c_ar 20 c_rated, aI cI c_ah 8 c_hold, oX4 e_a c_a e_at, aI cI e_at 256 u.2.2.2.2.2, oX1 p_a c_a e_a p_al p_as u.1 u.2.1 u.2.2.1, aI cI p_al 20 u.2.2.2.1, aI cI p_as 20 u.2.2.2.2.1])) (As := []) (rest := []) ⟨hx, hb, hml, hown, hts⟩ hK hP hD hS hA (c_X1_renew l G cI cD cZ cJ cO p_a p_al p_as e_a e_at c_a c_as c_ad c_ar c_ah p_height p_largest p_ed p_layers p_sets e_stand c_points c_count c_ed c_sets c_scores c_rated c_hold _ h) (cwV 0 hts gX7_planSet_X1_renew rfl rfl rfl (by decide +kernel) ⟨Nat.le_of_ble_eq_true rfl, Nat.le_of_ble_eq_true rfl⟩) 0 rfl rfl [8, 9, 10, 6, 7, 1, 2, 3, 4, 5] [0] [0, 6, 7, 8, 9, 10, 4, 5, 1, 2, 3] rfl rfl rfl (fun _ => rfl) rfl rfl hl.1 (Nat.le_of_ble_eq_true rfl) ⟨Nat.zero_le _, Nat.zero_le _⟩ dX7_planSet_18 (fun u H locs h hP hD hS => ?_)
    obtain ⟨p_height_2, p_largest_3, p_ed_4, p_layers_5, p_sets_6, e_stand_7⟩ := u
    have hP : va_P G vwCl [oX7 z_a c_a s_a d_a t_a z_saved e_a p_a r_a q_a z_as, oX0 c_a c_points c_count c_as c_ad c_ar c_ah c_ed, aI cI c_as 20 c_sets, aD cD c_ad 20 c_scores, aZ cZ c_ar 20 c_rated, aI cI c_ah 8 c_hold, oX4 e_a c_a e_at, aI cI e_at 256 e_stand_7, oX1 p_a c_a e_a p_al p_as p_height_2 p_largest_3 p_ed_4, aI cI p_al 20 p_layers_5, aI cI p_as 20 p_sets_6] H := hP
    have hD : va_D A [oX7 z_a c_a s_a d_a t_a z_saved e_a p_a r_a q_a z_as, oX0 c_a c_points c_count c_as c_ad c_ar c_ah c_ed, aI cI c_as 20 c_sets, aD cD c_ad 20 c_scores, aZ cZ c_ar 20 c_rated, aI cI c_ah 8 c_hold, oX4 e_a c_a e_at, aI cI e_at 256 e_stand_7, oX1 p_a c_a e_a p_al p_as p_height_2 p_largest_3 p_ed_4, aI cI p_al 20 p_layers_5, aI cI p_as 20 p_sets_6] := hD
    refine lv_aload_n hx hb dX7_planSet_21 rfl (lv_at hl 0 rfl) ?_
    refine va_get (D := G) (ci := 7) (v := .ref p_a) (C := RX7) (T := TX7) (N := 10) hx hb hts i_X7 hown hK.1 hP 0 rfl rfl 6 (by decide) f_49 (fun _ h9 => h9) rfl dX7_planSet_22 ?_
    refine va_get (D := G) (ci := 1) (v := .ref p_as) (C := RX1) (T := TX1) (N := 7) hx hb hts i_X1 hown hK.1 hP 8 rfl rfl 3 (by decide) f_159 (fun _ h9 => h9) rfl dX7_planSet_25 ?_
    refine lv_iload_n hx hb dX7_planSet_28 rfl (lv_at hl 1 rfl) ?_
    obtain ⟨hi, h⟩ := h
    refine va_iald hx hb hK.1 hP 10 0 rfl rfl hi dX7_planSet_29 ?_
    exact hret _ (e_stand_7, p_height_2, p_largest_3, p_ed_4, p_layers_5, p_sets_6) _ _ _ _ rfl h hP hD hS dX7_planSet_30
  · have h := hf hc
    clear ha hf
    refine lv_bipush (v := (-2 : Int32)) hx hb dX7_planSet_11 (by decide) ?_
    exact hret _ (e_stand, p_height, p_largest, p_ed, p_layers, p_sets) _ _ _ _ rfl h hP hD hS dX7_planSet_13
abbrev rm_X7_decode : Room := { frames := 7, cells := 0, slots := 0, locals := 159 }
def wp_X7_decode_b28 (c_points : Int32) (c_count : Int32) (c_ed : Int32) (c_sets : Nat → Int32) (c_hold : Nat → Int32) (s_count : Int32) (s_codes : Nat → Int32) (Q : Int32 → (Nat → Int32) → Int32 → Int32 → Int32 → (Nat → Int32) → (Nat → Int32) → Prop)  : Nat → Int32 → Int32 → Int32 → Int32 → (Nat → Int32) → Int32 → Int32 → Int32 → (Nat → Int32) → (Nat → Int32) → Prop
  | 0, _, _, _, _, _, _, _, _, _, _ => False
  | n + 1, x1, x2, x3, x4, e_stand, p_height, p_largest, p_ed, p_layers, p_sets => ((c_count ≤ x4) → Q x3 e_stand p_height p_largest p_ed p_layers p_sets) ∧ ((¬ c_count ≤ x4) → wp_X7_hasBit x1 x4 (fun (r_8 : Int32) => ((r_8 = 0) → wp_X7_decode_b28 c_points c_count c_ed c_sets c_hold s_count s_codes Q n x1 x2 x3 (x4 + (1 : Int32)) e_stand p_height p_largest p_ed p_layers p_sets) ∧ ((¬ r_8 = 0) → vp_in x4 20 ∧ ((x2 ≤ (p_layers x4.toNatClampNeg)) → wp_X7_decode_b28 c_points c_count c_ed c_sets c_hold s_count s_codes Q n x1 x2 x3 (x4 + (1 : Int32)) e_stand p_height p_largest p_ed p_layers p_sets) ∧ ((¬ x2 ≤ (p_layers x4.toNatClampNeg)) → vp_in x4 20 ∧ wp_X7_decode_b28 c_points c_count c_ed c_sets c_hold s_count s_codes Q n x1 (p_layers x4.toNatClampNeg) x4 (x4 + (1 : Int32)) e_stand p_height p_largest p_ed p_layers p_sets))))
def wp_X7_decode (c_points : Int32) (c_count : Int32) (c_ed : Int32) (c_sets : Nat → Int32) (c_hold : Nat → Int32) (s_count : Int32) (s_codes : Nat → Int32) (e_stand : Nat → Int32) (p_height : Int32) (p_largest : Int32) (p_ed : Int32) (p_layers : Nat → Int32) (p_sets : Nat → Int32) (Q : Int32 → (Nat → Int32) → Int32 → Int32 → Int32 → (Nat → Int32) → (Nat → Int32) → Prop) : Prop := wp_X7_versions c_count c_hold s_count s_codes (fun (r_1 : Int32) => ((¬ r_1 = 0) → wp_X1_renew p_height p_largest p_ed p_layers p_sets e_stand c_points c_count c_ed c_sets c_hold (fun (p_height_2 : Int32) (p_largest_3 : Int32) (p_ed_4 : Int32) (p_layers_5 : Nat → Int32) (p_sets_6 : Nat → Int32) (e_stand_7 : Nat → Int32) => ∃ j28, wp_X7_decode_b28 c_points c_count c_ed c_sets c_hold s_count s_codes Q j28 r_1 (20 : Int32) (-7 : Int32) (0 : Int32) e_stand_7 p_height_2 p_largest_3 p_ed_4 p_layers_5 p_sets_6)) ∧ ((r_1 = 0) → Q (-7 : Int32) e_stand p_height p_largest p_ed p_layers p_sets))
set_option maxRecDepth 100000 in
set_option maxHeartbeats 4000000 in
theorem c_X7_decode (l : Launch) (G : va_G) (cI cD cZ cJ cO : ClassId) (z_a c_a c_as c_ad c_ar c_ah s_a s_ac e_a e_at p_a p_al p_as d_a t_a r_a q_a z_as : Nat) (z_saved : Int32) (c_points : Int32) (c_count : Int32) (c_ed : Int32) (c_sets : Nat → Int32) (c_scores : Nat → UInt64) (c_rated : Nat → Int32) (c_hold : Nat → Int32) (s_count : Int32) (s_codes : Nat → Int32) (e_stand : Nat → Int32) (p_height : Int32) (p_largest : Int32) (p_ed : Int32) (p_layers : Nat → Int32) (p_sets : Nat → Int32) (Q : Int32 → (Nat → Int32) → Int32 → Int32 → Int32 → (Nat → Int32) → (Nat → Int32) → Prop) (h : wp_X7_decode c_points c_count c_ed c_sets c_hold s_count s_codes e_stand p_height p_largest p_ed p_layers p_sets Q) : CtI l yX7_decode wsX7_decode rm_X7_decode G (TY cI cD cZ cJ cO) [.ref z_a] [oX7 z_a c_a s_a d_a t_a z_saved e_a p_a r_a q_a z_as, oX0 c_a c_points c_count c_as c_ad c_ar c_ah c_ed, aI cI c_as 20 c_sets, aD cD c_ad 20 c_scores, aZ cZ c_ar 20 c_rated, aI cI c_ah 8 c_hold, oX3 s_a s_count s_ac, aI cI s_ac 12 s_codes, oX4 e_a c_a e_at, aI cI e_at 256 e_stand, oX1 p_a c_a e_a p_al p_as p_height p_largest p_ed, aI cI p_al 20 p_layers, aI cI p_as 20 p_sets] (fun (r : Int32) (u : (Nat → Int32) × Int32 × Int32 × Int32 × (Nat → Int32) × (Nat → Int32)) => Q r u.1 u.2.1 u.2.2.1 u.2.2.2.1 u.2.2.2.2.1 u.2.2.2.2.2) (fun (u : (Nat → Int32) × Int32 × Int32 × Int32 × (Nat → Int32) × (Nat → Int32)) => [oX7 z_a c_a s_a d_a t_a z_saved e_a p_a r_a q_a z_as, oX0 c_a c_points c_count c_as c_ad c_ar c_ah c_ed, aI cI c_as 20 c_sets, aD cD c_ad 20 c_scores, aZ cZ c_ar 20 c_rated, aI cI c_ah 8 c_hold, oX3 s_a s_count s_ac, aI cI s_ac 12 s_codes, oX4 e_a c_a e_at, aI cI e_at 256 u.1, oX1 p_a c_a e_a p_al p_as u.2.1 u.2.2.1 u.2.2.2.1, aI cI p_al 20 u.2.2.2.2.1, aI cI p_as 20 u.2.2.2.2.2]) := by
  refine ct_openI (cc := cX7_decode) (maxL := 5) (ty := .int) (by decide) rfl (Nat.le_of_ble_eq_true rfl) ?_
  intro p e s m args below meth c A Z ls hx hb hml hown hts hK hA hret hP hD hS hl
  have hown : s.vm.findClass RX7 = some m.cls := hown
  have hl : lv_has ls 5 [(0, .ref z_a)] := hl
  have f_49 := hts (.fieldLink RX7 49 "TeachingSets" "plan" "LTeachingSets$Plan;") (List.mem_of_getElem? (i := 1) rfl)
  have f_12 := hts (.fieldLink RX7 12 "TeachingSets" "concepts" "LTeachingSets$Concepts;") (List.mem_of_getElem? (i := 2) rfl)
  have f_96 := hts (.fieldLink RX7 96 "TeachingSets$Concepts" "count" "I") (List.mem_of_getElem? (i := 3) rfl)
  have f_156 := hts (.fieldLink RX7 156 "TeachingSets$Plan" "layers" "[I") (List.mem_of_getElem? (i := 4) rfl)
  have i_X7 : ∀ w ∈ wsX70, w ∈ wsX7_decode := fun _ h => List.mem_cons_of_mem _ (List.mem_append_left _ (List.mem_append_left _ (List.mem_append_left _ (List.mem_append_left _ (List.mem_append_right _ (h))))))
  have i_X0 : ∀ w ∈ wsX00, w ∈ wsX7_decode := fun _ h => List.mem_cons_of_mem _ (List.mem_append_left _ (List.mem_append_left _ (List.mem_append_left _ (List.mem_append_right _ (h)))))
  have i_X1 : ∀ w ∈ wsX10, w ∈ wsX7_decode := fun _ h => List.mem_cons_of_mem _ (List.mem_append_left _ (List.mem_append_left _ (List.mem_append_right _ (h))))
  have b_28 : ∀ (n : Nat) (x1 : Int32) (x2 : Int32) (x3 : Int32) (x4 : Int32) (e_stand : Nat → Int32) (p_height : Int32) (p_largest : Int32) (p_ed : Int32) (p_layers : Nat → Int32) (p_sets : Nat → Int32), wp_X7_decode_b28 c_points c_count c_ed c_sets c_hold s_count s_codes Q n x1 x2 x3 x4 e_stand p_height p_largest p_ed p_layers p_sets → ∀ (H : Heap) (locs : List Loc) (ls : Array Slot), ST G A s.heap [oX7 z_a c_a s_a d_a t_a z_saved e_a p_a r_a q_a z_as, oX0 c_a c_points c_count c_as c_ad c_ar c_ah c_ed, aI cI c_as 20 c_sets, aD cD c_ad 20 c_scores, aZ cZ c_ar 20 c_rated, aI cI c_ah 8 c_hold, oX3 s_a s_count s_ac, aI cI s_ac 12 s_codes, oX4 e_a c_a e_at, aI cI e_at 256 e_stand, oX1 p_a c_a e_a p_al p_as p_height p_largest p_ed, aI cI p_al 20 p_layers, aI cI p_as 20 p_sets] 5 [(0, .ref z_a), (1, .int x1), (2, .int x2), (3, .int x3), (4, .int x4)] H locs ls → W p l e rm_X7_decode s m args below meth c H locs 0 0 Z (F0 m 28 ls []) := by
    intro n
    induction n with
    | zero =>
      intro x1 x2 x3 x4 e_stand p_height p_largest p_ed p_layers p_sets h; exact False.elim h
    | succ n ih =>
      intro x1 x2 x3 x4 e_stand p_height p_largest p_ed p_layers p_sets h H locs ls hst
      obtain ⟨hP, hD, hS, hl⟩ := hst
      refine lv_iload hx hb dX7_decode_28 (lv_at hl 4 rfl) ?_
      refine lv_aload_n hx hb dX7_decode_30 rfl (lv_at hl 0 rfl) ?_
      refine va_get (D := G) (ci := 7) (v := .ref c_a) (C := RX7) (T := TX7) (N := 10) hx hb hts i_X7 hown hK.1 hP 0 rfl rfl 0 (by decide) f_12 (fun _ h9 => h9) rfl dX7_decode_31 ?_
      refine va_get (D := G) (ci := 0) (v := .int c_count) (C := RX0) (T := TX0) (N := 7) hx hb hts i_X0 hown hK.1 hP 1 rfl rfl 1 (by decide) f_96 (fun _ h9 => h9) rfl dX7_decode_34 ?_
      obtain ⟨ha, hf⟩ := h
      refine lv_icmp_ge (tgt := 83) hx hb dX7_decode_37 (by decide) (fun hc => ?_) (fun hc => ?_)
      · have h := ha hc
        clear ha hf
        refine lv_iload_n hx hb dX7_decode_83 rfl (lv_at hl 3 rfl) ?_
        exact hret _ (e_stand, p_height, p_largest, p_ed, p_layers, p_sets) _ _ _ _ rfl h hP hD hS dX7_decode_84
      · have h := hf hc
        clear ha hf
        refine lv_iload_n hx hb dX7_decode_40 rfl (lv_at hl 1 rfl) ?_
        refine lv_iload hx hb dX7_decode_41 (lv_at hl 4 rfl) ?_
        refine k_Si (wr := [oX7 z_a c_a s_a d_a t_a z_saved e_a p_a r_a q_a z_as, oX0 c_a c_points c_count c_as c_ad c_ar c_ah c_ed, aI cI c_as 20 c_sets, aD cD c_ad 20 c_scores, aZ cZ c_ar 20 c_rated, aI cI c_ah 8 c_hold, oX3 s_a s_count s_ac, aI cI s_ac 12 s_codes, oX4 e_a c_a e_at, aI cI e_at 256 e_stand, oX1 p_a c_a e_a p_al p_as p_height p_largest p_ed, aI cI p_al 20 p_layers, aI cI p_as 20 p_sets]) (wf := (fun (u : Unit) => [oX7 z_a c_a s_a d_a t_a z_saved e_a p_a r_a q_a z_as, oX0 c_a c_points c_count c_as c_ad c_ar c_ah c_ed, aI cI c_as 20 c_sets, aD cD c_ad 20 c_scores, aZ cZ c_ar 20 c_rated, aI cI c_ah 8 c_hold, oX3 s_a s_count s_ac, aI cI s_ac 12 s_codes, oX4 e_a c_a e_at, aI cI e_at 256 e_stand, oX1 p_a c_a e_a p_al p_as p_height p_largest p_ed, aI cI p_al 20 p_layers, aI cI p_as 20 p_sets])) (As := [.int x1, .int x4]) (rest := []) ⟨hx, hb, hml, hown, hts⟩ hK hP hD hS hA (c_X7_hasBit l G cI cD cZ cJ cO x1 x4 _ h) (va_cwS 2 hts gX7_decode_X7_hasBit rfl rfl rfl (by decide +kernel) ⟨Nat.le_of_ble_eq_true rfl, Nat.le_of_ble_eq_true rfl⟩) [] [0, 1, 2, 3, 4, 5, 6, 7, 8, 9, 10, 11, 12] [0, 1, 2, 3, 4, 5, 6, 7, 8, 9, 10, 11, 12] rfl rfl rfl (fun _ => rfl) rfl rfl hl.1 (Nat.le_of_ble_eq_true rfl) ⟨Nat.zero_le _, Nat.zero_le _⟩ dX7_decode_43 (fun r_8 u H locs h hP hD hS => ?_)
        have hP : va_P G vwCl [oX7 z_a c_a s_a d_a t_a z_saved e_a p_a r_a q_a z_as, oX0 c_a c_points c_count c_as c_ad c_ar c_ah c_ed, aI cI c_as 20 c_sets, aD cD c_ad 20 c_scores, aZ cZ c_ar 20 c_rated, aI cI c_ah 8 c_hold, oX3 s_a s_count s_ac, aI cI s_ac 12 s_codes, oX4 e_a c_a e_at, aI cI e_at 256 e_stand, oX1 p_a c_a e_a p_al p_as p_height p_largest p_ed, aI cI p_al 20 p_layers, aI cI p_as 20 p_sets] H := hP
        have hD : va_D A [oX7 z_a c_a s_a d_a t_a z_saved e_a p_a r_a q_a z_as, oX0 c_a c_points c_count c_as c_ad c_ar c_ah c_ed, aI cI c_as 20 c_sets, aD cD c_ad 20 c_scores, aZ cZ c_ar 20 c_rated, aI cI c_ah 8 c_hold, oX3 s_a s_count s_ac, aI cI s_ac 12 s_codes, oX4 e_a c_a e_at, aI cI e_at 256 e_stand, oX1 p_a c_a e_a p_al p_as p_height p_largest p_ed, aI cI p_al 20 p_layers, aI cI p_as 20 p_sets] := hD
        obtain ⟨ha, hf⟩ := h
        refine lv_if_eq (tgt := 77) hx hb dX7_decode_46 (by decide) (fun hc => ?_) (fun hc => ?_)
        · have h := ha hc
          clear ha hf
          refine lv_iinc (v := (x4 + (1 : Int32))) (lv' := [(4, .int (x4 + (1 : Int32))), (0, .ref z_a), (1, .int x1), (2, .int x2), (3, .int x3)]) hx hb dX7_decode_77 hl (k := 4) rfl rfl (by decide) rfl (fun ls hl => ?_)
          refine lv_goto (tgt := 28) hx hb dX7_decode_80 (by decide) ?_
          exact ih _ _ _ _ _ _ _ _ _ _ h _ _ _ ⟨hP, hD, hS, lv_sub hl [1, 2, 3, 4, 0] rfl⟩
        · have h := hf hc
          clear ha hf
          refine lv_aload_n hx hb dX7_decode_49 rfl (lv_at hl 0 rfl) ?_
          refine va_get (D := G) (ci := 7) (v := .ref p_a) (C := RX7) (T := TX7) (N := 10) hx hb hts i_X7 hown hK.1 hP 0 rfl rfl 6 (by decide) f_49 (fun _ h9 => h9) rfl dX7_decode_50 ?_
          refine va_get (D := G) (ci := 1) (v := .ref p_al) (C := RX1) (T := TX1) (N := 7) hx hb hts i_X1 hown hK.1 hP 10 rfl rfl 2 (by decide) f_156 (fun _ h9 => h9) rfl dX7_decode_53 ?_
          refine lv_iload hx hb dX7_decode_56 (lv_at hl 4 rfl) ?_
          obtain ⟨hi, h⟩ := h
          refine va_iald hx hb hK.1 hP 11 0 rfl rfl hi dX7_decode_58 ?_
          refine lv_iload_n hx hb dX7_decode_59 rfl (lv_at hl 2 rfl) ?_
          obtain ⟨ha, hf⟩ := h
          refine lv_icmp_ge (tgt := 77) hx hb dX7_decode_60 (by decide) (fun hc => ?_) (fun hc => ?_)
          · have h := ha hc
            clear ha hf
            refine lv_iinc (v := (x4 + (1 : Int32))) (lv' := [(4, .int (x4 + (1 : Int32))), (0, .ref z_a), (1, .int x1), (2, .int x2), (3, .int x3)]) hx hb dX7_decode_77 hl (k := 4) rfl rfl (by decide) rfl (fun ls hl => ?_)
            refine lv_goto (tgt := 28) hx hb dX7_decode_80 (by decide) ?_
            exact ih _ _ _ _ _ _ _ _ _ _ h _ _ _ ⟨hP, hD, hS, lv_sub hl [1, 2, 3, 4, 0] rfl⟩
          · have h := hf hc
            clear ha hf
            refine lv_aload_n hx hb dX7_decode_63 rfl (lv_at hl 0 rfl) ?_
            refine va_get (D := G) (ci := 7) (v := .ref p_a) (C := RX7) (T := TX7) (N := 10) hx hb hts i_X7 hown hK.1 hP 0 rfl rfl 6 (by decide) f_49 (fun _ h9 => h9) rfl dX7_decode_64 ?_
            refine va_get (D := G) (ci := 1) (v := .ref p_al) (C := RX1) (T := TX1) (N := 7) hx hb hts i_X1 hown hK.1 hP 10 rfl rfl 2 (by decide) f_156 (fun _ h9 => h9) rfl dX7_decode_67 ?_
            refine lv_iload hx hb dX7_decode_70 (lv_at hl 4 rfl) ?_
            obtain ⟨hi, h⟩ := h
            refine va_iald hx hb hK.1 hP 11 0 rfl rfl hi dX7_decode_72 ?_
            refine lv_istore_n (lv' := [(2, .int (p_layers x4.toNatClampNeg)), (0, .ref z_a), (1, .int x1), (3, .int x3), (4, .int x4)]) hx hb dX7_decode_73 rfl hl (by decide) rfl (fun ls hl => ?_)
            refine lv_iload hx hb dX7_decode_74 (lv_at hl 4 rfl) ?_
            refine lv_istore_n (lv' := [(3, .int x4), (2, .int (p_layers x4.toNatClampNeg)), (0, .ref z_a), (1, .int x1), (4, .int x4)]) hx hb dX7_decode_76 rfl hl (by decide) rfl (fun ls hl => ?_)
            refine lv_iinc (v := (x4 + (1 : Int32))) (lv' := [(4, .int (x4 + (1 : Int32))), (3, .int x4), (2, .int (p_layers x4.toNatClampNeg)), (0, .ref z_a), (1, .int x1)]) hx hb dX7_decode_77 hl (k := 4) rfl rfl (by decide) rfl (fun ls hl => ?_)
            refine lv_goto (tgt := 28) hx hb dX7_decode_80 (by decide) ?_
            exact ih _ _ _ _ _ _ _ _ _ _ h _ _ _ ⟨hP, hD, hS, lv_sub hl [3, 4, 2, 1, 0] rfl⟩
  refine lv_aload_n hx hb dX7_decode_0 rfl (lv_at hl 0 rfl) ?_
  refine k_Vi (wr := [oX4 e_a c_a e_at, aI cI e_at 256 e_stand, oX1 p_a c_a e_a p_al p_as p_height p_largest p_ed, aI cI p_al 20 p_layers, aI cI p_as 20 p_sets]) (wf := (fun (u : Unit) => [oX7 z_a c_a s_a d_a t_a z_saved e_a p_a r_a q_a z_as, oX0 c_a c_points c_count c_as c_ad c_ar c_ah c_ed, aI cI c_as 20 c_sets, aD cD c_ad 20 c_scores, aZ cZ c_ar 20 c_rated, aI cI c_ah 8 c_hold, oX3 s_a s_count s_ac, aI cI s_ac 12 s_codes, oX4 e_a c_a e_at, aI cI e_at 256 e_stand, oX1 p_a c_a e_a p_al p_as p_height p_largest p_ed, aI cI p_al 20 p_layers, aI cI p_as 20 p_sets])) (As := []) (rest := []) ⟨hx, hb, hml, hown, hts⟩ hK hP hD hS hA (c_X7_versions l G cI cD cZ cJ cO z_a c_a c_as c_ad c_ar c_ah s_a s_ac d_a t_a e_a p_a r_a q_a z_as z_saved c_points c_count c_ed c_sets c_scores c_rated c_hold s_count s_codes _ h) (cwV 0 hts gX7_decode_X7_versions rfl rfl rfl (by decide +kernel) ⟨Nat.le_of_ble_eq_true rfl, Nat.le_of_ble_eq_true rfl⟩) 0 rfl rfl [0, 1, 2, 3, 4, 5, 6, 7] [8, 9, 10, 11, 12] [5, 6, 7, 8, 9, 10, 11, 12, 0, 1, 2, 3, 4] rfl rfl rfl (fun _ => rfl) rfl rfl hl.1 (Nat.le_of_ble_eq_true rfl) ⟨Nat.zero_le _, Nat.zero_le _⟩ dX7_decode_1 (fun r_1 u H locs h hP hD hS => ?_)
  have hP : va_P G vwCl [oX7 z_a c_a s_a d_a t_a z_saved e_a p_a r_a q_a z_as, oX0 c_a c_points c_count c_as c_ad c_ar c_ah c_ed, aI cI c_as 20 c_sets, aD cD c_ad 20 c_scores, aZ cZ c_ar 20 c_rated, aI cI c_ah 8 c_hold, oX3 s_a s_count s_ac, aI cI s_ac 12 s_codes, oX4 e_a c_a e_at, aI cI e_at 256 e_stand, oX1 p_a c_a e_a p_al p_as p_height p_largest p_ed, aI cI p_al 20 p_layers, aI cI p_as 20 p_sets] H := hP
  have hD : va_D A [oX7 z_a c_a s_a d_a t_a z_saved e_a p_a r_a q_a z_as, oX0 c_a c_points c_count c_as c_ad c_ar c_ah c_ed, aI cI c_as 20 c_sets, aD cD c_ad 20 c_scores, aZ cZ c_ar 20 c_rated, aI cI c_ah 8 c_hold, oX3 s_a s_count s_ac, aI cI s_ac 12 s_codes, oX4 e_a c_a e_at, aI cI e_at 256 e_stand, oX1 p_a c_a e_a p_al p_as p_height p_largest p_ed, aI cI p_al 20 p_layers, aI cI p_as 20 p_sets] := hD
  refine lv_istore_n (lv' := [(1, .int r_1), (0, .ref z_a)]) hx hb dX7_decode_4 rfl hl (by decide) rfl (fun ls hl => ?_)
  refine lv_iload_n hx hb dX7_decode_5 rfl (lv_at hl 0 rfl) ?_
  obtain ⟨ha, hf⟩ := h
  refine lv_if_ne (tgt := 12) hx hb dX7_decode_6 (by decide) (fun hc => ?_) (fun hc => ?_)
  · have h := ha hc
    clear ha hf
    refine lv_aload_n hx hb dX7_decode_12 rfl (lv_at hl 1 rfl) ?_
    refine va_get (D := G) (ci := 7) (v := .ref p_a) (C := RX7) (T := TX7) (N := 10) hx hb hts i_X7 hown hK.1 hP 0 rfl rfl 6 (by decide) f_49 (fun _ h9 => h9) rfl dX7_decode_13 ?_
    refine k_Vv (wr := [oX7 z_a c_a s_a d_a t_a z_saved e_a p_a r_a q_a z_as, oX3 s_a s_count s_ac, aI cI s_ac 12 s_codes]) (wf := (fun (u : Int32 × Int32 × Int32 × (Nat → Int32) × (Nat → Int32) × (Nat → Int32)) => [oX7 z_a c_a s_a d_a t_a z_saved e_a p_a r_a q_a z_as, oX0 c_a c_points c_count c_as c_ad c_ar c_ah c_ed, aI cI c_as 20 c_sets, aD cD c_ad 20 c_scores, aZ cZ c_ar 20 c_rated, aI cI c_ah 8 c_hold, oX3 s_a s_count s_ac, aI cI s_ac 12 s_codes, oX4 e_a c_a e_at, aI cI e_at 256 u.2.2.2.2.2, oX1 p_a c_a e_a p_al p_as u.1 u.2.1 u.2.2.1, aI cI p_al 20 u.2.2.2.1, aI cI p_as 20 u.2.2.2.2.1])) (As := []) (rest := []) ⟨hx, hb, hml, hown, hts⟩ hK hP hD hS hA (c_X1_renew l G cI cD cZ cJ cO p_a p_al p_as e_a e_at c_a c_as c_ad c_ar c_ah p_height p_largest p_ed p_layers p_sets e_stand c_points c_count c_ed c_sets c_scores c_rated c_hold _ h) (cwV 0 hts gX7_decode_X1_renew rfl rfl rfl (by decide +kernel) ⟨Nat.le_of_ble_eq_true rfl, Nat.le_of_ble_eq_true rfl⟩) 0 rfl rfl [10, 11, 12, 8, 9, 1, 2, 3, 4, 5] [0, 6, 7] [0, 8, 9, 10, 11, 12, 1, 2, 6, 7, 3, 4, 5] rfl rfl rfl (fun _ => rfl) rfl rfl hl.1 (Nat.le_of_ble_eq_true rfl) ⟨Nat.zero_le _, Nat.zero_le _⟩ dX7_decode_16 (fun u H locs h hP hD hS => ?_)
    obtain ⟨p_height_2, p_largest_3, p_ed_4, p_layers_5, p_sets_6, e_stand_7⟩ := u
    have hP : va_P G vwCl [oX7 z_a c_a s_a d_a t_a z_saved e_a p_a r_a q_a z_as, oX0 c_a c_points c_count c_as c_ad c_ar c_ah c_ed, aI cI c_as 20 c_sets, aD cD c_ad 20 c_scores, aZ cZ c_ar 20 c_rated, aI cI c_ah 8 c_hold, oX3 s_a s_count s_ac, aI cI s_ac 12 s_codes, oX4 e_a c_a e_at, aI cI e_at 256 e_stand_7, oX1 p_a c_a e_a p_al p_as p_height_2 p_largest_3 p_ed_4, aI cI p_al 20 p_layers_5, aI cI p_as 20 p_sets_6] H := hP
    have hD : va_D A [oX7 z_a c_a s_a d_a t_a z_saved e_a p_a r_a q_a z_as, oX0 c_a c_points c_count c_as c_ad c_ar c_ah c_ed, aI cI c_as 20 c_sets, aD cD c_ad 20 c_scores, aZ cZ c_ar 20 c_rated, aI cI c_ah 8 c_hold, oX3 s_a s_count s_ac, aI cI s_ac 12 s_codes, oX4 e_a c_a e_at, aI cI e_at 256 e_stand_7, oX1 p_a c_a e_a p_al p_as p_height_2 p_largest_3 p_ed_4, aI cI p_al 20 p_layers_5, aI cI p_as 20 p_sets_6] := hD
    refine lv_bipush (v := (20 : Int32)) hx hb dX7_decode_19 (by decide) ?_
    refine lv_istore_n (lv' := [(2, .int (20 : Int32)), (1, .int r_1), (0, .ref z_a)]) hx hb dX7_decode_21 rfl hl (by decide) rfl (fun ls hl => ?_)
    refine lv_bipush (v := (-7 : Int32)) hx hb dX7_decode_22 (by decide) ?_
    refine lv_istore_n (lv' := [(3, .int (-7 : Int32)), (2, .int (20 : Int32)), (1, .int r_1), (0, .ref z_a)]) hx hb dX7_decode_24 rfl hl (by decide) rfl (fun ls hl => ?_)
    refine lv_iconst (v := (0 : Int32)) hx hb dX7_decode_25 (by decide) ?_
    refine lv_istore (lv' := [(4, .int (0 : Int32)), (3, .int (-7 : Int32)), (2, .int (20 : Int32)), (1, .int r_1), (0, .ref z_a)]) hx hb dX7_decode_26 hl (by decide) rfl (fun ls hl => ?_)
    obtain ⟨j, h⟩ := h
    exact b_28  j _ _ _ _ _ _ _ _ _ _ h _ _ _ ⟨hP, hD, hS, lv_sub hl [4, 3, 2, 1, 0] rfl⟩
  · have h := hf hc
    clear ha hf
    refine lv_bipush (v := (-7 : Int32)) hx hb dX7_decode_9 (by decide) ?_
    exact hret _ (e_stand, p_height, p_largest, p_ed, p_layers, p_sets) _ _ _ _ rfl h hP hD hS dX7_decode_11
abbrev rm_X7_traceCount : Room := { frames := 2, cells := 0, slots := 0, locals := 47 }
def wp_X7_traceCount (x1 : Int32) (c_points : Int32) (c_count : Int32) (c_sets : Nat → Int32) (r_seen : Nat → Int64) (Q : Int32 → (Nat → Int64) → Prop) : Prop := wp_X0_isSet x1 c_points (fun (r_1 : Int32) => ((r_1 = 0) → Q (-1 : Int32) r_seen) ∧ ((¬ r_1 = 0) → wp_X6_countOn x1 r_seen c_count c_sets (fun (r_2 : Int32) (r_seen_3 : Nat → Int64) => Q r_2 r_seen_3)))
set_option maxRecDepth 100000 in
set_option maxHeartbeats 4000000 in
theorem c_X7_traceCount (l : Launch) (G : va_G) (cI cD cZ cJ cO : ClassId) (z_a c_a c_as c_ad c_ar c_ah r_a r_as s_a d_a t_a e_a p_a q_a z_as : Nat) (z_saved : Int32) (c_points : Int32) (c_count : Int32) (c_ed : Int32) (c_sets : Nat → Int32) (c_scores : Nat → UInt64) (c_rated : Nat → Int32) (c_hold : Nat → Int32) (r_seen : Nat → Int64) (x1 : Int32) (Q : Int32 → (Nat → Int64) → Prop) (h : wp_X7_traceCount x1 c_points c_count c_sets r_seen Q) : CtI l yX7_traceCount wsX7_traceCount rm_X7_traceCount G (TY cI cD cZ cJ cO) [.ref z_a, .int x1] [oX7 z_a c_a s_a d_a t_a z_saved e_a p_a r_a q_a z_as, oX0 c_a c_points c_count c_as c_ad c_ar c_ah c_ed, aI cI c_as 20 c_sets, aD cD c_ad 20 c_scores, aZ cZ c_ar 20 c_rated, aI cI c_ah 8 c_hold, oX6 r_a c_a r_as, aJ cJ r_as 4 r_seen] (fun (r : Int32) (u : (Nat → Int64)) => Q r u) (fun (u : (Nat → Int64)) => [oX7 z_a c_a s_a d_a t_a z_saved e_a p_a r_a q_a z_as, oX0 c_a c_points c_count c_as c_ad c_ar c_ah c_ed, aI cI c_as 20 c_sets, aD cD c_ad 20 c_scores, aZ cZ c_ar 20 c_rated, aI cI c_ah 8 c_hold, oX6 r_a c_a r_as, aJ cJ r_as 4 u]) := by
  refine ct_openI (cc := cX7_traceCount) (maxL := 2) (ty := .int) (by decide) rfl (Nat.le_of_ble_eq_true rfl) ?_
  intro p e s m args below meth c A Z ls hx hb hml hown hts hK hA hret hP hD hS hl
  have hown : s.vm.findClass RX7 = some m.cls := hown
  have hl : lv_has ls 2 [(0, .ref z_a), (1, .int x1)] := hl
  have f_12 := hts (.fieldLink RX7 12 "TeachingSets" "concepts" "LTeachingSets$Concepts;") (List.mem_of_getElem? (i := 1) rfl)
  have f_56 := hts (.fieldLink RX7 56 "TeachingSets" "traces" "LTeachingSets$Traces;") (List.mem_of_getElem? (i := 2) rfl)
  have i_X7 : ∀ w ∈ wsX70, w ∈ wsX7_traceCount := fun _ h => List.mem_cons_of_mem _ (List.mem_append_left _ (List.mem_append_left _ (List.mem_append_right _ (h))))
  refine lv_aload_n hx hb dX7_traceCount_0 rfl (lv_at hl 0 rfl) ?_
  refine va_get (D := G) (ci := 7) (v := .ref c_a) (C := RX7) (T := TX7) (N := 10) hx hb hts i_X7 hown hK.1 hP 0 rfl rfl 0 (by decide) f_12 (fun _ h9 => h9) rfl dX7_traceCount_1 ?_
  refine lv_iload_n hx hb dX7_traceCount_4 rfl (lv_at hl 1 rfl) ?_
  refine k_Vi (wr := [oX7 z_a c_a s_a d_a t_a z_saved e_a p_a r_a q_a z_as, oX6 r_a c_a r_as, aJ cJ r_as 4 r_seen]) (wf := (fun (u : Unit) => [oX7 z_a c_a s_a d_a t_a z_saved e_a p_a r_a q_a z_as, oX0 c_a c_points c_count c_as c_ad c_ar c_ah c_ed, aI cI c_as 20 c_sets, aD cD c_ad 20 c_scores, aZ cZ c_ar 20 c_rated, aI cI c_ah 8 c_hold, oX6 r_a c_a r_as, aJ cJ r_as 4 r_seen])) (As := [.int x1]) (rest := []) ⟨hx, hb, hml, hown, hts⟩ hK hP hD hS hA (c_X0_isSet l G cI cD cZ cJ cO c_a c_as c_ad c_ar c_ah c_points c_count c_ed c_sets c_scores c_rated c_hold x1 _ h) (cwV 1 hts gX7_traceCount_X0_isSet rfl rfl rfl (by decide +kernel) ⟨Nat.le_of_ble_eq_true rfl, Nat.le_of_ble_eq_true rfl⟩) 0 rfl rfl [1, 2, 3, 4, 5] [0, 6, 7] [0, 3, 4, 5, 6, 7, 1, 2] rfl rfl rfl (fun _ => rfl) rfl rfl hl.1 (Nat.le_of_ble_eq_true rfl) ⟨Nat.zero_le _, Nat.zero_le _⟩ dX7_traceCount_5 (fun r_1 u H locs h hP hD hS => ?_)
  have hP : va_P G vwCl [oX7 z_a c_a s_a d_a t_a z_saved e_a p_a r_a q_a z_as, oX0 c_a c_points c_count c_as c_ad c_ar c_ah c_ed, aI cI c_as 20 c_sets, aD cD c_ad 20 c_scores, aZ cZ c_ar 20 c_rated, aI cI c_ah 8 c_hold, oX6 r_a c_a r_as, aJ cJ r_as 4 r_seen] H := hP
  have hD : va_D A [oX7 z_a c_a s_a d_a t_a z_saved e_a p_a r_a q_a z_as, oX0 c_a c_points c_count c_as c_ad c_ar c_ah c_ed, aI cI c_as 20 c_sets, aD cD c_ad 20 c_scores, aZ cZ c_ar 20 c_rated, aI cI c_ah 8 c_hold, oX6 r_a c_a r_as, aJ cJ r_as 4 r_seen] := hD
  obtain ⟨ha, hf⟩ := h
  refine lv_if_eq (tgt := 22) hx hb dX7_traceCount_8 (by decide) (fun hc => ?_) (fun hc => ?_)
  · have h := ha hc
    clear ha hf
    refine lv_iconst (v := (-1 : Int32)) hx hb dX7_traceCount_22 (by decide) ?_
    exact hret _ r_seen _ _ _ _ rfl h hP hD hS dX7_traceCount_23
  · have h := hf hc
    clear ha hf
    refine lv_aload_n hx hb dX7_traceCount_11 rfl (lv_at hl 0 rfl) ?_
    refine va_get (D := G) (ci := 7) (v := .ref r_a) (C := RX7) (T := TX7) (N := 10) hx hb hts i_X7 hown hK.1 hP 0 rfl rfl 7 (by decide) f_56 (fun _ h9 => h9) rfl dX7_traceCount_12 ?_
    refine lv_iload_n hx hb dX7_traceCount_15 rfl (lv_at hl 1 rfl) ?_
    refine k_Vi (wr := [oX7 z_a c_a s_a d_a t_a z_saved e_a p_a r_a q_a z_as]) (wf := (fun (u : (Nat → Int64)) => [oX7 z_a c_a s_a d_a t_a z_saved e_a p_a r_a q_a z_as, oX0 c_a c_points c_count c_as c_ad c_ar c_ah c_ed, aI cI c_as 20 c_sets, aD cD c_ad 20 c_scores, aZ cZ c_ar 20 c_rated, aI cI c_ah 8 c_hold, oX6 r_a c_a r_as, aJ cJ r_as 4 u])) (As := [.int x1]) (rest := []) ⟨hx, hb, hml, hown, hts⟩ hK hP hD hS hA (c_X6_countOn l G cI cD cZ cJ cO r_a r_as c_a c_as c_ad c_ar c_ah r_seen c_points c_count c_ed c_sets c_scores c_rated c_hold x1 _ h) (cwV 1 hts gX7_traceCount_X6_countOn rfl rfl rfl (by decide +kernel) ⟨Nat.le_of_ble_eq_true rfl, Nat.le_of_ble_eq_true rfl⟩) 0 rfl rfl [6, 7, 1, 2, 3, 4, 5] [0] [0, 3, 4, 5, 6, 7, 1, 2] rfl rfl rfl (fun _ => rfl) rfl rfl hl.1 (Nat.le_of_ble_eq_true rfl) ⟨Nat.zero_le _, Nat.zero_le _⟩ dX7_traceCount_16 (fun r_2 u H locs h hP hD hS => ?_)
    obtain ⟨r_seen_3, rfl⟩ : ∃ z, z = u := ⟨_, rfl⟩
    have hP : va_P G vwCl [oX7 z_a c_a s_a d_a t_a z_saved e_a p_a r_a q_a z_as, oX0 c_a c_points c_count c_as c_ad c_ar c_ah c_ed, aI cI c_as 20 c_sets, aD cD c_ad 20 c_scores, aZ cZ c_ar 20 c_rated, aI cI c_ah 8 c_hold, oX6 r_a c_a r_as, aJ cJ r_as 4 r_seen_3] H := hP
    have hD : va_D A [oX7 z_a c_a s_a d_a t_a z_saved e_a p_a r_a q_a z_as, oX0 c_a c_points c_count c_as c_ad c_ar c_ah c_ed, aI cI c_as 20 c_sets, aD cD c_ad 20 c_scores, aZ cZ c_ar 20 c_rated, aI cI c_ah 8 c_hold, oX6 r_a c_a r_as, aJ cJ r_as 4 r_seen_3] := hD
    refine lv_goto (tgt := 23) hx hb dX7_traceCount_19 (by decide) ?_
    exact hret _ r_seen_3 _ _ _ _ rfl h hP hD hS dX7_traceCount_23
abbrev rm_X7_dimension : Room := { frames := 3, cells := 0, slots := 0, locals := 69 }
def wp_X7_dimension_b4 (c_points : Int32) (c_count : Int32) (c_sets : Nat → Int32) (Q : Int32 → (Nat → Int64) → Prop)  : Nat → Int32 → Int32 → (Nat → Int64) → Prop
  | 0, _, _, _ => False
  | n + 1, x1, x2, r_seen => wp_X0_allPoints c_points (fun (r_1 : Int32) => ((r_1 < x2) → Q x1 r_seen) ∧ ((¬ r_1 < x2) → wp_J6_bitCount_0f7a4 x2 (fun (r_2 : Int32) => ((r_2 ≤ x1) → wp_X7_dimension_b4 c_points c_count c_sets Q n x1 (x2 + (1 : Int32)) r_seen) ∧ ((¬ r_2 ≤ x1) → wp_X6_shatter x2 r_seen c_count c_sets (fun (r_3 : Int32) (r_seen_4 : Nat → Int64) => ((r_3 = 0) → wp_X7_dimension_b4 c_points c_count c_sets Q n x1 (x2 + (1 : Int32)) r_seen_4) ∧ ((¬ r_3 = 0) → wp_X7_dimension_b4 c_points c_count c_sets Q n r_2 (x2 + (1 : Int32)) r_seen_4))))))
def wp_X7_dimension (c_points : Int32) (c_count : Int32) (c_sets : Nat → Int32) (r_seen : Nat → Int64) (Q : Int32 → (Nat → Int64) → Prop) : Prop := ∃ j4, wp_X7_dimension_b4 c_points c_count c_sets Q j4 (-1 : Int32) (0 : Int32) r_seen
set_option maxRecDepth 100000 in
set_option maxHeartbeats 4000000 in
theorem c_X7_dimension (l : Launch) (G : va_G) (cI cD cZ cJ cO : ClassId) (z_a c_a c_as c_ad c_ar c_ah r_a r_as s_a d_a t_a e_a p_a q_a z_as : Nat) (z_saved : Int32) (c_points : Int32) (c_count : Int32) (c_ed : Int32) (c_sets : Nat → Int32) (c_scores : Nat → UInt64) (c_rated : Nat → Int32) (c_hold : Nat → Int32) (r_seen : Nat → Int64) (Q : Int32 → (Nat → Int64) → Prop) (h : wp_X7_dimension c_points c_count c_sets r_seen Q) : CtI l yX7_dimension wsX7_dimension rm_X7_dimension G (TY cI cD cZ cJ cO) [.ref z_a] [oX7 z_a c_a s_a d_a t_a z_saved e_a p_a r_a q_a z_as, oX0 c_a c_points c_count c_as c_ad c_ar c_ah c_ed, aI cI c_as 20 c_sets, aD cD c_ad 20 c_scores, aZ cZ c_ar 20 c_rated, aI cI c_ah 8 c_hold, oX6 r_a c_a r_as, aJ cJ r_as 4 r_seen] (fun (r : Int32) (u : (Nat → Int64)) => Q r u) (fun (u : (Nat → Int64)) => [oX7 z_a c_a s_a d_a t_a z_saved e_a p_a r_a q_a z_as, oX0 c_a c_points c_count c_as c_ad c_ar c_ah c_ed, aI cI c_as 20 c_sets, aD cD c_ad 20 c_scores, aZ cZ c_ar 20 c_rated, aI cI c_ah 8 c_hold, oX6 r_a c_a r_as, aJ cJ r_as 4 u]) := by
  refine ct_openI (cc := cX7_dimension) (maxL := 4) (ty := .int) (by decide) rfl (Nat.le_of_ble_eq_true rfl) ?_
  intro p e s m args below meth c A Z ls hx hb hml hown hts hK hA hret hP hD hS hl
  have hown : s.vm.findClass RX7 = some m.cls := hown
  have hl : lv_has ls 4 [(0, .ref z_a)] := hl
  have f_12 := hts (.fieldLink RX7 12 "TeachingSets" "concepts" "LTeachingSets$Concepts;") (List.mem_of_getElem? (i := 1) rfl)
  have f_56 := hts (.fieldLink RX7 56 "TeachingSets" "traces" "LTeachingSets$Traces;") (List.mem_of_getElem? (i := 2) rfl)
  have i_X7 : ∀ w ∈ wsX70, w ∈ wsX7_dimension := fun _ h => List.mem_cons_of_mem _ (List.mem_append_left _ (List.mem_append_left _ (List.mem_append_right _ (h))))
  have b_4 : ∀ (n : Nat) (x1 : Int32) (x2 : Int32) (r_seen : Nat → Int64), wp_X7_dimension_b4 c_points c_count c_sets Q n x1 x2 r_seen → ∀ (H : Heap) (locs : List Loc) (ls : Array Slot), ST G A s.heap [oX7 z_a c_a s_a d_a t_a z_saved e_a p_a r_a q_a z_as, oX0 c_a c_points c_count c_as c_ad c_ar c_ah c_ed, aI cI c_as 20 c_sets, aD cD c_ad 20 c_scores, aZ cZ c_ar 20 c_rated, aI cI c_ah 8 c_hold, oX6 r_a c_a r_as, aJ cJ r_as 4 r_seen] 4 [(0, .ref z_a), (1, .int x1), (2, .int x2)] H locs ls → W p l e rm_X7_dimension s m args below meth c H locs 0 0 Z (F0 m 4 ls []) := by
    intro n
    induction n with
    | zero =>
      intro x1 x2 r_seen h; exact False.elim h
    | succ n ih =>
      intro x1 x2 r_seen h H locs ls hst
      obtain ⟨hP, hD, hS, hl⟩ := hst
      refine lv_iload_n hx hb dX7_dimension_4 rfl (lv_at hl 2 rfl) ?_
      refine lv_aload_n hx hb dX7_dimension_5 rfl (lv_at hl 0 rfl) ?_
      refine va_get (D := G) (ci := 7) (v := .ref c_a) (C := RX7) (T := TX7) (N := 10) hx hb hts i_X7 hown hK.1 hP 0 rfl rfl 0 (by decide) f_12 (fun _ h9 => h9) rfl dX7_dimension_6 ?_
      refine k_Vi (wr := [oX7 z_a c_a s_a d_a t_a z_saved e_a p_a r_a q_a z_as, oX6 r_a c_a r_as, aJ cJ r_as 4 r_seen]) (wf := (fun (u : Unit) => [oX7 z_a c_a s_a d_a t_a z_saved e_a p_a r_a q_a z_as, oX0 c_a c_points c_count c_as c_ad c_ar c_ah c_ed, aI cI c_as 20 c_sets, aD cD c_ad 20 c_scores, aZ cZ c_ar 20 c_rated, aI cI c_ah 8 c_hold, oX6 r_a c_a r_as, aJ cJ r_as 4 r_seen])) (As := []) (rest := [.int x2]) ⟨hx, hb, hml, hown, hts⟩ hK hP hD hS hA (c_X0_allPoints l G cI cD cZ cJ cO c_a c_as c_ad c_ar c_ah c_points c_count c_ed c_sets c_scores c_rated c_hold _ h) (cwV 0 hts gX7_dimension_X0_allPoints rfl rfl rfl (by decide +kernel) ⟨Nat.le_of_ble_eq_true rfl, Nat.le_of_ble_eq_true rfl⟩) 0 rfl rfl [1, 2, 3, 4, 5] [0, 6, 7] [0, 3, 4, 5, 6, 7, 1, 2] rfl rfl rfl (fun _ => rfl) rfl rfl hl.1 (Nat.le_of_ble_eq_true rfl) ⟨Nat.zero_le _, Nat.zero_le _⟩ dX7_dimension_9 (fun r_1 u H locs h hP hD hS => ?_)
      have hP : va_P G vwCl [oX7 z_a c_a s_a d_a t_a z_saved e_a p_a r_a q_a z_as, oX0 c_a c_points c_count c_as c_ad c_ar c_ah c_ed, aI cI c_as 20 c_sets, aD cD c_ad 20 c_scores, aZ cZ c_ar 20 c_rated, aI cI c_ah 8 c_hold, oX6 r_a c_a r_as, aJ cJ r_as 4 r_seen] H := hP
      have hD : va_D A [oX7 z_a c_a s_a d_a t_a z_saved e_a p_a r_a q_a z_as, oX0 c_a c_points c_count c_as c_ad c_ar c_ah c_ed, aI cI c_as 20 c_sets, aD cD c_ad 20 c_scores, aZ cZ c_ar 20 c_rated, aI cI c_ah 8 c_hold, oX6 r_a c_a r_as, aJ cJ r_as 4 r_seen] := hD
      obtain ⟨ha, hf⟩ := h
      refine lv_icmp_gt (tgt := 44) hx hb dX7_dimension_12 (by decide) (fun hc => ?_) (fun hc => ?_)
      · have h := ha hc
        clear ha hf
        refine lv_iload_n hx hb dX7_dimension_44 rfl (lv_at hl 1 rfl) ?_
        exact hret _ r_seen _ _ _ _ rfl h hP hD hS dX7_dimension_45
      · have h := hf hc
        clear ha hf
        refine lv_iload_n hx hb dX7_dimension_15 rfl (lv_at hl 2 rfl) ?_
        refine k_Si (wr := [oX7 z_a c_a s_a d_a t_a z_saved e_a p_a r_a q_a z_as, oX0 c_a c_points c_count c_as c_ad c_ar c_ah c_ed, aI cI c_as 20 c_sets, aD cD c_ad 20 c_scores, aZ cZ c_ar 20 c_rated, aI cI c_ah 8 c_hold, oX6 r_a c_a r_as, aJ cJ r_as 4 r_seen]) (wf := (fun (u : Unit) => [oX7 z_a c_a s_a d_a t_a z_saved e_a p_a r_a q_a z_as, oX0 c_a c_points c_count c_as c_ad c_ar c_ah c_ed, aI cI c_as 20 c_sets, aD cD c_ad 20 c_scores, aZ cZ c_ar 20 c_rated, aI cI c_ah 8 c_hold, oX6 r_a c_a r_as, aJ cJ r_as 4 r_seen])) (As := [.int x2]) (rest := []) ⟨hx, hb, hml, hown, hts⟩ hK hP hD hS hA (c_J6_bitCount_0f7a4 l G cI cD cZ cJ cO x2 _ h) (va_cwS 1 hts gX7_dimension_J6_bitCount_0f7a4 rfl rfl rfl (by decide +kernel) ⟨Nat.le_of_ble_eq_true rfl, Nat.le_of_ble_eq_true rfl⟩) [] [0, 1, 2, 3, 4, 5, 6, 7] [0, 1, 2, 3, 4, 5, 6, 7] rfl rfl rfl (fun _ => rfl) rfl rfl hl.1 (Nat.le_of_ble_eq_true rfl) ⟨Nat.zero_le _, Nat.zero_le _⟩ dX7_dimension_16 (fun r_2 u H locs h hP hD hS => ?_)
        have hP : va_P G vwCl [oX7 z_a c_a s_a d_a t_a z_saved e_a p_a r_a q_a z_as, oX0 c_a c_points c_count c_as c_ad c_ar c_ah c_ed, aI cI c_as 20 c_sets, aD cD c_ad 20 c_scores, aZ cZ c_ar 20 c_rated, aI cI c_ah 8 c_hold, oX6 r_a c_a r_as, aJ cJ r_as 4 r_seen] H := hP
        have hD : va_D A [oX7 z_a c_a s_a d_a t_a z_saved e_a p_a r_a q_a z_as, oX0 c_a c_points c_count c_as c_ad c_ar c_ah c_ed, aI cI c_as 20 c_sets, aD cD c_ad 20 c_scores, aZ cZ c_ar 20 c_rated, aI cI c_ah 8 c_hold, oX6 r_a c_a r_as, aJ cJ r_as 4 r_seen] := hD
        refine lv_istore_n (lv' := [(3, .int r_2), (0, .ref z_a), (1, .int x1), (2, .int x2)]) hx hb dX7_dimension_19 rfl hl (by decide) rfl (fun ls hl => ?_)
        refine lv_iload_n hx hb dX7_dimension_20 rfl (lv_at hl 0 rfl) ?_
        refine lv_iload_n hx hb dX7_dimension_21 rfl (lv_at hl 2 rfl) ?_
        obtain ⟨ha, hf⟩ := h
        refine lv_icmp_le (tgt := 38) hx hb dX7_dimension_22 (by decide) (fun hc => ?_) (fun hc => ?_)
        · have h := ha hc
          clear ha hf
          refine lv_iinc (v := (x2 + (1 : Int32))) (lv' := [(2, .int (x2 + (1 : Int32))), (3, .int r_2), (0, .ref z_a), (1, .int x1)]) hx hb dX7_dimension_38 hl (k := 3) rfl rfl (by decide) rfl (fun ls hl => ?_)
          refine lv_goto (tgt := 4) hx hb dX7_dimension_41 (by decide) ?_
          exact ih _ _ _ h _ _ _ ⟨hP, hD, hS, lv_sub hl [2, 3, 0] rfl⟩
        · have h := hf hc
          clear ha hf
          refine lv_aload_n hx hb dX7_dimension_25 rfl (lv_at hl 1 rfl) ?_
          refine va_get (D := G) (ci := 7) (v := .ref r_a) (C := RX7) (T := TX7) (N := 10) hx hb hts i_X7 hown hK.1 hP 0 rfl rfl 7 (by decide) f_56 (fun _ h9 => h9) rfl dX7_dimension_26 ?_
          refine lv_iload_n hx hb dX7_dimension_29 rfl (lv_at hl 3 rfl) ?_
          refine k_Vi (wr := [oX7 z_a c_a s_a d_a t_a z_saved e_a p_a r_a q_a z_as]) (wf := (fun (u : (Nat → Int64)) => [oX7 z_a c_a s_a d_a t_a z_saved e_a p_a r_a q_a z_as, oX0 c_a c_points c_count c_as c_ad c_ar c_ah c_ed, aI cI c_as 20 c_sets, aD cD c_ad 20 c_scores, aZ cZ c_ar 20 c_rated, aI cI c_ah 8 c_hold, oX6 r_a c_a r_as, aJ cJ r_as 4 u])) (As := [.int x2]) (rest := []) ⟨hx, hb, hml, hown, hts⟩ hK hP hD hS hA (c_X6_shatter l G cI cD cZ cJ cO r_a r_as c_a c_as c_ad c_ar c_ah r_seen c_points c_count c_ed c_sets c_scores c_rated c_hold x2 _ h) (cwV 1 hts gX7_dimension_X6_shatter rfl rfl rfl (by decide +kernel) ⟨Nat.le_of_ble_eq_true rfl, Nat.le_of_ble_eq_true rfl⟩) 0 rfl rfl [6, 7, 1, 2, 3, 4, 5] [0] [0, 3, 4, 5, 6, 7, 1, 2] rfl rfl rfl (fun _ => rfl) rfl rfl hl.1 (Nat.le_of_ble_eq_true rfl) ⟨Nat.zero_le _, Nat.zero_le _⟩ dX7_dimension_30 (fun r_3 u H locs h hP hD hS => ?_)
          obtain ⟨r_seen_4, rfl⟩ : ∃ z, z = u := ⟨_, rfl⟩
          have hP : va_P G vwCl [oX7 z_a c_a s_a d_a t_a z_saved e_a p_a r_a q_a z_as, oX0 c_a c_points c_count c_as c_ad c_ar c_ah c_ed, aI cI c_as 20 c_sets, aD cD c_ad 20 c_scores, aZ cZ c_ar 20 c_rated, aI cI c_ah 8 c_hold, oX6 r_a c_a r_as, aJ cJ r_as 4 r_seen_4] H := hP
          have hD : va_D A [oX7 z_a c_a s_a d_a t_a z_saved e_a p_a r_a q_a z_as, oX0 c_a c_points c_count c_as c_ad c_ar c_ah c_ed, aI cI c_as 20 c_sets, aD cD c_ad 20 c_scores, aZ cZ c_ar 20 c_rated, aI cI c_ah 8 c_hold, oX6 r_a c_a r_as, aJ cJ r_as 4 r_seen_4] := hD
          obtain ⟨ha, hf⟩ := h
          refine lv_if_eq (tgt := 38) hx hb dX7_dimension_33 (by decide) (fun hc => ?_) (fun hc => ?_)
          · have h := ha hc
            clear ha hf
            refine lv_iinc (v := (x2 + (1 : Int32))) (lv' := [(2, .int (x2 + (1 : Int32))), (3, .int r_2), (0, .ref z_a), (1, .int x1)]) hx hb dX7_dimension_38 hl (k := 3) rfl rfl (by decide) rfl (fun ls hl => ?_)
            refine lv_goto (tgt := 4) hx hb dX7_dimension_41 (by decide) ?_
            exact ih _ _ _ h _ _ _ ⟨hP, hD, hS, lv_sub hl [2, 3, 0] rfl⟩
          · have h := hf hc
            clear ha hf
            refine lv_iload_n hx hb dX7_dimension_36 rfl (lv_at hl 0 rfl) ?_
            refine lv_istore_n (lv' := [(1, .int r_2), (3, .int r_2), (0, .ref z_a), (2, .int x2)]) hx hb dX7_dimension_37 rfl hl (by decide) rfl (fun ls hl => ?_)
            refine lv_iinc (v := (x2 + (1 : Int32))) (lv' := [(2, .int (x2 + (1 : Int32))), (1, .int r_2), (3, .int r_2), (0, .ref z_a)]) hx hb dX7_dimension_38 hl (k := 3) rfl rfl (by decide) rfl (fun ls hl => ?_)
            refine lv_goto (tgt := 4) hx hb dX7_dimension_41 (by decide) ?_
            exact ih _ _ _ h _ _ _ ⟨hP, hD, hS, lv_sub hl [3, 1, 0] rfl⟩
  refine lv_iconst (v := (-1 : Int32)) hx hb dX7_dimension_0 (by decide) ?_
  refine lv_istore_n (lv' := [(1, .int (-1 : Int32)), (0, .ref z_a)]) hx hb dX7_dimension_1 rfl hl (by decide) rfl (fun ls hl => ?_)
  refine lv_iconst (v := (0 : Int32)) hx hb dX7_dimension_2 (by decide) ?_
  refine lv_istore_n (lv' := [(2, .int (0 : Int32)), (1, .int (-1 : Int32)), (0, .ref z_a)]) hx hb dX7_dimension_3 rfl hl (by decide) rfl (fun ls hl => ?_)
  obtain ⟨j, h⟩ := h
  exact b_4  j _ _ _ h _ _ _ ⟨hP, hD, hS, lv_sub hl [2, 1, 0] rfl⟩
abbrev rm_X7_shatteredSet : Room := { frames := 3, cells := 0, slots := 0, locals := 69 }
def wp_X7_shatteredSet_b15 (x1 : Int32) (c_points : Int32) (c_count : Int32) (c_sets : Nat → Int32) (Q : Int32 → (Nat → Int64) → Prop)  : Nat → Int32 → (Nat → Int64) → Prop
  | 0, _, _ => False
  | n + 1, x2, r_seen => wp_X0_allPoints c_points (fun (r_2 : Int32) => ((r_2 < x2) → Q (-6 : Int32) r_seen) ∧ ((¬ r_2 < x2) → wp_J6_bitCount_0f7a4 x2 (fun (r_3 : Int32) => ((¬ r_3 = x1) → wp_X7_shatteredSet_b15 x1 c_points c_count c_sets Q n (x2 + (1 : Int32)) r_seen) ∧ ((r_3 = x1) → wp_X6_shatter x2 r_seen c_count c_sets (fun (r_4 : Int32) (r_seen_5 : Nat → Int64) => ((r_4 = 0) → wp_X7_shatteredSet_b15 x1 c_points c_count c_sets Q n (x2 + (1 : Int32)) r_seen_5) ∧ ((¬ r_4 = 0) → Q x2 r_seen_5))))))
def wp_X7_shatteredSet (x1 : Int32) (c_points : Int32) (c_count : Int32) (c_sets : Nat → Int32) (r_seen : Nat → Int64) (Q : Int32 → (Nat → Int64) → Prop) : Prop := wp_X0_isSize x1 c_points (fun (r_1 : Int32) => ((¬ r_1 = 0) → ∃ j15, wp_X7_shatteredSet_b15 x1 c_points c_count c_sets Q j15 (0 : Int32) r_seen) ∧ ((r_1 = 0) → Q (-1 : Int32) r_seen))
set_option maxRecDepth 100000 in
set_option maxHeartbeats 4000000 in
theorem c_X7_shatteredSet (l : Launch) (G : va_G) (cI cD cZ cJ cO : ClassId) (z_a c_a c_as c_ad c_ar c_ah r_a r_as s_a d_a t_a e_a p_a q_a z_as : Nat) (z_saved : Int32) (c_points : Int32) (c_count : Int32) (c_ed : Int32) (c_sets : Nat → Int32) (c_scores : Nat → UInt64) (c_rated : Nat → Int32) (c_hold : Nat → Int32) (r_seen : Nat → Int64) (x1 : Int32) (Q : Int32 → (Nat → Int64) → Prop) (h : wp_X7_shatteredSet x1 c_points c_count c_sets r_seen Q) : CtI l yX7_shatteredSet wsX7_shatteredSet rm_X7_shatteredSet G (TY cI cD cZ cJ cO) [.ref z_a, .int x1] [oX7 z_a c_a s_a d_a t_a z_saved e_a p_a r_a q_a z_as, oX0 c_a c_points c_count c_as c_ad c_ar c_ah c_ed, aI cI c_as 20 c_sets, aD cD c_ad 20 c_scores, aZ cZ c_ar 20 c_rated, aI cI c_ah 8 c_hold, oX6 r_a c_a r_as, aJ cJ r_as 4 r_seen] (fun (r : Int32) (u : (Nat → Int64)) => Q r u) (fun (u : (Nat → Int64)) => [oX7 z_a c_a s_a d_a t_a z_saved e_a p_a r_a q_a z_as, oX0 c_a c_points c_count c_as c_ad c_ar c_ah c_ed, aI cI c_as 20 c_sets, aD cD c_ad 20 c_scores, aZ cZ c_ar 20 c_rated, aI cI c_ah 8 c_hold, oX6 r_a c_a r_as, aJ cJ r_as 4 u]) := by
  refine ct_openI (cc := cX7_shatteredSet) (maxL := 3) (ty := .int) (by decide) rfl (Nat.le_of_ble_eq_true rfl) ?_
  intro p e s m args below meth c A Z ls hx hb hml hown hts hK hA hret hP hD hS hl
  have hown : s.vm.findClass RX7 = some m.cls := hown
  have hl : lv_has ls 3 [(0, .ref z_a), (1, .int x1)] := hl
  have f_12 := hts (.fieldLink RX7 12 "TeachingSets" "concepts" "LTeachingSets$Concepts;") (List.mem_of_getElem? (i := 1) rfl)
  have f_56 := hts (.fieldLink RX7 56 "TeachingSets" "traces" "LTeachingSets$Traces;") (List.mem_of_getElem? (i := 2) rfl)
  have i_X7 : ∀ w ∈ wsX70, w ∈ wsX7_shatteredSet := fun _ h => List.mem_cons_of_mem _ (List.mem_append_left _ (List.mem_append_left _ (List.mem_append_right _ (h))))
  have b_15 : ∀ (n : Nat) (x2 : Int32) (r_seen : Nat → Int64), wp_X7_shatteredSet_b15 x1 c_points c_count c_sets Q n x2 r_seen → ∀ (H : Heap) (locs : List Loc) (ls : Array Slot), ST G A s.heap [oX7 z_a c_a s_a d_a t_a z_saved e_a p_a r_a q_a z_as, oX0 c_a c_points c_count c_as c_ad c_ar c_ah c_ed, aI cI c_as 20 c_sets, aD cD c_ad 20 c_scores, aZ cZ c_ar 20 c_rated, aI cI c_ah 8 c_hold, oX6 r_a c_a r_as, aJ cJ r_as 4 r_seen] 3 [(0, .ref z_a), (1, .int x1), (2, .int x2)] H locs ls → W p l e rm_X7_shatteredSet s m args below meth c H locs 0 0 Z (F0 m 15 ls []) := by
    intro n
    induction n with
    | zero =>
      intro x2 r_seen h; exact False.elim h
    | succ n ih =>
      intro x2 r_seen h H locs ls hst
      obtain ⟨hP, hD, hS, hl⟩ := hst
      refine lv_iload_n hx hb dX7_shatteredSet_15 rfl (lv_at hl 2 rfl) ?_
      refine lv_aload_n hx hb dX7_shatteredSet_16 rfl (lv_at hl 0 rfl) ?_
      refine va_get (D := G) (ci := 7) (v := .ref c_a) (C := RX7) (T := TX7) (N := 10) hx hb hts i_X7 hown hK.1 hP 0 rfl rfl 0 (by decide) f_12 (fun _ h9 => h9) rfl dX7_shatteredSet_17 ?_
      refine k_Vi (wr := [oX7 z_a c_a s_a d_a t_a z_saved e_a p_a r_a q_a z_as, oX6 r_a c_a r_as, aJ cJ r_as 4 r_seen]) (wf := (fun (u : Unit) => [oX7 z_a c_a s_a d_a t_a z_saved e_a p_a r_a q_a z_as, oX0 c_a c_points c_count c_as c_ad c_ar c_ah c_ed, aI cI c_as 20 c_sets, aD cD c_ad 20 c_scores, aZ cZ c_ar 20 c_rated, aI cI c_ah 8 c_hold, oX6 r_a c_a r_as, aJ cJ r_as 4 r_seen])) (As := []) (rest := [.int x2]) ⟨hx, hb, hml, hown, hts⟩ hK hP hD hS hA (c_X0_allPoints l G cI cD cZ cJ cO c_a c_as c_ad c_ar c_ah c_points c_count c_ed c_sets c_scores c_rated c_hold _ h) (cwV 0 hts gX7_shatteredSet_X0_allPoints rfl rfl rfl (by decide +kernel) ⟨Nat.le_of_ble_eq_true rfl, Nat.le_of_ble_eq_true rfl⟩) 0 rfl rfl [1, 2, 3, 4, 5] [0, 6, 7] [0, 3, 4, 5, 6, 7, 1, 2] rfl rfl rfl (fun _ => rfl) rfl rfl hl.1 (Nat.le_of_ble_eq_true rfl) ⟨Nat.zero_le _, Nat.zero_le _⟩ dX7_shatteredSet_20 (fun r_2 u H locs h hP hD hS => ?_)
      have hP : va_P G vwCl [oX7 z_a c_a s_a d_a t_a z_saved e_a p_a r_a q_a z_as, oX0 c_a c_points c_count c_as c_ad c_ar c_ah c_ed, aI cI c_as 20 c_sets, aD cD c_ad 20 c_scores, aZ cZ c_ar 20 c_rated, aI cI c_ah 8 c_hold, oX6 r_a c_a r_as, aJ cJ r_as 4 r_seen] H := hP
      have hD : va_D A [oX7 z_a c_a s_a d_a t_a z_saved e_a p_a r_a q_a z_as, oX0 c_a c_points c_count c_as c_ad c_ar c_ah c_ed, aI cI c_as 20 c_sets, aD cD c_ad 20 c_scores, aZ cZ c_ar 20 c_rated, aI cI c_ah 8 c_hold, oX6 r_a c_a r_as, aJ cJ r_as 4 r_seen] := hD
      obtain ⟨ha, hf⟩ := h
      refine lv_icmp_gt (tgt := 53) hx hb dX7_shatteredSet_23 (by decide) (fun hc => ?_) (fun hc => ?_)
      · have h := ha hc
        clear ha hf
        refine lv_bipush (v := (-6 : Int32)) hx hb dX7_shatteredSet_53 (by decide) ?_
        exact hret _ r_seen _ _ _ _ rfl h hP hD hS dX7_shatteredSet_55
      · have h := hf hc
        clear ha hf
        refine lv_iload_n hx hb dX7_shatteredSet_26 rfl (lv_at hl 2 rfl) ?_
        refine k_Si (wr := [oX7 z_a c_a s_a d_a t_a z_saved e_a p_a r_a q_a z_as, oX0 c_a c_points c_count c_as c_ad c_ar c_ah c_ed, aI cI c_as 20 c_sets, aD cD c_ad 20 c_scores, aZ cZ c_ar 20 c_rated, aI cI c_ah 8 c_hold, oX6 r_a c_a r_as, aJ cJ r_as 4 r_seen]) (wf := (fun (u : Unit) => [oX7 z_a c_a s_a d_a t_a z_saved e_a p_a r_a q_a z_as, oX0 c_a c_points c_count c_as c_ad c_ar c_ah c_ed, aI cI c_as 20 c_sets, aD cD c_ad 20 c_scores, aZ cZ c_ar 20 c_rated, aI cI c_ah 8 c_hold, oX6 r_a c_a r_as, aJ cJ r_as 4 r_seen])) (As := [.int x2]) (rest := []) ⟨hx, hb, hml, hown, hts⟩ hK hP hD hS hA (c_J6_bitCount_0f7a4 l G cI cD cZ cJ cO x2 _ h) (va_cwS 1 hts gX7_shatteredSet_J6_bitCount_0f7a4 rfl rfl rfl (by decide +kernel) ⟨Nat.le_of_ble_eq_true rfl, Nat.le_of_ble_eq_true rfl⟩) [] [0, 1, 2, 3, 4, 5, 6, 7] [0, 1, 2, 3, 4, 5, 6, 7] rfl rfl rfl (fun _ => rfl) rfl rfl hl.1 (Nat.le_of_ble_eq_true rfl) ⟨Nat.zero_le _, Nat.zero_le _⟩ dX7_shatteredSet_27 (fun r_3 u H locs h hP hD hS => ?_)
        have hP : va_P G vwCl [oX7 z_a c_a s_a d_a t_a z_saved e_a p_a r_a q_a z_as, oX0 c_a c_points c_count c_as c_ad c_ar c_ah c_ed, aI cI c_as 20 c_sets, aD cD c_ad 20 c_scores, aZ cZ c_ar 20 c_rated, aI cI c_ah 8 c_hold, oX6 r_a c_a r_as, aJ cJ r_as 4 r_seen] H := hP
        have hD : va_D A [oX7 z_a c_a s_a d_a t_a z_saved e_a p_a r_a q_a z_as, oX0 c_a c_points c_count c_as c_ad c_ar c_ah c_ed, aI cI c_as 20 c_sets, aD cD c_ad 20 c_scores, aZ cZ c_ar 20 c_rated, aI cI c_ah 8 c_hold, oX6 r_a c_a r_as, aJ cJ r_as 4 r_seen] := hD
        refine lv_iload_n hx hb dX7_shatteredSet_30 rfl (lv_at hl 1 rfl) ?_
        obtain ⟨ha, hf⟩ := h
        refine lv_icmp_ne (tgt := 47) hx hb dX7_shatteredSet_31 (by decide) (fun hc => ?_) (fun hc => ?_)
        · have h := ha hc
          clear ha hf
          refine lv_iinc (v := (x2 + (1 : Int32))) (lv' := [(2, .int (x2 + (1 : Int32))), (0, .ref z_a), (1, .int x1)]) hx hb dX7_shatteredSet_47 hl (k := 2) rfl rfl (by decide) rfl (fun ls hl => ?_)
          refine lv_goto (tgt := 15) hx hb dX7_shatteredSet_50 (by decide) ?_
          exact ih _ _ h _ _ _ ⟨hP, hD, hS, lv_sub hl [1, 2, 0] rfl⟩
        · have h := hf hc
          clear ha hf
          refine lv_aload_n hx hb dX7_shatteredSet_34 rfl (lv_at hl 0 rfl) ?_
          refine va_get (D := G) (ci := 7) (v := .ref r_a) (C := RX7) (T := TX7) (N := 10) hx hb hts i_X7 hown hK.1 hP 0 rfl rfl 7 (by decide) f_56 (fun _ h9 => h9) rfl dX7_shatteredSet_35 ?_
          refine lv_iload_n hx hb dX7_shatteredSet_38 rfl (lv_at hl 2 rfl) ?_
          refine k_Vi (wr := [oX7 z_a c_a s_a d_a t_a z_saved e_a p_a r_a q_a z_as]) (wf := (fun (u : (Nat → Int64)) => [oX7 z_a c_a s_a d_a t_a z_saved e_a p_a r_a q_a z_as, oX0 c_a c_points c_count c_as c_ad c_ar c_ah c_ed, aI cI c_as 20 c_sets, aD cD c_ad 20 c_scores, aZ cZ c_ar 20 c_rated, aI cI c_ah 8 c_hold, oX6 r_a c_a r_as, aJ cJ r_as 4 u])) (As := [.int x2]) (rest := []) ⟨hx, hb, hml, hown, hts⟩ hK hP hD hS hA (c_X6_shatter l G cI cD cZ cJ cO r_a r_as c_a c_as c_ad c_ar c_ah r_seen c_points c_count c_ed c_sets c_scores c_rated c_hold x2 _ h) (cwV 1 hts gX7_shatteredSet_X6_shatter rfl rfl rfl (by decide +kernel) ⟨Nat.le_of_ble_eq_true rfl, Nat.le_of_ble_eq_true rfl⟩) 0 rfl rfl [6, 7, 1, 2, 3, 4, 5] [0] [0, 3, 4, 5, 6, 7, 1, 2] rfl rfl rfl (fun _ => rfl) rfl rfl hl.1 (Nat.le_of_ble_eq_true rfl) ⟨Nat.zero_le _, Nat.zero_le _⟩ dX7_shatteredSet_39 (fun r_4 u H locs h hP hD hS => ?_)
          obtain ⟨r_seen_5, rfl⟩ : ∃ z, z = u := ⟨_, rfl⟩
          have hP : va_P G vwCl [oX7 z_a c_a s_a d_a t_a z_saved e_a p_a r_a q_a z_as, oX0 c_a c_points c_count c_as c_ad c_ar c_ah c_ed, aI cI c_as 20 c_sets, aD cD c_ad 20 c_scores, aZ cZ c_ar 20 c_rated, aI cI c_ah 8 c_hold, oX6 r_a c_a r_as, aJ cJ r_as 4 r_seen_5] H := hP
          have hD : va_D A [oX7 z_a c_a s_a d_a t_a z_saved e_a p_a r_a q_a z_as, oX0 c_a c_points c_count c_as c_ad c_ar c_ah c_ed, aI cI c_as 20 c_sets, aD cD c_ad 20 c_scores, aZ cZ c_ar 20 c_rated, aI cI c_ah 8 c_hold, oX6 r_a c_a r_as, aJ cJ r_as 4 r_seen_5] := hD
          obtain ⟨ha, hf⟩ := h
          refine lv_if_eq (tgt := 47) hx hb dX7_shatteredSet_42 (by decide) (fun hc => ?_) (fun hc => ?_)
          · have h := ha hc
            clear ha hf
            refine lv_iinc (v := (x2 + (1 : Int32))) (lv' := [(2, .int (x2 + (1 : Int32))), (0, .ref z_a), (1, .int x1)]) hx hb dX7_shatteredSet_47 hl (k := 2) rfl rfl (by decide) rfl (fun ls hl => ?_)
            refine lv_goto (tgt := 15) hx hb dX7_shatteredSet_50 (by decide) ?_
            exact ih _ _ h _ _ _ ⟨hP, hD, hS, lv_sub hl [1, 2, 0] rfl⟩
          · have h := hf hc
            clear ha hf
            refine lv_iload_n hx hb dX7_shatteredSet_45 rfl (lv_at hl 2 rfl) ?_
            exact hret _ r_seen_5 _ _ _ _ rfl h hP hD hS dX7_shatteredSet_46
  refine lv_aload_n hx hb dX7_shatteredSet_0 rfl (lv_at hl 0 rfl) ?_
  refine va_get (D := G) (ci := 7) (v := .ref c_a) (C := RX7) (T := TX7) (N := 10) hx hb hts i_X7 hown hK.1 hP 0 rfl rfl 0 (by decide) f_12 (fun _ h9 => h9) rfl dX7_shatteredSet_1 ?_
  refine lv_iload_n hx hb dX7_shatteredSet_4 rfl (lv_at hl 1 rfl) ?_
  refine k_Vi (wr := [oX7 z_a c_a s_a d_a t_a z_saved e_a p_a r_a q_a z_as, oX6 r_a c_a r_as, aJ cJ r_as 4 r_seen]) (wf := (fun (u : Unit) => [oX7 z_a c_a s_a d_a t_a z_saved e_a p_a r_a q_a z_as, oX0 c_a c_points c_count c_as c_ad c_ar c_ah c_ed, aI cI c_as 20 c_sets, aD cD c_ad 20 c_scores, aZ cZ c_ar 20 c_rated, aI cI c_ah 8 c_hold, oX6 r_a c_a r_as, aJ cJ r_as 4 r_seen])) (As := [.int x1]) (rest := []) ⟨hx, hb, hml, hown, hts⟩ hK hP hD hS hA (c_X0_isSize l G cI cD cZ cJ cO c_a c_as c_ad c_ar c_ah c_points c_count c_ed c_sets c_scores c_rated c_hold x1 _ h) (cwV 1 hts gX7_shatteredSet_X0_isSize rfl rfl rfl (by decide +kernel) ⟨Nat.le_of_ble_eq_true rfl, Nat.le_of_ble_eq_true rfl⟩) 0 rfl rfl [1, 2, 3, 4, 5] [0, 6, 7] [0, 3, 4, 5, 6, 7, 1, 2] rfl rfl rfl (fun _ => rfl) rfl rfl hl.1 (Nat.le_of_ble_eq_true rfl) ⟨Nat.zero_le _, Nat.zero_le _⟩ dX7_shatteredSet_5 (fun r_1 u H locs h hP hD hS => ?_)
  have hP : va_P G vwCl [oX7 z_a c_a s_a d_a t_a z_saved e_a p_a r_a q_a z_as, oX0 c_a c_points c_count c_as c_ad c_ar c_ah c_ed, aI cI c_as 20 c_sets, aD cD c_ad 20 c_scores, aZ cZ c_ar 20 c_rated, aI cI c_ah 8 c_hold, oX6 r_a c_a r_as, aJ cJ r_as 4 r_seen] H := hP
  have hD : va_D A [oX7 z_a c_a s_a d_a t_a z_saved e_a p_a r_a q_a z_as, oX0 c_a c_points c_count c_as c_ad c_ar c_ah c_ed, aI cI c_as 20 c_sets, aD cD c_ad 20 c_scores, aZ cZ c_ar 20 c_rated, aI cI c_ah 8 c_hold, oX6 r_a c_a r_as, aJ cJ r_as 4 r_seen] := hD
  obtain ⟨ha, hf⟩ := h
  refine lv_if_ne (tgt := 13) hx hb dX7_shatteredSet_8 (by decide) (fun hc => ?_) (fun hc => ?_)
  · have h := ha hc
    clear ha hf
    refine lv_iconst (v := (0 : Int32)) hx hb dX7_shatteredSet_13 (by decide) ?_
    refine lv_istore_n (lv' := [(2, .int (0 : Int32)), (0, .ref z_a), (1, .int x1)]) hx hb dX7_shatteredSet_14 rfl hl (by decide) rfl (fun ls hl => ?_)
    obtain ⟨j, h⟩ := h
    exact b_15  j _ _ h _ _ _ ⟨hP, hD, hS, lv_sub hl [1, 2, 0] rfl⟩
  · have h := hf hc
    clear ha hf
    refine lv_iconst (v := (-1 : Int32)) hx hb dX7_shatteredSet_11 (by decide) ?_
    exact hret _ r_seen _ _ _ _ rfl h hP hD hS dX7_shatteredSet_12
abbrev rm_X7_shatteredCount : Room := { frames := 3, cells := 0, slots := 0, locals := 69 }
def wp_X7_shatteredCount_b17 (x1 : Int32) (c_points : Int32) (c_count : Int32) (c_sets : Nat → Int32) (Q : Int32 → (Nat → Int64) → Prop)  : Nat → Int32 → Int32 → (Nat → Int64) → Prop
  | 0, _, _, _ => False
  | n + 1, x2, x3, r_seen => wp_X0_allPoints c_points (fun (r_2 : Int32) => ((r_2 < x3) → Q x2 r_seen) ∧ ((¬ r_2 < x3) → wp_J6_bitCount_0f7a4 x3 (fun (r_3 : Int32) => ((¬ r_3 = x1) → wp_X7_shatteredCount_b17 x1 c_points c_count c_sets Q n x2 (x3 + (1 : Int32)) r_seen) ∧ ((r_3 = x1) → wp_X6_shatter x3 r_seen c_count c_sets (fun (r_4 : Int32) (r_seen_5 : Nat → Int64) => ((r_4 = 0) → wp_X7_shatteredCount_b17 x1 c_points c_count c_sets Q n x2 (x3 + (1 : Int32)) r_seen_5) ∧ ((¬ r_4 = 0) → wp_X7_shatteredCount_b17 x1 c_points c_count c_sets Q n (x2 + (1 : Int32)) (x3 + (1 : Int32)) r_seen_5))))))
def wp_X7_shatteredCount (x1 : Int32) (c_points : Int32) (c_count : Int32) (c_sets : Nat → Int32) (r_seen : Nat → Int64) (Q : Int32 → (Nat → Int64) → Prop) : Prop := wp_X0_isSize x1 c_points (fun (r_1 : Int32) => ((¬ r_1 = 0) → ∃ j17, wp_X7_shatteredCount_b17 x1 c_points c_count c_sets Q j17 (0 : Int32) (0 : Int32) r_seen) ∧ ((r_1 = 0) → Q (-1 : Int32) r_seen))
set_option maxRecDepth 100000 in
set_option maxHeartbeats 4000000 in
theorem c_X7_shatteredCount (l : Launch) (G : va_G) (cI cD cZ cJ cO : ClassId) (z_a c_a c_as c_ad c_ar c_ah r_a r_as s_a d_a t_a e_a p_a q_a z_as : Nat) (z_saved : Int32) (c_points : Int32) (c_count : Int32) (c_ed : Int32) (c_sets : Nat → Int32) (c_scores : Nat → UInt64) (c_rated : Nat → Int32) (c_hold : Nat → Int32) (r_seen : Nat → Int64) (x1 : Int32) (Q : Int32 → (Nat → Int64) → Prop) (h : wp_X7_shatteredCount x1 c_points c_count c_sets r_seen Q) : CtI l yX7_shatteredCount wsX7_shatteredCount rm_X7_shatteredCount G (TY cI cD cZ cJ cO) [.ref z_a, .int x1] [oX7 z_a c_a s_a d_a t_a z_saved e_a p_a r_a q_a z_as, oX0 c_a c_points c_count c_as c_ad c_ar c_ah c_ed, aI cI c_as 20 c_sets, aD cD c_ad 20 c_scores, aZ cZ c_ar 20 c_rated, aI cI c_ah 8 c_hold, oX6 r_a c_a r_as, aJ cJ r_as 4 r_seen] (fun (r : Int32) (u : (Nat → Int64)) => Q r u) (fun (u : (Nat → Int64)) => [oX7 z_a c_a s_a d_a t_a z_saved e_a p_a r_a q_a z_as, oX0 c_a c_points c_count c_as c_ad c_ar c_ah c_ed, aI cI c_as 20 c_sets, aD cD c_ad 20 c_scores, aZ cZ c_ar 20 c_rated, aI cI c_ah 8 c_hold, oX6 r_a c_a r_as, aJ cJ r_as 4 u]) := by
  refine ct_openI (cc := cX7_shatteredCount) (maxL := 4) (ty := .int) (by decide) rfl (Nat.le_of_ble_eq_true rfl) ?_
  intro p e s m args below meth c A Z ls hx hb hml hown hts hK hA hret hP hD hS hl
  have hown : s.vm.findClass RX7 = some m.cls := hown
  have hl : lv_has ls 4 [(0, .ref z_a), (1, .int x1)] := hl
  have f_12 := hts (.fieldLink RX7 12 "TeachingSets" "concepts" "LTeachingSets$Concepts;") (List.mem_of_getElem? (i := 1) rfl)
  have f_56 := hts (.fieldLink RX7 56 "TeachingSets" "traces" "LTeachingSets$Traces;") (List.mem_of_getElem? (i := 2) rfl)
  have i_X7 : ∀ w ∈ wsX70, w ∈ wsX7_shatteredCount := fun _ h => List.mem_cons_of_mem _ (List.mem_append_left _ (List.mem_append_left _ (List.mem_append_right _ (h))))
  have b_17 : ∀ (n : Nat) (x2 : Int32) (x3 : Int32) (r_seen : Nat → Int64), wp_X7_shatteredCount_b17 x1 c_points c_count c_sets Q n x2 x3 r_seen → ∀ (H : Heap) (locs : List Loc) (ls : Array Slot), ST G A s.heap [oX7 z_a c_a s_a d_a t_a z_saved e_a p_a r_a q_a z_as, oX0 c_a c_points c_count c_as c_ad c_ar c_ah c_ed, aI cI c_as 20 c_sets, aD cD c_ad 20 c_scores, aZ cZ c_ar 20 c_rated, aI cI c_ah 8 c_hold, oX6 r_a c_a r_as, aJ cJ r_as 4 r_seen] 4 [(0, .ref z_a), (1, .int x1), (2, .int x2), (3, .int x3)] H locs ls → W p l e rm_X7_shatteredCount s m args below meth c H locs 0 0 Z (F0 m 17 ls []) := by
    intro n
    induction n with
    | zero =>
      intro x2 x3 r_seen h; exact False.elim h
    | succ n ih =>
      intro x2 x3 r_seen h H locs ls hst
      obtain ⟨hP, hD, hS, hl⟩ := hst
      refine lv_iload_n hx hb dX7_shatteredCount_17 rfl (lv_at hl 3 rfl) ?_
      refine lv_aload_n hx hb dX7_shatteredCount_18 rfl (lv_at hl 0 rfl) ?_
      refine va_get (D := G) (ci := 7) (v := .ref c_a) (C := RX7) (T := TX7) (N := 10) hx hb hts i_X7 hown hK.1 hP 0 rfl rfl 0 (by decide) f_12 (fun _ h9 => h9) rfl dX7_shatteredCount_19 ?_
      refine k_Vi (wr := [oX7 z_a c_a s_a d_a t_a z_saved e_a p_a r_a q_a z_as, oX6 r_a c_a r_as, aJ cJ r_as 4 r_seen]) (wf := (fun (u : Unit) => [oX7 z_a c_a s_a d_a t_a z_saved e_a p_a r_a q_a z_as, oX0 c_a c_points c_count c_as c_ad c_ar c_ah c_ed, aI cI c_as 20 c_sets, aD cD c_ad 20 c_scores, aZ cZ c_ar 20 c_rated, aI cI c_ah 8 c_hold, oX6 r_a c_a r_as, aJ cJ r_as 4 r_seen])) (As := []) (rest := [.int x3]) ⟨hx, hb, hml, hown, hts⟩ hK hP hD hS hA (c_X0_allPoints l G cI cD cZ cJ cO c_a c_as c_ad c_ar c_ah c_points c_count c_ed c_sets c_scores c_rated c_hold _ h) (cwV 0 hts gX7_shatteredCount_X0_allPoints rfl rfl rfl (by decide +kernel) ⟨Nat.le_of_ble_eq_true rfl, Nat.le_of_ble_eq_true rfl⟩) 0 rfl rfl [1, 2, 3, 4, 5] [0, 6, 7] [0, 3, 4, 5, 6, 7, 1, 2] rfl rfl rfl (fun _ => rfl) rfl rfl hl.1 (Nat.le_of_ble_eq_true rfl) ⟨Nat.zero_le _, Nat.zero_le _⟩ dX7_shatteredCount_22 (fun r_2 u H locs h hP hD hS => ?_)
      have hP : va_P G vwCl [oX7 z_a c_a s_a d_a t_a z_saved e_a p_a r_a q_a z_as, oX0 c_a c_points c_count c_as c_ad c_ar c_ah c_ed, aI cI c_as 20 c_sets, aD cD c_ad 20 c_scores, aZ cZ c_ar 20 c_rated, aI cI c_ah 8 c_hold, oX6 r_a c_a r_as, aJ cJ r_as 4 r_seen] H := hP
      have hD : va_D A [oX7 z_a c_a s_a d_a t_a z_saved e_a p_a r_a q_a z_as, oX0 c_a c_points c_count c_as c_ad c_ar c_ah c_ed, aI cI c_as 20 c_sets, aD cD c_ad 20 c_scores, aZ cZ c_ar 20 c_rated, aI cI c_ah 8 c_hold, oX6 r_a c_a r_as, aJ cJ r_as 4 r_seen] := hD
      obtain ⟨ha, hf⟩ := h
      refine lv_icmp_gt (tgt := 56) hx hb dX7_shatteredCount_25 (by decide) (fun hc => ?_) (fun hc => ?_)
      · have h := ha hc
        clear ha hf
        refine lv_iload_n hx hb dX7_shatteredCount_56 rfl (lv_at hl 2 rfl) ?_
        exact hret _ r_seen _ _ _ _ rfl h hP hD hS dX7_shatteredCount_57
      · have h := hf hc
        clear ha hf
        refine lv_iload_n hx hb dX7_shatteredCount_28 rfl (lv_at hl 3 rfl) ?_
        refine k_Si (wr := [oX7 z_a c_a s_a d_a t_a z_saved e_a p_a r_a q_a z_as, oX0 c_a c_points c_count c_as c_ad c_ar c_ah c_ed, aI cI c_as 20 c_sets, aD cD c_ad 20 c_scores, aZ cZ c_ar 20 c_rated, aI cI c_ah 8 c_hold, oX6 r_a c_a r_as, aJ cJ r_as 4 r_seen]) (wf := (fun (u : Unit) => [oX7 z_a c_a s_a d_a t_a z_saved e_a p_a r_a q_a z_as, oX0 c_a c_points c_count c_as c_ad c_ar c_ah c_ed, aI cI c_as 20 c_sets, aD cD c_ad 20 c_scores, aZ cZ c_ar 20 c_rated, aI cI c_ah 8 c_hold, oX6 r_a c_a r_as, aJ cJ r_as 4 r_seen])) (As := [.int x3]) (rest := []) ⟨hx, hb, hml, hown, hts⟩ hK hP hD hS hA (c_J6_bitCount_0f7a4 l G cI cD cZ cJ cO x3 _ h) (va_cwS 1 hts gX7_shatteredCount_J6_bitCount_0f7a4 rfl rfl rfl (by decide +kernel) ⟨Nat.le_of_ble_eq_true rfl, Nat.le_of_ble_eq_true rfl⟩) [] [0, 1, 2, 3, 4, 5, 6, 7] [0, 1, 2, 3, 4, 5, 6, 7] rfl rfl rfl (fun _ => rfl) rfl rfl hl.1 (Nat.le_of_ble_eq_true rfl) ⟨Nat.zero_le _, Nat.zero_le _⟩ dX7_shatteredCount_29 (fun r_3 u H locs h hP hD hS => ?_)
        have hP : va_P G vwCl [oX7 z_a c_a s_a d_a t_a z_saved e_a p_a r_a q_a z_as, oX0 c_a c_points c_count c_as c_ad c_ar c_ah c_ed, aI cI c_as 20 c_sets, aD cD c_ad 20 c_scores, aZ cZ c_ar 20 c_rated, aI cI c_ah 8 c_hold, oX6 r_a c_a r_as, aJ cJ r_as 4 r_seen] H := hP
        have hD : va_D A [oX7 z_a c_a s_a d_a t_a z_saved e_a p_a r_a q_a z_as, oX0 c_a c_points c_count c_as c_ad c_ar c_ah c_ed, aI cI c_as 20 c_sets, aD cD c_ad 20 c_scores, aZ cZ c_ar 20 c_rated, aI cI c_ah 8 c_hold, oX6 r_a c_a r_as, aJ cJ r_as 4 r_seen] := hD
        refine lv_iload_n hx hb dX7_shatteredCount_32 rfl (lv_at hl 1 rfl) ?_
        obtain ⟨ha, hf⟩ := h
        refine lv_icmp_ne (tgt := 50) hx hb dX7_shatteredCount_33 (by decide) (fun hc => ?_) (fun hc => ?_)
        · have h := ha hc
          clear ha hf
          refine lv_iinc (v := (x3 + (1 : Int32))) (lv' := [(3, .int (x3 + (1 : Int32))), (0, .ref z_a), (1, .int x1), (2, .int x2)]) hx hb dX7_shatteredCount_50 hl (k := 3) rfl rfl (by decide) rfl (fun ls hl => ?_)
          refine lv_goto (tgt := 17) hx hb dX7_shatteredCount_53 (by decide) ?_
          exact ih _ _ _ h _ _ _ ⟨hP, hD, hS, lv_sub hl [1, 2, 3, 0] rfl⟩
        · have h := hf hc
          clear ha hf
          refine lv_aload_n hx hb dX7_shatteredCount_36 rfl (lv_at hl 0 rfl) ?_
          refine va_get (D := G) (ci := 7) (v := .ref r_a) (C := RX7) (T := TX7) (N := 10) hx hb hts i_X7 hown hK.1 hP 0 rfl rfl 7 (by decide) f_56 (fun _ h9 => h9) rfl dX7_shatteredCount_37 ?_
          refine lv_iload_n hx hb dX7_shatteredCount_40 rfl (lv_at hl 3 rfl) ?_
          refine k_Vi (wr := [oX7 z_a c_a s_a d_a t_a z_saved e_a p_a r_a q_a z_as]) (wf := (fun (u : (Nat → Int64)) => [oX7 z_a c_a s_a d_a t_a z_saved e_a p_a r_a q_a z_as, oX0 c_a c_points c_count c_as c_ad c_ar c_ah c_ed, aI cI c_as 20 c_sets, aD cD c_ad 20 c_scores, aZ cZ c_ar 20 c_rated, aI cI c_ah 8 c_hold, oX6 r_a c_a r_as, aJ cJ r_as 4 u])) (As := [.int x3]) (rest := []) ⟨hx, hb, hml, hown, hts⟩ hK hP hD hS hA (c_X6_shatter l G cI cD cZ cJ cO r_a r_as c_a c_as c_ad c_ar c_ah r_seen c_points c_count c_ed c_sets c_scores c_rated c_hold x3 _ h) (cwV 1 hts gX7_shatteredCount_X6_shatter rfl rfl rfl (by decide +kernel) ⟨Nat.le_of_ble_eq_true rfl, Nat.le_of_ble_eq_true rfl⟩) 0 rfl rfl [6, 7, 1, 2, 3, 4, 5] [0] [0, 3, 4, 5, 6, 7, 1, 2] rfl rfl rfl (fun _ => rfl) rfl rfl hl.1 (Nat.le_of_ble_eq_true rfl) ⟨Nat.zero_le _, Nat.zero_le _⟩ dX7_shatteredCount_41 (fun r_4 u H locs h hP hD hS => ?_)
          obtain ⟨r_seen_5, rfl⟩ : ∃ z, z = u := ⟨_, rfl⟩
          have hP : va_P G vwCl [oX7 z_a c_a s_a d_a t_a z_saved e_a p_a r_a q_a z_as, oX0 c_a c_points c_count c_as c_ad c_ar c_ah c_ed, aI cI c_as 20 c_sets, aD cD c_ad 20 c_scores, aZ cZ c_ar 20 c_rated, aI cI c_ah 8 c_hold, oX6 r_a c_a r_as, aJ cJ r_as 4 r_seen_5] H := hP
          have hD : va_D A [oX7 z_a c_a s_a d_a t_a z_saved e_a p_a r_a q_a z_as, oX0 c_a c_points c_count c_as c_ad c_ar c_ah c_ed, aI cI c_as 20 c_sets, aD cD c_ad 20 c_scores, aZ cZ c_ar 20 c_rated, aI cI c_ah 8 c_hold, oX6 r_a c_a r_as, aJ cJ r_as 4 r_seen_5] := hD
          obtain ⟨ha, hf⟩ := h
          refine lv_if_eq (tgt := 50) hx hb dX7_shatteredCount_44 (by decide) (fun hc => ?_) (fun hc => ?_)
          · have h := ha hc
            clear ha hf
            refine lv_iinc (v := (x3 + (1 : Int32))) (lv' := [(3, .int (x3 + (1 : Int32))), (0, .ref z_a), (1, .int x1), (2, .int x2)]) hx hb dX7_shatteredCount_50 hl (k := 3) rfl rfl (by decide) rfl (fun ls hl => ?_)
            refine lv_goto (tgt := 17) hx hb dX7_shatteredCount_53 (by decide) ?_
            exact ih _ _ _ h _ _ _ ⟨hP, hD, hS, lv_sub hl [1, 2, 3, 0] rfl⟩
          · have h := hf hc
            clear ha hf
            refine lv_iinc (v := (x2 + (1 : Int32))) (lv' := [(2, .int (x2 + (1 : Int32))), (0, .ref z_a), (1, .int x1), (3, .int x3)]) hx hb dX7_shatteredCount_47 hl (k := 2) rfl rfl (by decide) rfl (fun ls hl => ?_)
            refine lv_iinc (v := (x3 + (1 : Int32))) (lv' := [(3, .int (x3 + (1 : Int32))), (2, .int (x2 + (1 : Int32))), (0, .ref z_a), (1, .int x1)]) hx hb dX7_shatteredCount_50 hl (k := 3) rfl rfl (by decide) rfl (fun ls hl => ?_)
            refine lv_goto (tgt := 17) hx hb dX7_shatteredCount_53 (by decide) ?_
            exact ih _ _ _ h _ _ _ ⟨hP, hD, hS, lv_sub hl [2, 3, 1, 0] rfl⟩
  refine lv_aload_n hx hb dX7_shatteredCount_0 rfl (lv_at hl 0 rfl) ?_
  refine va_get (D := G) (ci := 7) (v := .ref c_a) (C := RX7) (T := TX7) (N := 10) hx hb hts i_X7 hown hK.1 hP 0 rfl rfl 0 (by decide) f_12 (fun _ h9 => h9) rfl dX7_shatteredCount_1 ?_
  refine lv_iload_n hx hb dX7_shatteredCount_4 rfl (lv_at hl 1 rfl) ?_
  refine k_Vi (wr := [oX7 z_a c_a s_a d_a t_a z_saved e_a p_a r_a q_a z_as, oX6 r_a c_a r_as, aJ cJ r_as 4 r_seen]) (wf := (fun (u : Unit) => [oX7 z_a c_a s_a d_a t_a z_saved e_a p_a r_a q_a z_as, oX0 c_a c_points c_count c_as c_ad c_ar c_ah c_ed, aI cI c_as 20 c_sets, aD cD c_ad 20 c_scores, aZ cZ c_ar 20 c_rated, aI cI c_ah 8 c_hold, oX6 r_a c_a r_as, aJ cJ r_as 4 r_seen])) (As := [.int x1]) (rest := []) ⟨hx, hb, hml, hown, hts⟩ hK hP hD hS hA (c_X0_isSize l G cI cD cZ cJ cO c_a c_as c_ad c_ar c_ah c_points c_count c_ed c_sets c_scores c_rated c_hold x1 _ h) (cwV 1 hts gX7_shatteredCount_X0_isSize rfl rfl rfl (by decide +kernel) ⟨Nat.le_of_ble_eq_true rfl, Nat.le_of_ble_eq_true rfl⟩) 0 rfl rfl [1, 2, 3, 4, 5] [0, 6, 7] [0, 3, 4, 5, 6, 7, 1, 2] rfl rfl rfl (fun _ => rfl) rfl rfl hl.1 (Nat.le_of_ble_eq_true rfl) ⟨Nat.zero_le _, Nat.zero_le _⟩ dX7_shatteredCount_5 (fun r_1 u H locs h hP hD hS => ?_)
  have hP : va_P G vwCl [oX7 z_a c_a s_a d_a t_a z_saved e_a p_a r_a q_a z_as, oX0 c_a c_points c_count c_as c_ad c_ar c_ah c_ed, aI cI c_as 20 c_sets, aD cD c_ad 20 c_scores, aZ cZ c_ar 20 c_rated, aI cI c_ah 8 c_hold, oX6 r_a c_a r_as, aJ cJ r_as 4 r_seen] H := hP
  have hD : va_D A [oX7 z_a c_a s_a d_a t_a z_saved e_a p_a r_a q_a z_as, oX0 c_a c_points c_count c_as c_ad c_ar c_ah c_ed, aI cI c_as 20 c_sets, aD cD c_ad 20 c_scores, aZ cZ c_ar 20 c_rated, aI cI c_ah 8 c_hold, oX6 r_a c_a r_as, aJ cJ r_as 4 r_seen] := hD
  obtain ⟨ha, hf⟩ := h
  refine lv_if_ne (tgt := 13) hx hb dX7_shatteredCount_8 (by decide) (fun hc => ?_) (fun hc => ?_)
  · have h := ha hc
    clear ha hf
    refine lv_iconst (v := (0 : Int32)) hx hb dX7_shatteredCount_13 (by decide) ?_
    refine lv_istore_n (lv' := [(2, .int (0 : Int32)), (0, .ref z_a), (1, .int x1)]) hx hb dX7_shatteredCount_14 rfl hl (by decide) rfl (fun ls hl => ?_)
    refine lv_iconst (v := (0 : Int32)) hx hb dX7_shatteredCount_15 (by decide) ?_
    refine lv_istore_n (lv' := [(3, .int (0 : Int32)), (2, .int (0 : Int32)), (0, .ref z_a), (1, .int x1)]) hx hb dX7_shatteredCount_16 rfl hl (by decide) rfl (fun ls hl => ?_)
    obtain ⟨j, h⟩ := h
    exact b_17  j _ _ _ h _ _ _ ⟨hP, hD, hS, lv_sub hl [2, 3, 1, 0] rfl⟩
  · have h := hf hc
    clear ha hf
    refine lv_iconst (v := (-1 : Int32)) hx hb dX7_shatteredCount_11 (by decide) ?_
    exact hret _ r_seen _ _ _ _ rfl h hP hD hS dX7_shatteredCount_12
abbrev rm_X7_growth : Room := { frames := 2, cells := 0, slots := 0, locals := 47 }
def wp_X7_growth_b17 (x1 : Int32) (c_points : Int32) (c_count : Int32) (c_sets : Nat → Int32) (Q : Int32 → (Nat → Int64) → Prop)  : Nat → Int32 → Int32 → (Nat → Int64) → Prop
  | 0, _, _, _ => False
  | n + 1, x2, x3, r_seen => wp_X0_allPoints c_points (fun (r_2 : Int32) => ((r_2 < x3) → Q x2 r_seen) ∧ ((¬ r_2 < x3) → wp_J6_bitCount_0f7a4 x3 (fun (r_3 : Int32) => ((¬ r_3 = x1) → wp_X7_growth_b17 x1 c_points c_count c_sets Q n x2 (x3 + (1 : Int32)) r_seen) ∧ ((r_3 = x1) → wp_X6_countOn x3 r_seen c_count c_sets (fun (r_4 : Int32) (r_seen_5 : Nat → Int64) => wp_X7_growth_b17 x1 c_points c_count c_sets Q n (if x2 < r_4 then r_4 else x2) (x3 + (1 : Int32)) r_seen_5)))))
def wp_X7_growth (x1 : Int32) (c_points : Int32) (c_count : Int32) (c_sets : Nat → Int32) (r_seen : Nat → Int64) (Q : Int32 → (Nat → Int64) → Prop) : Prop := wp_X0_isSize x1 c_points (fun (r_1 : Int32) => ((¬ r_1 = 0) → ∃ j17, wp_X7_growth_b17 x1 c_points c_count c_sets Q j17 (0 : Int32) (0 : Int32) r_seen) ∧ ((r_1 = 0) → Q (-1 : Int32) r_seen))
set_option maxRecDepth 100000 in
set_option maxHeartbeats 4000000 in
theorem c_X7_growth (l : Launch) (G : va_G) (cI cD cZ cJ cO : ClassId) (z_a c_a c_as c_ad c_ar c_ah r_a r_as s_a d_a t_a e_a p_a q_a z_as : Nat) (z_saved : Int32) (c_points : Int32) (c_count : Int32) (c_ed : Int32) (c_sets : Nat → Int32) (c_scores : Nat → UInt64) (c_rated : Nat → Int32) (c_hold : Nat → Int32) (r_seen : Nat → Int64) (x1 : Int32) (Q : Int32 → (Nat → Int64) → Prop) (h : wp_X7_growth x1 c_points c_count c_sets r_seen Q) : CtI l yX7_growth wsX7_growth rm_X7_growth G (TY cI cD cZ cJ cO) [.ref z_a, .int x1] [oX7 z_a c_a s_a d_a t_a z_saved e_a p_a r_a q_a z_as, oX0 c_a c_points c_count c_as c_ad c_ar c_ah c_ed, aI cI c_as 20 c_sets, aD cD c_ad 20 c_scores, aZ cZ c_ar 20 c_rated, aI cI c_ah 8 c_hold, oX6 r_a c_a r_as, aJ cJ r_as 4 r_seen] (fun (r : Int32) (u : (Nat → Int64)) => Q r u) (fun (u : (Nat → Int64)) => [oX7 z_a c_a s_a d_a t_a z_saved e_a p_a r_a q_a z_as, oX0 c_a c_points c_count c_as c_ad c_ar c_ah c_ed, aI cI c_as 20 c_sets, aD cD c_ad 20 c_scores, aZ cZ c_ar 20 c_rated, aI cI c_ah 8 c_hold, oX6 r_a c_a r_as, aJ cJ r_as 4 u]) := by
  refine ct_openI (cc := cX7_growth) (maxL := 4) (ty := .int) (by decide) rfl (Nat.le_of_ble_eq_true rfl) ?_
  intro p e s m args below meth c A Z ls hx hb hml hown hts hK hA hret hP hD hS hl
  have hown : s.vm.findClass RX7 = some m.cls := hown
  have hl : lv_has ls 4 [(0, .ref z_a), (1, .int x1)] := hl
  have f_12 := hts (.fieldLink RX7 12 "TeachingSets" "concepts" "LTeachingSets$Concepts;") (List.mem_of_getElem? (i := 1) rfl)
  have f_56 := hts (.fieldLink RX7 56 "TeachingSets" "traces" "LTeachingSets$Traces;") (List.mem_of_getElem? (i := 2) rfl)
  have i_X7 : ∀ w ∈ wsX70, w ∈ wsX7_growth := fun _ h => List.mem_cons_of_mem _ (List.mem_append_left _ (List.mem_append_left _ (List.mem_append_right _ (h))))
  have b_17 : ∀ (n : Nat) (x2 : Int32) (x3 : Int32) (r_seen : Nat → Int64), wp_X7_growth_b17 x1 c_points c_count c_sets Q n x2 x3 r_seen → ∀ (H : Heap) (locs : List Loc) (ls : Array Slot), ST G A s.heap [oX7 z_a c_a s_a d_a t_a z_saved e_a p_a r_a q_a z_as, oX0 c_a c_points c_count c_as c_ad c_ar c_ah c_ed, aI cI c_as 20 c_sets, aD cD c_ad 20 c_scores, aZ cZ c_ar 20 c_rated, aI cI c_ah 8 c_hold, oX6 r_a c_a r_as, aJ cJ r_as 4 r_seen] 4 [(0, .ref z_a), (1, .int x1), (2, .int x2), (3, .int x3)] H locs ls → W p l e rm_X7_growth s m args below meth c H locs 0 0 Z (F0 m 17 ls []) := by
    intro n
    induction n with
    | zero =>
      intro x2 x3 r_seen h; exact False.elim h
    | succ n ih =>
      intro x2 x3 r_seen h H locs ls hst
      obtain ⟨hP, hD, hS, hl⟩ := hst
      refine lv_iload_n hx hb dX7_growth_17 rfl (lv_at hl 3 rfl) ?_
      refine lv_aload_n hx hb dX7_growth_18 rfl (lv_at hl 0 rfl) ?_
      refine va_get (D := G) (ci := 7) (v := .ref c_a) (C := RX7) (T := TX7) (N := 10) hx hb hts i_X7 hown hK.1 hP 0 rfl rfl 0 (by decide) f_12 (fun _ h9 => h9) rfl dX7_growth_19 ?_
      refine k_Vi (wr := [oX7 z_a c_a s_a d_a t_a z_saved e_a p_a r_a q_a z_as, oX6 r_a c_a r_as, aJ cJ r_as 4 r_seen]) (wf := (fun (u : Unit) => [oX7 z_a c_a s_a d_a t_a z_saved e_a p_a r_a q_a z_as, oX0 c_a c_points c_count c_as c_ad c_ar c_ah c_ed, aI cI c_as 20 c_sets, aD cD c_ad 20 c_scores, aZ cZ c_ar 20 c_rated, aI cI c_ah 8 c_hold, oX6 r_a c_a r_as, aJ cJ r_as 4 r_seen])) (As := []) (rest := [.int x3]) ⟨hx, hb, hml, hown, hts⟩ hK hP hD hS hA (c_X0_allPoints l G cI cD cZ cJ cO c_a c_as c_ad c_ar c_ah c_points c_count c_ed c_sets c_scores c_rated c_hold _ h) (cwV 0 hts gX7_growth_X0_allPoints rfl rfl rfl (by decide +kernel) ⟨Nat.le_of_ble_eq_true rfl, Nat.le_of_ble_eq_true rfl⟩) 0 rfl rfl [1, 2, 3, 4, 5] [0, 6, 7] [0, 3, 4, 5, 6, 7, 1, 2] rfl rfl rfl (fun _ => rfl) rfl rfl hl.1 (Nat.le_of_ble_eq_true rfl) ⟨Nat.zero_le _, Nat.zero_le _⟩ dX7_growth_22 (fun r_2 u H locs h hP hD hS => ?_)
      have hP : va_P G vwCl [oX7 z_a c_a s_a d_a t_a z_saved e_a p_a r_a q_a z_as, oX0 c_a c_points c_count c_as c_ad c_ar c_ah c_ed, aI cI c_as 20 c_sets, aD cD c_ad 20 c_scores, aZ cZ c_ar 20 c_rated, aI cI c_ah 8 c_hold, oX6 r_a c_a r_as, aJ cJ r_as 4 r_seen] H := hP
      have hD : va_D A [oX7 z_a c_a s_a d_a t_a z_saved e_a p_a r_a q_a z_as, oX0 c_a c_points c_count c_as c_ad c_ar c_ah c_ed, aI cI c_as 20 c_sets, aD cD c_ad 20 c_scores, aZ cZ c_ar 20 c_rated, aI cI c_ah 8 c_hold, oX6 r_a c_a r_as, aJ cJ r_as 4 r_seen] := hD
      obtain ⟨ha, hf⟩ := h
      refine lv_icmp_gt (tgt := 55) hx hb dX7_growth_25 (by decide) (fun hc => ?_) (fun hc => ?_)
      · have h := ha hc
        clear ha hf
        refine lv_iload_n hx hb dX7_growth_55 rfl (lv_at hl 2 rfl) ?_
        exact hret _ r_seen _ _ _ _ rfl h hP hD hS dX7_growth_56
      · have h := hf hc
        clear ha hf
        refine lv_iload_n hx hb dX7_growth_28 rfl (lv_at hl 3 rfl) ?_
        refine k_Si (wr := [oX7 z_a c_a s_a d_a t_a z_saved e_a p_a r_a q_a z_as, oX0 c_a c_points c_count c_as c_ad c_ar c_ah c_ed, aI cI c_as 20 c_sets, aD cD c_ad 20 c_scores, aZ cZ c_ar 20 c_rated, aI cI c_ah 8 c_hold, oX6 r_a c_a r_as, aJ cJ r_as 4 r_seen]) (wf := (fun (u : Unit) => [oX7 z_a c_a s_a d_a t_a z_saved e_a p_a r_a q_a z_as, oX0 c_a c_points c_count c_as c_ad c_ar c_ah c_ed, aI cI c_as 20 c_sets, aD cD c_ad 20 c_scores, aZ cZ c_ar 20 c_rated, aI cI c_ah 8 c_hold, oX6 r_a c_a r_as, aJ cJ r_as 4 r_seen])) (As := [.int x3]) (rest := []) ⟨hx, hb, hml, hown, hts⟩ hK hP hD hS hA (c_J6_bitCount_0f7a4 l G cI cD cZ cJ cO x3 _ h) (va_cwS 1 hts gX7_growth_J6_bitCount_0f7a4 rfl rfl rfl (by decide +kernel) ⟨Nat.le_of_ble_eq_true rfl, Nat.le_of_ble_eq_true rfl⟩) [] [0, 1, 2, 3, 4, 5, 6, 7] [0, 1, 2, 3, 4, 5, 6, 7] rfl rfl rfl (fun _ => rfl) rfl rfl hl.1 (Nat.le_of_ble_eq_true rfl) ⟨Nat.zero_le _, Nat.zero_le _⟩ dX7_growth_29 (fun r_3 u H locs h hP hD hS => ?_)
        have hP : va_P G vwCl [oX7 z_a c_a s_a d_a t_a z_saved e_a p_a r_a q_a z_as, oX0 c_a c_points c_count c_as c_ad c_ar c_ah c_ed, aI cI c_as 20 c_sets, aD cD c_ad 20 c_scores, aZ cZ c_ar 20 c_rated, aI cI c_ah 8 c_hold, oX6 r_a c_a r_as, aJ cJ r_as 4 r_seen] H := hP
        have hD : va_D A [oX7 z_a c_a s_a d_a t_a z_saved e_a p_a r_a q_a z_as, oX0 c_a c_points c_count c_as c_ad c_ar c_ah c_ed, aI cI c_as 20 c_sets, aD cD c_ad 20 c_scores, aZ cZ c_ar 20 c_rated, aI cI c_ah 8 c_hold, oX6 r_a c_a r_as, aJ cJ r_as 4 r_seen] := hD
        refine lv_iload_n hx hb dX7_growth_32 rfl (lv_at hl 1 rfl) ?_
        obtain ⟨ha, hf⟩ := h
        refine lv_icmp_ne (tgt := 49) hx hb dX7_growth_33 (by decide) (fun hc => ?_) (fun hc => ?_)
        · have h := ha hc
          clear ha hf
          refine lv_iinc (v := (x3 + (1 : Int32))) (lv' := [(3, .int (x3 + (1 : Int32))), (0, .ref z_a), (1, .int x1), (2, .int x2)]) hx hb dX7_growth_49 hl (k := 3) rfl rfl (by decide) rfl (fun ls hl => ?_)
          refine lv_goto (tgt := 17) hx hb dX7_growth_52 (by decide) ?_
          exact ih _ _ _ h _ _ _ ⟨hP, hD, hS, lv_sub hl [1, 2, 3, 0] rfl⟩
        · have h := hf hc
          clear ha hf
          refine lv_iload_n hx hb dX7_growth_36 rfl (lv_at hl 2 rfl) ?_
          refine lv_aload_n hx hb dX7_growth_37 rfl (lv_at hl 0 rfl) ?_
          refine va_get (D := G) (ci := 7) (v := .ref r_a) (C := RX7) (T := TX7) (N := 10) hx hb hts i_X7 hown hK.1 hP 0 rfl rfl 7 (by decide) f_56 (fun _ h9 => h9) rfl dX7_growth_38 ?_
          refine lv_iload_n hx hb dX7_growth_41 rfl (lv_at hl 3 rfl) ?_
          refine k_Vi (wr := [oX7 z_a c_a s_a d_a t_a z_saved e_a p_a r_a q_a z_as]) (wf := (fun (u : (Nat → Int64)) => [oX7 z_a c_a s_a d_a t_a z_saved e_a p_a r_a q_a z_as, oX0 c_a c_points c_count c_as c_ad c_ar c_ah c_ed, aI cI c_as 20 c_sets, aD cD c_ad 20 c_scores, aZ cZ c_ar 20 c_rated, aI cI c_ah 8 c_hold, oX6 r_a c_a r_as, aJ cJ r_as 4 u])) (As := [.int x3]) (rest := [.int x2]) ⟨hx, hb, hml, hown, hts⟩ hK hP hD hS hA (c_X6_countOn l G cI cD cZ cJ cO r_a r_as c_a c_as c_ad c_ar c_ah r_seen c_points c_count c_ed c_sets c_scores c_rated c_hold x3 _ h) (cwV 1 hts gX7_growth_X6_countOn rfl rfl rfl (by decide +kernel) ⟨Nat.le_of_ble_eq_true rfl, Nat.le_of_ble_eq_true rfl⟩) 0 rfl rfl [6, 7, 1, 2, 3, 4, 5] [0] [0, 3, 4, 5, 6, 7, 1, 2] rfl rfl rfl (fun _ => rfl) rfl rfl hl.1 (Nat.le_of_ble_eq_true rfl) ⟨Nat.zero_le _, Nat.zero_le _⟩ dX7_growth_42 (fun r_4 u H locs h hP hD hS => ?_)
          obtain ⟨r_seen_5, rfl⟩ : ∃ z, z = u := ⟨_, rfl⟩
          have hP : va_P G vwCl [oX7 z_a c_a s_a d_a t_a z_saved e_a p_a r_a q_a z_as, oX0 c_a c_points c_count c_as c_ad c_ar c_ah c_ed, aI cI c_as 20 c_sets, aD cD c_ad 20 c_scores, aZ cZ c_ar 20 c_rated, aI cI c_ah 8 c_hold, oX6 r_a c_a r_as, aJ cJ r_as 4 r_seen_5] H := hP
          have hD : va_D A [oX7 z_a c_a s_a d_a t_a z_saved e_a p_a r_a q_a z_as, oX0 c_a c_points c_count c_as c_ad c_ar c_ah c_ed, aI cI c_as 20 c_sets, aD cD c_ad 20 c_scores, aZ cZ c_ar 20 c_rated, aI cI c_ah 8 c_hold, oX6 r_a c_a r_as, aJ cJ r_as 4 r_seen_5] := hD
          refine va_mmax hx hb (hml.trans hl.1.symm) hown (hts _ (List.mem_of_getElem? (i := 3) rfl)) (hts _ (List.mem_of_getElem? (i := 4) rfl)) (hts _ (List.mem_of_getElem? (i := 5) rfl)) (hts _ (List.mem_of_getElem? (i := 6) rfl)) (Nat.le_of_ble_eq_true rfl) (Nat.le_of_ble_eq_true rfl) (Nat.zero_le _) (Nat.zero_le _) dX7_growth_45 ?_
          refine lv_istore_n (lv' := [(2, .int (if x2 < r_4 then r_4 else x2)), (0, .ref z_a), (1, .int x1), (3, .int x3)]) hx hb dX7_growth_48 rfl hl (by decide) rfl (fun ls hl => ?_)
          refine lv_iinc (v := (x3 + (1 : Int32))) (lv' := [(3, .int (x3 + (1 : Int32))), (2, .int (if x2 < r_4 then r_4 else x2)), (0, .ref z_a), (1, .int x1)]) hx hb dX7_growth_49 hl (k := 3) rfl rfl (by decide) rfl (fun ls hl => ?_)
          refine lv_goto (tgt := 17) hx hb dX7_growth_52 (by decide) ?_
          exact ih _ _ _ h _ _ _ ⟨hP, hD, hS, lv_sub hl [2, 3, 1, 0] rfl⟩
  refine lv_aload_n hx hb dX7_growth_0 rfl (lv_at hl 0 rfl) ?_
  refine va_get (D := G) (ci := 7) (v := .ref c_a) (C := RX7) (T := TX7) (N := 10) hx hb hts i_X7 hown hK.1 hP 0 rfl rfl 0 (by decide) f_12 (fun _ h9 => h9) rfl dX7_growth_1 ?_
  refine lv_iload_n hx hb dX7_growth_4 rfl (lv_at hl 1 rfl) ?_
  refine k_Vi (wr := [oX7 z_a c_a s_a d_a t_a z_saved e_a p_a r_a q_a z_as, oX6 r_a c_a r_as, aJ cJ r_as 4 r_seen]) (wf := (fun (u : Unit) => [oX7 z_a c_a s_a d_a t_a z_saved e_a p_a r_a q_a z_as, oX0 c_a c_points c_count c_as c_ad c_ar c_ah c_ed, aI cI c_as 20 c_sets, aD cD c_ad 20 c_scores, aZ cZ c_ar 20 c_rated, aI cI c_ah 8 c_hold, oX6 r_a c_a r_as, aJ cJ r_as 4 r_seen])) (As := [.int x1]) (rest := []) ⟨hx, hb, hml, hown, hts⟩ hK hP hD hS hA (c_X0_isSize l G cI cD cZ cJ cO c_a c_as c_ad c_ar c_ah c_points c_count c_ed c_sets c_scores c_rated c_hold x1 _ h) (cwV 1 hts gX7_growth_X0_isSize rfl rfl rfl (by decide +kernel) ⟨Nat.le_of_ble_eq_true rfl, Nat.le_of_ble_eq_true rfl⟩) 0 rfl rfl [1, 2, 3, 4, 5] [0, 6, 7] [0, 3, 4, 5, 6, 7, 1, 2] rfl rfl rfl (fun _ => rfl) rfl rfl hl.1 (Nat.le_of_ble_eq_true rfl) ⟨Nat.zero_le _, Nat.zero_le _⟩ dX7_growth_5 (fun r_1 u H locs h hP hD hS => ?_)
  have hP : va_P G vwCl [oX7 z_a c_a s_a d_a t_a z_saved e_a p_a r_a q_a z_as, oX0 c_a c_points c_count c_as c_ad c_ar c_ah c_ed, aI cI c_as 20 c_sets, aD cD c_ad 20 c_scores, aZ cZ c_ar 20 c_rated, aI cI c_ah 8 c_hold, oX6 r_a c_a r_as, aJ cJ r_as 4 r_seen] H := hP
  have hD : va_D A [oX7 z_a c_a s_a d_a t_a z_saved e_a p_a r_a q_a z_as, oX0 c_a c_points c_count c_as c_ad c_ar c_ah c_ed, aI cI c_as 20 c_sets, aD cD c_ad 20 c_scores, aZ cZ c_ar 20 c_rated, aI cI c_ah 8 c_hold, oX6 r_a c_a r_as, aJ cJ r_as 4 r_seen] := hD
  obtain ⟨ha, hf⟩ := h
  refine lv_if_ne (tgt := 13) hx hb dX7_growth_8 (by decide) (fun hc => ?_) (fun hc => ?_)
  · have h := ha hc
    clear ha hf
    refine lv_iconst (v := (0 : Int32)) hx hb dX7_growth_13 (by decide) ?_
    refine lv_istore_n (lv' := [(2, .int (0 : Int32)), (0, .ref z_a), (1, .int x1)]) hx hb dX7_growth_14 rfl hl (by decide) rfl (fun ls hl => ?_)
    refine lv_iconst (v := (0 : Int32)) hx hb dX7_growth_15 (by decide) ?_
    refine lv_istore_n (lv' := [(3, .int (0 : Int32)), (2, .int (0 : Int32)), (0, .ref z_a), (1, .int x1)]) hx hb dX7_growth_16 rfl hl (by decide) rfl (fun ls hl => ?_)
    obtain ⟨j, h⟩ := h
    exact b_17  j _ _ _ h _ _ _ ⟨hP, hD, hS, lv_sub hl [2, 3, 1, 0] rfl⟩
  · have h := hf hc
    clear ha hf
    refine lv_iconst (v := (-1 : Int32)) hx hb dX7_growth_11 (by decide) ?_
    exact hret _ r_seen _ _ _ _ rfl h hP hD hS dX7_growth_12
abbrev rm_X7_snapshot : Room := { frames := 4, cells := 0, slots := 0, locals := 86 }
def wp_X7_snapshot (z_saved : Int32) (c_points : Int32) (c_count : Int32) (c_sets : Nat → Int32) (c_scores : Nat → UInt64) (c_rated : Nat → Int32) (s_count : Int32) (s_codes : Nat → Int32) (d_points : Int32) (d_count : Int32) (d_ed : Int32) (d_sets : Nat → Int32) (d_scores : Nat → UInt64) (d_rated : Nat → Int32) (d_hold : Nat → Int32) (t_count : Int32) (t_codes : Nat → Int32) (Q : Int32 → Int32 → Int32 → Int32 → Int32 → (Nat → Int32) → (Nat → UInt64) → (Nat → Int32) → (Nat → Int32) → Int32 → (Nat → Int32) → Prop) : Prop := wp_X0_take d_points d_count d_ed d_sets d_scores d_rated d_hold c_points c_count c_sets c_scores c_rated (fun (d_points_1 : Int32) (d_count_2 : Int32) (d_ed_3 : Int32) (d_sets_4 : Nat → Int32) (d_scores_5 : Nat → UInt64) (d_rated_6 : Nat → Int32) (d_hold_7 : Nat → Int32) => wp_X3_take t_count t_codes s_count s_codes (fun (t_count_8 : Int32) (t_codes_9 : Nat → Int32) => Q c_count (1 : Int32) d_points_1 d_count_2 d_ed_3 d_sets_4 d_scores_5 d_rated_6 d_hold_7 t_count_8 t_codes_9))
set_option maxRecDepth 100000 in
set_option maxHeartbeats 4000000 in
theorem c_X7_snapshot (l : Launch) (G : va_G) (cI cD cZ cJ cO : ClassId) (z_a c_a c_as c_ad c_ar c_ah s_a s_ac d_a d_as d_ad d_ar d_ah t_a t_ac e_a p_a r_a q_a z_as : Nat) (z_saved : Int32) (c_points : Int32) (c_count : Int32) (c_ed : Int32) (c_sets : Nat → Int32) (c_scores : Nat → UInt64) (c_rated : Nat → Int32) (c_hold : Nat → Int32) (s_count : Int32) (s_codes : Nat → Int32) (d_points : Int32) (d_count : Int32) (d_ed : Int32) (d_sets : Nat → Int32) (d_scores : Nat → UInt64) (d_rated : Nat → Int32) (d_hold : Nat → Int32) (t_count : Int32) (t_codes : Nat → Int32) (Q : Int32 → Int32 → Int32 → Int32 → Int32 → (Nat → Int32) → (Nat → UInt64) → (Nat → Int32) → (Nat → Int32) → Int32 → (Nat → Int32) → Prop) (h : wp_X7_snapshot z_saved c_points c_count c_sets c_scores c_rated s_count s_codes d_points d_count d_ed d_sets d_scores d_rated d_hold t_count t_codes Q) : CtI l yX7_snapshot wsX7_snapshot rm_X7_snapshot G (TY cI cD cZ cJ cO) [.ref z_a] [oX7 z_a c_a s_a d_a t_a z_saved e_a p_a r_a q_a z_as, oX0 c_a c_points c_count c_as c_ad c_ar c_ah c_ed, aI cI c_as 20 c_sets, aD cD c_ad 20 c_scores, aZ cZ c_ar 20 c_rated, aI cI c_ah 8 c_hold, oX3 s_a s_count s_ac, aI cI s_ac 12 s_codes, oX0 d_a d_points d_count d_as d_ad d_ar d_ah d_ed, aI cI d_as 20 d_sets, aD cD d_ad 20 d_scores, aZ cZ d_ar 20 d_rated, aI cI d_ah 8 d_hold, oX3 t_a t_count t_ac, aI cI t_ac 12 t_codes] (fun (r : Int32) (u : Int32 × Int32 × Int32 × Int32 × (Nat → Int32) × (Nat → UInt64) × (Nat → Int32) × (Nat → Int32) × Int32 × (Nat → Int32)) => Q r u.1 u.2.1 u.2.2.1 u.2.2.2.1 u.2.2.2.2.1 u.2.2.2.2.2.1 u.2.2.2.2.2.2.1 u.2.2.2.2.2.2.2.1 u.2.2.2.2.2.2.2.2.1 u.2.2.2.2.2.2.2.2.2) (fun (u : Int32 × Int32 × Int32 × Int32 × (Nat → Int32) × (Nat → UInt64) × (Nat → Int32) × (Nat → Int32) × Int32 × (Nat → Int32)) => [oX7 z_a c_a s_a d_a t_a u.1 e_a p_a r_a q_a z_as, oX0 c_a c_points c_count c_as c_ad c_ar c_ah c_ed, aI cI c_as 20 c_sets, aD cD c_ad 20 c_scores, aZ cZ c_ar 20 c_rated, aI cI c_ah 8 c_hold, oX3 s_a s_count s_ac, aI cI s_ac 12 s_codes, oX0 d_a u.2.1 u.2.2.1 d_as d_ad d_ar d_ah u.2.2.2.1, aI cI d_as 20 u.2.2.2.2.1, aD cD d_ad 20 u.2.2.2.2.2.1, aZ cZ d_ar 20 u.2.2.2.2.2.2.1, aI cI d_ah 8 u.2.2.2.2.2.2.2.1, oX3 t_a u.2.2.2.2.2.2.2.2.1 t_ac, aI cI t_ac 12 u.2.2.2.2.2.2.2.2.2]) := by
  refine ct_openI (cc := cX7_snapshot) (maxL := 1) (ty := .int) (by decide) rfl (Nat.le_of_ble_eq_true rfl) ?_
  intro p e s m args below meth c A Z ls hx hb hml hown hts hK hA hret hP hD hS hl
  have hown : s.vm.findClass RX7 = some m.cls := hown
  have hl : lv_has ls 1 [(0, .ref z_a)] := hl
  have f_25 := hts (.fieldLink RX7 25 "TeachingSets" "savedConcepts" "LTeachingSets$Concepts;") (List.mem_of_getElem? (i := 1) rfl)
  have f_12 := hts (.fieldLink RX7 12 "TeachingSets" "concepts" "LTeachingSets$Concepts;") (List.mem_of_getElem? (i := 2) rfl)
  have f_28 := hts (.fieldLink RX7 28 "TeachingSets" "savedSample" "LTeachingSets$Sample;") (List.mem_of_getElem? (i := 3) rfl)
  have f_21 := hts (.fieldLink RX7 21 "TeachingSets" "sample" "LTeachingSets$Sample;") (List.mem_of_getElem? (i := 4) rfl)
  have f_31 := hts (.fieldLink RX7 31 "TeachingSets" "saved" "Z") (List.mem_of_getElem? (i := 5) rfl)
  have f_96 := hts (.fieldLink RX7 96 "TeachingSets$Concepts" "count" "I") (List.mem_of_getElem? (i := 6) rfl)
  have i_X7 : ∀ w ∈ wsX70, w ∈ wsX7_snapshot := fun _ h => List.mem_cons_of_mem _ (List.mem_append_left _ (List.mem_append_left _ (List.mem_append_right _ (h))))
  have i_X0 : ∀ w ∈ wsX00, w ∈ wsX7_snapshot := fun _ h => List.mem_cons_of_mem _ (List.mem_append_left _ (List.mem_append_right _ (h)))
  refine lv_aload_n hx hb dX7_snapshot_0 rfl (lv_at hl 0 rfl) ?_
  refine va_get (D := G) (ci := 7) (v := .ref d_a) (C := RX7) (T := TX7) (N := 10) hx hb hts i_X7 hown hK.1 hP 0 rfl rfl 2 (by decide) f_25 (fun _ h9 => h9) rfl dX7_snapshot_1 ?_
  refine lv_aload_n hx hb dX7_snapshot_4 rfl (lv_at hl 0 rfl) ?_
  refine va_get (D := G) (ci := 7) (v := .ref c_a) (C := RX7) (T := TX7) (N := 10) hx hb hts i_X7 hown hK.1 hP 0 rfl rfl 0 (by decide) f_12 (fun _ h9 => h9) rfl dX7_snapshot_5 ?_
  refine k_Vv (wr := [oX7 z_a c_a s_a d_a t_a z_saved e_a p_a r_a q_a z_as, oX3 s_a s_count s_ac, aI cI s_ac 12 s_codes, oX3 t_a t_count t_ac, aI cI t_ac 12 t_codes]) (wf := (fun (u : Int32 × Int32 × Int32 × (Nat → Int32) × (Nat → UInt64) × (Nat → Int32) × (Nat → Int32)) => [oX7 z_a c_a s_a d_a t_a z_saved e_a p_a r_a q_a z_as, oX0 c_a c_points c_count c_as c_ad c_ar c_ah c_ed, aI cI c_as 20 c_sets, aD cD c_ad 20 c_scores, aZ cZ c_ar 20 c_rated, aI cI c_ah 8 c_hold, oX3 s_a s_count s_ac, aI cI s_ac 12 s_codes, oX0 d_a u.1 u.2.1 d_as d_ad d_ar d_ah u.2.2.1, aI cI d_as 20 u.2.2.2.1, aD cD d_ad 20 u.2.2.2.2.1, aZ cZ d_ar 20 u.2.2.2.2.2.1, aI cI d_ah 8 u.2.2.2.2.2.2, oX3 t_a t_count t_ac, aI cI t_ac 12 t_codes])) (As := [.ref c_a]) (rest := []) ⟨hx, hb, hml, hown, hts⟩ hK hP hD hS hA (c_X0_take l G cI cD cZ cJ cO d_a d_as d_ad d_ar d_ah c_a c_as c_ad c_ar c_ah d_points d_count d_ed d_sets d_scores d_rated d_hold c_points c_count c_ed c_sets c_scores c_rated c_hold _ h) (cwV 1 hts gX7_snapshot_X0_take rfl rfl rfl (by decide +kernel) ⟨Nat.le_of_ble_eq_true rfl, Nat.le_of_ble_eq_true rfl⟩) 0 rfl rfl [8, 9, 10, 11, 12, 1, 2, 3, 4, 5] [0, 6, 7, 13, 14] [0, 10, 11, 12, 13, 14, 1, 2, 5, 6, 7, 8, 9, 3, 4] rfl rfl rfl (fun _ => rfl) rfl rfl hl.1 (Nat.le_of_ble_eq_true rfl) ⟨Nat.zero_le _, Nat.zero_le _⟩ dX7_snapshot_8 (fun u H locs h hP hD hS => ?_)
  obtain ⟨d_points_1, d_count_2, d_ed_3, d_sets_4, d_scores_5, d_rated_6, d_hold_7⟩ := u
  have hP : va_P G vwCl [oX7 z_a c_a s_a d_a t_a z_saved e_a p_a r_a q_a z_as, oX0 c_a c_points c_count c_as c_ad c_ar c_ah c_ed, aI cI c_as 20 c_sets, aD cD c_ad 20 c_scores, aZ cZ c_ar 20 c_rated, aI cI c_ah 8 c_hold, oX3 s_a s_count s_ac, aI cI s_ac 12 s_codes, oX0 d_a d_points_1 d_count_2 d_as d_ad d_ar d_ah d_ed_3, aI cI d_as 20 d_sets_4, aD cD d_ad 20 d_scores_5, aZ cZ d_ar 20 d_rated_6, aI cI d_ah 8 d_hold_7, oX3 t_a t_count t_ac, aI cI t_ac 12 t_codes] H := hP
  have hD : va_D A [oX7 z_a c_a s_a d_a t_a z_saved e_a p_a r_a q_a z_as, oX0 c_a c_points c_count c_as c_ad c_ar c_ah c_ed, aI cI c_as 20 c_sets, aD cD c_ad 20 c_scores, aZ cZ c_ar 20 c_rated, aI cI c_ah 8 c_hold, oX3 s_a s_count s_ac, aI cI s_ac 12 s_codes, oX0 d_a d_points_1 d_count_2 d_as d_ad d_ar d_ah d_ed_3, aI cI d_as 20 d_sets_4, aD cD d_ad 20 d_scores_5, aZ cZ d_ar 20 d_rated_6, aI cI d_ah 8 d_hold_7, oX3 t_a t_count t_ac, aI cI t_ac 12 t_codes] := hD
  refine lv_aload_n hx hb dX7_snapshot_11 rfl (lv_at hl 0 rfl) ?_
  refine va_get (D := G) (ci := 7) (v := .ref t_a) (C := RX7) (T := TX7) (N := 10) hx hb hts i_X7 hown hK.1 hP 0 rfl rfl 3 (by decide) f_28 (fun _ h9 => h9) rfl dX7_snapshot_12 ?_
  refine lv_aload_n hx hb dX7_snapshot_15 rfl (lv_at hl 0 rfl) ?_
  refine va_get (D := G) (ci := 7) (v := .ref s_a) (C := RX7) (T := TX7) (N := 10) hx hb hts i_X7 hown hK.1 hP 0 rfl rfl 1 (by decide) f_21 (fun _ h9 => h9) rfl dX7_snapshot_16 ?_
  refine k_Vv (wr := [oX7 z_a c_a s_a d_a t_a z_saved e_a p_a r_a q_a z_as, oX0 c_a c_points c_count c_as c_ad c_ar c_ah c_ed, aI cI c_as 20 c_sets, aD cD c_ad 20 c_scores, aZ cZ c_ar 20 c_rated, aI cI c_ah 8 c_hold, oX0 d_a d_points_1 d_count_2 d_as d_ad d_ar d_ah d_ed_3, aI cI d_as 20 d_sets_4, aD cD d_ad 20 d_scores_5, aZ cZ d_ar 20 d_rated_6, aI cI d_ah 8 d_hold_7]) (wf := (fun (u : Int32 × (Nat → Int32)) => [oX7 z_a c_a s_a d_a t_a z_saved e_a p_a r_a q_a z_as, oX0 c_a c_points c_count c_as c_ad c_ar c_ah c_ed, aI cI c_as 20 c_sets, aD cD c_ad 20 c_scores, aZ cZ c_ar 20 c_rated, aI cI c_ah 8 c_hold, oX3 s_a s_count s_ac, aI cI s_ac 12 s_codes, oX0 d_a d_points_1 d_count_2 d_as d_ad d_ar d_ah d_ed_3, aI cI d_as 20 d_sets_4, aD cD d_ad 20 d_scores_5, aZ cZ d_ar 20 d_rated_6, aI cI d_ah 8 d_hold_7, oX3 t_a u.1 t_ac, aI cI t_ac 12 u.2])) (As := [.ref s_a]) (rest := []) ⟨hx, hb, hml, hown, hts⟩ hK hP hD hS hA (c_X3_take l G cI cD cZ cJ cO t_a t_ac s_a s_ac t_count t_codes s_count s_codes _ h) (cwV 1 hts gX7_snapshot_X3_take rfl rfl rfl (by decide +kernel) ⟨Nat.le_of_ble_eq_true rfl, Nat.le_of_ble_eq_true rfl⟩) 0 rfl rfl [13, 14, 6, 7] [0, 1, 2, 3, 4, 5, 8, 9, 10, 11, 12] [0, 1, 2, 3, 4, 5, 13, 14, 6, 7, 8, 9, 10, 11, 12] rfl rfl rfl (fun _ => rfl) rfl rfl hl.1 (Nat.le_of_ble_eq_true rfl) ⟨Nat.zero_le _, Nat.zero_le _⟩ dX7_snapshot_19 (fun u H locs h hP hD hS => ?_)
  obtain ⟨t_count_8, t_codes_9⟩ := u
  have hP : va_P G vwCl [oX7 z_a c_a s_a d_a t_a z_saved e_a p_a r_a q_a z_as, oX0 c_a c_points c_count c_as c_ad c_ar c_ah c_ed, aI cI c_as 20 c_sets, aD cD c_ad 20 c_scores, aZ cZ c_ar 20 c_rated, aI cI c_ah 8 c_hold, oX3 s_a s_count s_ac, aI cI s_ac 12 s_codes, oX0 d_a d_points_1 d_count_2 d_as d_ad d_ar d_ah d_ed_3, aI cI d_as 20 d_sets_4, aD cD d_ad 20 d_scores_5, aZ cZ d_ar 20 d_rated_6, aI cI d_ah 8 d_hold_7, oX3 t_a t_count_8 t_ac, aI cI t_ac 12 t_codes_9] H := hP
  have hD : va_D A [oX7 z_a c_a s_a d_a t_a z_saved e_a p_a r_a q_a z_as, oX0 c_a c_points c_count c_as c_ad c_ar c_ah c_ed, aI cI c_as 20 c_sets, aD cD c_ad 20 c_scores, aZ cZ c_ar 20 c_rated, aI cI c_ah 8 c_hold, oX3 s_a s_count s_ac, aI cI s_ac 12 s_codes, oX0 d_a d_points_1 d_count_2 d_as d_ad d_ar d_ah d_ed_3, aI cI d_as 20 d_sets_4, aD cD d_ad 20 d_scores_5, aZ cZ d_ar 20 d_rated_6, aI cI d_ah 8 d_hold_7, oX3 t_a t_count_8 t_ac, aI cI t_ac 12 t_codes_9] := hD
  refine lv_aload_n hx hb dX7_snapshot_22 rfl (lv_at hl 0 rfl) ?_
  refine lv_iconst (v := (1 : Int32)) hx hb dX7_snapshot_23 (by decide) ?_
  refine va_put (D := G) (ci := 7) (v := .int (1 : Int32)) (ty := .boolean) (C := RX7) (T := TX7) (N := 10) hx hb hts i_X7 tyX7 tyX7_ok nmX7 hown hK.1 hP hD hS 0 rfl rfl 4 (by decide) f_31 (fun _ h9 => h9) rfl (tyX7_ok 4 (by decide)) rfl rfl (Nat.le_of_ble_eq_true rfl) dX7_snapshot_24 (fun H locs hP hD hS => ?_)
  have hP : va_P G vwCl [oX7 z_a c_a s_a d_a t_a (1 : Int32) e_a p_a r_a q_a z_as, oX0 c_a c_points c_count c_as c_ad c_ar c_ah c_ed, aI cI c_as 20 c_sets, aD cD c_ad 20 c_scores, aZ cZ c_ar 20 c_rated, aI cI c_ah 8 c_hold, oX3 s_a s_count s_ac, aI cI s_ac 12 s_codes, oX0 d_a d_points_1 d_count_2 d_as d_ad d_ar d_ah d_ed_3, aI cI d_as 20 d_sets_4, aD cD d_ad 20 d_scores_5, aZ cZ d_ar 20 d_rated_6, aI cI d_ah 8 d_hold_7, oX3 t_a t_count_8 t_ac, aI cI t_ac 12 t_codes_9] H := hP
  have hD : va_D A [oX7 z_a c_a s_a d_a t_a (1 : Int32) e_a p_a r_a q_a z_as, oX0 c_a c_points c_count c_as c_ad c_ar c_ah c_ed, aI cI c_as 20 c_sets, aD cD c_ad 20 c_scores, aZ cZ c_ar 20 c_rated, aI cI c_ah 8 c_hold, oX3 s_a s_count s_ac, aI cI s_ac 12 s_codes, oX0 d_a d_points_1 d_count_2 d_as d_ad d_ar d_ah d_ed_3, aI cI d_as 20 d_sets_4, aD cD d_ad 20 d_scores_5, aZ cZ d_ar 20 d_rated_6, aI cI d_ah 8 d_hold_7, oX3 t_a t_count_8 t_ac, aI cI t_ac 12 t_codes_9] := hD
  refine lv_aload_n hx hb dX7_snapshot_27 rfl (lv_at hl 0 rfl) ?_
  refine va_get (D := G) (ci := 7) (v := .ref c_a) (C := RX7) (T := TX7) (N := 10) hx hb hts i_X7 hown hK.1 hP 0 rfl rfl 0 (by decide) f_12 (fun _ h9 => h9) rfl dX7_snapshot_28 ?_
  refine va_get (D := G) (ci := 0) (v := .int c_count) (C := RX0) (T := TX0) (N := 7) hx hb hts i_X0 hown hK.1 hP 1 rfl rfl 1 (by decide) f_96 (fun _ h9 => h9) rfl dX7_snapshot_31 ?_
  exact hret _ ((1 : Int32), d_points_1, d_count_2, d_ed_3, d_sets_4, d_scores_5, d_rated_6, d_hold_7, t_count_8, t_codes_9) _ _ _ _ rfl h hP hD hS dX7_snapshot_34
abbrev rm_X7_restore : Room := { frames := 4, cells := 0, slots := 0, locals := 86 }
def wp_X7_restore (z_saved : Int32) (c_points : Int32) (c_count : Int32) (c_ed : Int32) (c_sets : Nat → Int32) (c_scores : Nat → UInt64) (c_rated : Nat → Int32) (c_hold : Nat → Int32) (s_count : Int32) (s_codes : Nat → Int32) (d_points : Int32) (d_count : Int32) (d_sets : Nat → Int32) (d_scores : Nat → UInt64) (d_rated : Nat → Int32) (t_count : Int32) (t_codes : Nat → Int32) (Q : Int32 → Int32 → Int32 → Int32 → (Nat → Int32) → (Nat → UInt64) → (Nat → Int32) → (Nat → Int32) → Int32 → (Nat → Int32) → Prop) : Prop := ((¬ z_saved = 0) → wp_X0_take c_points c_count c_ed c_sets c_scores c_rated c_hold d_points d_count d_sets d_scores d_rated (fun (c_points_1 : Int32) (c_count_2 : Int32) (c_ed_3 : Int32) (c_sets_4 : Nat → Int32) (c_scores_5 : Nat → UInt64) (c_rated_6 : Nat → Int32) (c_hold_7 : Nat → Int32) => wp_X3_take s_count s_codes t_count t_codes (fun (s_count_8 : Int32) (s_codes_9 : Nat → Int32) => Q c_count_2 c_points_1 c_count_2 c_ed_3 c_sets_4 c_scores_5 c_rated_6 c_hold_7 s_count_8 s_codes_9))) ∧ ((z_saved = 0) → Q (-6 : Int32) c_points c_count c_ed c_sets c_scores c_rated c_hold s_count s_codes)
set_option maxRecDepth 100000 in
set_option maxHeartbeats 4000000 in
theorem c_X7_restore (l : Launch) (G : va_G) (cI cD cZ cJ cO : ClassId) (z_a c_a c_as c_ad c_ar c_ah s_a s_ac d_a d_as d_ad d_ar d_ah t_a t_ac e_a p_a r_a q_a z_as : Nat) (z_saved : Int32) (c_points : Int32) (c_count : Int32) (c_ed : Int32) (c_sets : Nat → Int32) (c_scores : Nat → UInt64) (c_rated : Nat → Int32) (c_hold : Nat → Int32) (s_count : Int32) (s_codes : Nat → Int32) (d_points : Int32) (d_count : Int32) (d_ed : Int32) (d_sets : Nat → Int32) (d_scores : Nat → UInt64) (d_rated : Nat → Int32) (d_hold : Nat → Int32) (t_count : Int32) (t_codes : Nat → Int32) (Q : Int32 → Int32 → Int32 → Int32 → (Nat → Int32) → (Nat → UInt64) → (Nat → Int32) → (Nat → Int32) → Int32 → (Nat → Int32) → Prop) (h : wp_X7_restore z_saved c_points c_count c_ed c_sets c_scores c_rated c_hold s_count s_codes d_points d_count d_sets d_scores d_rated t_count t_codes Q) : CtI l yX7_restore wsX7_restore rm_X7_restore G (TY cI cD cZ cJ cO) [.ref z_a] [oX7 z_a c_a s_a d_a t_a z_saved e_a p_a r_a q_a z_as, oX0 c_a c_points c_count c_as c_ad c_ar c_ah c_ed, aI cI c_as 20 c_sets, aD cD c_ad 20 c_scores, aZ cZ c_ar 20 c_rated, aI cI c_ah 8 c_hold, oX3 s_a s_count s_ac, aI cI s_ac 12 s_codes, oX0 d_a d_points d_count d_as d_ad d_ar d_ah d_ed, aI cI d_as 20 d_sets, aD cD d_ad 20 d_scores, aZ cZ d_ar 20 d_rated, aI cI d_ah 8 d_hold, oX3 t_a t_count t_ac, aI cI t_ac 12 t_codes] (fun (r : Int32) (u : Int32 × Int32 × Int32 × (Nat → Int32) × (Nat → UInt64) × (Nat → Int32) × (Nat → Int32) × Int32 × (Nat → Int32)) => Q r u.1 u.2.1 u.2.2.1 u.2.2.2.1 u.2.2.2.2.1 u.2.2.2.2.2.1 u.2.2.2.2.2.2.1 u.2.2.2.2.2.2.2.1 u.2.2.2.2.2.2.2.2) (fun (u : Int32 × Int32 × Int32 × (Nat → Int32) × (Nat → UInt64) × (Nat → Int32) × (Nat → Int32) × Int32 × (Nat → Int32)) => [oX7 z_a c_a s_a d_a t_a z_saved e_a p_a r_a q_a z_as, oX0 c_a u.1 u.2.1 c_as c_ad c_ar c_ah u.2.2.1, aI cI c_as 20 u.2.2.2.1, aD cD c_ad 20 u.2.2.2.2.1, aZ cZ c_ar 20 u.2.2.2.2.2.1, aI cI c_ah 8 u.2.2.2.2.2.2.1, oX3 s_a u.2.2.2.2.2.2.2.1 s_ac, aI cI s_ac 12 u.2.2.2.2.2.2.2.2, oX0 d_a d_points d_count d_as d_ad d_ar d_ah d_ed, aI cI d_as 20 d_sets, aD cD d_ad 20 d_scores, aZ cZ d_ar 20 d_rated, aI cI d_ah 8 d_hold, oX3 t_a t_count t_ac, aI cI t_ac 12 t_codes]) := by
  refine ct_openI (cc := cX7_restore) (maxL := 1) (ty := .int) (by decide) rfl (Nat.le_of_ble_eq_true rfl) ?_
  intro p e s m args below meth c A Z ls hx hb hml hown hts hK hA hret hP hD hS hl
  have hown : s.vm.findClass RX7 = some m.cls := hown
  have hl : lv_has ls 1 [(0, .ref z_a)] := hl
  have f_31 := hts (.fieldLink RX7 31 "TeachingSets" "saved" "Z") (List.mem_of_getElem? (i := 1) rfl)
  have f_12 := hts (.fieldLink RX7 12 "TeachingSets" "concepts" "LTeachingSets$Concepts;") (List.mem_of_getElem? (i := 2) rfl)
  have f_25 := hts (.fieldLink RX7 25 "TeachingSets" "savedConcepts" "LTeachingSets$Concepts;") (List.mem_of_getElem? (i := 3) rfl)
  have f_21 := hts (.fieldLink RX7 21 "TeachingSets" "sample" "LTeachingSets$Sample;") (List.mem_of_getElem? (i := 4) rfl)
  have f_28 := hts (.fieldLink RX7 28 "TeachingSets" "savedSample" "LTeachingSets$Sample;") (List.mem_of_getElem? (i := 5) rfl)
  have f_96 := hts (.fieldLink RX7 96 "TeachingSets$Concepts" "count" "I") (List.mem_of_getElem? (i := 6) rfl)
  have i_X7 : ∀ w ∈ wsX70, w ∈ wsX7_restore := fun _ h => List.mem_cons_of_mem _ (List.mem_append_left _ (List.mem_append_left _ (List.mem_append_right _ (h))))
  have i_X0 : ∀ w ∈ wsX00, w ∈ wsX7_restore := fun _ h => List.mem_cons_of_mem _ (List.mem_append_left _ (List.mem_append_right _ (h)))
  refine lv_aload_n hx hb dX7_restore_0 rfl (lv_at hl 0 rfl) ?_
  refine va_get (D := G) (ci := 7) (v := .int z_saved) (C := RX7) (T := TX7) (N := 10) hx hb hts i_X7 hown hK.1 hP 0 rfl rfl 4 (by decide) f_31 (fun _ h9 => h9) rfl dX7_restore_1 ?_
  obtain ⟨ha, hf⟩ := h
  refine lv_if_ne (tgt := 10) hx hb dX7_restore_4 (by decide) (fun hc => ?_) (fun hc => ?_)
  · have h := ha hc
    clear ha hf
    refine lv_aload_n hx hb dX7_restore_10 rfl (lv_at hl 0 rfl) ?_
    refine va_get (D := G) (ci := 7) (v := .ref c_a) (C := RX7) (T := TX7) (N := 10) hx hb hts i_X7 hown hK.1 hP 0 rfl rfl 0 (by decide) f_12 (fun _ h9 => h9) rfl dX7_restore_11 ?_
    refine lv_aload_n hx hb dX7_restore_14 rfl (lv_at hl 0 rfl) ?_
    refine va_get (D := G) (ci := 7) (v := .ref d_a) (C := RX7) (T := TX7) (N := 10) hx hb hts i_X7 hown hK.1 hP 0 rfl rfl 2 (by decide) f_25 (fun _ h9 => h9) rfl dX7_restore_15 ?_
    refine k_Vv (wr := [oX7 z_a c_a s_a d_a t_a z_saved e_a p_a r_a q_a z_as, oX3 s_a s_count s_ac, aI cI s_ac 12 s_codes, oX3 t_a t_count t_ac, aI cI t_ac 12 t_codes]) (wf := (fun (u : Int32 × Int32 × Int32 × (Nat → Int32) × (Nat → UInt64) × (Nat → Int32) × (Nat → Int32)) => [oX7 z_a c_a s_a d_a t_a z_saved e_a p_a r_a q_a z_as, oX0 c_a u.1 u.2.1 c_as c_ad c_ar c_ah u.2.2.1, aI cI c_as 20 u.2.2.2.1, aD cD c_ad 20 u.2.2.2.2.1, aZ cZ c_ar 20 u.2.2.2.2.2.1, aI cI c_ah 8 u.2.2.2.2.2.2, oX3 s_a s_count s_ac, aI cI s_ac 12 s_codes, oX0 d_a d_points d_count d_as d_ad d_ar d_ah d_ed, aI cI d_as 20 d_sets, aD cD d_ad 20 d_scores, aZ cZ d_ar 20 d_rated, aI cI d_ah 8 d_hold, oX3 t_a t_count t_ac, aI cI t_ac 12 t_codes])) (As := [.ref d_a]) (rest := []) ⟨hx, hb, hml, hown, hts⟩ hK hP hD hS hA (c_X0_take l G cI cD cZ cJ cO c_a c_as c_ad c_ar c_ah d_a d_as d_ad d_ar d_ah c_points c_count c_ed c_sets c_scores c_rated c_hold d_points d_count d_ed d_sets d_scores d_rated d_hold _ h) (cwV 1 hts gX7_restore_X0_take rfl rfl rfl (by decide +kernel) ⟨Nat.le_of_ble_eq_true rfl, Nat.le_of_ble_eq_true rfl⟩) 0 rfl rfl [1, 2, 3, 4, 5, 8, 9, 10, 11, 12] [0, 6, 7, 13, 14] [0, 5, 6, 7, 8, 9, 1, 2, 10, 11, 12, 13, 14, 3, 4] rfl rfl rfl (fun _ => rfl) rfl rfl hl.1 (Nat.le_of_ble_eq_true rfl) ⟨Nat.zero_le _, Nat.zero_le _⟩ dX7_restore_18 (fun u H locs h hP hD hS => ?_)
    obtain ⟨c_points_1, c_count_2, c_ed_3, c_sets_4, c_scores_5, c_rated_6, c_hold_7⟩ := u
    have hP : va_P G vwCl [oX7 z_a c_a s_a d_a t_a z_saved e_a p_a r_a q_a z_as, oX0 c_a c_points_1 c_count_2 c_as c_ad c_ar c_ah c_ed_3, aI cI c_as 20 c_sets_4, aD cD c_ad 20 c_scores_5, aZ cZ c_ar 20 c_rated_6, aI cI c_ah 8 c_hold_7, oX3 s_a s_count s_ac, aI cI s_ac 12 s_codes, oX0 d_a d_points d_count d_as d_ad d_ar d_ah d_ed, aI cI d_as 20 d_sets, aD cD d_ad 20 d_scores, aZ cZ d_ar 20 d_rated, aI cI d_ah 8 d_hold, oX3 t_a t_count t_ac, aI cI t_ac 12 t_codes] H := hP
    have hD : va_D A [oX7 z_a c_a s_a d_a t_a z_saved e_a p_a r_a q_a z_as, oX0 c_a c_points_1 c_count_2 c_as c_ad c_ar c_ah c_ed_3, aI cI c_as 20 c_sets_4, aD cD c_ad 20 c_scores_5, aZ cZ c_ar 20 c_rated_6, aI cI c_ah 8 c_hold_7, oX3 s_a s_count s_ac, aI cI s_ac 12 s_codes, oX0 d_a d_points d_count d_as d_ad d_ar d_ah d_ed, aI cI d_as 20 d_sets, aD cD d_ad 20 d_scores, aZ cZ d_ar 20 d_rated, aI cI d_ah 8 d_hold, oX3 t_a t_count t_ac, aI cI t_ac 12 t_codes] := hD
    refine lv_aload_n hx hb dX7_restore_21 rfl (lv_at hl 0 rfl) ?_
    refine va_get (D := G) (ci := 7) (v := .ref s_a) (C := RX7) (T := TX7) (N := 10) hx hb hts i_X7 hown hK.1 hP 0 rfl rfl 1 (by decide) f_21 (fun _ h9 => h9) rfl dX7_restore_22 ?_
    refine lv_aload_n hx hb dX7_restore_25 rfl (lv_at hl 0 rfl) ?_
    refine va_get (D := G) (ci := 7) (v := .ref t_a) (C := RX7) (T := TX7) (N := 10) hx hb hts i_X7 hown hK.1 hP 0 rfl rfl 3 (by decide) f_28 (fun _ h9 => h9) rfl dX7_restore_26 ?_
    refine k_Vv (wr := [oX7 z_a c_a s_a d_a t_a z_saved e_a p_a r_a q_a z_as, oX0 c_a c_points_1 c_count_2 c_as c_ad c_ar c_ah c_ed_3, aI cI c_as 20 c_sets_4, aD cD c_ad 20 c_scores_5, aZ cZ c_ar 20 c_rated_6, aI cI c_ah 8 c_hold_7, oX0 d_a d_points d_count d_as d_ad d_ar d_ah d_ed, aI cI d_as 20 d_sets, aD cD d_ad 20 d_scores, aZ cZ d_ar 20 d_rated, aI cI d_ah 8 d_hold]) (wf := (fun (u : Int32 × (Nat → Int32)) => [oX7 z_a c_a s_a d_a t_a z_saved e_a p_a r_a q_a z_as, oX0 c_a c_points_1 c_count_2 c_as c_ad c_ar c_ah c_ed_3, aI cI c_as 20 c_sets_4, aD cD c_ad 20 c_scores_5, aZ cZ c_ar 20 c_rated_6, aI cI c_ah 8 c_hold_7, oX3 s_a u.1 s_ac, aI cI s_ac 12 u.2, oX0 d_a d_points d_count d_as d_ad d_ar d_ah d_ed, aI cI d_as 20 d_sets, aD cD d_ad 20 d_scores, aZ cZ d_ar 20 d_rated, aI cI d_ah 8 d_hold, oX3 t_a t_count t_ac, aI cI t_ac 12 t_codes])) (As := [.ref t_a]) (rest := []) ⟨hx, hb, hml, hown, hts⟩ hK hP hD hS hA (c_X3_take l G cI cD cZ cJ cO s_a s_ac t_a t_ac s_count s_codes t_count t_codes _ h) (cwV 1 hts gX7_restore_X3_take rfl rfl rfl (by decide +kernel) ⟨Nat.le_of_ble_eq_true rfl, Nat.le_of_ble_eq_true rfl⟩) 0 rfl rfl [6, 7, 13, 14] [0, 1, 2, 3, 4, 5, 8, 9, 10, 11, 12] [0, 1, 2, 3, 4, 5, 11, 12, 6, 7, 8, 9, 10, 13, 14] rfl rfl rfl (fun _ => rfl) rfl rfl hl.1 (Nat.le_of_ble_eq_true rfl) ⟨Nat.zero_le _, Nat.zero_le _⟩ dX7_restore_29 (fun u H locs h hP hD hS => ?_)
    obtain ⟨s_count_8, s_codes_9⟩ := u
    have hP : va_P G vwCl [oX7 z_a c_a s_a d_a t_a z_saved e_a p_a r_a q_a z_as, oX0 c_a c_points_1 c_count_2 c_as c_ad c_ar c_ah c_ed_3, aI cI c_as 20 c_sets_4, aD cD c_ad 20 c_scores_5, aZ cZ c_ar 20 c_rated_6, aI cI c_ah 8 c_hold_7, oX3 s_a s_count_8 s_ac, aI cI s_ac 12 s_codes_9, oX0 d_a d_points d_count d_as d_ad d_ar d_ah d_ed, aI cI d_as 20 d_sets, aD cD d_ad 20 d_scores, aZ cZ d_ar 20 d_rated, aI cI d_ah 8 d_hold, oX3 t_a t_count t_ac, aI cI t_ac 12 t_codes] H := hP
    have hD : va_D A [oX7 z_a c_a s_a d_a t_a z_saved e_a p_a r_a q_a z_as, oX0 c_a c_points_1 c_count_2 c_as c_ad c_ar c_ah c_ed_3, aI cI c_as 20 c_sets_4, aD cD c_ad 20 c_scores_5, aZ cZ c_ar 20 c_rated_6, aI cI c_ah 8 c_hold_7, oX3 s_a s_count_8 s_ac, aI cI s_ac 12 s_codes_9, oX0 d_a d_points d_count d_as d_ad d_ar d_ah d_ed, aI cI d_as 20 d_sets, aD cD d_ad 20 d_scores, aZ cZ d_ar 20 d_rated, aI cI d_ah 8 d_hold, oX3 t_a t_count t_ac, aI cI t_ac 12 t_codes] := hD
    refine lv_aload_n hx hb dX7_restore_32 rfl (lv_at hl 0 rfl) ?_
    refine va_get (D := G) (ci := 7) (v := .ref c_a) (C := RX7) (T := TX7) (N := 10) hx hb hts i_X7 hown hK.1 hP 0 rfl rfl 0 (by decide) f_12 (fun _ h9 => h9) rfl dX7_restore_33 ?_
    refine va_get (D := G) (ci := 0) (v := .int c_count_2) (C := RX0) (T := TX0) (N := 7) hx hb hts i_X0 hown hK.1 hP 1 rfl rfl 1 (by decide) f_96 (fun _ h9 => h9) rfl dX7_restore_36 ?_
    exact hret _ (c_points_1, c_count_2, c_ed_3, c_sets_4, c_scores_5, c_rated_6, c_hold_7, s_count_8, s_codes_9) _ _ _ _ rfl h hP hD hS dX7_restore_39
  · have h := hf hc
    clear ha hf
    refine lv_bipush (v := (-6 : Int32)) hx hb dX7_restore_7 (by decide) ?_
    exact hret _ (c_points, c_count, c_ed, c_sets, c_scores, c_rated, c_hold, s_count, s_codes) _ _ _ _ rfl h hP hD hS dX7_restore_9
abbrev rm_X7_allocate : Room := { frames := 2, cells := 0, slots := 0, locals := 46 }
def wp_X7_allocate (x1 : Int32) (x2 : Int32) (x3 : Int32) (k_type : Int32) (k_size : Int32) (k_wholes : Nat → Int64) (k_reals : Nat → UInt64) (Q : Int32 → Int32 → Int32 → (Nat → Int64) → (Nat → UInt64) → Prop) : Prop := wp_X7_isSlot x1 (fun (r_1 : Int32) => ((r_1 = 0) → Q (-1 : Int32) k_type k_size k_wholes k_reals) ∧ ((¬ r_1 = 0) → ((x2 < 0) → Q (-1 : Int32) k_type k_size k_wholes k_reals) ∧ ((¬ x2 < 0) → (((3 : Int32) < x2) → Q (-1 : Int32) k_type k_size k_wholes k_reals) ∧ ((¬ (3 : Int32) < x2) → ((x3 ≤ (40 : Int32)) → ((0 ≤ x3) → vp_in x1 4 ∧ wp_X5_hold x2 x3 k_type k_size k_wholes k_reals (fun (k_type_2 : Int32) (k_size_3 : Int32) (k_wholes_4 : Nat → Int64) (k_reals_5 : Nat → UInt64) => Q x3 k_type_2 k_size_3 k_wholes_4 k_reals_5)) ∧ ((¬ 0 ≤ x3) → Q (-14 : Int32) k_type k_size k_wholes k_reals)) ∧ ((¬ x3 ≤ (40 : Int32)) → Q (-1 : Int32) k_type k_size k_wholes k_reals)))))
set_option maxRecDepth 100000 in
set_option maxHeartbeats 4000000 in
theorem c_X7_allocate (l : Launch) (G : va_G) (cI cD cZ cJ cO : ClassId) (z_a z_as k_a k_aw k_ar c_a s_a d_a t_a e_a p_a r_a q_a : Nat) (z_saved : Int32) (z_slots : Nat → Option Nat) (k_type : Int32) (k_size : Int32) (k_wholes : Nat → Int64) (k_reals : Nat → UInt64) (x1 : Int32) (x2 : Int32) (x3 : Int32) (hs_x1 : vp_in x1 4 → z_slots x1.toNatClampNeg = some k_a) (Q : Int32 → Int32 → Int32 → (Nat → Int64) → (Nat → UInt64) → Prop) (h : wp_X7_allocate x1 x2 x3 k_type k_size k_wholes k_reals Q) : CtI l yX7_allocate wsX7_allocate rm_X7_allocate G (TY cI cD cZ cJ cO) [.ref z_a, .int x1, .int x2, .int x3] [oX7 z_a c_a s_a d_a t_a z_saved e_a p_a r_a q_a z_as, aO cO z_as 4 z_slots, oX5 k_a k_type k_size k_aw k_ar, aJ cJ k_aw 40 k_wholes, aD cD k_ar 40 k_reals] (fun (r : Int32) (u : Int32 × Int32 × (Nat → Int64) × (Nat → UInt64)) => Q r u.1 u.2.1 u.2.2.1 u.2.2.2) (fun (u : Int32 × Int32 × (Nat → Int64) × (Nat → UInt64)) => [oX7 z_a c_a s_a d_a t_a z_saved e_a p_a r_a q_a z_as, aO cO z_as 4 z_slots, oX5 k_a u.1 u.2.1 k_aw k_ar, aJ cJ k_aw 40 u.2.2.1, aD cD k_ar 40 u.2.2.2]) := by
  refine ct_openI (cc := cX7_allocate) (maxL := 4) (ty := .int) (by decide) rfl (Nat.le_of_ble_eq_true rfl) ?_
  intro p e s m args below meth c A Z ls hx hb hml hown hts hK hA hret hP hD hS hl
  have hown : s.vm.findClass RX7 = some m.cls := hown
  have hl : lv_has ls 4 [(0, .ref z_a), (1, .int x1), (2, .int x2), (3, .int x3)] := hl
  have f_69 := hts (.fieldLink RX7 69 "TeachingSets" "slots" "[LTeachingSets$Slot;") (List.mem_of_getElem? (i := 1) rfl)
  have i_X7 : ∀ w ∈ wsX70, w ∈ wsX7_allocate := fun _ h => List.mem_cons_of_mem _ (List.mem_append_left _ (List.mem_append_right _ (h)))
  refine lv_iload_n hx hb dX7_allocate_0 rfl (lv_at hl 1 rfl) ?_
  refine k_Si (wr := [oX7 z_a c_a s_a d_a t_a z_saved e_a p_a r_a q_a z_as, aO cO z_as 4 z_slots, oX5 k_a k_type k_size k_aw k_ar, aJ cJ k_aw 40 k_wholes, aD cD k_ar 40 k_reals]) (wf := (fun (u : Unit) => [oX7 z_a c_a s_a d_a t_a z_saved e_a p_a r_a q_a z_as, aO cO z_as 4 z_slots, oX5 k_a k_type k_size k_aw k_ar, aJ cJ k_aw 40 k_wholes, aD cD k_ar 40 k_reals])) (As := [.int x1]) (rest := []) ⟨hx, hb, hml, hown, hts⟩ hK hP hD hS hA (c_X7_isSlot l G cI cD cZ cJ cO x1 _ h) (va_cwS 1 hts gX7_allocate_X7_isSlot rfl rfl rfl (by decide +kernel) ⟨Nat.le_of_ble_eq_true rfl, Nat.le_of_ble_eq_true rfl⟩) [] [0, 1, 2, 3, 4] [0, 1, 2, 3, 4] rfl rfl rfl (fun _ => rfl) rfl rfl hl.1 (Nat.le_of_ble_eq_true rfl) ⟨Nat.zero_le _, Nat.zero_le _⟩ dX7_allocate_1 (fun r_1 u H locs h hP hD hS => ?_)
  have hP : va_P G vwCl [oX7 z_a c_a s_a d_a t_a z_saved e_a p_a r_a q_a z_as, aO cO z_as 4 z_slots, oX5 k_a k_type k_size k_aw k_ar, aJ cJ k_aw 40 k_wholes, aD cD k_ar 40 k_reals] H := hP
  have hD : va_D A [oX7 z_a c_a s_a d_a t_a z_saved e_a p_a r_a q_a z_as, aO cO z_as 4 z_slots, oX5 k_a k_type k_size k_aw k_ar, aJ cJ k_aw 40 k_wholes, aD cD k_ar 40 k_reals] := hD
  obtain ⟨ha, hf⟩ := h
  refine lv_if_eq (tgt := 22) hx hb dX7_allocate_4 (by decide) (fun hc => ?_) (fun hc => ?_)
  · have h := ha hc
    clear ha hf
    refine lv_iconst (v := (-1 : Int32)) hx hb dX7_allocate_22 (by decide) ?_
    exact hret _ (k_type, k_size, k_wholes, k_reals) _ _ _ _ rfl h hP hD hS dX7_allocate_23
  · have h := hf hc
    clear ha hf
    refine lv_iload_n hx hb dX7_allocate_7 rfl (lv_at hl 2 rfl) ?_
    obtain ⟨ha, hf⟩ := h
    refine lv_if_lt (tgt := 22) hx hb dX7_allocate_8 (by decide) (fun hc => ?_) (fun hc => ?_)
    · have h := ha hc
      clear ha hf
      refine lv_iconst (v := (-1 : Int32)) hx hb dX7_allocate_22 (by decide) ?_
      exact hret _ (k_type, k_size, k_wholes, k_reals) _ _ _ _ rfl h hP hD hS dX7_allocate_23
    · have h := hf hc
      clear ha hf
      refine lv_iload_n hx hb dX7_allocate_11 rfl (lv_at hl 2 rfl) ?_
      refine lv_iconst (v := (3 : Int32)) hx hb dX7_allocate_12 (by decide) ?_
      obtain ⟨ha, hf⟩ := h
      refine lv_icmp_gt (tgt := 22) hx hb dX7_allocate_13 (by decide) (fun hc => ?_) (fun hc => ?_)
      · have h := ha hc
        clear ha hf
        refine lv_iconst (v := (-1 : Int32)) hx hb dX7_allocate_22 (by decide) ?_
        exact hret _ (k_type, k_size, k_wholes, k_reals) _ _ _ _ rfl h hP hD hS dX7_allocate_23
      · have h := hf hc
        clear ha hf
        refine lv_iload_n hx hb dX7_allocate_16 rfl (lv_at hl 3 rfl) ?_
        refine lv_bipush (v := (40 : Int32)) hx hb dX7_allocate_17 (by decide) ?_
        obtain ⟨ha, hf⟩ := h
        refine lv_icmp_le (tgt := 24) hx hb dX7_allocate_19 (by decide) (fun hc => ?_) (fun hc => ?_)
        · have h := ha hc
          clear ha hf
          refine lv_iload_n hx hb dX7_allocate_24 rfl (lv_at hl 3 rfl) ?_
          obtain ⟨ha, hf⟩ := h
          refine lv_if_ge (tgt := 31) hx hb dX7_allocate_25 (by decide) (fun hc => ?_) (fun hc => ?_)
          · have h := ha hc
            clear ha hf
            refine lv_aload_n hx hb dX7_allocate_31 rfl (lv_at hl 0 rfl) ?_
            refine va_get (D := G) (ci := 7) (v := .ref z_as) (C := RX7) (T := TX7) (N := 10) hx hb hts i_X7 hown hK.1 hP 0 rfl rfl 9 (by decide) f_69 (fun _ h9 => h9) rfl dX7_allocate_32 ?_
            refine lv_iload_n hx hb dX7_allocate_35 rfl (lv_at hl 1 rfl) ?_
            obtain ⟨hi, h⟩ := h
            refine va_aldq hx hb hK.1 hP 1 4 rfl rfl hi dX7_allocate_36 ?_
            rw [hs_x1 hi]
            refine lv_iload_n hx hb dX7_allocate_37 rfl (lv_at hl 2 rfl) ?_
            refine lv_iload_n hx hb dX7_allocate_38 rfl (lv_at hl 3 rfl) ?_
            refine k_Vv (wr := [oX7 z_a c_a s_a d_a t_a z_saved e_a p_a r_a q_a z_as, aO cO z_as 4 z_slots]) (wf := (fun (u : Int32 × Int32 × (Nat → Int64) × (Nat → UInt64)) => [oX7 z_a c_a s_a d_a t_a z_saved e_a p_a r_a q_a z_as, aO cO z_as 4 z_slots, oX5 k_a u.1 u.2.1 k_aw k_ar, aJ cJ k_aw 40 u.2.2.1, aD cD k_ar 40 u.2.2.2])) (As := [.int x2, .int x3]) (rest := []) ⟨hx, hb, hml, hown, hts⟩ hK hP hD hS hA (c_X5_hold l G cI cD cZ cJ cO k_a k_aw k_ar k_type k_size k_wholes k_reals x2 x3 _ h) (cwV 2 hts gX7_allocate_X5_hold rfl rfl rfl (by decide +kernel) ⟨Nat.le_of_ble_eq_true rfl, Nat.le_of_ble_eq_true rfl⟩) 0 rfl rfl [2, 3, 4] [0, 1] [0, 1, 2, 3, 4] rfl rfl rfl (fun _ => rfl) rfl rfl hl.1 (Nat.le_of_ble_eq_true rfl) ⟨Nat.zero_le _, Nat.zero_le _⟩ dX7_allocate_39 (fun u H locs h hP hD hS => ?_)
            obtain ⟨k_type_2, k_size_3, k_wholes_4, k_reals_5⟩ := u
            have hP : va_P G vwCl [oX7 z_a c_a s_a d_a t_a z_saved e_a p_a r_a q_a z_as, aO cO z_as 4 z_slots, oX5 k_a k_type_2 k_size_3 k_aw k_ar, aJ cJ k_aw 40 k_wholes_4, aD cD k_ar 40 k_reals_5] H := hP
            have hD : va_D A [oX7 z_a c_a s_a d_a t_a z_saved e_a p_a r_a q_a z_as, aO cO z_as 4 z_slots, oX5 k_a k_type_2 k_size_3 k_aw k_ar, aJ cJ k_aw 40 k_wholes_4, aD cD k_ar 40 k_reals_5] := hD
            refine lv_iload_n hx hb dX7_allocate_42 rfl (lv_at hl 3 rfl) ?_
            exact hret _ (k_type_2, k_size_3, k_wholes_4, k_reals_5) _ _ _ _ rfl h hP hD hS dX7_allocate_43
          · have h := hf hc
            clear ha hf
            refine lv_bipush (v := (-14 : Int32)) hx hb dX7_allocate_28 (by decide) ?_
            exact hret _ (k_type, k_size, k_wholes, k_reals) _ _ _ _ rfl h hP hD hS dX7_allocate_30
        · have h := hf hc
          clear ha hf
          refine lv_iconst (v := (-1 : Int32)) hx hb dX7_allocate_22 (by decide) ?_
          exact hret _ (k_type, k_size, k_wholes, k_reals) _ _ _ _ rfl h hP hD hS dX7_allocate_23
abbrev rm_X7_release : Room := { frames := 2, cells := 0, slots := 0, locals := 46 }
def wp_X7_release_b26 (x1 : Int32) (Q : Int32 → Int32 → Int32 → (Nat → Int64) → (Nat → UInt64) → Prop)  (t0 : Int32) (k_type : Int32) (k_size : Int32) (k_wholes : Nat → Int64) (k_reals : Nat → UInt64) : Prop := vp_in x1 4 ∧ wp_X5_hold (-1 : Int32) (0 : Int32) k_type k_size k_wholes k_reals (fun (k_type_3 : Int32) (k_size_4 : Int32) (k_wholes_5 : Nat → Int64) (k_reals_6 : Nat → UInt64) => ((t0 = 0) → Q (0 : Int32) k_type_3 k_size_4 k_wholes_5 k_reals_6) ∧ ((¬ t0 = 0) → Q (1 : Int32) k_type_3 k_size_4 k_wholes_5 k_reals_6))
def wp_X7_release (x1 : Int32) (k_type : Int32) (k_size : Int32) (k_wholes : Nat → Int64) (k_reals : Nat → UInt64) (Q : Int32 → Int32 → Int32 → (Nat → Int64) → (Nat → UInt64) → Prop) : Prop := wp_X7_isSlot x1 (fun (r_1 : Int32) => ((¬ r_1 = 0) → vp_in x1 4 ∧ wp_X5_isEmpty k_type (fun (r_2 : Int32) => ((¬ r_2 = 0) → wp_X7_release_b26 x1 Q (0 : Int32) k_type k_size k_wholes k_reals) ∧ ((r_2 = 0) → wp_X7_release_b26 x1 Q (1 : Int32) k_type k_size k_wholes k_reals))) ∧ ((r_1 = 0) → Q (-1 : Int32) k_type k_size k_wholes k_reals))
set_option maxRecDepth 100000 in
set_option maxHeartbeats 4000000 in
theorem c_X7_release (l : Launch) (G : va_G) (cI cD cZ cJ cO : ClassId) (z_a z_as k_a k_aw k_ar c_a s_a d_a t_a e_a p_a r_a q_a : Nat) (z_saved : Int32) (z_slots : Nat → Option Nat) (k_type : Int32) (k_size : Int32) (k_wholes : Nat → Int64) (k_reals : Nat → UInt64) (x1 : Int32) (hs_x1 : vp_in x1 4 → z_slots x1.toNatClampNeg = some k_a) (Q : Int32 → Int32 → Int32 → (Nat → Int64) → (Nat → UInt64) → Prop) (h : wp_X7_release x1 k_type k_size k_wholes k_reals Q) : CtI l yX7_release wsX7_release rm_X7_release G (TY cI cD cZ cJ cO) [.ref z_a, .int x1] [oX7 z_a c_a s_a d_a t_a z_saved e_a p_a r_a q_a z_as, aO cO z_as 4 z_slots, oX5 k_a k_type k_size k_aw k_ar, aJ cJ k_aw 40 k_wholes, aD cD k_ar 40 k_reals] (fun (r : Int32) (u : Int32 × Int32 × (Nat → Int64) × (Nat → UInt64)) => Q r u.1 u.2.1 u.2.2.1 u.2.2.2) (fun (u : Int32 × Int32 × (Nat → Int64) × (Nat → UInt64)) => [oX7 z_a c_a s_a d_a t_a z_saved e_a p_a r_a q_a z_as, aO cO z_as 4 z_slots, oX5 k_a u.1 u.2.1 k_aw k_ar, aJ cJ k_aw 40 u.2.2.1, aD cD k_ar 40 u.2.2.2]) := by
  refine ct_openI (cc := cX7_release) (maxL := 3) (ty := .int) (by decide) rfl (Nat.le_of_ble_eq_true rfl) ?_
  intro p e s m args below meth c A Z ls hx hb hml hown hts hK hA hret hP hD hS hl
  have hown : s.vm.findClass RX7 = some m.cls := hown
  have hl : lv_has ls 3 [(0, .ref z_a), (1, .int x1)] := hl
  have f_69 := hts (.fieldLink RX7 69 "TeachingSets" "slots" "[LTeachingSets$Slot;") (List.mem_of_getElem? (i := 1) rfl)
  have i_X7 : ∀ w ∈ wsX70, w ∈ wsX7_release := fun _ h => List.mem_cons_of_mem _ (List.mem_append_left _ (List.mem_append_right _ (h)))
  have b_26 : ∀ (t0 : Int32) (k_type : Int32) (k_size : Int32) (k_wholes : Nat → Int64) (k_reals : Nat → UInt64), wp_X7_release_b26 x1 Q t0 k_type k_size k_wholes k_reals → ∀ (H : Heap) (locs : List Loc) (ls : Array Slot), ST G A s.heap [oX7 z_a c_a s_a d_a t_a z_saved e_a p_a r_a q_a z_as, aO cO z_as 4 z_slots, oX5 k_a k_type k_size k_aw k_ar, aJ cJ k_aw 40 k_wholes, aD cD k_ar 40 k_reals] 3 [(0, .ref z_a), (1, .int x1)] H locs ls → W p l e rm_X7_release s m args below meth c H locs 0 0 Z (F0 m 26 ls [.int t0]) := by
    intro t0 k_type k_size k_wholes k_reals h H locs ls hst
    obtain ⟨hP, hD, hS, hl⟩ := hst
    refine lv_istore_n (lv' := [(2, .int t0), (0, .ref z_a), (1, .int x1)]) hx hb dX7_release_26 rfl hl (by decide) rfl (fun ls hl => ?_)
    refine lv_aload_n hx hb dX7_release_27 rfl (lv_at hl 1 rfl) ?_
    refine va_get (D := G) (ci := 7) (v := .ref z_as) (C := RX7) (T := TX7) (N := 10) hx hb hts i_X7 hown hK.1 hP 0 rfl rfl 9 (by decide) f_69 (fun _ h9 => h9) rfl dX7_release_28 ?_
    refine lv_iload_n hx hb dX7_release_31 rfl (lv_at hl 2 rfl) ?_
    obtain ⟨hi, h⟩ := h
    refine va_aldq hx hb hK.1 hP 1 4 rfl rfl hi dX7_release_32 ?_
    rw [hs_x1 hi]
    refine lv_iconst (v := (-1 : Int32)) hx hb dX7_release_33 (by decide) ?_
    refine lv_iconst (v := (0 : Int32)) hx hb dX7_release_34 (by decide) ?_
    refine k_Vv (wr := [oX7 z_a c_a s_a d_a t_a z_saved e_a p_a r_a q_a z_as, aO cO z_as 4 z_slots]) (wf := (fun (u : Int32 × Int32 × (Nat → Int64) × (Nat → UInt64)) => [oX7 z_a c_a s_a d_a t_a z_saved e_a p_a r_a q_a z_as, aO cO z_as 4 z_slots, oX5 k_a u.1 u.2.1 k_aw k_ar, aJ cJ k_aw 40 u.2.2.1, aD cD k_ar 40 u.2.2.2])) (As := [.int (-1 : Int32), .int (0 : Int32)]) (rest := []) ⟨hx, hb, hml, hown, hts⟩ hK hP hD hS hA (c_X5_hold l G cI cD cZ cJ cO k_a k_aw k_ar k_type k_size k_wholes k_reals (-1 : Int32) (0 : Int32) _ h) (cwV 2 hts gX7_release_X5_hold rfl rfl rfl (by decide +kernel) ⟨Nat.le_of_ble_eq_true rfl, Nat.le_of_ble_eq_true rfl⟩) 0 rfl rfl [2, 3, 4] [0, 1] [0, 1, 2, 3, 4] rfl rfl rfl (fun _ => rfl) rfl rfl hl.1 (Nat.le_of_ble_eq_true rfl) ⟨Nat.zero_le _, Nat.zero_le _⟩ dX7_release_35 (fun u H locs h hP hD hS => ?_)
    obtain ⟨k_type_3, k_size_4, k_wholes_5, k_reals_6⟩ := u
    have hP : va_P G vwCl [oX7 z_a c_a s_a d_a t_a z_saved e_a p_a r_a q_a z_as, aO cO z_as 4 z_slots, oX5 k_a k_type_3 k_size_4 k_aw k_ar, aJ cJ k_aw 40 k_wholes_5, aD cD k_ar 40 k_reals_6] H := hP
    have hD : va_D A [oX7 z_a c_a s_a d_a t_a z_saved e_a p_a r_a q_a z_as, aO cO z_as 4 z_slots, oX5 k_a k_type_3 k_size_4 k_aw k_ar, aJ cJ k_aw 40 k_wholes_5, aD cD k_ar 40 k_reals_6] := hD
    refine lv_iload_n hx hb dX7_release_38 rfl (lv_at hl 0 rfl) ?_
    obtain ⟨ha, hf⟩ := h
    refine lv_if_eq (tgt := 46) hx hb dX7_release_39 (by decide) (fun hc => ?_) (fun hc => ?_)
    · have h := ha hc
      clear ha hf
      refine lv_iconst (v := (0 : Int32)) hx hb dX7_release_46 (by decide) ?_
      exact hret _ (k_type_3, k_size_4, k_wholes_5, k_reals_6) _ _ _ _ rfl h hP hD hS dX7_release_47
    · have h := hf hc
      clear ha hf
      refine lv_iconst (v := (1 : Int32)) hx hb dX7_release_42 (by decide) ?_
      refine lv_goto (tgt := 47) hx hb dX7_release_43 (by decide) ?_
      exact hret _ (k_type_3, k_size_4, k_wholes_5, k_reals_6) _ _ _ _ rfl h hP hD hS dX7_release_47
  refine lv_iload_n hx hb dX7_release_0 rfl (lv_at hl 1 rfl) ?_
  refine k_Si (wr := [oX7 z_a c_a s_a d_a t_a z_saved e_a p_a r_a q_a z_as, aO cO z_as 4 z_slots, oX5 k_a k_type k_size k_aw k_ar, aJ cJ k_aw 40 k_wholes, aD cD k_ar 40 k_reals]) (wf := (fun (u : Unit) => [oX7 z_a c_a s_a d_a t_a z_saved e_a p_a r_a q_a z_as, aO cO z_as 4 z_slots, oX5 k_a k_type k_size k_aw k_ar, aJ cJ k_aw 40 k_wholes, aD cD k_ar 40 k_reals])) (As := [.int x1]) (rest := []) ⟨hx, hb, hml, hown, hts⟩ hK hP hD hS hA (c_X7_isSlot l G cI cD cZ cJ cO x1 _ h) (va_cwS 1 hts gX7_release_X7_isSlot rfl rfl rfl (by decide +kernel) ⟨Nat.le_of_ble_eq_true rfl, Nat.le_of_ble_eq_true rfl⟩) [] [0, 1, 2, 3, 4] [0, 1, 2, 3, 4] rfl rfl rfl (fun _ => rfl) rfl rfl hl.1 (Nat.le_of_ble_eq_true rfl) ⟨Nat.zero_le _, Nat.zero_le _⟩ dX7_release_1 (fun r_1 u H locs h hP hD hS => ?_)
  have hP : va_P G vwCl [oX7 z_a c_a s_a d_a t_a z_saved e_a p_a r_a q_a z_as, aO cO z_as 4 z_slots, oX5 k_a k_type k_size k_aw k_ar, aJ cJ k_aw 40 k_wholes, aD cD k_ar 40 k_reals] H := hP
  have hD : va_D A [oX7 z_a c_a s_a d_a t_a z_saved e_a p_a r_a q_a z_as, aO cO z_as 4 z_slots, oX5 k_a k_type k_size k_aw k_ar, aJ cJ k_aw 40 k_wholes, aD cD k_ar 40 k_reals] := hD
  obtain ⟨ha, hf⟩ := h
  refine lv_if_ne (tgt := 9) hx hb dX7_release_4 (by decide) (fun hc => ?_) (fun hc => ?_)
  · have h := ha hc
    clear ha hf
    refine lv_aload_n hx hb dX7_release_9 rfl (lv_at hl 0 rfl) ?_
    refine va_get (D := G) (ci := 7) (v := .ref z_as) (C := RX7) (T := TX7) (N := 10) hx hb hts i_X7 hown hK.1 hP 0 rfl rfl 9 (by decide) f_69 (fun _ h9 => h9) rfl dX7_release_10 ?_
    refine lv_iload_n hx hb dX7_release_13 rfl (lv_at hl 1 rfl) ?_
    obtain ⟨hi, h⟩ := h
    refine va_aldq hx hb hK.1 hP 1 4 rfl rfl hi dX7_release_14 ?_
    rw [hs_x1 hi]
    refine k_Vi (wr := [oX7 z_a c_a s_a d_a t_a z_saved e_a p_a r_a q_a z_as, aO cO z_as 4 z_slots]) (wf := (fun (u : Unit) => [oX7 z_a c_a s_a d_a t_a z_saved e_a p_a r_a q_a z_as, aO cO z_as 4 z_slots, oX5 k_a k_type k_size k_aw k_ar, aJ cJ k_aw 40 k_wholes, aD cD k_ar 40 k_reals])) (As := []) (rest := []) ⟨hx, hb, hml, hown, hts⟩ hK hP hD hS hA (c_X5_isEmpty l G cI cD cZ cJ cO k_a k_aw k_ar k_type k_size k_wholes k_reals _ h) (cwV 0 hts gX7_release_X5_isEmpty rfl rfl rfl (by decide +kernel) ⟨Nat.le_of_ble_eq_true rfl, Nat.le_of_ble_eq_true rfl⟩) 0 rfl rfl [2, 3, 4] [0, 1] [0, 1, 2, 3, 4] rfl rfl rfl (fun _ => rfl) rfl rfl hl.1 (Nat.le_of_ble_eq_true rfl) ⟨Nat.zero_le _, Nat.zero_le _⟩ dX7_release_15 (fun r_2 u H locs h hP hD hS => ?_)
    have hP : va_P G vwCl [oX7 z_a c_a s_a d_a t_a z_saved e_a p_a r_a q_a z_as, aO cO z_as 4 z_slots, oX5 k_a k_type k_size k_aw k_ar, aJ cJ k_aw 40 k_wholes, aD cD k_ar 40 k_reals] H := hP
    have hD : va_D A [oX7 z_a c_a s_a d_a t_a z_saved e_a p_a r_a q_a z_as, aO cO z_as 4 z_slots, oX5 k_a k_type k_size k_aw k_ar, aJ cJ k_aw 40 k_wholes, aD cD k_ar 40 k_reals] := hD
    obtain ⟨ha, hf⟩ := h
    refine lv_if_ne (tgt := 25) hx hb dX7_release_18 (by decide) (fun hc => ?_) (fun hc => ?_)
    · have h := ha hc
      clear ha hf
      refine lv_iconst (v := (0 : Int32)) hx hb dX7_release_25 (by decide) ?_
      exact b_26  _ _ _ _ _ h _ _ _ ⟨hP, hD, hS, lv_sub hl [0, 1] rfl⟩
    · have h := hf hc
      clear ha hf
      refine lv_iconst (v := (1 : Int32)) hx hb dX7_release_21 (by decide) ?_
      refine lv_goto (tgt := 26) hx hb dX7_release_22 (by decide) ?_
      exact b_26  _ _ _ _ _ h _ _ _ ⟨hP, hD, hS, lv_sub hl [0, 1] rfl⟩
  · have h := hf hc
    clear ha hf
    refine lv_iconst (v := (-1 : Int32)) hx hb dX7_release_7 (by decide) ?_
    exact hret _ (k_type, k_size, k_wholes, k_reals) _ _ _ _ rfl h hP hD hS dX7_release_8
abbrev rm_X7_putElement : Room := { frames := 1, cells := 0, slots := 0, locals := 23 }
def wp_X7_putElement (x1 : Int32) (x2 : Int32) (x3 : Int64) (k_type : Int32) (k_size : Int32) (k_wholes : Nat → Int64) (k_reals : Nat → UInt64) (Q : Int32 → (Nat → Int64) → (Nat → UInt64) → Prop) : Prop := wp_X7_isSlot x1 (fun (r_1 : Int32) => ((¬ r_1 = 0) → vp_in x1 4 ∧ wp_X5_isEmpty k_type (fun (r_2 : Int32) => ((r_2 = 0) → vp_in x1 4 ∧ wp_X5_hasIndex x2 k_size (fun (r_3 : Int32) => ((¬ r_3 = 0) → vp_in x1 4 ∧ wp_X5_put x2 x3 k_type k_wholes k_reals (fun (k_wholes_4 : Nat → Int64) (k_reals_5 : Nat → UInt64) => Q (1 : Int32) k_wholes_4 k_reals_5)) ∧ ((r_3 = 0) → Q (-13 : Int32) k_wholes k_reals))) ∧ ((¬ r_2 = 0) → Q (-11 : Int32) k_wholes k_reals))) ∧ ((r_1 = 0) → Q (-1 : Int32) k_wholes k_reals))
set_option maxRecDepth 100000 in
set_option maxHeartbeats 4000000 in
theorem c_X7_putElement (l : Launch) (G : va_G) (cI cD cZ cJ cO : ClassId) (z_a z_as k_a k_aw k_ar c_a s_a d_a t_a e_a p_a r_a q_a : Nat) (z_saved : Int32) (z_slots : Nat → Option Nat) (k_type : Int32) (k_size : Int32) (k_wholes : Nat → Int64) (k_reals : Nat → UInt64) (x1 : Int32) (x2 : Int32) (x3 : Int64) (hs_x1 : vp_in x1 4 → z_slots x1.toNatClampNeg = some k_a) (Q : Int32 → (Nat → Int64) → (Nat → UInt64) → Prop) (h : wp_X7_putElement x1 x2 x3 k_type k_size k_wholes k_reals Q) : CtI l yX7_putElement wsX7_putElement rm_X7_putElement G (TY cI cD cZ cJ cO) [.ref z_a, .int x1, .int x2, .long x3] [oX7 z_a c_a s_a d_a t_a z_saved e_a p_a r_a q_a z_as, aO cO z_as 4 z_slots, oX5 k_a k_type k_size k_aw k_ar, aJ cJ k_aw 40 k_wholes, aD cD k_ar 40 k_reals] (fun (r : Int32) (u : (Nat → Int64) × (Nat → UInt64)) => Q r u.1 u.2) (fun (u : (Nat → Int64) × (Nat → UInt64)) => [oX7 z_a c_a s_a d_a t_a z_saved e_a p_a r_a q_a z_as, aO cO z_as 4 z_slots, oX5 k_a k_type k_size k_aw k_ar, aJ cJ k_aw 40 u.1, aD cD k_ar 40 u.2]) := by
  refine ct_openI (cc := cX7_putElement) (maxL := 5) (ty := .int) (by decide) rfl (Nat.le_of_ble_eq_true rfl) ?_
  intro p e s m args below meth c A Z ls hx hb hml hown hts hK hA hret hP hD hS hl
  have hown : s.vm.findClass RX7 = some m.cls := hown
  have hl : lv_has ls 5 [(0, .ref z_a), (1, .int x1), (2, .int x2), (3, .long x3)] := hl
  have f_69 := hts (.fieldLink RX7 69 "TeachingSets" "slots" "[LTeachingSets$Slot;") (List.mem_of_getElem? (i := 1) rfl)
  have i_X7 : ∀ w ∈ wsX70, w ∈ wsX7_putElement := fun _ h => List.mem_cons_of_mem _ (List.mem_append_left _ (List.mem_append_right _ (h)))
  refine lv_iload_n hx hb dX7_putElement_0 rfl (lv_at hl 1 rfl) ?_
  refine k_Si (wr := [oX7 z_a c_a s_a d_a t_a z_saved e_a p_a r_a q_a z_as, aO cO z_as 4 z_slots, oX5 k_a k_type k_size k_aw k_ar, aJ cJ k_aw 40 k_wholes, aD cD k_ar 40 k_reals]) (wf := (fun (u : Unit) => [oX7 z_a c_a s_a d_a t_a z_saved e_a p_a r_a q_a z_as, aO cO z_as 4 z_slots, oX5 k_a k_type k_size k_aw k_ar, aJ cJ k_aw 40 k_wholes, aD cD k_ar 40 k_reals])) (As := [.int x1]) (rest := []) ⟨hx, hb, hml, hown, hts⟩ hK hP hD hS hA (c_X7_isSlot l G cI cD cZ cJ cO x1 _ h) (va_cwS 1 hts gX7_putElement_X7_isSlot rfl rfl rfl (by decide +kernel) ⟨Nat.le_of_ble_eq_true rfl, Nat.le_of_ble_eq_true rfl⟩) [] [0, 1, 2, 3, 4] [0, 1, 2, 3, 4] rfl rfl rfl (fun _ => rfl) rfl rfl hl.1 (Nat.le_of_ble_eq_true rfl) ⟨Nat.zero_le _, Nat.zero_le _⟩ dX7_putElement_1 (fun r_1 u H locs h hP hD hS => ?_)
  have hP : va_P G vwCl [oX7 z_a c_a s_a d_a t_a z_saved e_a p_a r_a q_a z_as, aO cO z_as 4 z_slots, oX5 k_a k_type k_size k_aw k_ar, aJ cJ k_aw 40 k_wholes, aD cD k_ar 40 k_reals] H := hP
  have hD : va_D A [oX7 z_a c_a s_a d_a t_a z_saved e_a p_a r_a q_a z_as, aO cO z_as 4 z_slots, oX5 k_a k_type k_size k_aw k_ar, aJ cJ k_aw 40 k_wholes, aD cD k_ar 40 k_reals] := hD
  obtain ⟨ha, hf⟩ := h
  refine lv_if_ne (tgt := 9) hx hb dX7_putElement_4 (by decide) (fun hc => ?_) (fun hc => ?_)
  · have h := ha hc
    clear ha hf
    refine lv_aload_n hx hb dX7_putElement_9 rfl (lv_at hl 0 rfl) ?_
    refine va_get (D := G) (ci := 7) (v := .ref z_as) (C := RX7) (T := TX7) (N := 10) hx hb hts i_X7 hown hK.1 hP 0 rfl rfl 9 (by decide) f_69 (fun _ h9 => h9) rfl dX7_putElement_10 ?_
    refine lv_iload_n hx hb dX7_putElement_13 rfl (lv_at hl 1 rfl) ?_
    obtain ⟨hi, h⟩ := h
    refine va_aldq hx hb hK.1 hP 1 4 rfl rfl hi dX7_putElement_14 ?_
    rw [hs_x1 hi]
    refine k_Vi (wr := [oX7 z_a c_a s_a d_a t_a z_saved e_a p_a r_a q_a z_as, aO cO z_as 4 z_slots]) (wf := (fun (u : Unit) => [oX7 z_a c_a s_a d_a t_a z_saved e_a p_a r_a q_a z_as, aO cO z_as 4 z_slots, oX5 k_a k_type k_size k_aw k_ar, aJ cJ k_aw 40 k_wholes, aD cD k_ar 40 k_reals])) (As := []) (rest := []) ⟨hx, hb, hml, hown, hts⟩ hK hP hD hS hA (c_X5_isEmpty l G cI cD cZ cJ cO k_a k_aw k_ar k_type k_size k_wholes k_reals _ h) (cwV 0 hts gX7_putElement_X5_isEmpty rfl rfl rfl (by decide +kernel) ⟨Nat.le_of_ble_eq_true rfl, Nat.le_of_ble_eq_true rfl⟩) 0 rfl rfl [2, 3, 4] [0, 1] [0, 1, 2, 3, 4] rfl rfl rfl (fun _ => rfl) rfl rfl hl.1 (Nat.le_of_ble_eq_true rfl) ⟨Nat.zero_le _, Nat.zero_le _⟩ dX7_putElement_15 (fun r_2 u H locs h hP hD hS => ?_)
    have hP : va_P G vwCl [oX7 z_a c_a s_a d_a t_a z_saved e_a p_a r_a q_a z_as, aO cO z_as 4 z_slots, oX5 k_a k_type k_size k_aw k_ar, aJ cJ k_aw 40 k_wholes, aD cD k_ar 40 k_reals] H := hP
    have hD : va_D A [oX7 z_a c_a s_a d_a t_a z_saved e_a p_a r_a q_a z_as, aO cO z_as 4 z_slots, oX5 k_a k_type k_size k_aw k_ar, aJ cJ k_aw 40 k_wholes, aD cD k_ar 40 k_reals] := hD
    obtain ⟨ha, hf⟩ := h
    refine lv_if_eq (tgt := 24) hx hb dX7_putElement_18 (by decide) (fun hc => ?_) (fun hc => ?_)
    · have h := ha hc
      clear ha hf
      refine lv_aload_n hx hb dX7_putElement_24 rfl (lv_at hl 0 rfl) ?_
      refine va_get (D := G) (ci := 7) (v := .ref z_as) (C := RX7) (T := TX7) (N := 10) hx hb hts i_X7 hown hK.1 hP 0 rfl rfl 9 (by decide) f_69 (fun _ h9 => h9) rfl dX7_putElement_25 ?_
      refine lv_iload_n hx hb dX7_putElement_28 rfl (lv_at hl 1 rfl) ?_
      obtain ⟨hi, h⟩ := h
      refine va_aldq hx hb hK.1 hP 1 4 rfl rfl hi dX7_putElement_29 ?_
      rw [hs_x1 hi]
      refine lv_iload_n hx hb dX7_putElement_30 rfl (lv_at hl 2 rfl) ?_
      refine k_Vi (wr := [oX7 z_a c_a s_a d_a t_a z_saved e_a p_a r_a q_a z_as, aO cO z_as 4 z_slots]) (wf := (fun (u : Unit) => [oX7 z_a c_a s_a d_a t_a z_saved e_a p_a r_a q_a z_as, aO cO z_as 4 z_slots, oX5 k_a k_type k_size k_aw k_ar, aJ cJ k_aw 40 k_wholes, aD cD k_ar 40 k_reals])) (As := [.int x2]) (rest := []) ⟨hx, hb, hml, hown, hts⟩ hK hP hD hS hA (c_X5_hasIndex l G cI cD cZ cJ cO k_a k_aw k_ar k_type k_size k_wholes k_reals x2 _ h) (cwV 1 hts gX7_putElement_X5_hasIndex rfl rfl rfl (by decide +kernel) ⟨Nat.le_of_ble_eq_true rfl, Nat.le_of_ble_eq_true rfl⟩) 0 rfl rfl [2, 3, 4] [0, 1] [0, 1, 2, 3, 4] rfl rfl rfl (fun _ => rfl) rfl rfl hl.1 (Nat.le_of_ble_eq_true rfl) ⟨Nat.zero_le _, Nat.zero_le _⟩ dX7_putElement_31 (fun r_3 u H locs h hP hD hS => ?_)
      have hP : va_P G vwCl [oX7 z_a c_a s_a d_a t_a z_saved e_a p_a r_a q_a z_as, aO cO z_as 4 z_slots, oX5 k_a k_type k_size k_aw k_ar, aJ cJ k_aw 40 k_wholes, aD cD k_ar 40 k_reals] H := hP
      have hD : va_D A [oX7 z_a c_a s_a d_a t_a z_saved e_a p_a r_a q_a z_as, aO cO z_as 4 z_slots, oX5 k_a k_type k_size k_aw k_ar, aJ cJ k_aw 40 k_wholes, aD cD k_ar 40 k_reals] := hD
      obtain ⟨ha, hf⟩ := h
      refine lv_if_ne (tgt := 40) hx hb dX7_putElement_34 (by decide) (fun hc => ?_) (fun hc => ?_)
      · have h := ha hc
        clear ha hf
        refine lv_aload_n hx hb dX7_putElement_40 rfl (lv_at hl 0 rfl) ?_
        refine va_get (D := G) (ci := 7) (v := .ref z_as) (C := RX7) (T := TX7) (N := 10) hx hb hts i_X7 hown hK.1 hP 0 rfl rfl 9 (by decide) f_69 (fun _ h9 => h9) rfl dX7_putElement_41 ?_
        refine lv_iload_n hx hb dX7_putElement_44 rfl (lv_at hl 1 rfl) ?_
        obtain ⟨hi, h⟩ := h
        refine va_aldq hx hb hK.1 hP 1 4 rfl rfl hi dX7_putElement_45 ?_
        rw [hs_x1 hi]
        refine lv_iload_n hx hb dX7_putElement_46 rfl (lv_at hl 2 rfl) ?_
        refine lv_lload_n hx hb dX7_putElement_47 rfl (lv_at hl 3 rfl) ?_
        refine k_Vv (wr := [oX7 z_a c_a s_a d_a t_a z_saved e_a p_a r_a q_a z_as, aO cO z_as 4 z_slots]) (wf := (fun (u : (Nat → Int64) × (Nat → UInt64)) => [oX7 z_a c_a s_a d_a t_a z_saved e_a p_a r_a q_a z_as, aO cO z_as 4 z_slots, oX5 k_a k_type k_size k_aw k_ar, aJ cJ k_aw 40 u.1, aD cD k_ar 40 u.2])) (As := [.int x2, .long x3]) (rest := []) ⟨hx, hb, hml, hown, hts⟩ hK hP hD hS hA (c_X5_put l G cI cD cZ cJ cO k_a k_aw k_ar k_type k_size k_wholes k_reals x2 x3 _ h) (cwV 2 hts gX7_putElement_X5_put rfl rfl rfl (by decide +kernel) ⟨Nat.le_of_ble_eq_true rfl, Nat.le_of_ble_eq_true rfl⟩) 0 rfl rfl [2, 3, 4] [0, 1] [0, 1, 2, 3, 4] rfl rfl rfl (fun _ => rfl) rfl rfl hl.1 (Nat.le_of_ble_eq_true rfl) ⟨Nat.zero_le _, Nat.zero_le _⟩ dX7_putElement_48 (fun u H locs h hP hD hS => ?_)
        obtain ⟨k_wholes_4, k_reals_5⟩ := u
        have hP : va_P G vwCl [oX7 z_a c_a s_a d_a t_a z_saved e_a p_a r_a q_a z_as, aO cO z_as 4 z_slots, oX5 k_a k_type k_size k_aw k_ar, aJ cJ k_aw 40 k_wholes_4, aD cD k_ar 40 k_reals_5] H := hP
        have hD : va_D A [oX7 z_a c_a s_a d_a t_a z_saved e_a p_a r_a q_a z_as, aO cO z_as 4 z_slots, oX5 k_a k_type k_size k_aw k_ar, aJ cJ k_aw 40 k_wholes_4, aD cD k_ar 40 k_reals_5] := hD
        refine lv_iconst (v := (1 : Int32)) hx hb dX7_putElement_51 (by decide) ?_
        exact hret _ (k_wholes_4, k_reals_5) _ _ _ _ rfl h hP hD hS dX7_putElement_52
      · have h := hf hc
        clear ha hf
        refine lv_bipush (v := (-13 : Int32)) hx hb dX7_putElement_37 (by decide) ?_
        exact hret _ (k_wholes, k_reals) _ _ _ _ rfl h hP hD hS dX7_putElement_39
    · have h := hf hc
      clear ha hf
      refine lv_bipush (v := (-11 : Int32)) hx hb dX7_putElement_21 (by decide) ?_
      exact hret _ (k_wholes, k_reals) _ _ _ _ rfl h hP hD hS dX7_putElement_23
  · have h := hf hc
    clear ha hf
    refine lv_iconst (v := (-1 : Int32)) hx hb dX7_putElement_7 (by decide) ?_
    exact hret _ (k_wholes, k_reals) _ _ _ _ rfl h hP hD hS dX7_putElement_8
abbrev rm_X7_element : Room := { frames := 1, cells := 0, slots := 0, locals := 21 }
def wp_X7_element (x1 : Int32) (x2 : Int32) (k_type : Int32) (k_size : Int32) (k_wholes : Nat → Int64) (k_reals : Nat → UInt64) (Q : Int64 → Prop) : Prop := wp_X7_isSlot x1 (fun (r_1 : Int32) => ((r_1 = 0) → Q (-9223372036854775808 : Int64)) ∧ ((¬ r_1 = 0) → vp_in x1 4 ∧ wp_X5_hasIndex x2 k_size (fun (r_2 : Int32) => ((¬ r_2 = 0) → vp_in x1 4 ∧ wp_X5_get x2 k_type k_wholes k_reals (fun (r_3 : Int64) => Q r_3)) ∧ ((r_2 = 0) → Q (-9223372036854775808 : Int64)))))
set_option maxRecDepth 100000 in
set_option maxHeartbeats 4000000 in
theorem c_X7_element (l : Launch) (G : va_G) (cI cD cZ cJ cO : ClassId) (z_a z_as k_a k_aw k_ar c_a s_a d_a t_a e_a p_a r_a q_a : Nat) (z_saved : Int32) (z_slots : Nat → Option Nat) (k_type : Int32) (k_size : Int32) (k_wholes : Nat → Int64) (k_reals : Nat → UInt64) (x1 : Int32) (x2 : Int32) (hs_x1 : vp_in x1 4 → z_slots x1.toNatClampNeg = some k_a) (Q : Int64 → Prop) (h : wp_X7_element x1 x2 k_type k_size k_wholes k_reals Q) : CtL l yX7_element wsX7_element rm_X7_element G (TY cI cD cZ cJ cO) [.ref z_a, .int x1, .int x2] [oX7 z_a c_a s_a d_a t_a z_saved e_a p_a r_a q_a z_as, aO cO z_as 4 z_slots, oX5 k_a k_type k_size k_aw k_ar, aJ cJ k_aw 40 k_wholes, aD cD k_ar 40 k_reals] (fun (r : Int64) (u : Unit) => Q r) (fun (u : Unit) => [oX7 z_a c_a s_a d_a t_a z_saved e_a p_a r_a q_a z_as, aO cO z_as 4 z_slots, oX5 k_a k_type k_size k_aw k_ar, aJ cJ k_aw 40 k_wholes, aD cD k_ar 40 k_reals]) := by
  refine ct_openL (cc := cX7_element) (maxL := 3) (by decide) rfl (Nat.le_of_ble_eq_true rfl) ?_
  intro p e s m args below meth c A Z ls hx hb hml hown hts hK hA hret hP hD hS hl
  have hown : s.vm.findClass RX7 = some m.cls := hown
  have hl : lv_has ls 3 [(0, .ref z_a), (1, .int x1), (2, .int x2)] := hl
  have f_69 := hts (.fieldLink RX7 69 "TeachingSets" "slots" "[LTeachingSets$Slot;") (List.mem_of_getElem? (i := 1) rfl)
  have i_X7 : ∀ w ∈ wsX70, w ∈ wsX7_element := fun _ h => List.mem_cons_of_mem _ (List.mem_append_left _ (List.mem_append_right _ (h)))
  refine lv_iload_n hx hb dX7_element_0 rfl (lv_at hl 1 rfl) ?_
  refine k_Si (wr := [oX7 z_a c_a s_a d_a t_a z_saved e_a p_a r_a q_a z_as, aO cO z_as 4 z_slots, oX5 k_a k_type k_size k_aw k_ar, aJ cJ k_aw 40 k_wholes, aD cD k_ar 40 k_reals]) (wf := (fun (u : Unit) => [oX7 z_a c_a s_a d_a t_a z_saved e_a p_a r_a q_a z_as, aO cO z_as 4 z_slots, oX5 k_a k_type k_size k_aw k_ar, aJ cJ k_aw 40 k_wholes, aD cD k_ar 40 k_reals])) (As := [.int x1]) (rest := []) ⟨hx, hb, hml, hown, hts⟩ hK hP hD hS hA (c_X7_isSlot l G cI cD cZ cJ cO x1 _ h) (va_cwS 1 hts gX7_element_X7_isSlot rfl rfl rfl (by decide +kernel) ⟨Nat.le_of_ble_eq_true rfl, Nat.le_of_ble_eq_true rfl⟩) [] [0, 1, 2, 3, 4] [0, 1, 2, 3, 4] rfl rfl rfl (fun _ => rfl) rfl rfl hl.1 (Nat.le_of_ble_eq_true rfl) ⟨Nat.zero_le _, Nat.zero_le _⟩ dX7_element_1 (fun r_1 u H locs h hP hD hS => ?_)
  have hP : va_P G vwCl [oX7 z_a c_a s_a d_a t_a z_saved e_a p_a r_a q_a z_as, aO cO z_as 4 z_slots, oX5 k_a k_type k_size k_aw k_ar, aJ cJ k_aw 40 k_wholes, aD cD k_ar 40 k_reals] H := hP
  have hD : va_D A [oX7 z_a c_a s_a d_a t_a z_saved e_a p_a r_a q_a z_as, aO cO z_as 4 z_slots, oX5 k_a k_type k_size k_aw k_ar, aJ cJ k_aw 40 k_wholes, aD cD k_ar 40 k_reals] := hD
  obtain ⟨ha, hf⟩ := h
  refine lv_if_eq (tgt := 20) hx hb dX7_element_4 (by decide) (fun hc => ?_) (fun hc => ?_)
  · have h := ha hc
    clear ha hf
    refine lv_ldc2 (v := (-9223372036854775808 : Int64)) hx hb hown (hts _ (List.mem_of_getElem? (i := 2) rfl)) dX7_element_20 ?_
    exact hret _ () _ _ _ _ h hP hD hS dX7_element_23
  · have h := hf hc
    clear ha hf
    refine lv_aload_n hx hb dX7_element_7 rfl (lv_at hl 0 rfl) ?_
    refine va_get (D := G) (ci := 7) (v := .ref z_as) (C := RX7) (T := TX7) (N := 10) hx hb hts i_X7 hown hK.1 hP 0 rfl rfl 9 (by decide) f_69 (fun _ h9 => h9) rfl dX7_element_8 ?_
    refine lv_iload_n hx hb dX7_element_11 rfl (lv_at hl 1 rfl) ?_
    obtain ⟨hi, h⟩ := h
    refine va_aldq hx hb hK.1 hP 1 4 rfl rfl hi dX7_element_12 ?_
    rw [hs_x1 hi]
    refine lv_iload_n hx hb dX7_element_13 rfl (lv_at hl 2 rfl) ?_
    refine k_Vi (wr := [oX7 z_a c_a s_a d_a t_a z_saved e_a p_a r_a q_a z_as, aO cO z_as 4 z_slots]) (wf := (fun (u : Unit) => [oX7 z_a c_a s_a d_a t_a z_saved e_a p_a r_a q_a z_as, aO cO z_as 4 z_slots, oX5 k_a k_type k_size k_aw k_ar, aJ cJ k_aw 40 k_wholes, aD cD k_ar 40 k_reals])) (As := [.int x2]) (rest := []) ⟨hx, hb, hml, hown, hts⟩ hK hP hD hS hA (c_X5_hasIndex l G cI cD cZ cJ cO k_a k_aw k_ar k_type k_size k_wholes k_reals x2 _ h) (cwV 1 hts gX7_element_X5_hasIndex rfl rfl rfl (by decide +kernel) ⟨Nat.le_of_ble_eq_true rfl, Nat.le_of_ble_eq_true rfl⟩) 0 rfl rfl [2, 3, 4] [0, 1] [0, 1, 2, 3, 4] rfl rfl rfl (fun _ => rfl) rfl rfl hl.1 (Nat.le_of_ble_eq_true rfl) ⟨Nat.zero_le _, Nat.zero_le _⟩ dX7_element_14 (fun r_2 u H locs h hP hD hS => ?_)
    have hP : va_P G vwCl [oX7 z_a c_a s_a d_a t_a z_saved e_a p_a r_a q_a z_as, aO cO z_as 4 z_slots, oX5 k_a k_type k_size k_aw k_ar, aJ cJ k_aw 40 k_wholes, aD cD k_ar 40 k_reals] H := hP
    have hD : va_D A [oX7 z_a c_a s_a d_a t_a z_saved e_a p_a r_a q_a z_as, aO cO z_as 4 z_slots, oX5 k_a k_type k_size k_aw k_ar, aJ cJ k_aw 40 k_wholes, aD cD k_ar 40 k_reals] := hD
    obtain ⟨ha, hf⟩ := h
    refine lv_if_ne (tgt := 24) hx hb dX7_element_17 (by decide) (fun hc => ?_) (fun hc => ?_)
    · have h := ha hc
      clear ha hf
      refine lv_aload_n hx hb dX7_element_24 rfl (lv_at hl 0 rfl) ?_
      refine va_get (D := G) (ci := 7) (v := .ref z_as) (C := RX7) (T := TX7) (N := 10) hx hb hts i_X7 hown hK.1 hP 0 rfl rfl 9 (by decide) f_69 (fun _ h9 => h9) rfl dX7_element_25 ?_
      refine lv_iload_n hx hb dX7_element_28 rfl (lv_at hl 1 rfl) ?_
      obtain ⟨hi, h⟩ := h
      refine va_aldq hx hb hK.1 hP 1 4 rfl rfl hi dX7_element_29 ?_
      rw [hs_x1 hi]
      refine lv_iload_n hx hb dX7_element_30 rfl (lv_at hl 2 rfl) ?_
      refine k_Vl (wr := [oX7 z_a c_a s_a d_a t_a z_saved e_a p_a r_a q_a z_as, aO cO z_as 4 z_slots]) (wf := (fun (u : Unit) => [oX7 z_a c_a s_a d_a t_a z_saved e_a p_a r_a q_a z_as, aO cO z_as 4 z_slots, oX5 k_a k_type k_size k_aw k_ar, aJ cJ k_aw 40 k_wholes, aD cD k_ar 40 k_reals])) (As := [.int x2]) (rest := []) ⟨hx, hb, hml, hown, hts⟩ hK hP hD hS hA (c_X5_get l G cI cD cZ cJ cO k_a k_aw k_ar k_type k_size k_wholes k_reals x2 _ h) (cwV 1 hts gX7_element_X5_get rfl rfl rfl (by decide +kernel) ⟨Nat.le_of_ble_eq_true rfl, Nat.le_of_ble_eq_true rfl⟩) 0 rfl rfl [2, 3, 4] [0, 1] [0, 1, 2, 3, 4] rfl rfl rfl (fun _ => rfl) rfl rfl hl.1 (Nat.le_of_ble_eq_true rfl) ⟨Nat.zero_le _, Nat.zero_le _⟩ dX7_element_31 (fun r_3 u H locs h hP hD hS => ?_)
      have hP : va_P G vwCl [oX7 z_a c_a s_a d_a t_a z_saved e_a p_a r_a q_a z_as, aO cO z_as 4 z_slots, oX5 k_a k_type k_size k_aw k_ar, aJ cJ k_aw 40 k_wholes, aD cD k_ar 40 k_reals] H := hP
      have hD : va_D A [oX7 z_a c_a s_a d_a t_a z_saved e_a p_a r_a q_a z_as, aO cO z_as 4 z_slots, oX5 k_a k_type k_size k_aw k_ar, aJ cJ k_aw 40 k_wholes, aD cD k_ar 40 k_reals] := hD
      exact hret _ () _ _ _ _ h hP hD hS dX7_element_34
    · have h := hf hc
      clear ha hf
      refine lv_ldc2 (v := (-9223372036854775808 : Int64)) hx hb hown (hts _ (List.mem_of_getElem? (i := 2) rfl)) dX7_element_20 ?_
      exact hret _ () _ _ _ _ h hP hD hS dX7_element_23
abbrev rm_X7_copyElements : Room := { frames := 2, cells := 0, slots := 0, locals := 88 }
def wp_X7_copyElements (x1 : Int32) (x2 : Int32) (x3 : Int32) (x4 : Int32) (x5 : Int32) (k_type : Int32) (k_size : Int32) (k_wholes : Nat → Int64) (k_reals : Nat → UInt64) (j_type : Int32) (j_size : Int32) (j_wholes : Nat → Int64) (j_reals : Nat → UInt64) (Q : Int32 → (Nat → Int64) → (Nat → UInt64) → Prop) : Prop := wp_X7_isSlot x1 (fun (r_1 : Int32) => ((r_1 = 0) → Q (-1 : Int32) j_wholes j_reals) ∧ ((¬ r_1 = 0) → wp_X7_isSlot x3 (fun (r_2 : Int32) => ((¬ r_2 = 0) → vp_in x1 4 ∧ vp_in x3 4 ∧ wp_X5_isEmpty k_type (fun (r_3 : Int32) => ((¬ r_3 = 0) → Q (-11 : Int32) j_wholes j_reals) ∧ ((r_3 = 0) → wp_X5_isEmpty j_type (fun (r_4 : Int32) => ((r_4 = 0) → ((k_type = j_type) → wp_X5_hasStretch x2 x5 k_size (fun (r_5 : Int32) => ((r_5 = 0) → Q (-13 : Int32) j_wholes j_reals) ∧ ((¬ r_5 = 0) → wp_X5_hasStretch x4 x5 j_size (fun (r_6 : Int32) => ((¬ r_6 = 0) → wp_X5_take x4 x2 x5 j_type j_wholes j_reals k_wholes k_reals (fun (j_wholes_7 : Nat → Int64) (j_reals_8 : Nat → UInt64) => Q x5 j_wholes_7 j_reals_8)) ∧ ((r_6 = 0) → Q (-13 : Int32) j_wholes j_reals))))) ∧ ((¬ k_type = j_type) → Q (-12 : Int32) j_wholes j_reals)) ∧ ((¬ r_4 = 0) → Q (-11 : Int32) j_wholes j_reals))))) ∧ ((r_2 = 0) → Q (-1 : Int32) j_wholes j_reals))))
set_option maxRecDepth 100000 in
set_option maxHeartbeats 4000000 in
theorem c_X7_copyElements (l : Launch) (G : va_G) (cI cD cZ cJ cO : ClassId) (z_a z_as k_a k_aw k_ar j_a j_aw j_ar c_a s_a d_a t_a e_a p_a r_a q_a : Nat) (z_saved : Int32) (z_slots : Nat → Option Nat) (k_type : Int32) (k_size : Int32) (k_wholes : Nat → Int64) (k_reals : Nat → UInt64) (j_type : Int32) (j_size : Int32) (j_wholes : Nat → Int64) (j_reals : Nat → UInt64) (x1 : Int32) (x2 : Int32) (x3 : Int32) (x4 : Int32) (x5 : Int32) (hs_x1 : vp_in x1 4 → z_slots x1.toNatClampNeg = some k_a) (hs_x3 : vp_in x3 4 → z_slots x3.toNatClampNeg = some j_a) (Q : Int32 → (Nat → Int64) → (Nat → UInt64) → Prop) (h : wp_X7_copyElements x1 x2 x3 x4 x5 k_type k_size k_wholes k_reals j_type j_size j_wholes j_reals Q) : CtI l yX7_copyElements wsX7_copyElements rm_X7_copyElements G (TY cI cD cZ cJ cO) [.ref z_a, .int x1, .int x2, .int x3, .int x4, .int x5] [oX7 z_a c_a s_a d_a t_a z_saved e_a p_a r_a q_a z_as, aO cO z_as 4 z_slots, oX5 k_a k_type k_size k_aw k_ar, aJ cJ k_aw 40 k_wholes, aD cD k_ar 40 k_reals, oX5 j_a j_type j_size j_aw j_ar, aJ cJ j_aw 40 j_wholes, aD cD j_ar 40 j_reals] (fun (r : Int32) (u : (Nat → Int64) × (Nat → UInt64)) => Q r u.1 u.2) (fun (u : (Nat → Int64) × (Nat → UInt64)) => [oX7 z_a c_a s_a d_a t_a z_saved e_a p_a r_a q_a z_as, aO cO z_as 4 z_slots, oX5 k_a k_type k_size k_aw k_ar, aJ cJ k_aw 40 k_wholes, aD cD k_ar 40 k_reals, oX5 j_a j_type j_size j_aw j_ar, aJ cJ j_aw 40 u.1, aD cD j_ar 40 u.2]) := by
  refine ct_openI (cc := cX7_copyElements) (maxL := 8) (ty := .int) (by decide) rfl (Nat.le_of_ble_eq_true rfl) ?_
  intro p e s m args below meth c A Z ls hx hb hml hown hts hK hA hret hP hD hS hl
  have hown : s.vm.findClass RX7 = some m.cls := hown
  have hl : lv_has ls 8 [(0, .ref z_a), (1, .int x1), (2, .int x2), (3, .int x3), (4, .int x4), (5, .int x5)] := hl
  have f_69 := hts (.fieldLink RX7 69 "TeachingSets" "slots" "[LTeachingSets$Slot;") (List.mem_of_getElem? (i := 1) rfl)
  have f_257 := hts (.fieldLink RX7 257 "TeachingSets$Slot" "type" "I") (List.mem_of_getElem? (i := 2) rfl)
  have i_X7 : ∀ w ∈ wsX70, w ∈ wsX7_copyElements := fun _ h => List.mem_cons_of_mem _ (List.mem_append_left _ (List.mem_append_right _ (h)))
  have i_X5 : ∀ w ∈ wsX50, w ∈ wsX7_copyElements := fun _ h => List.mem_cons_of_mem _ (List.mem_append_right _ (h))
  refine lv_iload_n hx hb dX7_copyElements_0 rfl (lv_at hl 1 rfl) ?_
  refine k_Si (wr := [oX7 z_a c_a s_a d_a t_a z_saved e_a p_a r_a q_a z_as, aO cO z_as 4 z_slots, oX5 k_a k_type k_size k_aw k_ar, aJ cJ k_aw 40 k_wholes, aD cD k_ar 40 k_reals, oX5 j_a j_type j_size j_aw j_ar, aJ cJ j_aw 40 j_wholes, aD cD j_ar 40 j_reals]) (wf := (fun (u : Unit) => [oX7 z_a c_a s_a d_a t_a z_saved e_a p_a r_a q_a z_as, aO cO z_as 4 z_slots, oX5 k_a k_type k_size k_aw k_ar, aJ cJ k_aw 40 k_wholes, aD cD k_ar 40 k_reals, oX5 j_a j_type j_size j_aw j_ar, aJ cJ j_aw 40 j_wholes, aD cD j_ar 40 j_reals])) (As := [.int x1]) (rest := []) ⟨hx, hb, hml, hown, hts⟩ hK hP hD hS hA (c_X7_isSlot l G cI cD cZ cJ cO x1 _ h) (va_cwS 1 hts gX7_copyElements_X7_isSlot rfl rfl rfl (by decide +kernel) ⟨Nat.le_of_ble_eq_true rfl, Nat.le_of_ble_eq_true rfl⟩) [] [0, 1, 2, 3, 4, 5, 6, 7] [0, 1, 2, 3, 4, 5, 6, 7] rfl rfl rfl (fun _ => rfl) rfl rfl hl.1 (Nat.le_of_ble_eq_true rfl) ⟨Nat.zero_le _, Nat.zero_le _⟩ dX7_copyElements_1 (fun r_1 u H locs h hP hD hS => ?_)
  have hP : va_P G vwCl [oX7 z_a c_a s_a d_a t_a z_saved e_a p_a r_a q_a z_as, aO cO z_as 4 z_slots, oX5 k_a k_type k_size k_aw k_ar, aJ cJ k_aw 40 k_wholes, aD cD k_ar 40 k_reals, oX5 j_a j_type j_size j_aw j_ar, aJ cJ j_aw 40 j_wholes, aD cD j_ar 40 j_reals] H := hP
  have hD : va_D A [oX7 z_a c_a s_a d_a t_a z_saved e_a p_a r_a q_a z_as, aO cO z_as 4 z_slots, oX5 k_a k_type k_size k_aw k_ar, aJ cJ k_aw 40 k_wholes, aD cD k_ar 40 k_reals, oX5 j_a j_type j_size j_aw j_ar, aJ cJ j_aw 40 j_wholes, aD cD j_ar 40 j_reals] := hD
  obtain ⟨ha, hf⟩ := h
  refine lv_if_eq (tgt := 14) hx hb dX7_copyElements_4 (by decide) (fun hc => ?_) (fun hc => ?_)
  · have h := ha hc
    clear ha hf
    refine lv_iconst (v := (-1 : Int32)) hx hb dX7_copyElements_14 (by decide) ?_
    exact hret _ (j_wholes, j_reals) _ _ _ _ rfl h hP hD hS dX7_copyElements_15
  · have h := hf hc
    clear ha hf
    refine lv_iload_n hx hb dX7_copyElements_7 rfl (lv_at hl 3 rfl) ?_
    refine k_Si (wr := [oX7 z_a c_a s_a d_a t_a z_saved e_a p_a r_a q_a z_as, aO cO z_as 4 z_slots, oX5 k_a k_type k_size k_aw k_ar, aJ cJ k_aw 40 k_wholes, aD cD k_ar 40 k_reals, oX5 j_a j_type j_size j_aw j_ar, aJ cJ j_aw 40 j_wholes, aD cD j_ar 40 j_reals]) (wf := (fun (u : Unit) => [oX7 z_a c_a s_a d_a t_a z_saved e_a p_a r_a q_a z_as, aO cO z_as 4 z_slots, oX5 k_a k_type k_size k_aw k_ar, aJ cJ k_aw 40 k_wholes, aD cD k_ar 40 k_reals, oX5 j_a j_type j_size j_aw j_ar, aJ cJ j_aw 40 j_wholes, aD cD j_ar 40 j_reals])) (As := [.int x3]) (rest := []) ⟨hx, hb, hml, hown, hts⟩ hK hP hD hS hA (c_X7_isSlot l G cI cD cZ cJ cO x3 _ h) (va_cwS 1 hts gX7_copyElements_X7_isSlot rfl rfl rfl (by decide +kernel) ⟨Nat.le_of_ble_eq_true rfl, Nat.le_of_ble_eq_true rfl⟩) [] [0, 1, 2, 3, 4, 5, 6, 7] [0, 1, 2, 3, 4, 5, 6, 7] rfl rfl rfl (fun _ => rfl) rfl rfl hl.1 (Nat.le_of_ble_eq_true rfl) ⟨Nat.zero_le _, Nat.zero_le _⟩ dX7_copyElements_8 (fun r_2 u H locs h hP hD hS => ?_)
    have hP : va_P G vwCl [oX7 z_a c_a s_a d_a t_a z_saved e_a p_a r_a q_a z_as, aO cO z_as 4 z_slots, oX5 k_a k_type k_size k_aw k_ar, aJ cJ k_aw 40 k_wholes, aD cD k_ar 40 k_reals, oX5 j_a j_type j_size j_aw j_ar, aJ cJ j_aw 40 j_wholes, aD cD j_ar 40 j_reals] H := hP
    have hD : va_D A [oX7 z_a c_a s_a d_a t_a z_saved e_a p_a r_a q_a z_as, aO cO z_as 4 z_slots, oX5 k_a k_type k_size k_aw k_ar, aJ cJ k_aw 40 k_wholes, aD cD k_ar 40 k_reals, oX5 j_a j_type j_size j_aw j_ar, aJ cJ j_aw 40 j_wholes, aD cD j_ar 40 j_reals] := hD
    obtain ⟨ha, hf⟩ := h
    refine lv_if_ne (tgt := 16) hx hb dX7_copyElements_11 (by decide) (fun hc => ?_) (fun hc => ?_)
    · have h := ha hc
      clear ha hf
      refine lv_aload_n hx hb dX7_copyElements_16 rfl (lv_at hl 0 rfl) ?_
      refine va_get (D := G) (ci := 7) (v := .ref z_as) (C := RX7) (T := TX7) (N := 10) hx hb hts i_X7 hown hK.1 hP 0 rfl rfl 9 (by decide) f_69 (fun _ h9 => h9) rfl dX7_copyElements_17 ?_
      refine lv_iload_n hx hb dX7_copyElements_20 rfl (lv_at hl 1 rfl) ?_
      obtain ⟨hi, h⟩ := h
      refine va_aldq hx hb hK.1 hP 1 4 rfl rfl hi dX7_copyElements_21 ?_
      rw [hs_x1 hi]
      refine lv_astore (lv' := [(6, .ref k_a), (0, .ref z_a), (1, .int x1), (2, .int x2), (3, .int x3), (4, .int x4), (5, .int x5)]) hx hb dX7_copyElements_22 hl (by decide) rfl (fun ls hl => ?_)
      refine lv_aload_n hx hb dX7_copyElements_24 rfl (lv_at hl 1 rfl) ?_
      refine va_get (D := G) (ci := 7) (v := .ref z_as) (C := RX7) (T := TX7) (N := 10) hx hb hts i_X7 hown hK.1 hP 0 rfl rfl 9 (by decide) f_69 (fun _ h9 => h9) rfl dX7_copyElements_25 ?_
      refine lv_iload_n hx hb dX7_copyElements_28 rfl (lv_at hl 4 rfl) ?_
      obtain ⟨hi, h⟩ := h
      refine va_aldq hx hb hK.1 hP 1 4 rfl rfl hi dX7_copyElements_29 ?_
      rw [hs_x3 hi]
      refine lv_astore (lv' := [(7, .ref j_a), (6, .ref k_a), (0, .ref z_a), (1, .int x1), (2, .int x2), (3, .int x3), (4, .int x4), (5, .int x5)]) hx hb dX7_copyElements_30 hl (by decide) rfl (fun ls hl => ?_)
      refine lv_aload hx hb dX7_copyElements_32 (lv_at hl 1 rfl) ?_
      refine k_Vi (wr := [oX7 z_a c_a s_a d_a t_a z_saved e_a p_a r_a q_a z_as, aO cO z_as 4 z_slots, oX5 j_a j_type j_size j_aw j_ar, aJ cJ j_aw 40 j_wholes, aD cD j_ar 40 j_reals]) (wf := (fun (u : Unit) => [oX7 z_a c_a s_a d_a t_a z_saved e_a p_a r_a q_a z_as, aO cO z_as 4 z_slots, oX5 k_a k_type k_size k_aw k_ar, aJ cJ k_aw 40 k_wholes, aD cD k_ar 40 k_reals, oX5 j_a j_type j_size j_aw j_ar, aJ cJ j_aw 40 j_wholes, aD cD j_ar 40 j_reals])) (As := []) (rest := []) ⟨hx, hb, hml, hown, hts⟩ hK hP hD hS hA (c_X5_isEmpty l G cI cD cZ cJ cO k_a k_aw k_ar k_type k_size k_wholes k_reals _ h) (cwV 0 hts gX7_copyElements_X5_isEmpty rfl rfl rfl (by decide +kernel) ⟨Nat.le_of_ble_eq_true rfl, Nat.le_of_ble_eq_true rfl⟩) 0 rfl rfl [2, 3, 4] [0, 1, 5, 6, 7] [0, 1, 5, 6, 7, 2, 3, 4] rfl rfl rfl (fun _ => rfl) rfl rfl hl.1 (Nat.le_of_ble_eq_true rfl) ⟨Nat.zero_le _, Nat.zero_le _⟩ dX7_copyElements_34 (fun r_3 u H locs h hP hD hS => ?_)
      have hP : va_P G vwCl [oX7 z_a c_a s_a d_a t_a z_saved e_a p_a r_a q_a z_as, aO cO z_as 4 z_slots, oX5 k_a k_type k_size k_aw k_ar, aJ cJ k_aw 40 k_wholes, aD cD k_ar 40 k_reals, oX5 j_a j_type j_size j_aw j_ar, aJ cJ j_aw 40 j_wholes, aD cD j_ar 40 j_reals] H := hP
      have hD : va_D A [oX7 z_a c_a s_a d_a t_a z_saved e_a p_a r_a q_a z_as, aO cO z_as 4 z_slots, oX5 k_a k_type k_size k_aw k_ar, aJ cJ k_aw 40 k_wholes, aD cD k_ar 40 k_reals, oX5 j_a j_type j_size j_aw j_ar, aJ cJ j_aw 40 j_wholes, aD cD j_ar 40 j_reals] := hD
      obtain ⟨ha, hf⟩ := h
      refine lv_if_ne (tgt := 48) hx hb dX7_copyElements_37 (by decide) (fun hc => ?_) (fun hc => ?_)
      · have h := ha hc
        clear ha hf
        refine lv_bipush (v := (-11 : Int32)) hx hb dX7_copyElements_48 (by decide) ?_
        exact hret _ (j_wholes, j_reals) _ _ _ _ rfl h hP hD hS dX7_copyElements_50
      · have h := hf hc
        clear ha hf
        refine lv_aload hx hb dX7_copyElements_40 (lv_at hl 0 rfl) ?_
        refine k_Vi (wr := [oX7 z_a c_a s_a d_a t_a z_saved e_a p_a r_a q_a z_as, aO cO z_as 4 z_slots, oX5 k_a k_type k_size k_aw k_ar, aJ cJ k_aw 40 k_wholes, aD cD k_ar 40 k_reals]) (wf := (fun (u : Unit) => [oX7 z_a c_a s_a d_a t_a z_saved e_a p_a r_a q_a z_as, aO cO z_as 4 z_slots, oX5 k_a k_type k_size k_aw k_ar, aJ cJ k_aw 40 k_wholes, aD cD k_ar 40 k_reals, oX5 j_a j_type j_size j_aw j_ar, aJ cJ j_aw 40 j_wholes, aD cD j_ar 40 j_reals])) (As := []) (rest := []) ⟨hx, hb, hml, hown, hts⟩ hK hP hD hS hA (c_X5_isEmpty l G cI cD cZ cJ cO j_a j_aw j_ar j_type j_size j_wholes j_reals _ h) (cwV 0 hts gX7_copyElements_X5_isEmpty rfl rfl rfl (by decide +kernel) ⟨Nat.le_of_ble_eq_true rfl, Nat.le_of_ble_eq_true rfl⟩) 0 rfl rfl [5, 6, 7] [0, 1, 2, 3, 4] [0, 1, 2, 3, 4, 5, 6, 7] rfl rfl rfl (fun _ => rfl) rfl rfl hl.1 (Nat.le_of_ble_eq_true rfl) ⟨Nat.zero_le _, Nat.zero_le _⟩ dX7_copyElements_42 (fun r_4 u H locs h hP hD hS => ?_)
        have hP : va_P G vwCl [oX7 z_a c_a s_a d_a t_a z_saved e_a p_a r_a q_a z_as, aO cO z_as 4 z_slots, oX5 k_a k_type k_size k_aw k_ar, aJ cJ k_aw 40 k_wholes, aD cD k_ar 40 k_reals, oX5 j_a j_type j_size j_aw j_ar, aJ cJ j_aw 40 j_wholes, aD cD j_ar 40 j_reals] H := hP
        have hD : va_D A [oX7 z_a c_a s_a d_a t_a z_saved e_a p_a r_a q_a z_as, aO cO z_as 4 z_slots, oX5 k_a k_type k_size k_aw k_ar, aJ cJ k_aw 40 k_wholes, aD cD k_ar 40 k_reals, oX5 j_a j_type j_size j_aw j_ar, aJ cJ j_aw 40 j_wholes, aD cD j_ar 40 j_reals] := hD
        obtain ⟨ha, hf⟩ := h
        refine lv_if_eq (tgt := 51) hx hb dX7_copyElements_45 (by decide) (fun hc => ?_) (fun hc => ?_)
        · have h := ha hc
          clear ha hf
          refine lv_aload hx hb dX7_copyElements_51 (lv_at hl 1 rfl) ?_
          refine va_get (D := G) (ci := 5) (v := .int k_type) (C := RX5) (T := TX5) (N := 4) hx hb hts i_X5 hown hK.1 hP 2 rfl rfl 0 (by decide) f_257 (fun _ h9 => h9) rfl dX7_copyElements_53 ?_
          refine lv_aload hx hb dX7_copyElements_56 (lv_at hl 0 rfl) ?_
          refine va_get (D := G) (ci := 5) (v := .int j_type) (C := RX5) (T := TX5) (N := 4) hx hb hts i_X5 hown hK.1 hP 5 rfl rfl 0 (by decide) f_257 (fun _ h9 => h9) rfl dX7_copyElements_58 ?_
          obtain ⟨ha, hf⟩ := h
          refine lv_icmp_eq (tgt := 67) hx hb dX7_copyElements_61 (by decide) (fun hc => ?_) (fun hc => ?_)
          · have h := ha hc
            clear ha hf
            refine lv_aload hx hb dX7_copyElements_67 (lv_at hl 1 rfl) ?_
            refine lv_iload_n hx hb dX7_copyElements_69 rfl (lv_at hl 4 rfl) ?_
            refine lv_iload hx hb dX7_copyElements_70 (lv_at hl 7 rfl) ?_
            refine k_Vi (wr := [oX7 z_a c_a s_a d_a t_a z_saved e_a p_a r_a q_a z_as, aO cO z_as 4 z_slots, oX5 j_a j_type j_size j_aw j_ar, aJ cJ j_aw 40 j_wholes, aD cD j_ar 40 j_reals]) (wf := (fun (u : Unit) => [oX7 z_a c_a s_a d_a t_a z_saved e_a p_a r_a q_a z_as, aO cO z_as 4 z_slots, oX5 k_a k_type k_size k_aw k_ar, aJ cJ k_aw 40 k_wholes, aD cD k_ar 40 k_reals, oX5 j_a j_type j_size j_aw j_ar, aJ cJ j_aw 40 j_wholes, aD cD j_ar 40 j_reals])) (As := [.int x2, .int x5]) (rest := []) ⟨hx, hb, hml, hown, hts⟩ hK hP hD hS hA (c_X5_hasStretch l G cI cD cZ cJ cO k_a k_aw k_ar k_type k_size k_wholes k_reals x2 x5 _ h) (cwV 2 hts gX7_copyElements_X5_hasStretch rfl rfl rfl (by decide +kernel) ⟨Nat.le_of_ble_eq_true rfl, Nat.le_of_ble_eq_true rfl⟩) 0 rfl rfl [2, 3, 4] [0, 1, 5, 6, 7] [0, 1, 5, 6, 7, 2, 3, 4] rfl rfl rfl (fun _ => rfl) rfl rfl hl.1 (Nat.le_of_ble_eq_true rfl) ⟨Nat.zero_le _, Nat.zero_le _⟩ dX7_copyElements_72 (fun r_5 u H locs h hP hD hS => ?_)
            have hP : va_P G vwCl [oX7 z_a c_a s_a d_a t_a z_saved e_a p_a r_a q_a z_as, aO cO z_as 4 z_slots, oX5 k_a k_type k_size k_aw k_ar, aJ cJ k_aw 40 k_wholes, aD cD k_ar 40 k_reals, oX5 j_a j_type j_size j_aw j_ar, aJ cJ j_aw 40 j_wholes, aD cD j_ar 40 j_reals] H := hP
            have hD : va_D A [oX7 z_a c_a s_a d_a t_a z_saved e_a p_a r_a q_a z_as, aO cO z_as 4 z_slots, oX5 k_a k_type k_size k_aw k_ar, aJ cJ k_aw 40 k_wholes, aD cD k_ar 40 k_reals, oX5 j_a j_type j_size j_aw j_ar, aJ cJ j_aw 40 j_wholes, aD cD j_ar 40 j_reals] := hD
            obtain ⟨ha, hf⟩ := h
            refine lv_if_eq (tgt := 90) hx hb dX7_copyElements_75 (by decide) (fun hc => ?_) (fun hc => ?_)
            · have h := ha hc
              clear ha hf
              refine lv_bipush (v := (-13 : Int32)) hx hb dX7_copyElements_90 (by decide) ?_
              exact hret _ (j_wholes, j_reals) _ _ _ _ rfl h hP hD hS dX7_copyElements_92
            · have h := hf hc
              clear ha hf
              refine lv_aload hx hb dX7_copyElements_78 (lv_at hl 0 rfl) ?_
              refine lv_iload hx hb dX7_copyElements_80 (lv_at hl 6 rfl) ?_
              refine lv_iload hx hb dX7_copyElements_82 (lv_at hl 7 rfl) ?_
              refine k_Vi (wr := [oX7 z_a c_a s_a d_a t_a z_saved e_a p_a r_a q_a z_as, aO cO z_as 4 z_slots, oX5 k_a k_type k_size k_aw k_ar, aJ cJ k_aw 40 k_wholes, aD cD k_ar 40 k_reals]) (wf := (fun (u : Unit) => [oX7 z_a c_a s_a d_a t_a z_saved e_a p_a r_a q_a z_as, aO cO z_as 4 z_slots, oX5 k_a k_type k_size k_aw k_ar, aJ cJ k_aw 40 k_wholes, aD cD k_ar 40 k_reals, oX5 j_a j_type j_size j_aw j_ar, aJ cJ j_aw 40 j_wholes, aD cD j_ar 40 j_reals])) (As := [.int x4, .int x5]) (rest := []) ⟨hx, hb, hml, hown, hts⟩ hK hP hD hS hA (c_X5_hasStretch l G cI cD cZ cJ cO j_a j_aw j_ar j_type j_size j_wholes j_reals x4 x5 _ h) (cwV 2 hts gX7_copyElements_X5_hasStretch rfl rfl rfl (by decide +kernel) ⟨Nat.le_of_ble_eq_true rfl, Nat.le_of_ble_eq_true rfl⟩) 0 rfl rfl [5, 6, 7] [0, 1, 2, 3, 4] [0, 1, 2, 3, 4, 5, 6, 7] rfl rfl rfl (fun _ => rfl) rfl rfl hl.1 (Nat.le_of_ble_eq_true rfl) ⟨Nat.zero_le _, Nat.zero_le _⟩ dX7_copyElements_84 (fun r_6 u H locs h hP hD hS => ?_)
              have hP : va_P G vwCl [oX7 z_a c_a s_a d_a t_a z_saved e_a p_a r_a q_a z_as, aO cO z_as 4 z_slots, oX5 k_a k_type k_size k_aw k_ar, aJ cJ k_aw 40 k_wholes, aD cD k_ar 40 k_reals, oX5 j_a j_type j_size j_aw j_ar, aJ cJ j_aw 40 j_wholes, aD cD j_ar 40 j_reals] H := hP
              have hD : va_D A [oX7 z_a c_a s_a d_a t_a z_saved e_a p_a r_a q_a z_as, aO cO z_as 4 z_slots, oX5 k_a k_type k_size k_aw k_ar, aJ cJ k_aw 40 k_wholes, aD cD k_ar 40 k_reals, oX5 j_a j_type j_size j_aw j_ar, aJ cJ j_aw 40 j_wholes, aD cD j_ar 40 j_reals] := hD
              obtain ⟨ha, hf⟩ := h
              refine lv_if_ne (tgt := 93) hx hb dX7_copyElements_87 (by decide) (fun hc => ?_) (fun hc => ?_)
              · have h := ha hc
                clear ha hf
                refine lv_aload hx hb dX7_copyElements_93 (lv_at hl 0 rfl) ?_
                refine lv_iload hx hb dX7_copyElements_95 (lv_at hl 6 rfl) ?_
                refine lv_aload hx hb dX7_copyElements_97 (lv_at hl 1 rfl) ?_
                refine lv_iload_n hx hb dX7_copyElements_99 rfl (lv_at hl 4 rfl) ?_
                refine lv_iload hx hb dX7_copyElements_100 (lv_at hl 7 rfl) ?_
                refine k_Vv (wr := [oX7 z_a c_a s_a d_a t_a z_saved e_a p_a r_a q_a z_as, aO cO z_as 4 z_slots]) (wf := (fun (u : (Nat → Int64) × (Nat → UInt64)) => [oX7 z_a c_a s_a d_a t_a z_saved e_a p_a r_a q_a z_as, aO cO z_as 4 z_slots, oX5 k_a k_type k_size k_aw k_ar, aJ cJ k_aw 40 k_wholes, aD cD k_ar 40 k_reals, oX5 j_a j_type j_size j_aw j_ar, aJ cJ j_aw 40 u.1, aD cD j_ar 40 u.2])) (As := [.int x4, .ref k_a, .int x2, .int x5]) (rest := []) ⟨hx, hb, hml, hown, hts⟩ hK hP hD hS hA (c_X5_take l G cI cD cZ cJ cO j_a j_aw j_ar k_a k_aw k_ar j_type j_size j_wholes j_reals k_type k_size k_wholes k_reals x4 x2 x5 _ h) (cwV 4 hts gX7_copyElements_X5_take rfl rfl rfl (by decide +kernel) ⟨Nat.le_of_ble_eq_true rfl, Nat.le_of_ble_eq_true rfl⟩) 0 rfl rfl [5, 6, 7, 2, 3, 4] [0, 1] [0, 1, 5, 6, 7, 2, 3, 4] rfl rfl rfl (fun _ => rfl) rfl rfl hl.1 (Nat.le_of_ble_eq_true rfl) ⟨Nat.zero_le _, Nat.zero_le _⟩ dX7_copyElements_102 (fun u H locs h hP hD hS => ?_)
                obtain ⟨j_wholes_7, j_reals_8⟩ := u
                have hP : va_P G vwCl [oX7 z_a c_a s_a d_a t_a z_saved e_a p_a r_a q_a z_as, aO cO z_as 4 z_slots, oX5 k_a k_type k_size k_aw k_ar, aJ cJ k_aw 40 k_wholes, aD cD k_ar 40 k_reals, oX5 j_a j_type j_size j_aw j_ar, aJ cJ j_aw 40 j_wholes_7, aD cD j_ar 40 j_reals_8] H := hP
                have hD : va_D A [oX7 z_a c_a s_a d_a t_a z_saved e_a p_a r_a q_a z_as, aO cO z_as 4 z_slots, oX5 k_a k_type k_size k_aw k_ar, aJ cJ k_aw 40 k_wholes, aD cD k_ar 40 k_reals, oX5 j_a j_type j_size j_aw j_ar, aJ cJ j_aw 40 j_wholes_7, aD cD j_ar 40 j_reals_8] := hD
                refine lv_iload hx hb dX7_copyElements_105 (lv_at hl 7 rfl) ?_
                exact hret _ (j_wholes_7, j_reals_8) _ _ _ _ rfl h hP hD hS dX7_copyElements_107
              · have h := hf hc
                clear ha hf
                refine lv_bipush (v := (-13 : Int32)) hx hb dX7_copyElements_90 (by decide) ?_
                exact hret _ (j_wholes, j_reals) _ _ _ _ rfl h hP hD hS dX7_copyElements_92
          · have h := hf hc
            clear ha hf
            refine lv_bipush (v := (-12 : Int32)) hx hb dX7_copyElements_64 (by decide) ?_
            exact hret _ (j_wholes, j_reals) _ _ _ _ rfl h hP hD hS dX7_copyElements_66
        · have h := hf hc
          clear ha hf
          refine lv_bipush (v := (-11 : Int32)) hx hb dX7_copyElements_48 (by decide) ?_
          exact hret _ (j_wholes, j_reals) _ _ _ _ rfl h hP hD hS dX7_copyElements_50
    · have h := hf hc
      clear ha hf
      refine lv_iconst (v := (-1 : Int32)) hx hb dX7_copyElements_14 (by decide) ?_
      exact hret _ (j_wholes, j_reals) _ _ _ _ rfl h hP hD hS dX7_copyElements_15
abbrev rm_X7_copyElements_same : Room := { frames := 2, cells := 0, slots := 0, locals := 88 }
def wp_X7_copyElements_same (x1 : Int32) (x2 : Int32) (x3 : Int32) (x4 : Int32) (x5 : Int32) (k_type : Int32) (k_size : Int32) (k_wholes : Nat → Int64) (k_reals : Nat → UInt64) (Q : Int32 → (Nat → Int64) → (Nat → UInt64) → Prop) : Prop := wp_X7_isSlot x1 (fun (r_1 : Int32) => ((r_1 = 0) → Q (-1 : Int32) k_wholes k_reals) ∧ ((¬ r_1 = 0) → wp_X7_isSlot x3 (fun (r_2 : Int32) => ((¬ r_2 = 0) → vp_in x1 4 ∧ vp_in x3 4 ∧ wp_X5_isEmpty k_type (fun (r_3 : Int32) => ((¬ r_3 = 0) → Q (-11 : Int32) k_wholes k_reals) ∧ ((r_3 = 0) → wp_X5_isEmpty k_type (fun (r_4 : Int32) => ((r_4 = 0) → ((k_type = k_type) → wp_X5_hasStretch x2 x5 k_size (fun (r_5 : Int32) => ((r_5 = 0) → Q (-13 : Int32) k_wholes k_reals) ∧ ((¬ r_5 = 0) → wp_X5_hasStretch x4 x5 k_size (fun (r_6 : Int32) => ((¬ r_6 = 0) → wp_X5_take_same x4 x2 x5 k_type k_wholes k_reals (fun (k_wholes_7 : Nat → Int64) (k_reals_8 : Nat → UInt64) => Q x5 k_wholes_7 k_reals_8)) ∧ ((r_6 = 0) → Q (-13 : Int32) k_wholes k_reals))))) ∧ ((¬ k_type = k_type) → Q (-12 : Int32) k_wholes k_reals)) ∧ ((¬ r_4 = 0) → Q (-11 : Int32) k_wholes k_reals))))) ∧ ((r_2 = 0) → Q (-1 : Int32) k_wholes k_reals))))
set_option maxRecDepth 100000 in
set_option maxHeartbeats 4000000 in
theorem c_X7_copyElements_same (l : Launch) (G : va_G) (cI cD cZ cJ cO : ClassId) (z_a z_as k_a k_aw k_ar c_a s_a d_a t_a e_a p_a r_a q_a : Nat) (z_saved : Int32) (z_slots : Nat → Option Nat) (k_type : Int32) (k_size : Int32) (k_wholes : Nat → Int64) (k_reals : Nat → UInt64) (x1 : Int32) (x2 : Int32) (x3 : Int32) (x4 : Int32) (x5 : Int32) (hs_x1 : vp_in x1 4 → z_slots x1.toNatClampNeg = some k_a) (hs_x3 : vp_in x3 4 → z_slots x3.toNatClampNeg = some k_a) (Q : Int32 → (Nat → Int64) → (Nat → UInt64) → Prop) (h : wp_X7_copyElements_same x1 x2 x3 x4 x5 k_type k_size k_wholes k_reals Q) : CtI l yX7_copyElements wsX7_copyElements rm_X7_copyElements_same G (TY cI cD cZ cJ cO) [.ref z_a, .int x1, .int x2, .int x3, .int x4, .int x5] [oX7 z_a c_a s_a d_a t_a z_saved e_a p_a r_a q_a z_as, aO cO z_as 4 z_slots, oX5 k_a k_type k_size k_aw k_ar, aJ cJ k_aw 40 k_wholes, aD cD k_ar 40 k_reals] (fun (r : Int32) (u : (Nat → Int64) × (Nat → UInt64)) => Q r u.1 u.2) (fun (u : (Nat → Int64) × (Nat → UInt64)) => [oX7 z_a c_a s_a d_a t_a z_saved e_a p_a r_a q_a z_as, aO cO z_as 4 z_slots, oX5 k_a k_type k_size k_aw k_ar, aJ cJ k_aw 40 u.1, aD cD k_ar 40 u.2]) := by
  refine ct_openI (cc := cX7_copyElements) (maxL := 8) (ty := .int) (by decide) rfl (Nat.le_of_ble_eq_true rfl) ?_
  intro p e s m args below meth c A Z ls hx hb hml hown hts hK hA hret hP hD hS hl
  have hown : s.vm.findClass RX7 = some m.cls := hown
  have hl : lv_has ls 8 [(0, .ref z_a), (1, .int x1), (2, .int x2), (3, .int x3), (4, .int x4), (5, .int x5)] := hl
  have f_69 := hts (.fieldLink RX7 69 "TeachingSets" "slots" "[LTeachingSets$Slot;") (List.mem_of_getElem? (i := 1) rfl)
  have f_257 := hts (.fieldLink RX7 257 "TeachingSets$Slot" "type" "I") (List.mem_of_getElem? (i := 2) rfl)
  have i_X7 : ∀ w ∈ wsX70, w ∈ wsX7_copyElements := fun _ h => List.mem_cons_of_mem _ (List.mem_append_left _ (List.mem_append_right _ (h)))
  have i_X5 : ∀ w ∈ wsX50, w ∈ wsX7_copyElements := fun _ h => List.mem_cons_of_mem _ (List.mem_append_right _ (h))
  refine lv_iload_n hx hb dX7_copyElements_0 rfl (lv_at hl 1 rfl) ?_
  refine k_Si (wr := [oX7 z_a c_a s_a d_a t_a z_saved e_a p_a r_a q_a z_as, aO cO z_as 4 z_slots, oX5 k_a k_type k_size k_aw k_ar, aJ cJ k_aw 40 k_wholes, aD cD k_ar 40 k_reals]) (wf := (fun (u : Unit) => [oX7 z_a c_a s_a d_a t_a z_saved e_a p_a r_a q_a z_as, aO cO z_as 4 z_slots, oX5 k_a k_type k_size k_aw k_ar, aJ cJ k_aw 40 k_wholes, aD cD k_ar 40 k_reals])) (As := [.int x1]) (rest := []) ⟨hx, hb, hml, hown, hts⟩ hK hP hD hS hA (c_X7_isSlot l G cI cD cZ cJ cO x1 _ h) (va_cwS 1 hts gX7_copyElements_X7_isSlot rfl rfl rfl (by decide +kernel) ⟨Nat.le_of_ble_eq_true rfl, Nat.le_of_ble_eq_true rfl⟩) [] [0, 1, 2, 3, 4] [0, 1, 2, 3, 4] rfl rfl rfl (fun _ => rfl) rfl rfl hl.1 (Nat.le_of_ble_eq_true rfl) ⟨Nat.zero_le _, Nat.zero_le _⟩ dX7_copyElements_1 (fun r_1 u H locs h hP hD hS => ?_)
  have hP : va_P G vwCl [oX7 z_a c_a s_a d_a t_a z_saved e_a p_a r_a q_a z_as, aO cO z_as 4 z_slots, oX5 k_a k_type k_size k_aw k_ar, aJ cJ k_aw 40 k_wholes, aD cD k_ar 40 k_reals] H := hP
  have hD : va_D A [oX7 z_a c_a s_a d_a t_a z_saved e_a p_a r_a q_a z_as, aO cO z_as 4 z_slots, oX5 k_a k_type k_size k_aw k_ar, aJ cJ k_aw 40 k_wholes, aD cD k_ar 40 k_reals] := hD
  obtain ⟨ha, hf⟩ := h
  refine lv_if_eq (tgt := 14) hx hb dX7_copyElements_4 (by decide) (fun hc => ?_) (fun hc => ?_)
  · have h := ha hc
    clear ha hf
    refine lv_iconst (v := (-1 : Int32)) hx hb dX7_copyElements_14 (by decide) ?_
    exact hret _ (k_wholes, k_reals) _ _ _ _ rfl h hP hD hS dX7_copyElements_15
  · have h := hf hc
    clear ha hf
    refine lv_iload_n hx hb dX7_copyElements_7 rfl (lv_at hl 3 rfl) ?_
    refine k_Si (wr := [oX7 z_a c_a s_a d_a t_a z_saved e_a p_a r_a q_a z_as, aO cO z_as 4 z_slots, oX5 k_a k_type k_size k_aw k_ar, aJ cJ k_aw 40 k_wholes, aD cD k_ar 40 k_reals]) (wf := (fun (u : Unit) => [oX7 z_a c_a s_a d_a t_a z_saved e_a p_a r_a q_a z_as, aO cO z_as 4 z_slots, oX5 k_a k_type k_size k_aw k_ar, aJ cJ k_aw 40 k_wholes, aD cD k_ar 40 k_reals])) (As := [.int x3]) (rest := []) ⟨hx, hb, hml, hown, hts⟩ hK hP hD hS hA (c_X7_isSlot l G cI cD cZ cJ cO x3 _ h) (va_cwS 1 hts gX7_copyElements_X7_isSlot rfl rfl rfl (by decide +kernel) ⟨Nat.le_of_ble_eq_true rfl, Nat.le_of_ble_eq_true rfl⟩) [] [0, 1, 2, 3, 4] [0, 1, 2, 3, 4] rfl rfl rfl (fun _ => rfl) rfl rfl hl.1 (Nat.le_of_ble_eq_true rfl) ⟨Nat.zero_le _, Nat.zero_le _⟩ dX7_copyElements_8 (fun r_2 u H locs h hP hD hS => ?_)
    have hP : va_P G vwCl [oX7 z_a c_a s_a d_a t_a z_saved e_a p_a r_a q_a z_as, aO cO z_as 4 z_slots, oX5 k_a k_type k_size k_aw k_ar, aJ cJ k_aw 40 k_wholes, aD cD k_ar 40 k_reals] H := hP
    have hD : va_D A [oX7 z_a c_a s_a d_a t_a z_saved e_a p_a r_a q_a z_as, aO cO z_as 4 z_slots, oX5 k_a k_type k_size k_aw k_ar, aJ cJ k_aw 40 k_wholes, aD cD k_ar 40 k_reals] := hD
    obtain ⟨ha, hf⟩ := h
    refine lv_if_ne (tgt := 16) hx hb dX7_copyElements_11 (by decide) (fun hc => ?_) (fun hc => ?_)
    · have h := ha hc
      clear ha hf
      refine lv_aload_n hx hb dX7_copyElements_16 rfl (lv_at hl 0 rfl) ?_
      refine va_get (D := G) (ci := 7) (v := .ref z_as) (C := RX7) (T := TX7) (N := 10) hx hb hts i_X7 hown hK.1 hP 0 rfl rfl 9 (by decide) f_69 (fun _ h9 => h9) rfl dX7_copyElements_17 ?_
      refine lv_iload_n hx hb dX7_copyElements_20 rfl (lv_at hl 1 rfl) ?_
      obtain ⟨hi, h⟩ := h
      refine va_aldq hx hb hK.1 hP 1 4 rfl rfl hi dX7_copyElements_21 ?_
      rw [hs_x1 hi]
      refine lv_astore (lv' := [(6, .ref k_a), (0, .ref z_a), (1, .int x1), (2, .int x2), (3, .int x3), (4, .int x4), (5, .int x5)]) hx hb dX7_copyElements_22 hl (by decide) rfl (fun ls hl => ?_)
      refine lv_aload_n hx hb dX7_copyElements_24 rfl (lv_at hl 1 rfl) ?_
      refine va_get (D := G) (ci := 7) (v := .ref z_as) (C := RX7) (T := TX7) (N := 10) hx hb hts i_X7 hown hK.1 hP 0 rfl rfl 9 (by decide) f_69 (fun _ h9 => h9) rfl dX7_copyElements_25 ?_
      refine lv_iload_n hx hb dX7_copyElements_28 rfl (lv_at hl 4 rfl) ?_
      obtain ⟨hi, h⟩ := h
      refine va_aldq hx hb hK.1 hP 1 4 rfl rfl hi dX7_copyElements_29 ?_
      rw [hs_x3 hi]
      refine lv_astore (lv' := [(7, .ref k_a), (6, .ref k_a), (0, .ref z_a), (1, .int x1), (2, .int x2), (3, .int x3), (4, .int x4), (5, .int x5)]) hx hb dX7_copyElements_30 hl (by decide) rfl (fun ls hl => ?_)
      refine lv_aload hx hb dX7_copyElements_32 (lv_at hl 1 rfl) ?_
      refine k_Vi (wr := [oX7 z_a c_a s_a d_a t_a z_saved e_a p_a r_a q_a z_as, aO cO z_as 4 z_slots]) (wf := (fun (u : Unit) => [oX7 z_a c_a s_a d_a t_a z_saved e_a p_a r_a q_a z_as, aO cO z_as 4 z_slots, oX5 k_a k_type k_size k_aw k_ar, aJ cJ k_aw 40 k_wholes, aD cD k_ar 40 k_reals])) (As := []) (rest := []) ⟨hx, hb, hml, hown, hts⟩ hK hP hD hS hA (c_X5_isEmpty l G cI cD cZ cJ cO k_a k_aw k_ar k_type k_size k_wholes k_reals _ h) (cwV 0 hts gX7_copyElements_X5_isEmpty rfl rfl rfl (by decide +kernel) ⟨Nat.le_of_ble_eq_true rfl, Nat.le_of_ble_eq_true rfl⟩) 0 rfl rfl [2, 3, 4] [0, 1] [0, 1, 2, 3, 4] rfl rfl rfl (fun _ => rfl) rfl rfl hl.1 (Nat.le_of_ble_eq_true rfl) ⟨Nat.zero_le _, Nat.zero_le _⟩ dX7_copyElements_34 (fun r_3 u H locs h hP hD hS => ?_)
      have hP : va_P G vwCl [oX7 z_a c_a s_a d_a t_a z_saved e_a p_a r_a q_a z_as, aO cO z_as 4 z_slots, oX5 k_a k_type k_size k_aw k_ar, aJ cJ k_aw 40 k_wholes, aD cD k_ar 40 k_reals] H := hP
      have hD : va_D A [oX7 z_a c_a s_a d_a t_a z_saved e_a p_a r_a q_a z_as, aO cO z_as 4 z_slots, oX5 k_a k_type k_size k_aw k_ar, aJ cJ k_aw 40 k_wholes, aD cD k_ar 40 k_reals] := hD
      obtain ⟨ha, hf⟩ := h
      refine lv_if_ne (tgt := 48) hx hb dX7_copyElements_37 (by decide) (fun hc => ?_) (fun hc => ?_)
      · have h := ha hc
        clear ha hf
        refine lv_bipush (v := (-11 : Int32)) hx hb dX7_copyElements_48 (by decide) ?_
        exact hret _ (k_wholes, k_reals) _ _ _ _ rfl h hP hD hS dX7_copyElements_50
      · have h := hf hc
        clear ha hf
        refine lv_aload hx hb dX7_copyElements_40 (lv_at hl 0 rfl) ?_
        refine k_Vi (wr := [oX7 z_a c_a s_a d_a t_a z_saved e_a p_a r_a q_a z_as, aO cO z_as 4 z_slots]) (wf := (fun (u : Unit) => [oX7 z_a c_a s_a d_a t_a z_saved e_a p_a r_a q_a z_as, aO cO z_as 4 z_slots, oX5 k_a k_type k_size k_aw k_ar, aJ cJ k_aw 40 k_wholes, aD cD k_ar 40 k_reals])) (As := []) (rest := []) ⟨hx, hb, hml, hown, hts⟩ hK hP hD hS hA (c_X5_isEmpty l G cI cD cZ cJ cO k_a k_aw k_ar k_type k_size k_wholes k_reals _ h) (cwV 0 hts gX7_copyElements_X5_isEmpty rfl rfl rfl (by decide +kernel) ⟨Nat.le_of_ble_eq_true rfl, Nat.le_of_ble_eq_true rfl⟩) 0 rfl rfl [2, 3, 4] [0, 1] [0, 1, 2, 3, 4] rfl rfl rfl (fun _ => rfl) rfl rfl hl.1 (Nat.le_of_ble_eq_true rfl) ⟨Nat.zero_le _, Nat.zero_le _⟩ dX7_copyElements_42 (fun r_4 u H locs h hP hD hS => ?_)
        have hP : va_P G vwCl [oX7 z_a c_a s_a d_a t_a z_saved e_a p_a r_a q_a z_as, aO cO z_as 4 z_slots, oX5 k_a k_type k_size k_aw k_ar, aJ cJ k_aw 40 k_wholes, aD cD k_ar 40 k_reals] H := hP
        have hD : va_D A [oX7 z_a c_a s_a d_a t_a z_saved e_a p_a r_a q_a z_as, aO cO z_as 4 z_slots, oX5 k_a k_type k_size k_aw k_ar, aJ cJ k_aw 40 k_wholes, aD cD k_ar 40 k_reals] := hD
        obtain ⟨ha, hf⟩ := h
        refine lv_if_eq (tgt := 51) hx hb dX7_copyElements_45 (by decide) (fun hc => ?_) (fun hc => ?_)
        · have h := ha hc
          clear ha hf
          refine lv_aload hx hb dX7_copyElements_51 (lv_at hl 1 rfl) ?_
          refine va_get (D := G) (ci := 5) (v := .int k_type) (C := RX5) (T := TX5) (N := 4) hx hb hts i_X5 hown hK.1 hP 2 rfl rfl 0 (by decide) f_257 (fun _ h9 => h9) rfl dX7_copyElements_53 ?_
          refine lv_aload hx hb dX7_copyElements_56 (lv_at hl 0 rfl) ?_
          refine va_get (D := G) (ci := 5) (v := .int k_type) (C := RX5) (T := TX5) (N := 4) hx hb hts i_X5 hown hK.1 hP 2 rfl rfl 0 (by decide) f_257 (fun _ h9 => h9) rfl dX7_copyElements_58 ?_
          obtain ⟨ha, hf⟩ := h
          refine lv_icmp_eq (tgt := 67) hx hb dX7_copyElements_61 (by decide) (fun hc => ?_) (fun hc => ?_)
          · have h := ha hc
            clear ha hf
            refine lv_aload hx hb dX7_copyElements_67 (lv_at hl 1 rfl) ?_
            refine lv_iload_n hx hb dX7_copyElements_69 rfl (lv_at hl 4 rfl) ?_
            refine lv_iload hx hb dX7_copyElements_70 (lv_at hl 7 rfl) ?_
            refine k_Vi (wr := [oX7 z_a c_a s_a d_a t_a z_saved e_a p_a r_a q_a z_as, aO cO z_as 4 z_slots]) (wf := (fun (u : Unit) => [oX7 z_a c_a s_a d_a t_a z_saved e_a p_a r_a q_a z_as, aO cO z_as 4 z_slots, oX5 k_a k_type k_size k_aw k_ar, aJ cJ k_aw 40 k_wholes, aD cD k_ar 40 k_reals])) (As := [.int x2, .int x5]) (rest := []) ⟨hx, hb, hml, hown, hts⟩ hK hP hD hS hA (c_X5_hasStretch l G cI cD cZ cJ cO k_a k_aw k_ar k_type k_size k_wholes k_reals x2 x5 _ h) (cwV 2 hts gX7_copyElements_X5_hasStretch rfl rfl rfl (by decide +kernel) ⟨Nat.le_of_ble_eq_true rfl, Nat.le_of_ble_eq_true rfl⟩) 0 rfl rfl [2, 3, 4] [0, 1] [0, 1, 2, 3, 4] rfl rfl rfl (fun _ => rfl) rfl rfl hl.1 (Nat.le_of_ble_eq_true rfl) ⟨Nat.zero_le _, Nat.zero_le _⟩ dX7_copyElements_72 (fun r_5 u H locs h hP hD hS => ?_)
            have hP : va_P G vwCl [oX7 z_a c_a s_a d_a t_a z_saved e_a p_a r_a q_a z_as, aO cO z_as 4 z_slots, oX5 k_a k_type k_size k_aw k_ar, aJ cJ k_aw 40 k_wholes, aD cD k_ar 40 k_reals] H := hP
            have hD : va_D A [oX7 z_a c_a s_a d_a t_a z_saved e_a p_a r_a q_a z_as, aO cO z_as 4 z_slots, oX5 k_a k_type k_size k_aw k_ar, aJ cJ k_aw 40 k_wholes, aD cD k_ar 40 k_reals] := hD
            obtain ⟨ha, hf⟩ := h
            refine lv_if_eq (tgt := 90) hx hb dX7_copyElements_75 (by decide) (fun hc => ?_) (fun hc => ?_)
            · have h := ha hc
              clear ha hf
              refine lv_bipush (v := (-13 : Int32)) hx hb dX7_copyElements_90 (by decide) ?_
              exact hret _ (k_wholes, k_reals) _ _ _ _ rfl h hP hD hS dX7_copyElements_92
            · have h := hf hc
              clear ha hf
              refine lv_aload hx hb dX7_copyElements_78 (lv_at hl 0 rfl) ?_
              refine lv_iload hx hb dX7_copyElements_80 (lv_at hl 6 rfl) ?_
              refine lv_iload hx hb dX7_copyElements_82 (lv_at hl 7 rfl) ?_
              refine k_Vi (wr := [oX7 z_a c_a s_a d_a t_a z_saved e_a p_a r_a q_a z_as, aO cO z_as 4 z_slots]) (wf := (fun (u : Unit) => [oX7 z_a c_a s_a d_a t_a z_saved e_a p_a r_a q_a z_as, aO cO z_as 4 z_slots, oX5 k_a k_type k_size k_aw k_ar, aJ cJ k_aw 40 k_wholes, aD cD k_ar 40 k_reals])) (As := [.int x4, .int x5]) (rest := []) ⟨hx, hb, hml, hown, hts⟩ hK hP hD hS hA (c_X5_hasStretch l G cI cD cZ cJ cO k_a k_aw k_ar k_type k_size k_wholes k_reals x4 x5 _ h) (cwV 2 hts gX7_copyElements_X5_hasStretch rfl rfl rfl (by decide +kernel) ⟨Nat.le_of_ble_eq_true rfl, Nat.le_of_ble_eq_true rfl⟩) 0 rfl rfl [2, 3, 4] [0, 1] [0, 1, 2, 3, 4] rfl rfl rfl (fun _ => rfl) rfl rfl hl.1 (Nat.le_of_ble_eq_true rfl) ⟨Nat.zero_le _, Nat.zero_le _⟩ dX7_copyElements_84 (fun r_6 u H locs h hP hD hS => ?_)
              have hP : va_P G vwCl [oX7 z_a c_a s_a d_a t_a z_saved e_a p_a r_a q_a z_as, aO cO z_as 4 z_slots, oX5 k_a k_type k_size k_aw k_ar, aJ cJ k_aw 40 k_wholes, aD cD k_ar 40 k_reals] H := hP
              have hD : va_D A [oX7 z_a c_a s_a d_a t_a z_saved e_a p_a r_a q_a z_as, aO cO z_as 4 z_slots, oX5 k_a k_type k_size k_aw k_ar, aJ cJ k_aw 40 k_wholes, aD cD k_ar 40 k_reals] := hD
              obtain ⟨ha, hf⟩ := h
              refine lv_if_ne (tgt := 93) hx hb dX7_copyElements_87 (by decide) (fun hc => ?_) (fun hc => ?_)
              · have h := ha hc
                clear ha hf
                refine lv_aload hx hb dX7_copyElements_93 (lv_at hl 0 rfl) ?_
                refine lv_iload hx hb dX7_copyElements_95 (lv_at hl 6 rfl) ?_
                refine lv_aload hx hb dX7_copyElements_97 (lv_at hl 1 rfl) ?_
                refine lv_iload_n hx hb dX7_copyElements_99 rfl (lv_at hl 4 rfl) ?_
                refine lv_iload hx hb dX7_copyElements_100 (lv_at hl 7 rfl) ?_
                refine k_Vv (wr := [oX7 z_a c_a s_a d_a t_a z_saved e_a p_a r_a q_a z_as, aO cO z_as 4 z_slots]) (wf := (fun (u : (Nat → Int64) × (Nat → UInt64)) => [oX7 z_a c_a s_a d_a t_a z_saved e_a p_a r_a q_a z_as, aO cO z_as 4 z_slots, oX5 k_a k_type k_size k_aw k_ar, aJ cJ k_aw 40 u.1, aD cD k_ar 40 u.2])) (As := [.int x4, .ref k_a, .int x2, .int x5]) (rest := []) ⟨hx, hb, hml, hown, hts⟩ hK hP hD hS hA (c_X5_take_same l G cI cD cZ cJ cO k_a k_aw k_ar k_type k_size k_wholes k_reals x4 x2 x5 _ h) (cwV 4 hts gX7_copyElements_X5_take rfl rfl rfl (by decide +kernel) ⟨Nat.le_of_ble_eq_true rfl, Nat.le_of_ble_eq_true rfl⟩) 0 rfl rfl [2, 3, 4] [0, 1] [0, 1, 2, 3, 4] rfl rfl rfl (fun _ => rfl) rfl rfl hl.1 (Nat.le_of_ble_eq_true rfl) ⟨Nat.zero_le _, Nat.zero_le _⟩ dX7_copyElements_102 (fun u H locs h hP hD hS => ?_)
                obtain ⟨k_wholes_7, k_reals_8⟩ := u
                have hP : va_P G vwCl [oX7 z_a c_a s_a d_a t_a z_saved e_a p_a r_a q_a z_as, aO cO z_as 4 z_slots, oX5 k_a k_type k_size k_aw k_ar, aJ cJ k_aw 40 k_wholes_7, aD cD k_ar 40 k_reals_8] H := hP
                have hD : va_D A [oX7 z_a c_a s_a d_a t_a z_saved e_a p_a r_a q_a z_as, aO cO z_as 4 z_slots, oX5 k_a k_type k_size k_aw k_ar, aJ cJ k_aw 40 k_wholes_7, aD cD k_ar 40 k_reals_8] := hD
                refine lv_iload hx hb dX7_copyElements_105 (lv_at hl 7 rfl) ?_
                exact hret _ (k_wholes_7, k_reals_8) _ _ _ _ rfl h hP hD hS dX7_copyElements_107
              · have h := hf hc
                clear ha hf
                refine lv_bipush (v := (-13 : Int32)) hx hb dX7_copyElements_90 (by decide) ?_
                exact hret _ (k_wholes, k_reals) _ _ _ _ rfl h hP hD hS dX7_copyElements_92
          · have h := hf hc
            clear ha hf
            refine lv_bipush (v := (-12 : Int32)) hx hb dX7_copyElements_64 (by decide) ?_
            exact hret _ (k_wholes, k_reals) _ _ _ _ rfl h hP hD hS dX7_copyElements_66
        · have h := hf hc
          clear ha hf
          refine lv_bipush (v := (-11 : Int32)) hx hb dX7_copyElements_48 (by decide) ?_
          exact hret _ (k_wholes, k_reals) _ _ _ _ rfl h hP hD hS dX7_copyElements_50
    · have h := hf hc
      clear ha hf
      refine lv_iconst (v := (-1 : Int32)) hx hb dX7_copyElements_14 (by decide) ?_
      exact hret _ (k_wholes, k_reals) _ _ _ _ rfl h hP hD hS dX7_copyElements_15
abbrev rm_X7_loadClass : Room := { frames := 4, cells := 0, slots := 0, locals := 85 }
def wp_X7_loadClass_b60 (x1 : Int32) (k_type : Int32) (k_size : Int32) (k_wholes : Nat → Int64) (k_reals : Nat → UInt64) (Q : Int32 → Int32 → Int32 → Int32 → (Nat → Int32) → (Nat → UInt64) → (Nat → Int32) → (Nat → Int32) → Int32 → Prop)  : Nat → Int32 → Int32 → Int32 → Int32 → (Nat → Int32) → (Nat → UInt64) → (Nat → Int32) → (Nat → Int32) → Int32 → Prop
  | 0, _, _, _, _, _, _, _, _, _ => False
  | n + 1, x3, c_points, c_count, c_ed, c_sets, c_scores, c_rated, c_hold, s_count => ((k_size ≤ x3) → Q c_count c_points c_count c_ed c_sets c_scores c_rated c_hold s_count) ∧ ((¬ k_size ≤ x3) → wp_X5_get x3 k_type k_wholes k_reals (fun (r_8 : Int64) => wp_X0_isSet (r_8.toInt32) c_points (fun (r_9 : Int32) => ((r_9 = 0) → wp_X7_loadClass_b60 x1 k_type k_size k_wholes k_reals Q n (x3 + (1 : Int32)) c_points c_count c_ed c_sets c_scores c_rated c_hold s_count) ∧ ((¬ r_9 = 0) → wp_X0_addIfNew (r_8.toInt32) c_points c_count c_ed c_sets c_scores c_rated c_hold (fun (r_10 : Int32) (c_count_11 : Int32) (c_ed_12 : Int32) (c_sets_13 : Nat → Int32) (c_scores_14 : Nat → UInt64) (c_rated_15 : Nat → Int32) (c_hold_16 : Nat → Int32) => wp_X7_loadClass_b60 x1 k_type k_size k_wholes k_reals Q n (x3 + (1 : Int32)) c_points c_count_11 c_ed_12 c_sets_13 c_scores_14 c_rated_15 c_hold_16 s_count)))))
def wp_X7_loadClass (x1 : Int32) (c_points : Int32) (c_count : Int32) (c_ed : Int32) (c_sets : Nat → Int32) (c_scores : Nat → UInt64) (c_rated : Nat → Int32) (c_hold : Nat → Int32) (s_count : Int32) (k_type : Int32) (k_size : Int32) (k_wholes : Nat → Int64) (k_reals : Nat → UInt64) (Q : Int32 → Int32 → Int32 → Int32 → (Nat → Int32) → (Nat → UInt64) → (Nat → Int32) → (Nat → Int32) → Int32 → Prop) : Prop := wp_X7_isSlot x1 (fun (r_1 : Int32) => ((¬ r_1 = 0) → vp_in x1 4 ∧ wp_X5_isEmpty k_type (fun (r_2 : Int32) => ((r_2 = 0) → ((k_type = (1 : Int32)) → wp_X0_begin c_points c_points c_count c_ed c_sets c_hold (fun (c_points_3 : Int32) (c_count_4 : Int32) (c_ed_5 : Int32) (c_hold_6 : Nat → Int32) => wp_X3_forget s_count (fun (s_count_7 : Int32) => ∃ j60, wp_X7_loadClass_b60 x1 k_type k_size k_wholes k_reals Q j60 (0 : Int32) c_points_3 c_count_4 c_ed_5 c_sets c_scores c_rated c_hold_6 s_count_7))) ∧ ((¬ k_type = (1 : Int32)) → Q (-12 : Int32) c_points c_count c_ed c_sets c_scores c_rated c_hold s_count)) ∧ ((¬ r_2 = 0) → Q (-11 : Int32) c_points c_count c_ed c_sets c_scores c_rated c_hold s_count))) ∧ ((r_1 = 0) → Q (-1 : Int32) c_points c_count c_ed c_sets c_scores c_rated c_hold s_count))
set_option maxRecDepth 100000 in
set_option maxHeartbeats 4000000 in
theorem c_X7_loadClass (l : Launch) (G : va_G) (cI cD cZ cJ cO : ClassId) (z_a c_a c_as c_ad c_ar c_ah s_a s_ac z_as k_a k_aw k_ar d_a t_a e_a p_a r_a q_a : Nat) (z_saved : Int32) (c_points : Int32) (c_count : Int32) (c_ed : Int32) (c_sets : Nat → Int32) (c_scores : Nat → UInt64) (c_rated : Nat → Int32) (c_hold : Nat → Int32) (s_count : Int32) (s_codes : Nat → Int32) (z_slots : Nat → Option Nat) (k_type : Int32) (k_size : Int32) (k_wholes : Nat → Int64) (k_reals : Nat → UInt64) (x1 : Int32) (hs_x1 : vp_in x1 4 → z_slots x1.toNatClampNeg = some k_a) (Q : Int32 → Int32 → Int32 → Int32 → (Nat → Int32) → (Nat → UInt64) → (Nat → Int32) → (Nat → Int32) → Int32 → Prop) (h : wp_X7_loadClass x1 c_points c_count c_ed c_sets c_scores c_rated c_hold s_count k_type k_size k_wholes k_reals Q) : CtI l yX7_loadClass wsX7_loadClass rm_X7_loadClass G (TY cI cD cZ cJ cO) [.ref z_a, .int x1] [oX7 z_a c_a s_a d_a t_a z_saved e_a p_a r_a q_a z_as, oX0 c_a c_points c_count c_as c_ad c_ar c_ah c_ed, aI cI c_as 20 c_sets, aD cD c_ad 20 c_scores, aZ cZ c_ar 20 c_rated, aI cI c_ah 8 c_hold, oX3 s_a s_count s_ac, aI cI s_ac 12 s_codes, aO cO z_as 4 z_slots, oX5 k_a k_type k_size k_aw k_ar, aJ cJ k_aw 40 k_wholes, aD cD k_ar 40 k_reals] (fun (r : Int32) (u : Int32 × Int32 × Int32 × (Nat → Int32) × (Nat → UInt64) × (Nat → Int32) × (Nat → Int32) × Int32) => Q r u.1 u.2.1 u.2.2.1 u.2.2.2.1 u.2.2.2.2.1 u.2.2.2.2.2.1 u.2.2.2.2.2.2.1 u.2.2.2.2.2.2.2) (fun (u : Int32 × Int32 × Int32 × (Nat → Int32) × (Nat → UInt64) × (Nat → Int32) × (Nat → Int32) × Int32) => [oX7 z_a c_a s_a d_a t_a z_saved e_a p_a r_a q_a z_as, oX0 c_a u.1 u.2.1 c_as c_ad c_ar c_ah u.2.2.1, aI cI c_as 20 u.2.2.2.1, aD cD c_ad 20 u.2.2.2.2.1, aZ cZ c_ar 20 u.2.2.2.2.2.1, aI cI c_ah 8 u.2.2.2.2.2.2.1, oX3 s_a u.2.2.2.2.2.2.2 s_ac, aI cI s_ac 12 s_codes, aO cO z_as 4 z_slots, oX5 k_a k_type k_size k_aw k_ar, aJ cJ k_aw 40 k_wholes, aD cD k_ar 40 k_reals]) := by
  refine ct_openI (cc := cX7_loadClass) (maxL := 5) (ty := .int) (by decide) rfl (Nat.le_of_ble_eq_true rfl) ?_
  intro p e s m args below meth c A Z ls hx hb hml hown hts hK hA hret hP hD hS hl
  have hown : s.vm.findClass RX7 = some m.cls := hown
  have hl : lv_has ls 5 [(0, .ref z_a), (1, .int x1)] := hl
  have f_69 := hts (.fieldLink RX7 69 "TeachingSets" "slots" "[LTeachingSets$Slot;") (List.mem_of_getElem? (i := 1) rfl)
  have f_257 := hts (.fieldLink RX7 257 "TeachingSets$Slot" "type" "I") (List.mem_of_getElem? (i := 2) rfl)
  have f_12 := hts (.fieldLink RX7 12 "TeachingSets" "concepts" "LTeachingSets$Concepts;") (List.mem_of_getElem? (i := 3) rfl)
  have f_74 := hts (.fieldLink RX7 74 "TeachingSets$Concepts" "points" "I") (List.mem_of_getElem? (i := 4) rfl)
  have f_21 := hts (.fieldLink RX7 21 "TeachingSets" "sample" "LTeachingSets$Sample;") (List.mem_of_getElem? (i := 5) rfl)
  have f_267 := hts (.fieldLink RX7 267 "TeachingSets$Slot" "size" "I") (List.mem_of_getElem? (i := 6) rfl)
  have f_96 := hts (.fieldLink RX7 96 "TeachingSets$Concepts" "count" "I") (List.mem_of_getElem? (i := 7) rfl)
  have i_X7 : ∀ w ∈ wsX70, w ∈ wsX7_loadClass := fun _ h => List.mem_cons_of_mem _ (List.mem_append_left _ (List.mem_append_left _ (List.mem_append_left _ (List.mem_append_right _ (h)))))
  have i_X5 : ∀ w ∈ wsX50, w ∈ wsX7_loadClass := fun _ h => List.mem_cons_of_mem _ (List.mem_append_left _ (List.mem_append_left _ (List.mem_append_right _ (h))))
  have i_X0 : ∀ w ∈ wsX00, w ∈ wsX7_loadClass := fun _ h => List.mem_cons_of_mem _ (List.mem_append_left _ (List.mem_append_right _ (h)))
  have b_60 : ∀ (n : Nat) (x3 : Int32) (c_points : Int32) (c_count : Int32) (c_ed : Int32) (c_sets : Nat → Int32) (c_scores : Nat → UInt64) (c_rated : Nat → Int32) (c_hold : Nat → Int32) (s_count : Int32), wp_X7_loadClass_b60 x1 k_type k_size k_wholes k_reals Q n x3 c_points c_count c_ed c_sets c_scores c_rated c_hold s_count → ∀ (H : Heap) (locs : List Loc) (ls : Array Slot), ST G A s.heap [oX7 z_a c_a s_a d_a t_a z_saved e_a p_a r_a q_a z_as, oX0 c_a c_points c_count c_as c_ad c_ar c_ah c_ed, aI cI c_as 20 c_sets, aD cD c_ad 20 c_scores, aZ cZ c_ar 20 c_rated, aI cI c_ah 8 c_hold, oX3 s_a s_count s_ac, aI cI s_ac 12 s_codes, aO cO z_as 4 z_slots, oX5 k_a k_type k_size k_aw k_ar, aJ cJ k_aw 40 k_wholes, aD cD k_ar 40 k_reals] 5 [(0, .ref z_a), (2, .ref k_a), (3, .int x3)] H locs ls → W p l e rm_X7_loadClass s m args below meth c H locs 0 0 Z (F0 m 60 ls []) := by
    intro n
    induction n with
    | zero =>
      intro x3 c_points c_count c_ed c_sets c_scores c_rated c_hold s_count h; exact False.elim h
    | succ n ih =>
      intro x3 c_points c_count c_ed c_sets c_scores c_rated c_hold s_count h H locs ls hst
      obtain ⟨hP, hD, hS, hl⟩ := hst
      refine lv_iload_n hx hb dX7_loadClass_60 rfl (lv_at hl 2 rfl) ?_
      refine lv_aload_n hx hb dX7_loadClass_61 rfl (lv_at hl 1 rfl) ?_
      refine va_get (D := G) (ci := 5) (v := .int k_size) (C := RX5) (T := TX5) (N := 4) hx hb hts i_X5 hown hK.1 hP 9 rfl rfl 1 (by decide) f_267 (fun _ h9 => h9) rfl dX7_loadClass_62 ?_
      obtain ⟨ha, hf⟩ := h
      refine lv_icmp_ge (tgt := 104) hx hb dX7_loadClass_65 (by decide) (fun hc => ?_) (fun hc => ?_)
      · have h := ha hc
        clear ha hf
        refine lv_aload_n hx hb dX7_loadClass_104 rfl (lv_at hl 0 rfl) ?_
        refine va_get (D := G) (ci := 7) (v := .ref c_a) (C := RX7) (T := TX7) (N := 10) hx hb hts i_X7 hown hK.1 hP 0 rfl rfl 0 (by decide) f_12 (fun _ h9 => h9) rfl dX7_loadClass_105 ?_
        refine va_get (D := G) (ci := 0) (v := .int c_count) (C := RX0) (T := TX0) (N := 7) hx hb hts i_X0 hown hK.1 hP 1 rfl rfl 1 (by decide) f_96 (fun _ h9 => h9) rfl dX7_loadClass_108 ?_
        exact hret _ (c_points, c_count, c_ed, c_sets, c_scores, c_rated, c_hold, s_count) _ _ _ _ rfl h hP hD hS dX7_loadClass_111
      · have h := hf hc
        clear ha hf
        refine lv_aload_n hx hb dX7_loadClass_68 rfl (lv_at hl 1 rfl) ?_
        refine lv_iload_n hx hb dX7_loadClass_69 rfl (lv_at hl 2 rfl) ?_
        refine k_Vl (wr := [oX7 z_a c_a s_a d_a t_a z_saved e_a p_a r_a q_a z_as, oX0 c_a c_points c_count c_as c_ad c_ar c_ah c_ed, aI cI c_as 20 c_sets, aD cD c_ad 20 c_scores, aZ cZ c_ar 20 c_rated, aI cI c_ah 8 c_hold, oX3 s_a s_count s_ac, aI cI s_ac 12 s_codes, aO cO z_as 4 z_slots]) (wf := (fun (u : Unit) => [oX7 z_a c_a s_a d_a t_a z_saved e_a p_a r_a q_a z_as, oX0 c_a c_points c_count c_as c_ad c_ar c_ah c_ed, aI cI c_as 20 c_sets, aD cD c_ad 20 c_scores, aZ cZ c_ar 20 c_rated, aI cI c_ah 8 c_hold, oX3 s_a s_count s_ac, aI cI s_ac 12 s_codes, aO cO z_as 4 z_slots, oX5 k_a k_type k_size k_aw k_ar, aJ cJ k_aw 40 k_wholes, aD cD k_ar 40 k_reals])) (As := [.int x3]) (rest := []) ⟨hx, hb, hml, hown, hts⟩ hK hP hD hS hA (c_X5_get l G cI cD cZ cJ cO k_a k_aw k_ar k_type k_size k_wholes k_reals x3 _ h) (cwV 1 hts gX7_loadClass_X5_get rfl rfl rfl (by decide +kernel) ⟨Nat.le_of_ble_eq_true rfl, Nat.le_of_ble_eq_true rfl⟩) 0 rfl rfl [9, 10, 11] [0, 1, 2, 3, 4, 5, 6, 7, 8] [0, 1, 2, 3, 4, 5, 6, 7, 8, 9, 10, 11] rfl rfl rfl (fun _ => rfl) rfl rfl hl.1 (Nat.le_of_ble_eq_true rfl) ⟨Nat.zero_le _, Nat.zero_le _⟩ dX7_loadClass_70 (fun r_8 u H locs h hP hD hS => ?_)
        have hP : va_P G vwCl [oX7 z_a c_a s_a d_a t_a z_saved e_a p_a r_a q_a z_as, oX0 c_a c_points c_count c_as c_ad c_ar c_ah c_ed, aI cI c_as 20 c_sets, aD cD c_ad 20 c_scores, aZ cZ c_ar 20 c_rated, aI cI c_ah 8 c_hold, oX3 s_a s_count s_ac, aI cI s_ac 12 s_codes, aO cO z_as 4 z_slots, oX5 k_a k_type k_size k_aw k_ar, aJ cJ k_aw 40 k_wholes, aD cD k_ar 40 k_reals] H := hP
        have hD : va_D A [oX7 z_a c_a s_a d_a t_a z_saved e_a p_a r_a q_a z_as, oX0 c_a c_points c_count c_as c_ad c_ar c_ah c_ed, aI cI c_as 20 c_sets, aD cD c_ad 20 c_scores, aZ cZ c_ar 20 c_rated, aI cI c_ah 8 c_hold, oX3 s_a s_count s_ac, aI cI s_ac 12 s_codes, aO cO z_as 4 z_slots, oX5 k_a k_type k_size k_aw k_ar, aJ cJ k_aw 40 k_wholes, aD cD k_ar 40 k_reals] := hD
        refine lv_l2i hx hb dX7_loadClass_73 rfl ?_
        refine lv_istore (lv' := [(4, .int (r_8.toInt32)), (0, .ref z_a), (2, .ref k_a), (3, .int x3)]) hx hb dX7_loadClass_74 hl (by decide) rfl (fun ls hl => ?_)
        refine lv_aload_n hx hb dX7_loadClass_76 rfl (lv_at hl 1 rfl) ?_
        refine va_get (D := G) (ci := 7) (v := .ref c_a) (C := RX7) (T := TX7) (N := 10) hx hb hts i_X7 hown hK.1 hP 0 rfl rfl 0 (by decide) f_12 (fun _ h9 => h9) rfl dX7_loadClass_77 ?_
        refine lv_iload hx hb dX7_loadClass_80 (lv_at hl 0 rfl) ?_
        refine k_Vi (wr := [oX7 z_a c_a s_a d_a t_a z_saved e_a p_a r_a q_a z_as, oX3 s_a s_count s_ac, aI cI s_ac 12 s_codes, aO cO z_as 4 z_slots, oX5 k_a k_type k_size k_aw k_ar, aJ cJ k_aw 40 k_wholes, aD cD k_ar 40 k_reals]) (wf := (fun (u : Unit) => [oX7 z_a c_a s_a d_a t_a z_saved e_a p_a r_a q_a z_as, oX0 c_a c_points c_count c_as c_ad c_ar c_ah c_ed, aI cI c_as 20 c_sets, aD cD c_ad 20 c_scores, aZ cZ c_ar 20 c_rated, aI cI c_ah 8 c_hold, oX3 s_a s_count s_ac, aI cI s_ac 12 s_codes, aO cO z_as 4 z_slots, oX5 k_a k_type k_size k_aw k_ar, aJ cJ k_aw 40 k_wholes, aD cD k_ar 40 k_reals])) (As := [.int (r_8.toInt32)]) (rest := []) ⟨hx, hb, hml, hown, hts⟩ hK hP hD hS hA (c_X0_isSet l G cI cD cZ cJ cO c_a c_as c_ad c_ar c_ah c_points c_count c_ed c_sets c_scores c_rated c_hold (r_8.toInt32) _ h) (cwV 1 hts gX7_loadClass_X0_isSet rfl rfl rfl (by decide +kernel) ⟨Nat.le_of_ble_eq_true rfl, Nat.le_of_ble_eq_true rfl⟩) 0 rfl rfl [1, 2, 3, 4, 5] [0, 6, 7, 8, 9, 10, 11] [0, 7, 8, 9, 10, 11, 1, 2, 3, 4, 5, 6] rfl rfl rfl (fun _ => rfl) rfl rfl hl.1 (Nat.le_of_ble_eq_true rfl) ⟨Nat.zero_le _, Nat.zero_le _⟩ dX7_loadClass_82 (fun r_9 u H locs h hP hD hS => ?_)
        have hP : va_P G vwCl [oX7 z_a c_a s_a d_a t_a z_saved e_a p_a r_a q_a z_as, oX0 c_a c_points c_count c_as c_ad c_ar c_ah c_ed, aI cI c_as 20 c_sets, aD cD c_ad 20 c_scores, aZ cZ c_ar 20 c_rated, aI cI c_ah 8 c_hold, oX3 s_a s_count s_ac, aI cI s_ac 12 s_codes, aO cO z_as 4 z_slots, oX5 k_a k_type k_size k_aw k_ar, aJ cJ k_aw 40 k_wholes, aD cD k_ar 40 k_reals] H := hP
        have hD : va_D A [oX7 z_a c_a s_a d_a t_a z_saved e_a p_a r_a q_a z_as, oX0 c_a c_points c_count c_as c_ad c_ar c_ah c_ed, aI cI c_as 20 c_sets, aD cD c_ad 20 c_scores, aZ cZ c_ar 20 c_rated, aI cI c_ah 8 c_hold, oX3 s_a s_count s_ac, aI cI s_ac 12 s_codes, aO cO z_as 4 z_slots, oX5 k_a k_type k_size k_aw k_ar, aJ cJ k_aw 40 k_wholes, aD cD k_ar 40 k_reals] := hD
        obtain ⟨ha, hf⟩ := h
        refine lv_if_eq (tgt := 98) hx hb dX7_loadClass_85 (by decide) (fun hc => ?_) (fun hc => ?_)
        · have h := ha hc
          clear ha hf
          refine lv_iinc (v := (x3 + (1 : Int32))) (lv' := [(3, .int (x3 + (1 : Int32))), (4, .int (r_8.toInt32)), (0, .ref z_a), (2, .ref k_a)]) hx hb dX7_loadClass_98 hl (k := 3) rfl rfl (by decide) rfl (fun ls hl => ?_)
          refine lv_goto (tgt := 60) hx hb dX7_loadClass_101 (by decide) ?_
          exact ih _ _ _ _ _ _ _ _ _ h _ _ _ ⟨hP, hD, hS, lv_sub hl [2, 3, 0] rfl⟩
        · have h := hf hc
          clear ha hf
          refine lv_aload_n hx hb dX7_loadClass_88 rfl (lv_at hl 1 rfl) ?_
          refine va_get (D := G) (ci := 7) (v := .ref c_a) (C := RX7) (T := TX7) (N := 10) hx hb hts i_X7 hown hK.1 hP 0 rfl rfl 0 (by decide) f_12 (fun _ h9 => h9) rfl dX7_loadClass_89 ?_
          refine lv_iload hx hb dX7_loadClass_92 (lv_at hl 0 rfl) ?_
          refine k_Vi (wr := [oX7 z_a c_a s_a d_a t_a z_saved e_a p_a r_a q_a z_as, oX3 s_a s_count s_ac, aI cI s_ac 12 s_codes, aO cO z_as 4 z_slots, oX5 k_a k_type k_size k_aw k_ar, aJ cJ k_aw 40 k_wholes, aD cD k_ar 40 k_reals]) (wf := (fun (u : Int32 × Int32 × (Nat → Int32) × (Nat → UInt64) × (Nat → Int32) × (Nat → Int32)) => [oX7 z_a c_a s_a d_a t_a z_saved e_a p_a r_a q_a z_as, oX0 c_a c_points u.1 c_as c_ad c_ar c_ah u.2.1, aI cI c_as 20 u.2.2.1, aD cD c_ad 20 u.2.2.2.1, aZ cZ c_ar 20 u.2.2.2.2.1, aI cI c_ah 8 u.2.2.2.2.2, oX3 s_a s_count s_ac, aI cI s_ac 12 s_codes, aO cO z_as 4 z_slots, oX5 k_a k_type k_size k_aw k_ar, aJ cJ k_aw 40 k_wholes, aD cD k_ar 40 k_reals])) (As := [.int (r_8.toInt32)]) (rest := []) ⟨hx, hb, hml, hown, hts⟩ hK hP hD hS hA (c_X0_addIfNew l G cI cD cZ cJ cO c_a c_as c_ad c_ar c_ah c_points c_count c_ed c_sets c_scores c_rated c_hold (r_8.toInt32) _ h) (cwV 1 hts gX7_loadClass_X0_addIfNew rfl rfl rfl (by decide +kernel) ⟨Nat.le_of_ble_eq_true rfl, Nat.le_of_ble_eq_true rfl⟩) 0 rfl rfl [1, 2, 3, 4, 5] [0, 6, 7, 8, 9, 10, 11] [0, 7, 8, 9, 10, 11, 1, 2, 3, 4, 5, 6] rfl rfl rfl (fun _ => rfl) rfl rfl hl.1 (Nat.le_of_ble_eq_true rfl) ⟨Nat.zero_le _, Nat.zero_le _⟩ dX7_loadClass_94 (fun r_10 u H locs h hP hD hS => ?_)
          obtain ⟨c_count_11, c_ed_12, c_sets_13, c_scores_14, c_rated_15, c_hold_16⟩ := u
          have hP : va_P G vwCl [oX7 z_a c_a s_a d_a t_a z_saved e_a p_a r_a q_a z_as, oX0 c_a c_points c_count_11 c_as c_ad c_ar c_ah c_ed_12, aI cI c_as 20 c_sets_13, aD cD c_ad 20 c_scores_14, aZ cZ c_ar 20 c_rated_15, aI cI c_ah 8 c_hold_16, oX3 s_a s_count s_ac, aI cI s_ac 12 s_codes, aO cO z_as 4 z_slots, oX5 k_a k_type k_size k_aw k_ar, aJ cJ k_aw 40 k_wholes, aD cD k_ar 40 k_reals] H := hP
          have hD : va_D A [oX7 z_a c_a s_a d_a t_a z_saved e_a p_a r_a q_a z_as, oX0 c_a c_points c_count_11 c_as c_ad c_ar c_ah c_ed_12, aI cI c_as 20 c_sets_13, aD cD c_ad 20 c_scores_14, aZ cZ c_ar 20 c_rated_15, aI cI c_ah 8 c_hold_16, oX3 s_a s_count s_ac, aI cI s_ac 12 s_codes, aO cO z_as 4 z_slots, oX5 k_a k_type k_size k_aw k_ar, aJ cJ k_aw 40 k_wholes, aD cD k_ar 40 k_reals] := hD
          refine lv_pop hx hb dX7_loadClass_97 rfl ?_
          refine lv_iinc (v := (x3 + (1 : Int32))) (lv' := [(3, .int (x3 + (1 : Int32))), (4, .int (r_8.toInt32)), (0, .ref z_a), (2, .ref k_a)]) hx hb dX7_loadClass_98 hl (k := 3) rfl rfl (by decide) rfl (fun ls hl => ?_)
          refine lv_goto (tgt := 60) hx hb dX7_loadClass_101 (by decide) ?_
          exact ih _ _ _ _ _ _ _ _ _ h _ _ _ ⟨hP, hD, hS, lv_sub hl [2, 3, 0] rfl⟩
  refine lv_iload_n hx hb dX7_loadClass_0 rfl (lv_at hl 1 rfl) ?_
  refine k_Si (wr := [oX7 z_a c_a s_a d_a t_a z_saved e_a p_a r_a q_a z_as, oX0 c_a c_points c_count c_as c_ad c_ar c_ah c_ed, aI cI c_as 20 c_sets, aD cD c_ad 20 c_scores, aZ cZ c_ar 20 c_rated, aI cI c_ah 8 c_hold, oX3 s_a s_count s_ac, aI cI s_ac 12 s_codes, aO cO z_as 4 z_slots, oX5 k_a k_type k_size k_aw k_ar, aJ cJ k_aw 40 k_wholes, aD cD k_ar 40 k_reals]) (wf := (fun (u : Unit) => [oX7 z_a c_a s_a d_a t_a z_saved e_a p_a r_a q_a z_as, oX0 c_a c_points c_count c_as c_ad c_ar c_ah c_ed, aI cI c_as 20 c_sets, aD cD c_ad 20 c_scores, aZ cZ c_ar 20 c_rated, aI cI c_ah 8 c_hold, oX3 s_a s_count s_ac, aI cI s_ac 12 s_codes, aO cO z_as 4 z_slots, oX5 k_a k_type k_size k_aw k_ar, aJ cJ k_aw 40 k_wholes, aD cD k_ar 40 k_reals])) (As := [.int x1]) (rest := []) ⟨hx, hb, hml, hown, hts⟩ hK hP hD hS hA (c_X7_isSlot l G cI cD cZ cJ cO x1 _ h) (va_cwS 1 hts gX7_loadClass_X7_isSlot rfl rfl rfl (by decide +kernel) ⟨Nat.le_of_ble_eq_true rfl, Nat.le_of_ble_eq_true rfl⟩) [] [0, 1, 2, 3, 4, 5, 6, 7, 8, 9, 10, 11] [0, 1, 2, 3, 4, 5, 6, 7, 8, 9, 10, 11] rfl rfl rfl (fun _ => rfl) rfl rfl hl.1 (Nat.le_of_ble_eq_true rfl) ⟨Nat.zero_le _, Nat.zero_le _⟩ dX7_loadClass_1 (fun r_1 u H locs h hP hD hS => ?_)
  have hP : va_P G vwCl [oX7 z_a c_a s_a d_a t_a z_saved e_a p_a r_a q_a z_as, oX0 c_a c_points c_count c_as c_ad c_ar c_ah c_ed, aI cI c_as 20 c_sets, aD cD c_ad 20 c_scores, aZ cZ c_ar 20 c_rated, aI cI c_ah 8 c_hold, oX3 s_a s_count s_ac, aI cI s_ac 12 s_codes, aO cO z_as 4 z_slots, oX5 k_a k_type k_size k_aw k_ar, aJ cJ k_aw 40 k_wholes, aD cD k_ar 40 k_reals] H := hP
  have hD : va_D A [oX7 z_a c_a s_a d_a t_a z_saved e_a p_a r_a q_a z_as, oX0 c_a c_points c_count c_as c_ad c_ar c_ah c_ed, aI cI c_as 20 c_sets, aD cD c_ad 20 c_scores, aZ cZ c_ar 20 c_rated, aI cI c_ah 8 c_hold, oX3 s_a s_count s_ac, aI cI s_ac 12 s_codes, aO cO z_as 4 z_slots, oX5 k_a k_type k_size k_aw k_ar, aJ cJ k_aw 40 k_wholes, aD cD k_ar 40 k_reals] := hD
  obtain ⟨ha, hf⟩ := h
  refine lv_if_ne (tgt := 9) hx hb dX7_loadClass_4 (by decide) (fun hc => ?_) (fun hc => ?_)
  · have h := ha hc
    clear ha hf
    refine lv_aload_n hx hb dX7_loadClass_9 rfl (lv_at hl 0 rfl) ?_
    refine va_get (D := G) (ci := 7) (v := .ref z_as) (C := RX7) (T := TX7) (N := 10) hx hb hts i_X7 hown hK.1 hP 0 rfl rfl 9 (by decide) f_69 (fun _ h9 => h9) rfl dX7_loadClass_10 ?_
    refine lv_iload_n hx hb dX7_loadClass_13 rfl (lv_at hl 1 rfl) ?_
    obtain ⟨hi, h⟩ := h
    refine va_aldq hx hb hK.1 hP 8 4 rfl rfl hi dX7_loadClass_14 ?_
    rw [hs_x1 hi]
    refine lv_astore_n (lv' := [(2, .ref k_a), (0, .ref z_a), (1, .int x1)]) hx hb dX7_loadClass_15 rfl hl (by decide) rfl (fun ls hl => ?_)
    refine lv_aload_n hx hb dX7_loadClass_16 rfl (lv_at hl 0 rfl) ?_
    refine k_Vi (wr := [oX7 z_a c_a s_a d_a t_a z_saved e_a p_a r_a q_a z_as, oX0 c_a c_points c_count c_as c_ad c_ar c_ah c_ed, aI cI c_as 20 c_sets, aD cD c_ad 20 c_scores, aZ cZ c_ar 20 c_rated, aI cI c_ah 8 c_hold, oX3 s_a s_count s_ac, aI cI s_ac 12 s_codes, aO cO z_as 4 z_slots]) (wf := (fun (u : Unit) => [oX7 z_a c_a s_a d_a t_a z_saved e_a p_a r_a q_a z_as, oX0 c_a c_points c_count c_as c_ad c_ar c_ah c_ed, aI cI c_as 20 c_sets, aD cD c_ad 20 c_scores, aZ cZ c_ar 20 c_rated, aI cI c_ah 8 c_hold, oX3 s_a s_count s_ac, aI cI s_ac 12 s_codes, aO cO z_as 4 z_slots, oX5 k_a k_type k_size k_aw k_ar, aJ cJ k_aw 40 k_wholes, aD cD k_ar 40 k_reals])) (As := []) (rest := []) ⟨hx, hb, hml, hown, hts⟩ hK hP hD hS hA (c_X5_isEmpty l G cI cD cZ cJ cO k_a k_aw k_ar k_type k_size k_wholes k_reals _ h) (cwV 0 hts gX7_loadClass_X5_isEmpty rfl rfl rfl (by decide +kernel) ⟨Nat.le_of_ble_eq_true rfl, Nat.le_of_ble_eq_true rfl⟩) 0 rfl rfl [9, 10, 11] [0, 1, 2, 3, 4, 5, 6, 7, 8] [0, 1, 2, 3, 4, 5, 6, 7, 8, 9, 10, 11] rfl rfl rfl (fun _ => rfl) rfl rfl hl.1 (Nat.le_of_ble_eq_true rfl) ⟨Nat.zero_le _, Nat.zero_le _⟩ dX7_loadClass_17 (fun r_2 u H locs h hP hD hS => ?_)
    have hP : va_P G vwCl [oX7 z_a c_a s_a d_a t_a z_saved e_a p_a r_a q_a z_as, oX0 c_a c_points c_count c_as c_ad c_ar c_ah c_ed, aI cI c_as 20 c_sets, aD cD c_ad 20 c_scores, aZ cZ c_ar 20 c_rated, aI cI c_ah 8 c_hold, oX3 s_a s_count s_ac, aI cI s_ac 12 s_codes, aO cO z_as 4 z_slots, oX5 k_a k_type k_size k_aw k_ar, aJ cJ k_aw 40 k_wholes, aD cD k_ar 40 k_reals] H := hP
    have hD : va_D A [oX7 z_a c_a s_a d_a t_a z_saved e_a p_a r_a q_a z_as, oX0 c_a c_points c_count c_as c_ad c_ar c_ah c_ed, aI cI c_as 20 c_sets, aD cD c_ad 20 c_scores, aZ cZ c_ar 20 c_rated, aI cI c_ah 8 c_hold, oX3 s_a s_count s_ac, aI cI s_ac 12 s_codes, aO cO z_as 4 z_slots, oX5 k_a k_type k_size k_aw k_ar, aJ cJ k_aw 40 k_wholes, aD cD k_ar 40 k_reals] := hD
    obtain ⟨ha, hf⟩ := h
    refine lv_if_eq (tgt := 26) hx hb dX7_loadClass_20 (by decide) (fun hc => ?_) (fun hc => ?_)
    · have h := ha hc
      clear ha hf
      refine lv_aload_n hx hb dX7_loadClass_26 rfl (lv_at hl 0 rfl) ?_
      refine va_get (D := G) (ci := 5) (v := .int k_type) (C := RX5) (T := TX5) (N := 4) hx hb hts i_X5 hown hK.1 hP 9 rfl rfl 0 (by decide) f_257 (fun _ h9 => h9) rfl dX7_loadClass_27 ?_
      refine lv_iconst (v := (1 : Int32)) hx hb dX7_loadClass_30 (by decide) ?_
      obtain ⟨ha, hf⟩ := h
      refine lv_icmp_eq (tgt := 37) hx hb dX7_loadClass_31 (by decide) (fun hc => ?_) (fun hc => ?_)
      · have h := ha hc
        clear ha hf
        refine lv_aload_n hx hb dX7_loadClass_37 rfl (lv_at hl 1 rfl) ?_
        refine va_get (D := G) (ci := 7) (v := .ref c_a) (C := RX7) (T := TX7) (N := 10) hx hb hts i_X7 hown hK.1 hP 0 rfl rfl 0 (by decide) f_12 (fun _ h9 => h9) rfl dX7_loadClass_38 ?_
        refine lv_aload_n hx hb dX7_loadClass_41 rfl (lv_at hl 1 rfl) ?_
        refine va_get (D := G) (ci := 7) (v := .ref c_a) (C := RX7) (T := TX7) (N := 10) hx hb hts i_X7 hown hK.1 hP 0 rfl rfl 0 (by decide) f_12 (fun _ h9 => h9) rfl dX7_loadClass_42 ?_
        refine va_get (D := G) (ci := 0) (v := .int c_points) (C := RX0) (T := TX0) (N := 7) hx hb hts i_X0 hown hK.1 hP 1 rfl rfl 0 (by decide) f_74 (fun _ h9 => h9) rfl dX7_loadClass_45 ?_
        refine k_Vv (wr := [oX7 z_a c_a s_a d_a t_a z_saved e_a p_a r_a q_a z_as, oX3 s_a s_count s_ac, aI cI s_ac 12 s_codes, aO cO z_as 4 z_slots, oX5 k_a k_type k_size k_aw k_ar, aJ cJ k_aw 40 k_wholes, aD cD k_ar 40 k_reals]) (wf := (fun (u : Int32 × Int32 × Int32 × (Nat → Int32)) => [oX7 z_a c_a s_a d_a t_a z_saved e_a p_a r_a q_a z_as, oX0 c_a u.1 u.2.1 c_as c_ad c_ar c_ah u.2.2.1, aI cI c_as 20 c_sets, aD cD c_ad 20 c_scores, aZ cZ c_ar 20 c_rated, aI cI c_ah 8 u.2.2.2, oX3 s_a s_count s_ac, aI cI s_ac 12 s_codes, aO cO z_as 4 z_slots, oX5 k_a k_type k_size k_aw k_ar, aJ cJ k_aw 40 k_wholes, aD cD k_ar 40 k_reals])) (As := [.int c_points]) (rest := []) ⟨hx, hb, hml, hown, hts⟩ hK hP hD hS hA (c_X0_begin l G cI cD cZ cJ cO c_a c_as c_ad c_ar c_ah c_points c_count c_ed c_sets c_scores c_rated c_hold c_points _ h) (cwV 1 hts gX7_loadClass_X0_begin rfl rfl rfl (by decide +kernel) ⟨Nat.le_of_ble_eq_true rfl, Nat.le_of_ble_eq_true rfl⟩) 0 rfl rfl [1, 2, 3, 4, 5] [0, 6, 7, 8, 9, 10, 11] [0, 7, 8, 9, 10, 11, 1, 2, 3, 4, 5, 6] rfl rfl rfl (fun _ => rfl) rfl rfl hl.1 (Nat.le_of_ble_eq_true rfl) ⟨Nat.zero_le _, Nat.zero_le _⟩ dX7_loadClass_48 (fun u H locs h hP hD hS => ?_)
        obtain ⟨c_points_3, c_count_4, c_ed_5, c_hold_6⟩ := u
        have hP : va_P G vwCl [oX7 z_a c_a s_a d_a t_a z_saved e_a p_a r_a q_a z_as, oX0 c_a c_points_3 c_count_4 c_as c_ad c_ar c_ah c_ed_5, aI cI c_as 20 c_sets, aD cD c_ad 20 c_scores, aZ cZ c_ar 20 c_rated, aI cI c_ah 8 c_hold_6, oX3 s_a s_count s_ac, aI cI s_ac 12 s_codes, aO cO z_as 4 z_slots, oX5 k_a k_type k_size k_aw k_ar, aJ cJ k_aw 40 k_wholes, aD cD k_ar 40 k_reals] H := hP
        have hD : va_D A [oX7 z_a c_a s_a d_a t_a z_saved e_a p_a r_a q_a z_as, oX0 c_a c_points_3 c_count_4 c_as c_ad c_ar c_ah c_ed_5, aI cI c_as 20 c_sets, aD cD c_ad 20 c_scores, aZ cZ c_ar 20 c_rated, aI cI c_ah 8 c_hold_6, oX3 s_a s_count s_ac, aI cI s_ac 12 s_codes, aO cO z_as 4 z_slots, oX5 k_a k_type k_size k_aw k_ar, aJ cJ k_aw 40 k_wholes, aD cD k_ar 40 k_reals] := hD
        refine lv_aload_n hx hb dX7_loadClass_51 rfl (lv_at hl 1 rfl) ?_
        refine va_get (D := G) (ci := 7) (v := .ref s_a) (C := RX7) (T := TX7) (N := 10) hx hb hts i_X7 hown hK.1 hP 0 rfl rfl 1 (by decide) f_21 (fun _ h9 => h9) rfl dX7_loadClass_52 ?_
        refine k_Vv (wr := [oX7 z_a c_a s_a d_a t_a z_saved e_a p_a r_a q_a z_as, oX0 c_a c_points_3 c_count_4 c_as c_ad c_ar c_ah c_ed_5, aI cI c_as 20 c_sets, aD cD c_ad 20 c_scores, aZ cZ c_ar 20 c_rated, aI cI c_ah 8 c_hold_6, aO cO z_as 4 z_slots, oX5 k_a k_type k_size k_aw k_ar, aJ cJ k_aw 40 k_wholes, aD cD k_ar 40 k_reals]) (wf := (fun (u : Int32) => [oX7 z_a c_a s_a d_a t_a z_saved e_a p_a r_a q_a z_as, oX0 c_a c_points_3 c_count_4 c_as c_ad c_ar c_ah c_ed_5, aI cI c_as 20 c_sets, aD cD c_ad 20 c_scores, aZ cZ c_ar 20 c_rated, aI cI c_ah 8 c_hold_6, oX3 s_a u s_ac, aI cI s_ac 12 s_codes, aO cO z_as 4 z_slots, oX5 k_a k_type k_size k_aw k_ar, aJ cJ k_aw 40 k_wholes, aD cD k_ar 40 k_reals])) (As := []) (rest := []) ⟨hx, hb, hml, hown, hts⟩ hK hP hD hS hA (c_X3_forget l G cI cD cZ cJ cO s_a s_ac s_count s_codes _ h) (cwV 0 hts gX7_loadClass_X3_forget rfl rfl rfl (by decide +kernel) ⟨Nat.le_of_ble_eq_true rfl, Nat.le_of_ble_eq_true rfl⟩) 0 rfl rfl [6, 7] [0, 1, 2, 3, 4, 5, 8, 9, 10, 11] [0, 1, 2, 3, 4, 5, 10, 11, 6, 7, 8, 9] rfl rfl rfl (fun _ => rfl) rfl rfl hl.1 (Nat.le_of_ble_eq_true rfl) ⟨Nat.zero_le _, Nat.zero_le _⟩ dX7_loadClass_55 (fun u H locs h hP hD hS => ?_)
        obtain ⟨s_count_7, rfl⟩ : ∃ z, z = u := ⟨_, rfl⟩
        have hP : va_P G vwCl [oX7 z_a c_a s_a d_a t_a z_saved e_a p_a r_a q_a z_as, oX0 c_a c_points_3 c_count_4 c_as c_ad c_ar c_ah c_ed_5, aI cI c_as 20 c_sets, aD cD c_ad 20 c_scores, aZ cZ c_ar 20 c_rated, aI cI c_ah 8 c_hold_6, oX3 s_a s_count_7 s_ac, aI cI s_ac 12 s_codes, aO cO z_as 4 z_slots, oX5 k_a k_type k_size k_aw k_ar, aJ cJ k_aw 40 k_wholes, aD cD k_ar 40 k_reals] H := hP
        have hD : va_D A [oX7 z_a c_a s_a d_a t_a z_saved e_a p_a r_a q_a z_as, oX0 c_a c_points_3 c_count_4 c_as c_ad c_ar c_ah c_ed_5, aI cI c_as 20 c_sets, aD cD c_ad 20 c_scores, aZ cZ c_ar 20 c_rated, aI cI c_ah 8 c_hold_6, oX3 s_a s_count_7 s_ac, aI cI s_ac 12 s_codes, aO cO z_as 4 z_slots, oX5 k_a k_type k_size k_aw k_ar, aJ cJ k_aw 40 k_wholes, aD cD k_ar 40 k_reals] := hD
        refine lv_iconst (v := (0 : Int32)) hx hb dX7_loadClass_58 (by decide) ?_
        refine lv_istore_n (lv' := [(3, .int (0 : Int32)), (2, .ref k_a), (0, .ref z_a), (1, .int x1)]) hx hb dX7_loadClass_59 rfl hl (by decide) rfl (fun ls hl => ?_)
        obtain ⟨j, h⟩ := h
        exact b_60  j _ _ _ _ _ _ _ _ _ h _ _ _ ⟨hP, hD, hS, lv_sub hl [2, 1, 0] rfl⟩
      · have h := hf hc
        clear ha hf
        refine lv_bipush (v := (-12 : Int32)) hx hb dX7_loadClass_34 (by decide) ?_
        exact hret _ (c_points, c_count, c_ed, c_sets, c_scores, c_rated, c_hold, s_count) _ _ _ _ rfl h hP hD hS dX7_loadClass_36
    · have h := hf hc
      clear ha hf
      refine lv_bipush (v := (-11 : Int32)) hx hb dX7_loadClass_23 (by decide) ?_
      exact hret _ (c_points, c_count, c_ed, c_sets, c_scores, c_rated, c_hold, s_count) _ _ _ _ rfl h hP hD hS dX7_loadClass_25
  · have h := hf hc
    clear ha hf
    refine lv_iconst (v := (-1 : Int32)) hx hb dX7_loadClass_7 (by decide) ?_
    exact hret _ (c_points, c_count, c_ed, c_sets, c_scores, c_rated, c_hold, s_count) _ _ _ _ rfl h hP hD hS dX7_loadClass_8
abbrev rm_X7_storeScores : Room := { frames := 1, cells := 0, slots := 0, locals := 20 }
def wp_X7_storeScores_b97 (x1 : Int32) (c_count : Int32) (c_scores : Nat → UInt64) (c_rated : Nat → Int32) (k_type : Int32) (k_size : Int32) (Q : Int32 → (Nat → UInt64) → Prop) (k56 : Int32 → (Nat → UInt64) → Prop) (x3 : Int32) (t0 : UInt64) (t1 : Int32) (k_reals : Nat → UInt64) : Prop := vp_in t1 40 ∧ k56 (x3 + (1 : Int32)) (vf_upd k_reals t1.toNatClampNeg t0)
def wp_X7_storeScores_b56 (x1 : Int32) (c_count : Int32) (c_scores : Nat → UInt64) (c_rated : Nat → Int32) (k_type : Int32) (k_size : Int32) (Q : Int32 → (Nat → UInt64) → Prop)  : Nat → Int32 → (Nat → UInt64) → Prop
  | 0, _, _ => False
  | n + 1, x3, k_reals => ((c_count ≤ x3) → Q c_count k_reals) ∧ ((¬ c_count ≤ x3) → vp_in x3 20 ∧ (((c_rated x3.toNatClampNeg) = 0) → wp_X7_storeScores_b97 x1 c_count c_scores c_rated k_type k_size Q (fun (x3 : Int32) (k_reals : Nat → UInt64) => wp_X7_storeScores_b56 x1 c_count c_scores c_rated k_type k_size Q n x3 k_reals) x3 FP.dconst0 x3 k_reals) ∧ ((¬ (c_rated x3.toNatClampNeg) = 0) → vp_in x3 20 ∧ wp_X7_storeScores_b97 x1 c_count c_scores c_rated k_type k_size Q (fun (x3 : Int32) (k_reals : Nat → UInt64) => wp_X7_storeScores_b56 x1 c_count c_scores c_rated k_type k_size Q n x3 k_reals) x3 (c_scores x3.toNatClampNeg) x3 k_reals))
def wp_X7_storeScores (x1 : Int32) (c_count : Int32) (c_scores : Nat → UInt64) (c_rated : Nat → Int32) (k_type : Int32) (k_size : Int32) (k_reals : Nat → UInt64) (Q : Int32 → (Nat → UInt64) → Prop) : Prop := wp_X7_isSlot x1 (fun (r_1 : Int32) => ((¬ r_1 = 0) → vp_in x1 4 ∧ wp_X5_isEmpty k_type (fun (r_2 : Int32) => ((r_2 = 0) → ((k_type = (3 : Int32)) → ((c_count ≤ k_size) → ∃ j56, wp_X7_storeScores_b56 x1 c_count c_scores c_rated k_type k_size Q j56 (0 : Int32) k_reals) ∧ ((¬ c_count ≤ k_size) → Q (-13 : Int32) k_reals)) ∧ ((¬ k_type = (3 : Int32)) → Q (-12 : Int32) k_reals)) ∧ ((¬ r_2 = 0) → Q (-11 : Int32) k_reals))) ∧ ((r_1 = 0) → Q (-1 : Int32) k_reals))
set_option maxRecDepth 100000 in
set_option maxHeartbeats 4000000 in
theorem c_X7_storeScores (l : Launch) (G : va_G) (cI cD cZ cJ cO : ClassId) (z_a c_a c_as c_ad c_ar c_ah z_as k_a k_aw k_ar s_a d_a t_a e_a p_a r_a q_a : Nat) (z_saved : Int32) (c_points : Int32) (c_count : Int32) (c_ed : Int32) (c_sets : Nat → Int32) (c_scores : Nat → UInt64) (c_rated : Nat → Int32) (c_hold : Nat → Int32) (z_slots : Nat → Option Nat) (k_type : Int32) (k_size : Int32) (k_wholes : Nat → Int64) (k_reals : Nat → UInt64) (x1 : Int32) (hs_x1 : vp_in x1 4 → z_slots x1.toNatClampNeg = some k_a) (Q : Int32 → (Nat → UInt64) → Prop) (h : wp_X7_storeScores x1 c_count c_scores c_rated k_type k_size k_reals Q) : CtI l yX7_storeScores wsX7_storeScores rm_X7_storeScores G (TY cI cD cZ cJ cO) [.ref z_a, .int x1] [oX7 z_a c_a s_a d_a t_a z_saved e_a p_a r_a q_a z_as, oX0 c_a c_points c_count c_as c_ad c_ar c_ah c_ed, aI cI c_as 20 c_sets, aD cD c_ad 20 c_scores, aZ cZ c_ar 20 c_rated, aI cI c_ah 8 c_hold, aO cO z_as 4 z_slots, oX5 k_a k_type k_size k_aw k_ar, aJ cJ k_aw 40 k_wholes, aD cD k_ar 40 k_reals] (fun (r : Int32) (u : (Nat → UInt64)) => Q r u) (fun (u : (Nat → UInt64)) => [oX7 z_a c_a s_a d_a t_a z_saved e_a p_a r_a q_a z_as, oX0 c_a c_points c_count c_as c_ad c_ar c_ah c_ed, aI cI c_as 20 c_sets, aD cD c_ad 20 c_scores, aZ cZ c_ar 20 c_rated, aI cI c_ah 8 c_hold, aO cO z_as 4 z_slots, oX5 k_a k_type k_size k_aw k_ar, aJ cJ k_aw 40 k_wholes, aD cD k_ar 40 u]) := by
  refine ct_openI (cc := cX7_storeScores) (maxL := 4) (ty := .int) (by decide) rfl (Nat.le_of_ble_eq_true rfl) ?_
  intro p e s m args below meth c A Z ls hx hb hml hown hts hK hA hret hP hD hS hl
  have hown : s.vm.findClass RX7 = some m.cls := hown
  have hl : lv_has ls 4 [(0, .ref z_a), (1, .int x1)] := hl
  have f_69 := hts (.fieldLink RX7 69 "TeachingSets" "slots" "[LTeachingSets$Slot;") (List.mem_of_getElem? (i := 1) rfl)
  have f_257 := hts (.fieldLink RX7 257 "TeachingSets$Slot" "type" "I") (List.mem_of_getElem? (i := 2) rfl)
  have f_267 := hts (.fieldLink RX7 267 "TeachingSets$Slot" "size" "I") (List.mem_of_getElem? (i := 3) rfl)
  have f_12 := hts (.fieldLink RX7 12 "TeachingSets" "concepts" "LTeachingSets$Concepts;") (List.mem_of_getElem? (i := 4) rfl)
  have f_96 := hts (.fieldLink RX7 96 "TeachingSets$Concepts" "count" "I") (List.mem_of_getElem? (i := 5) rfl)
  have f_270 := hts (.fieldLink RX7 270 "TeachingSets$Slot" "reals" "[D") (List.mem_of_getElem? (i := 6) rfl)
  have f_167 := hts (.fieldLink RX7 167 "TeachingSets$Concepts" "rated" "[Z") (List.mem_of_getElem? (i := 7) rfl)
  have f_274 := hts (.fieldLink RX7 274 "TeachingSets$Concepts" "scores" "[D") (List.mem_of_getElem? (i := 8) rfl)
  have i_X7 : ∀ w ∈ wsX70, w ∈ wsX7_storeScores := fun _ h => List.mem_cons_of_mem _ (List.mem_append_left _ (List.mem_append_left _ (List.mem_append_right _ (h))))
  have i_X5 : ∀ w ∈ wsX50, w ∈ wsX7_storeScores := fun _ h => List.mem_cons_of_mem _ (List.mem_append_left _ (List.mem_append_right _ (h)))
  have i_X0 : ∀ w ∈ wsX00, w ∈ wsX7_storeScores := fun _ h => List.mem_cons_of_mem _ (List.mem_append_right _ (h))
  have b_97 : ∀ (k56 : Int32 → (Nat → UInt64) → Prop), (∀ (x3 : Int32) (k_reals : Nat → UInt64), k56 x3 k_reals → ∀ (H : Heap) (locs : List Loc) (ls : Array Slot), ST G A s.heap [oX7 z_a c_a s_a d_a t_a z_saved e_a p_a r_a q_a z_as, oX0 c_a c_points c_count c_as c_ad c_ar c_ah c_ed, aI cI c_as 20 c_sets, aD cD c_ad 20 c_scores, aZ cZ c_ar 20 c_rated, aI cI c_ah 8 c_hold, aO cO z_as 4 z_slots, oX5 k_a k_type k_size k_aw k_ar, aJ cJ k_aw 40 k_wholes, aD cD k_ar 40 k_reals] 4 [(0, .ref z_a), (2, .ref k_a), (3, .int x3)] H locs ls → W p l e rm_X7_storeScores s m args below meth c H locs 0 0 Z (F0 m 56 ls [])) → ∀ (x3 : Int32) (t0 : UInt64) (t1 : Int32) (k_reals : Nat → UInt64), wp_X7_storeScores_b97 x1 c_count c_scores c_rated k_type k_size Q k56 x3 t0 t1 k_reals → ∀ (H : Heap) (locs : List Loc) (ls : Array Slot), ST G A s.heap [oX7 z_a c_a s_a d_a t_a z_saved e_a p_a r_a q_a z_as, oX0 c_a c_points c_count c_as c_ad c_ar c_ah c_ed, aI cI c_as 20 c_sets, aD cD c_ad 20 c_scores, aZ cZ c_ar 20 c_rated, aI cI c_ah 8 c_hold, aO cO z_as 4 z_slots, oX5 k_a k_type k_size k_aw k_ar, aJ cJ k_aw 40 k_wholes, aD cD k_ar 40 k_reals] 4 [(0, .ref z_a), (2, .ref k_a), (3, .int x3)] H locs ls → W p l e rm_X7_storeScores s m args below meth c H locs 0 0 Z (F0 m 97 ls [.double t0, .int t1, .ref k_ar]) := by
    intro k56 hk56 x3 t0 t1 k_reals h H locs ls hst
    obtain ⟨hP, hD, hS, hl⟩ := hst
    obtain ⟨hi, h⟩ := h
    refine va_dast hx hb hK.1 hP hD hS 9 1 rfl rfl hi dX7_storeScores_97 (fun H locs hP hD hS => ?_)
    have hP : va_P G vwCl [oX7 z_a c_a s_a d_a t_a z_saved e_a p_a r_a q_a z_as, oX0 c_a c_points c_count c_as c_ad c_ar c_ah c_ed, aI cI c_as 20 c_sets, aD cD c_ad 20 c_scores, aZ cZ c_ar 20 c_rated, aI cI c_ah 8 c_hold, aO cO z_as 4 z_slots, oX5 k_a k_type k_size k_aw k_ar, aJ cJ k_aw 40 k_wholes, aD cD k_ar 40 (vf_upd k_reals t1.toNatClampNeg t0)] H := hP
    have hD : va_D A [oX7 z_a c_a s_a d_a t_a z_saved e_a p_a r_a q_a z_as, oX0 c_a c_points c_count c_as c_ad c_ar c_ah c_ed, aI cI c_as 20 c_sets, aD cD c_ad 20 c_scores, aZ cZ c_ar 20 c_rated, aI cI c_ah 8 c_hold, aO cO z_as 4 z_slots, oX5 k_a k_type k_size k_aw k_ar, aJ cJ k_aw 40 k_wholes, aD cD k_ar 40 (vf_upd k_reals t1.toNatClampNeg t0)] := hD
    refine lv_iinc (v := (x3 + (1 : Int32))) (lv' := [(3, .int (x3 + (1 : Int32))), (0, .ref z_a), (2, .ref k_a)]) hx hb dX7_storeScores_98 hl (k := 2) rfl rfl (by decide) rfl (fun ls hl => ?_)
    refine lv_goto (tgt := 56) hx hb dX7_storeScores_101 (by decide) ?_
    exact hk56 _ _ h _ _ _ ⟨hP, hD, hS, lv_sub hl [1, 2, 0] rfl⟩
  have b_56 : ∀ (n : Nat) (x3 : Int32) (k_reals : Nat → UInt64), wp_X7_storeScores_b56 x1 c_count c_scores c_rated k_type k_size Q n x3 k_reals → ∀ (H : Heap) (locs : List Loc) (ls : Array Slot), ST G A s.heap [oX7 z_a c_a s_a d_a t_a z_saved e_a p_a r_a q_a z_as, oX0 c_a c_points c_count c_as c_ad c_ar c_ah c_ed, aI cI c_as 20 c_sets, aD cD c_ad 20 c_scores, aZ cZ c_ar 20 c_rated, aI cI c_ah 8 c_hold, aO cO z_as 4 z_slots, oX5 k_a k_type k_size k_aw k_ar, aJ cJ k_aw 40 k_wholes, aD cD k_ar 40 k_reals] 4 [(0, .ref z_a), (2, .ref k_a), (3, .int x3)] H locs ls → W p l e rm_X7_storeScores s m args below meth c H locs 0 0 Z (F0 m 56 ls []) := by
    intro n
    induction n with
    | zero =>
      intro x3 k_reals h; exact False.elim h
    | succ n ih =>
      intro x3 k_reals h H locs ls hst
      obtain ⟨hP, hD, hS, hl⟩ := hst
      refine lv_iload_n hx hb dX7_storeScores_56 rfl (lv_at hl 2 rfl) ?_
      refine lv_aload_n hx hb dX7_storeScores_57 rfl (lv_at hl 0 rfl) ?_
      refine va_get (D := G) (ci := 7) (v := .ref c_a) (C := RX7) (T := TX7) (N := 10) hx hb hts i_X7 hown hK.1 hP 0 rfl rfl 0 (by decide) f_12 (fun _ h9 => h9) rfl dX7_storeScores_58 ?_
      refine va_get (D := G) (ci := 0) (v := .int c_count) (C := RX0) (T := TX0) (N := 7) hx hb hts i_X0 hown hK.1 hP 1 rfl rfl 1 (by decide) f_96 (fun _ h9 => h9) rfl dX7_storeScores_61 ?_
      obtain ⟨ha, hf⟩ := h
      refine lv_icmp_ge (tgt := 104) hx hb dX7_storeScores_64 (by decide) (fun hc => ?_) (fun hc => ?_)
      · have h := ha hc
        clear ha hf
        refine lv_aload_n hx hb dX7_storeScores_104 rfl (lv_at hl 0 rfl) ?_
        refine va_get (D := G) (ci := 7) (v := .ref c_a) (C := RX7) (T := TX7) (N := 10) hx hb hts i_X7 hown hK.1 hP 0 rfl rfl 0 (by decide) f_12 (fun _ h9 => h9) rfl dX7_storeScores_105 ?_
        refine va_get (D := G) (ci := 0) (v := .int c_count) (C := RX0) (T := TX0) (N := 7) hx hb hts i_X0 hown hK.1 hP 1 rfl rfl 1 (by decide) f_96 (fun _ h9 => h9) rfl dX7_storeScores_108 ?_
        exact hret _ k_reals _ _ _ _ rfl h hP hD hS dX7_storeScores_111
      · have h := hf hc
        clear ha hf
        refine lv_aload_n hx hb dX7_storeScores_67 rfl (lv_at hl 1 rfl) ?_
        refine va_get (D := G) (ci := 5) (v := .ref k_ar) (C := RX5) (T := TX5) (N := 4) hx hb hts i_X5 hown hK.1 hP 7 rfl rfl 3 (by decide) f_270 (fun _ h9 => h9) rfl dX7_storeScores_68 ?_
        refine lv_iload_n hx hb dX7_storeScores_71 rfl (lv_at hl 2 rfl) ?_
        refine lv_aload_n hx hb dX7_storeScores_72 rfl (lv_at hl 0 rfl) ?_
        refine va_get (D := G) (ci := 7) (v := .ref c_a) (C := RX7) (T := TX7) (N := 10) hx hb hts i_X7 hown hK.1 hP 0 rfl rfl 0 (by decide) f_12 (fun _ h9 => h9) rfl dX7_storeScores_73 ?_
        refine va_get (D := G) (ci := 0) (v := .ref c_ar) (C := RX0) (T := TX0) (N := 7) hx hb hts i_X0 hown hK.1 hP 1 rfl rfl 4 (by decide) f_167 (fun _ h9 => h9) rfl dX7_storeScores_76 ?_
        refine lv_iload_n hx hb dX7_storeScores_79 rfl (lv_at hl 2 rfl) ?_
        obtain ⟨hi, h⟩ := h
        refine va_zald hx hb hK.1 hP 4 2 rfl rfl hi dX7_storeScores_80 ?_
        obtain ⟨ha, hf⟩ := h
        refine lv_if_eq (tgt := 96) hx hb dX7_storeScores_81 (by decide) (fun hc => ?_) (fun hc => ?_)
        · have h := ha hc
          clear ha hf
          refine lv_dconst0 hx hb dX7_storeScores_96 ?_
          exact b_97 _ ih _ _ _ _ h _ _ _ ⟨hP, hD, hS, lv_sub hl [0, 1, 2] rfl⟩
        · have h := hf hc
          clear ha hf
          refine lv_aload_n hx hb dX7_storeScores_84 rfl (lv_at hl 0 rfl) ?_
          refine va_get (D := G) (ci := 7) (v := .ref c_a) (C := RX7) (T := TX7) (N := 10) hx hb hts i_X7 hown hK.1 hP 0 rfl rfl 0 (by decide) f_12 (fun _ h9 => h9) rfl dX7_storeScores_85 ?_
          refine va_get (D := G) (ci := 0) (v := .ref c_ad) (C := RX0) (T := TX0) (N := 7) hx hb hts i_X0 hown hK.1 hP 1 rfl rfl 3 (by decide) f_274 (fun _ h9 => h9) rfl dX7_storeScores_88 ?_
          refine lv_iload_n hx hb dX7_storeScores_91 rfl (lv_at hl 2 rfl) ?_
          obtain ⟨hi, h⟩ := h
          refine va_dald hx hb hK.1 hP 3 1 rfl rfl hi dX7_storeScores_92 ?_
          refine lv_goto (tgt := 97) hx hb dX7_storeScores_93 (by decide) ?_
          exact b_97 _ ih _ _ _ _ h _ _ _ ⟨hP, hD, hS, lv_sub hl [0, 1, 2] rfl⟩
  refine lv_iload_n hx hb dX7_storeScores_0 rfl (lv_at hl 1 rfl) ?_
  refine k_Si (wr := [oX7 z_a c_a s_a d_a t_a z_saved e_a p_a r_a q_a z_as, oX0 c_a c_points c_count c_as c_ad c_ar c_ah c_ed, aI cI c_as 20 c_sets, aD cD c_ad 20 c_scores, aZ cZ c_ar 20 c_rated, aI cI c_ah 8 c_hold, aO cO z_as 4 z_slots, oX5 k_a k_type k_size k_aw k_ar, aJ cJ k_aw 40 k_wholes, aD cD k_ar 40 k_reals]) (wf := (fun (u : Unit) => [oX7 z_a c_a s_a d_a t_a z_saved e_a p_a r_a q_a z_as, oX0 c_a c_points c_count c_as c_ad c_ar c_ah c_ed, aI cI c_as 20 c_sets, aD cD c_ad 20 c_scores, aZ cZ c_ar 20 c_rated, aI cI c_ah 8 c_hold, aO cO z_as 4 z_slots, oX5 k_a k_type k_size k_aw k_ar, aJ cJ k_aw 40 k_wholes, aD cD k_ar 40 k_reals])) (As := [.int x1]) (rest := []) ⟨hx, hb, hml, hown, hts⟩ hK hP hD hS hA (c_X7_isSlot l G cI cD cZ cJ cO x1 _ h) (va_cwS 1 hts gX7_storeScores_X7_isSlot rfl rfl rfl (by decide +kernel) ⟨Nat.le_of_ble_eq_true rfl, Nat.le_of_ble_eq_true rfl⟩) [] [0, 1, 2, 3, 4, 5, 6, 7, 8, 9] [0, 1, 2, 3, 4, 5, 6, 7, 8, 9] rfl rfl rfl (fun _ => rfl) rfl rfl hl.1 (Nat.le_of_ble_eq_true rfl) ⟨Nat.zero_le _, Nat.zero_le _⟩ dX7_storeScores_1 (fun r_1 u H locs h hP hD hS => ?_)
  have hP : va_P G vwCl [oX7 z_a c_a s_a d_a t_a z_saved e_a p_a r_a q_a z_as, oX0 c_a c_points c_count c_as c_ad c_ar c_ah c_ed, aI cI c_as 20 c_sets, aD cD c_ad 20 c_scores, aZ cZ c_ar 20 c_rated, aI cI c_ah 8 c_hold, aO cO z_as 4 z_slots, oX5 k_a k_type k_size k_aw k_ar, aJ cJ k_aw 40 k_wholes, aD cD k_ar 40 k_reals] H := hP
  have hD : va_D A [oX7 z_a c_a s_a d_a t_a z_saved e_a p_a r_a q_a z_as, oX0 c_a c_points c_count c_as c_ad c_ar c_ah c_ed, aI cI c_as 20 c_sets, aD cD c_ad 20 c_scores, aZ cZ c_ar 20 c_rated, aI cI c_ah 8 c_hold, aO cO z_as 4 z_slots, oX5 k_a k_type k_size k_aw k_ar, aJ cJ k_aw 40 k_wholes, aD cD k_ar 40 k_reals] := hD
  obtain ⟨ha, hf⟩ := h
  refine lv_if_ne (tgt := 9) hx hb dX7_storeScores_4 (by decide) (fun hc => ?_) (fun hc => ?_)
  · have h := ha hc
    clear ha hf
    refine lv_aload_n hx hb dX7_storeScores_9 rfl (lv_at hl 0 rfl) ?_
    refine va_get (D := G) (ci := 7) (v := .ref z_as) (C := RX7) (T := TX7) (N := 10) hx hb hts i_X7 hown hK.1 hP 0 rfl rfl 9 (by decide) f_69 (fun _ h9 => h9) rfl dX7_storeScores_10 ?_
    refine lv_iload_n hx hb dX7_storeScores_13 rfl (lv_at hl 1 rfl) ?_
    obtain ⟨hi, h⟩ := h
    refine va_aldq hx hb hK.1 hP 6 4 rfl rfl hi dX7_storeScores_14 ?_
    rw [hs_x1 hi]
    refine lv_astore_n (lv' := [(2, .ref k_a), (0, .ref z_a), (1, .int x1)]) hx hb dX7_storeScores_15 rfl hl (by decide) rfl (fun ls hl => ?_)
    refine lv_aload_n hx hb dX7_storeScores_16 rfl (lv_at hl 0 rfl) ?_
    refine k_Vi (wr := [oX7 z_a c_a s_a d_a t_a z_saved e_a p_a r_a q_a z_as, oX0 c_a c_points c_count c_as c_ad c_ar c_ah c_ed, aI cI c_as 20 c_sets, aD cD c_ad 20 c_scores, aZ cZ c_ar 20 c_rated, aI cI c_ah 8 c_hold, aO cO z_as 4 z_slots]) (wf := (fun (u : Unit) => [oX7 z_a c_a s_a d_a t_a z_saved e_a p_a r_a q_a z_as, oX0 c_a c_points c_count c_as c_ad c_ar c_ah c_ed, aI cI c_as 20 c_sets, aD cD c_ad 20 c_scores, aZ cZ c_ar 20 c_rated, aI cI c_ah 8 c_hold, aO cO z_as 4 z_slots, oX5 k_a k_type k_size k_aw k_ar, aJ cJ k_aw 40 k_wholes, aD cD k_ar 40 k_reals])) (As := []) (rest := []) ⟨hx, hb, hml, hown, hts⟩ hK hP hD hS hA (c_X5_isEmpty l G cI cD cZ cJ cO k_a k_aw k_ar k_type k_size k_wholes k_reals _ h) (cwV 0 hts gX7_storeScores_X5_isEmpty rfl rfl rfl (by decide +kernel) ⟨Nat.le_of_ble_eq_true rfl, Nat.le_of_ble_eq_true rfl⟩) 0 rfl rfl [7, 8, 9] [0, 1, 2, 3, 4, 5, 6] [0, 1, 2, 3, 4, 5, 6, 7, 8, 9] rfl rfl rfl (fun _ => rfl) rfl rfl hl.1 (Nat.le_of_ble_eq_true rfl) ⟨Nat.zero_le _, Nat.zero_le _⟩ dX7_storeScores_17 (fun r_2 u H locs h hP hD hS => ?_)
    have hP : va_P G vwCl [oX7 z_a c_a s_a d_a t_a z_saved e_a p_a r_a q_a z_as, oX0 c_a c_points c_count c_as c_ad c_ar c_ah c_ed, aI cI c_as 20 c_sets, aD cD c_ad 20 c_scores, aZ cZ c_ar 20 c_rated, aI cI c_ah 8 c_hold, aO cO z_as 4 z_slots, oX5 k_a k_type k_size k_aw k_ar, aJ cJ k_aw 40 k_wholes, aD cD k_ar 40 k_reals] H := hP
    have hD : va_D A [oX7 z_a c_a s_a d_a t_a z_saved e_a p_a r_a q_a z_as, oX0 c_a c_points c_count c_as c_ad c_ar c_ah c_ed, aI cI c_as 20 c_sets, aD cD c_ad 20 c_scores, aZ cZ c_ar 20 c_rated, aI cI c_ah 8 c_hold, aO cO z_as 4 z_slots, oX5 k_a k_type k_size k_aw k_ar, aJ cJ k_aw 40 k_wholes, aD cD k_ar 40 k_reals] := hD
    obtain ⟨ha, hf⟩ := h
    refine lv_if_eq (tgt := 26) hx hb dX7_storeScores_20 (by decide) (fun hc => ?_) (fun hc => ?_)
    · have h := ha hc
      clear ha hf
      refine lv_aload_n hx hb dX7_storeScores_26 rfl (lv_at hl 0 rfl) ?_
      refine va_get (D := G) (ci := 5) (v := .int k_type) (C := RX5) (T := TX5) (N := 4) hx hb hts i_X5 hown hK.1 hP 7 rfl rfl 0 (by decide) f_257 (fun _ h9 => h9) rfl dX7_storeScores_27 ?_
      refine lv_iconst (v := (3 : Int32)) hx hb dX7_storeScores_30 (by decide) ?_
      obtain ⟨ha, hf⟩ := h
      refine lv_icmp_eq (tgt := 37) hx hb dX7_storeScores_31 (by decide) (fun hc => ?_) (fun hc => ?_)
      · have h := ha hc
        clear ha hf
        refine lv_aload_n hx hb dX7_storeScores_37 rfl (lv_at hl 0 rfl) ?_
        refine va_get (D := G) (ci := 5) (v := .int k_size) (C := RX5) (T := TX5) (N := 4) hx hb hts i_X5 hown hK.1 hP 7 rfl rfl 1 (by decide) f_267 (fun _ h9 => h9) rfl dX7_storeScores_38 ?_
        refine lv_aload_n hx hb dX7_storeScores_41 rfl (lv_at hl 1 rfl) ?_
        refine va_get (D := G) (ci := 7) (v := .ref c_a) (C := RX7) (T := TX7) (N := 10) hx hb hts i_X7 hown hK.1 hP 0 rfl rfl 0 (by decide) f_12 (fun _ h9 => h9) rfl dX7_storeScores_42 ?_
        refine va_get (D := G) (ci := 0) (v := .int c_count) (C := RX0) (T := TX0) (N := 7) hx hb hts i_X0 hown hK.1 hP 1 rfl rfl 1 (by decide) f_96 (fun _ h9 => h9) rfl dX7_storeScores_45 ?_
        obtain ⟨ha, hf⟩ := h
        refine lv_icmp_ge (tgt := 54) hx hb dX7_storeScores_48 (by decide) (fun hc => ?_) (fun hc => ?_)
        · have h := ha hc
          clear ha hf
          refine lv_iconst (v := (0 : Int32)) hx hb dX7_storeScores_54 (by decide) ?_
          refine lv_istore_n (lv' := [(3, .int (0 : Int32)), (2, .ref k_a), (0, .ref z_a), (1, .int x1)]) hx hb dX7_storeScores_55 rfl hl (by decide) rfl (fun ls hl => ?_)
          obtain ⟨j, h⟩ := h
          exact b_56  j _ _ h _ _ _ ⟨hP, hD, hS, lv_sub hl [2, 1, 0] rfl⟩
        · have h := hf hc
          clear ha hf
          refine lv_bipush (v := (-13 : Int32)) hx hb dX7_storeScores_51 (by decide) ?_
          exact hret _ k_reals _ _ _ _ rfl h hP hD hS dX7_storeScores_53
      · have h := hf hc
        clear ha hf
        refine lv_bipush (v := (-12 : Int32)) hx hb dX7_storeScores_34 (by decide) ?_
        exact hret _ k_reals _ _ _ _ rfl h hP hD hS dX7_storeScores_36
    · have h := hf hc
      clear ha hf
      refine lv_bipush (v := (-11 : Int32)) hx hb dX7_storeScores_23 (by decide) ?_
      exact hret _ k_reals _ _ _ _ rfl h hP hD hS dX7_storeScores_25
  · have h := hf hc
    clear ha hf
    refine lv_iconst (v := (-1 : Int32)) hx hb dX7_storeScores_7 (by decide) ?_
    exact hret _ k_reals _ _ _ _ rfl h hP hD hS dX7_storeScores_8
