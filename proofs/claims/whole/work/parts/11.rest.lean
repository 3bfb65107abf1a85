abbrev rm_X7_setScore : Room := { frames := 1, cells := 0, slots := 0, locals := 24 }
def wp_X7_setScore_b32 (x1 : Int32) (x2 : Int32) (x3 : Int32) (c_count : Int32) (Q : Int32 → (Nat → UInt64) → (Nat → Int32) → Prop)  (c_scores : Nat → UInt64) (c_rated : Nat → Int32) : Prop := ∀ (r_2 : UInt64), alike64 r_2 (FP.ddiv (FP.i2d x2) (FP.i2d x3)) = true → wp_X0_rate x1 r_2 c_scores c_rated (fun (r_3 : Int32) (c_scores_4 : Nat → UInt64) (c_rated_5 : Nat → Int32) => ((r_3 = 0) → Q (0 : Int32) c_scores_4 c_rated_5) ∧ ((¬ r_3 = 0) → Q (1 : Int32) c_scores_4 c_rated_5))
def wp_X7_setScore (x1 : Int32) (x2 : Int32) (x3 : Int32) (c_count : Int32) (c_scores : Nat → UInt64) (c_rated : Nat → Int32) (Q : Int32 → (Nat → UInt64) → (Nat → Int32) → Prop) : Prop := wp_X0_has x1 c_count (fun (r_1 : Int32) => ((¬ r_1 = 0) → ((¬ x2 = 0) → wp_X7_setScore_b32 x1 x2 x3 c_count Q c_scores c_rated) ∧ ((x2 = 0) → ((¬ x3 = 0) → wp_X7_setScore_b32 x1 x2 x3 c_count Q c_scores c_rated) ∧ ((x3 = 0) → wp_X0_unrate x1 c_scores c_rated (fun (c_scores_6 : Nat → UInt64) (c_rated_7 : Nat → Int32) => Q (0 : Int32) c_scores_6 c_rated_7)))) ∧ ((r_1 = 0) → Q (-2 : Int32) c_scores c_rated))
set_option maxRecDepth 100000 in
set_option maxHeartbeats 4000000 in
theorem c_X7_setScore (l : Launch) (G : va_G) (cI cD cZ cJ cO : ClassId) (z_a c_a c_as c_ad c_ar c_ah s_a d_a t_a e_a p_a r_a q_a z_as : Nat) (z_saved : Int32) (c_points : Int32) (c_count : Int32) (c_ed : Int32) (c_sets : Nat → Int32) (c_scores : Nat → UInt64) (c_rated : Nat → Int32) (c_hold : Nat → Int32) (x1 : Int32) (x2 : Int32) (x3 : Int32) (Q : Int32 → (Nat → UInt64) → (Nat → Int32) → Prop) (h : wp_X7_setScore x1 x2 x3 c_count c_scores c_rated Q) : CtID l yX7_setScore wsX7_setScore rm_X7_setScore G (TY cI cD cZ cJ cO) [.ref z_a, .int x1, .int x2, .int x3] [oX7 z_a c_a s_a d_a t_a z_saved e_a p_a r_a q_a z_as, oX0 c_a c_points c_count c_as c_ad c_ar c_ah c_ed, aI cI c_as 20 c_sets, aD cD c_ad 20 c_scores, aZ cZ c_ar 20 c_rated, aI cI c_ah 8 c_hold] (fun (r : Int32) (u : (Nat → UInt64) × (Nat → Int32)) => Q r u.1 u.2) (fun (u : (Nat → UInt64) × (Nat → Int32)) => [oX7 z_a c_a s_a d_a t_a z_saved e_a p_a r_a q_a z_as, oX0 c_a c_points c_count c_as c_ad c_ar c_ah c_ed, aI cI c_as 20 c_sets, aD cD c_ad 20 u.1, aZ cZ c_ar 20 u.2, aI cI c_ah 8 c_hold]) := by
  refine ct_openID (cc := cX7_setScore) (maxL := 4) (ty := .int) (by decide) rfl (Nat.le_of_ble_eq_true rfl) ?_
  intro p e s m args below meth c A Z ls hx hb hml hown hts0 hK0 hA hret0 hP hD hS hl d0 hd0
  have hown : s.vm.findClass RX7 = some m.cls := hown
  have hl : lv_has ls 4 [(0, .ref z_a), (1, .int x1), (2, .int x2), (3, .int x3)] := hl
  have i_X7 : ∀ w ∈ wsX70, w ∈ wsX7_setScore := fun _ h => List.mem_cons_of_mem _ (List.mem_append_left _ (List.mem_append_right _ (h)))
  have b_32 : ∀ (c_scores : Nat → UInt64) (c_rated : Nat → Int32), wp_X7_setScore_b32 x1 x2 x3 c_count Q c_scores c_rated → ∀ (d0 : Drawn), s.drawn.sameBut d0 lw_cs → ∀ (H : Heap) (locs : List Loc) (ls : Array Slot), ST G A s.heap [oX7 z_a c_a s_a d_a t_a z_saved e_a p_a r_a q_a z_as, oX0 c_a c_points c_count c_as c_ad c_ar c_ah c_ed, aI cI c_as 20 c_sets, aD cD c_ad 20 c_scores, aZ cZ c_ar 20 c_rated, aI cI c_ah 8 c_hold] 4 [(0, .ref z_a), (1, .int x1), (2, .int x2), (3, .int x3)] H locs ls → W p l e rm_X7_setScore (s.setDrawn d0) m args below meth c H locs 0 0 Z (F0 m 32 ls []) := by
    intro c_scores c_rated h d0 hd0 H locs ls hst
    obtain ⟨hP, hD, hS, hl⟩ := hst
    have hts := dr_words hts0 d0
    have hK := KK.drawn hK0 d0
    have hret := hret0 d0 hd0
    have f_12 := hts (.fieldLink RX7 12 "TeachingSets" "concepts" "LTeachingSets$Concepts;") (List.mem_of_getElem? (i := 1) rfl)
    refine lv_aload_n hx hb dX7_setScore_32 rfl (lv_at hl 0 rfl) ?_
    refine va_get (D := G) (ci := 7) (v := .ref c_a) (C := RX7) (T := TX7) (N := 10) hx hb hts i_X7 hown hK.1 hP 0 rfl rfl 0 (by decide) f_12 (fun _ h9 => h9) rfl dX7_setScore_33 ?_
    refine lv_iload_n hx hb dX7_setScore_36 rfl (lv_at hl 1 rfl) ?_
    refine lv_iload_n hx hb dX7_setScore_37 rfl (lv_at hl 2 rfl) ?_
    refine lv_i2d hx hb dX7_setScore_38 ?_
    refine lv_iload_n hx hb dX7_setScore_39 rfl (lv_at hl 3 rfl) ?_
    refine lv_i2d hx hb dX7_setScore_40 ?_
    refine lv_ddiv_any hd0 lw_bits hx hb dX7_setScore_41 (fun r_2 d0 hal hd0 => ?_)
    have h := h r_2 hal
    have hts := dr_words hts0 d0
    have hK := KK.drawn hK0 d0
    have hret := hret0 d0 hd0
    have f_12 := hts (.fieldLink RX7 12 "TeachingSets" "concepts" "LTeachingSets$Concepts;") (List.mem_of_getElem? (i := 1) rfl)
    refine k_Vi (wr := [oX7 z_a c_a s_a d_a t_a z_saved e_a p_a r_a q_a z_as]) (wf := (fun (u : (Nat → UInt64) × (Nat → Int32)) => [oX7 z_a c_a s_a d_a t_a z_saved e_a p_a r_a q_a z_as, oX0 c_a c_points c_count c_as c_ad c_ar c_ah c_ed, aI cI c_as 20 c_sets, aD cD c_ad 20 u.1, aZ cZ c_ar 20 u.2, aI cI c_ah 8 c_hold])) (As := [.int x1, .double r_2]) (rest := []) ⟨hx, hb, hml, hown, hts⟩ hK hP hD hS hA (c_X0_rate l G cI cD cZ cJ cO c_a c_as c_ad c_ar c_ah c_points c_count c_ed c_sets c_scores c_rated c_hold x1 r_2 _ h) (cwV 2 hts gX7_setScore_X0_rate rfl rfl rfl (by decide +kernel) ⟨Nat.le_of_ble_eq_true rfl, Nat.le_of_ble_eq_true rfl⟩) 0 rfl rfl [1, 2, 3, 4, 5] [0] [0, 1, 2, 3, 4, 5] rfl rfl rfl (fun _ => rfl) rfl rfl hl.1 (Nat.le_of_ble_eq_true rfl) ⟨Nat.zero_le _, Nat.zero_le _⟩ dX7_setScore_42 (fun r_3 u H locs h hP hD hS => ?_)
    obtain ⟨c_scores_4, c_rated_5⟩ := u
    have hP : va_P G vwCl [oX7 z_a c_a s_a d_a t_a z_saved e_a p_a r_a q_a z_as, oX0 c_a c_points c_count c_as c_ad c_ar c_ah c_ed, aI cI c_as 20 c_sets, aD cD c_ad 20 c_scores_4, aZ cZ c_ar 20 c_rated_5, aI cI c_ah 8 c_hold] H := hP
    have hD : va_D A [oX7 z_a c_a s_a d_a t_a z_saved e_a p_a r_a q_a z_as, oX0 c_a c_points c_count c_as c_ad c_ar c_ah c_ed, aI cI c_as 20 c_sets, aD cD c_ad 20 c_scores_4, aZ cZ c_ar 20 c_rated_5, aI cI c_ah 8 c_hold] := hD
    obtain ⟨ha, hf⟩ := h
    refine lv_if_eq (tgt := 52) hx hb dX7_setScore_45 (by decide) (fun hc => ?_) (fun hc => ?_)
    · have h := ha hc
      clear ha hf
      refine lv_iconst (v := (0 : Int32)) hx hb dX7_setScore_52 (by decide) ?_
      exact hret _ (c_scores_4, c_rated_5) _ _ _ _ rfl h hP hD hS dX7_setScore_53
    · have h := hf hc
      clear ha hf
      refine lv_iconst (v := (1 : Int32)) hx hb dX7_setScore_48 (by decide) ?_
      refine lv_goto (tgt := 53) hx hb dX7_setScore_49 (by decide) ?_
      exact hret _ (c_scores_4, c_rated_5) _ _ _ _ rfl h hP hD hS dX7_setScore_53
  have hts := dr_words hts0 d0
  have hK := KK.drawn hK0 d0
  have hret := hret0 d0 hd0
  have f_12 := hts (.fieldLink RX7 12 "TeachingSets" "concepts" "LTeachingSets$Concepts;") (List.mem_of_getElem? (i := 1) rfl)
  refine lv_aload_n hx hb dX7_setScore_0 rfl (lv_at hl 0 rfl) ?_
  refine va_get (D := G) (ci := 7) (v := .ref c_a) (C := RX7) (T := TX7) (N := 10) hx hb hts i_X7 hown hK.1 hP 0 rfl rfl 0 (by decide) f_12 (fun _ h9 => h9) rfl dX7_setScore_1 ?_
  refine lv_iload_n hx hb dX7_setScore_4 rfl (lv_at hl 1 rfl) ?_
  refine k_Vi (wr := [oX7 z_a c_a s_a d_a t_a z_saved e_a p_a r_a q_a z_as]) (wf := (fun (u : Unit) => [oX7 z_a c_a s_a d_a t_a z_saved e_a p_a r_a q_a z_as, oX0 c_a c_points c_count c_as c_ad c_ar c_ah c_ed, aI cI c_as 20 c_sets, aD cD c_ad 20 c_scores, aZ cZ c_ar 20 c_rated, aI cI c_ah 8 c_hold])) (As := [.int x1]) (rest := []) ⟨hx, hb, hml, hown, hts⟩ hK hP hD hS hA (c_X0_has l G cI cD cZ cJ cO c_a c_as c_ad c_ar c_ah c_points c_count c_ed c_sets c_scores c_rated c_hold x1 _ h) (cwV 1 hts gX7_setScore_X0_has rfl rfl rfl (by decide +kernel) ⟨Nat.le_of_ble_eq_true rfl, Nat.le_of_ble_eq_true rfl⟩) 0 rfl rfl [1, 2, 3, 4, 5] [0] [0, 1, 2, 3, 4, 5] rfl rfl rfl (fun _ => rfl) rfl rfl hl.1 (Nat.le_of_ble_eq_true rfl) ⟨Nat.zero_le _, Nat.zero_le _⟩ dX7_setScore_5 (fun r_1 u H locs h hP hD hS => ?_)
  have hP : va_P G vwCl [oX7 z_a c_a s_a d_a t_a z_saved e_a p_a r_a q_a z_as, oX0 c_a c_points c_count c_as c_ad c_ar c_ah c_ed, aI cI c_as 20 c_sets, aD cD c_ad 20 c_scores, aZ cZ c_ar 20 c_rated, aI cI c_ah 8 c_hold] H := hP
  have hD : va_D A [oX7 z_a c_a s_a d_a t_a z_saved e_a p_a r_a q_a z_as, oX0 c_a c_points c_count c_as c_ad c_ar c_ah c_ed, aI cI c_as 20 c_sets, aD cD c_ad 20 c_scores, aZ cZ c_ar 20 c_rated, aI cI c_ah 8 c_hold] := hD
  obtain ⟨ha, hf⟩ := h
  refine lv_if_ne (tgt := 14) hx hb dX7_setScore_8 (by decide) (fun hc => ?_) (fun hc => ?_)
  · have h := ha hc
    clear ha hf
    refine lv_iload_n hx hb dX7_setScore_14 rfl (lv_at hl 2 rfl) ?_
    obtain ⟨ha, hf⟩ := h
    refine lv_if_ne (tgt := 32) hx hb dX7_setScore_15 (by decide) (fun hc => ?_) (fun hc => ?_)
    · have h := ha hc
      clear ha hf
      exact b_32  _ _ h d0 hd0 _ _ _ ⟨hP, hD, hS, lv_sub hl [0, 1, 2, 3] rfl⟩
    · have h := hf hc
      clear ha hf
      refine lv_iload_n hx hb dX7_setScore_18 rfl (lv_at hl 3 rfl) ?_
      obtain ⟨ha, hf⟩ := h
      refine lv_if_ne (tgt := 32) hx hb dX7_setScore_19 (by decide) (fun hc => ?_) (fun hc => ?_)
      · have h := ha hc
        clear ha hf
        exact b_32  _ _ h d0 hd0 _ _ _ ⟨hP, hD, hS, lv_sub hl [0, 1, 2, 3] rfl⟩
      · have h := hf hc
        clear ha hf
        refine lv_aload_n hx hb dX7_setScore_22 rfl (lv_at hl 0 rfl) ?_
        refine va_get (D := G) (ci := 7) (v := .ref c_a) (C := RX7) (T := TX7) (N := 10) hx hb hts i_X7 hown hK.1 hP 0 rfl rfl 0 (by decide) f_12 (fun _ h9 => h9) rfl dX7_setScore_23 ?_
        refine lv_iload_n hx hb dX7_setScore_26 rfl (lv_at hl 1 rfl) ?_
        refine k_Vv (wr := [oX7 z_a c_a s_a d_a t_a z_saved e_a p_a r_a q_a z_as]) (wf := (fun (u : (Nat → UInt64) × (Nat → Int32)) => [oX7 z_a c_a s_a d_a t_a z_saved e_a p_a r_a q_a z_as, oX0 c_a c_points c_count c_as c_ad c_ar c_ah c_ed, aI cI c_as 20 c_sets, aD cD c_ad 20 u.1, aZ cZ c_ar 20 u.2, aI cI c_ah 8 c_hold])) (As := [.int x1]) (rest := []) ⟨hx, hb, hml, hown, hts⟩ hK hP hD hS hA (c_X0_unrate l G cI cD cZ cJ cO c_a c_as c_ad c_ar c_ah c_points c_count c_ed c_sets c_scores c_rated c_hold x1 _ h) (cwV 1 hts gX7_setScore_X0_unrate rfl rfl rfl (by decide +kernel) ⟨Nat.le_of_ble_eq_true rfl, Nat.le_of_ble_eq_true rfl⟩) 0 rfl rfl [1, 2, 3, 4, 5] [0] [0, 1, 2, 3, 4, 5] rfl rfl rfl (fun _ => rfl) rfl rfl hl.1 (Nat.le_of_ble_eq_true rfl) ⟨Nat.zero_le _, Nat.zero_le _⟩ dX7_setScore_27 (fun u H locs h hP hD hS => ?_)
        obtain ⟨c_scores_6, c_rated_7⟩ := u
        have hP : va_P G vwCl [oX7 z_a c_a s_a d_a t_a z_saved e_a p_a r_a q_a z_as, oX0 c_a c_points c_count c_as c_ad c_ar c_ah c_ed, aI cI c_as 20 c_sets, aD cD c_ad 20 c_scores_6, aZ cZ c_ar 20 c_rated_7, aI cI c_ah 8 c_hold] H := hP
        have hD : va_D A [oX7 z_a c_a s_a d_a t_a z_saved e_a p_a r_a q_a z_as, oX0 c_a c_points c_count c_as c_ad c_ar c_ah c_ed, aI cI c_as 20 c_sets, aD cD c_ad 20 c_scores_6, aZ cZ c_ar 20 c_rated_7, aI cI c_ah 8 c_hold] := hD
        refine lv_iconst (v := (0 : Int32)) hx hb dX7_setScore_30 (by decide) ?_
        exact hret _ (c_scores_6, c_rated_7) _ _ _ _ rfl h hP hD hS dX7_setScore_31
  · have h := hf hc
    clear ha hf
    refine lv_bipush (v := (-2 : Int32)) hx hb dX7_setScore_11 (by decide) ?_
    exact hret _ (c_scores, c_rated) _ _ _ _ rfl h hP hD hS dX7_setScore_13
abbrev rm_X8_setScore : Room := { frames := 2, cells := 0, slots := 0, locals := 46 }
def wp_X8_setScore_b35 (x1 : Int32) (x2 : Int32) (x3 : Int32) (m_many : Int32) (Q : Int32 → (Nat → UInt64) → Prop)  (x4 : UInt64) (t0 : Int32) (m_score : Nat → UInt64) : Prop := vp_in x1 20 ∧ Q t0 (vf_upd m_score x1.toNatClampNeg x4)
def wp_X8_setScore (x1 : Int32) (x2 : Int32) (x3 : Int32) (m_many : Int32) (m_score : Nat → UInt64) (Q : Int32 → (Nat → UInt64) → Prop) : Prop := wp_X8_isConcept x1 m_many (fun (r_1 : Int32) => ((¬ r_1 = 0) → ∀ (r_2 : UInt64), alike64 r_2 (FP.ddiv (FP.i2d x2) (FP.i2d x3)) = true → vp_in x1 20 ∧ ((¬ (Op.cmpValue (FP.dcmp r_2 (m_score x1.toNatClampNeg)) .l) = 0) → wp_X8_setScore_b35 x1 x2 x3 m_many Q r_2 (0 : Int32) m_score) ∧ (((Op.cmpValue (FP.dcmp r_2 (m_score x1.toNatClampNeg)) .l) = 0) → wp_X8_setScore_b35 x1 x2 x3 m_many Q r_2 (1 : Int32) m_score)) ∧ ((r_1 = 0) → Q (-2 : Int32) m_score))
set_option maxRecDepth 100000 in
set_option maxHeartbeats 4000000 in
theorem c_X8_setScore (l : Launch) (G : va_G) (cI cD cZ cJ cO : ClassId) (m_a m_abySize m_aconcept m_ascore m_aexamplePoint m_aexampleLabel m_atype m_alength m_awhole m_atwofold m_ashotConcept m_ashotScore m_ashotPoint m_ashotLabel m_alayerOf m_aplanOf : Nat) (m_m : Int32) (m_many : Int32) (m_examples : Int32) (m_hasShot : Int32) (m_shotM : Int32) (m_shotMany : Int32) (m_shotExamples : Int32) (m_bySize : Nat → Int32) (m_concept : Nat → Int32) (m_score : Nat → UInt64) (m_examplePoint : Nat → Int32) (m_exampleLabel : Nat → Int32) (m_type : Nat → Int32) (m_length : Nat → Int32) (m_whole : Nat → Int64) (m_twofold : Nat → UInt64) (m_shotConcept : Nat → Int32) (m_shotScore : Nat → UInt64) (m_shotPoint : Nat → Int32) (m_shotLabel : Nat → Int32) (m_layerOf : Nat → Int32) (m_planOf : Nat → Int32) (x1 : Int32) (x2 : Int32) (x3 : Int32) (Q : Int32 → (Nat → UInt64) → Prop) (h : wp_X8_setScore x1 x2 x3 m_many m_score Q) : CtID l yX8_setScore wsX8_setScore rm_X8_setScore G (TY cI cD cZ cJ cO) [.ref m_a, .int x1, .int x2, .int x3] [oX8 m_a m_m m_abySize m_many m_aconcept m_ascore m_examples m_aexamplePoint m_aexampleLabel m_atype m_alength m_awhole m_atwofold m_hasShot m_shotM m_shotMany m_ashotConcept m_ashotScore m_shotExamples m_ashotPoint m_ashotLabel m_alayerOf m_aplanOf, aI cI m_abySize 256 m_bySize, aI cI m_aconcept 20 m_concept, aD cD m_ascore 20 m_score, aI cI m_aexamplePoint 12 m_examplePoint, aI cI m_aexampleLabel 12 m_exampleLabel, aI cI m_atype 4 m_type, aI cI m_alength 4 m_length, aJ cJ m_awhole 160 m_whole, aD cD m_atwofold 160 m_twofold, aI cI m_ashotConcept 20 m_shotConcept, aD cD m_ashotScore 20 m_shotScore, aI cI m_ashotPoint 12 m_shotPoint, aI cI m_ashotLabel 12 m_shotLabel, aI cI m_alayerOf 20 m_layerOf, aI cI m_aplanOf 20 m_planOf] (fun (r : Int32) (u : (Nat → UInt64)) => Q r u) (fun (u : (Nat → UInt64)) => [oX8 m_a m_m m_abySize m_many m_aconcept m_ascore m_examples m_aexamplePoint m_aexampleLabel m_atype m_alength m_awhole m_atwofold m_hasShot m_shotM m_shotMany m_ashotConcept m_ashotScore m_shotExamples m_ashotPoint m_ashotLabel m_alayerOf m_aplanOf, aI cI m_abySize 256 m_bySize, aI cI m_aconcept 20 m_concept, aD cD m_ascore 20 u, aI cI m_aexamplePoint 12 m_examplePoint, aI cI m_aexampleLabel 12 m_exampleLabel, aI cI m_atype 4 m_type, aI cI m_alength 4 m_length, aJ cJ m_awhole 160 m_whole, aD cD m_atwofold 160 m_twofold, aI cI m_ashotConcept 20 m_shotConcept, aD cD m_ashotScore 20 m_shotScore, aI cI m_ashotPoint 12 m_shotPoint, aI cI m_ashotLabel 12 m_shotLabel, aI cI m_alayerOf 20 m_layerOf, aI cI m_aplanOf 20 m_planOf]) := by
  refine ct_openID (cc := cX8_setScore) (maxL := 7) (ty := .int) (by decide) rfl (Nat.le_of_ble_eq_true rfl) ?_
  intro p e s m args below meth c A Z ls hx hb hml hown hts0 hK0 hA hret0 hP hD hS hl d0 hd0
  have hown : s.vm.findClass RX8 = some m.cls := hown
  have hl : lv_has ls 7 [(0, .ref m_a), (1, .int x1), (2, .int x2), (3, .int x3)] := hl
  have i_X8 : ∀ w ∈ wsX80, w ∈ wsX8_setScore := fun _ h => List.mem_cons_of_mem _ (List.mem_append_right _ (h))
  have b_35 : ∀ (x4 : UInt64) (t0 : Int32) (m_score : Nat → UInt64), wp_X8_setScore_b35 x1 x2 x3 m_many Q x4 t0 m_score → ∀ (d0 : Drawn), s.drawn.sameBut d0 lw_cs → ∀ (H : Heap) (locs : List Loc) (ls : Array Slot), ST G A s.heap [oX8 m_a m_m m_abySize m_many m_aconcept m_ascore m_examples m_aexamplePoint m_aexampleLabel m_atype m_alength m_awhole m_atwofold m_hasShot m_shotM m_shotMany m_ashotConcept m_ashotScore m_shotExamples m_ashotPoint m_ashotLabel m_alayerOf m_aplanOf, aI cI m_abySize 256 m_bySize, aI cI m_aconcept 20 m_concept, aD cD m_ascore 20 m_score, aI cI m_aexamplePoint 12 m_examplePoint, aI cI m_aexampleLabel 12 m_exampleLabel, aI cI m_atype 4 m_type, aI cI m_alength 4 m_length, aJ cJ m_awhole 160 m_whole, aD cD m_atwofold 160 m_twofold, aI cI m_ashotConcept 20 m_shotConcept, aD cD m_ashotScore 20 m_shotScore, aI cI m_ashotPoint 12 m_shotPoint, aI cI m_ashotLabel 12 m_shotLabel, aI cI m_alayerOf 20 m_layerOf, aI cI m_aplanOf 20 m_planOf] 7 [(0, .ref m_a), (1, .int x1), (4, .double x4)] H locs ls → W p l e rm_X8_setScore (s.setDrawn d0) m args below meth c H locs 0 0 Z (F0 m 35 ls [.int t0]) := by
    intro x4 t0 m_score h d0 hd0 H locs ls hst
    obtain ⟨hP, hD, hS, hl⟩ := hst
    have hts := dr_words hts0 d0
    have hK := KK.drawn hK0 d0
    have hret := hret0 d0 hd0
    have f_22 := hts (.fieldLink RX8 22 "TeachingSetsModel" "score" "[D") (List.mem_of_getElem? (i := 1) rfl)
    refine lv_istore (lv' := [(6, .int t0), (0, .ref m_a), (1, .int x1), (4, .double x4)]) hx hb dX8_setScore_35 hl (by decide) rfl (fun ls hl => ?_)
    refine lv_aload_n hx hb dX8_setScore_37 rfl (lv_at hl 1 rfl) ?_
    refine va_get (D := G) (ci := 8) (v := .ref m_ascore) (C := RX8) (T := TX8) (N := 22) hx hb hts i_X8 hown hK.1 hP 0 rfl rfl 4 (by decide) f_22 (fun _ h9 => h9) rfl dX8_setScore_38 ?_
    refine lv_iload_n hx hb dX8_setScore_41 rfl (lv_at hl 2 rfl) ?_
    refine lv_dload hx hb dX8_setScore_42 (lv_at hl 3 rfl) ?_
    obtain ⟨hi, h⟩ := h
    refine va_dast hx hb hK.1 hP hD hS 3 1 rfl rfl hi dX8_setScore_44 (fun H locs hP hD hS => ?_)
    have hP : va_P G vwCl [oX8 m_a m_m m_abySize m_many m_aconcept m_ascore m_examples m_aexamplePoint m_aexampleLabel m_atype m_alength m_awhole m_atwofold m_hasShot m_shotM m_shotMany m_ashotConcept m_ashotScore m_shotExamples m_ashotPoint m_ashotLabel m_alayerOf m_aplanOf, aI cI m_abySize 256 m_bySize, aI cI m_aconcept 20 m_concept, aD cD m_ascore 20 (vf_upd m_score x1.toNatClampNeg x4), aI cI m_aexamplePoint 12 m_examplePoint, aI cI m_aexampleLabel 12 m_exampleLabel, aI cI m_atype 4 m_type, aI cI m_alength 4 m_length, aJ cJ m_awhole 160 m_whole, aD cD m_atwofold 160 m_twofold, aI cI m_ashotConcept 20 m_shotConcept, aD cD m_ashotScore 20 m_shotScore, aI cI m_ashotPoint 12 m_shotPoint, aI cI m_ashotLabel 12 m_shotLabel, aI cI m_alayerOf 20 m_layerOf, aI cI m_aplanOf 20 m_planOf] H := hP
    have hD : va_D A [oX8 m_a m_m m_abySize m_many m_aconcept m_ascore m_examples m_aexamplePoint m_aexampleLabel m_atype m_alength m_awhole m_atwofold m_hasShot m_shotM m_shotMany m_ashotConcept m_ashotScore m_shotExamples m_ashotPoint m_ashotLabel m_alayerOf m_aplanOf, aI cI m_abySize 256 m_bySize, aI cI m_aconcept 20 m_concept, aD cD m_ascore 20 (vf_upd m_score x1.toNatClampNeg x4), aI cI m_aexamplePoint 12 m_examplePoint, aI cI m_aexampleLabel 12 m_exampleLabel, aI cI m_atype 4 m_type, aI cI m_alength 4 m_length, aJ cJ m_awhole 160 m_whole, aD cD m_atwofold 160 m_twofold, aI cI m_ashotConcept 20 m_shotConcept, aD cD m_ashotScore 20 m_shotScore, aI cI m_ashotPoint 12 m_shotPoint, aI cI m_ashotLabel 12 m_shotLabel, aI cI m_alayerOf 20 m_layerOf, aI cI m_aplanOf 20 m_planOf] := hD
    refine lv_iload hx hb dX8_setScore_45 (lv_at hl 0 rfl) ?_
    exact hret _ (vf_upd m_score x1.toNatClampNeg x4) _ _ _ _ rfl h hP hD hS dX8_setScore_47
  have hts := dr_words hts0 d0
  have hK := KK.drawn hK0 d0
  have hret := hret0 d0 hd0
  have f_22 := hts (.fieldLink RX8 22 "TeachingSetsModel" "score" "[D") (List.mem_of_getElem? (i := 1) rfl)
  refine lv_aload_n hx hb dX8_setScore_0 rfl (lv_at hl 0 rfl) ?_
  refine lv_iload_n hx hb dX8_setScore_1 rfl (lv_at hl 1 rfl) ?_
  refine k_Vi (wr := []) (wf := (fun (u : Unit) => [oX8 m_a m_m m_abySize m_many m_aconcept m_ascore m_examples m_aexamplePoint m_aexampleLabel m_atype m_alength m_awhole m_atwofold m_hasShot m_shotM m_shotMany m_ashotConcept m_ashotScore m_shotExamples m_ashotPoint m_ashotLabel m_alayerOf m_aplanOf, aI cI m_abySize 256 m_bySize, aI cI m_aconcept 20 m_concept, aD cD m_ascore 20 m_score, aI cI m_aexamplePoint 12 m_examplePoint, aI cI m_aexampleLabel 12 m_exampleLabel, aI cI m_atype 4 m_type, aI cI m_alength 4 m_length, aJ cJ m_awhole 160 m_whole, aD cD m_atwofold 160 m_twofold, aI cI m_ashotConcept 20 m_shotConcept, aD cD m_ashotScore 20 m_shotScore, aI cI m_ashotPoint 12 m_shotPoint, aI cI m_ashotLabel 12 m_shotLabel, aI cI m_alayerOf 20 m_layerOf, aI cI m_aplanOf 20 m_planOf])) (As := [.int x1]) (rest := []) ⟨hx, hb, hml, hown, hts⟩ hK hP hD hS hA (c_X8_isConcept l G cI cD cZ cJ cO m_a m_abySize m_aconcept m_ascore m_aexamplePoint m_aexampleLabel m_atype m_alength m_awhole m_atwofold m_ashotConcept m_ashotScore m_ashotPoint m_ashotLabel m_alayerOf m_aplanOf m_m m_many m_examples m_hasShot m_shotM m_shotMany m_shotExamples m_bySize m_concept m_score m_examplePoint m_exampleLabel m_type m_length m_whole m_twofold m_shotConcept m_shotScore m_shotPoint m_shotLabel m_layerOf m_planOf x1 _ h) (cwV 1 hts gX8_setScore_X8_isConcept rfl rfl rfl (by decide +kernel) ⟨Nat.le_of_ble_eq_true rfl, Nat.le_of_ble_eq_true rfl⟩) 0 rfl rfl [0, 1, 2, 3, 4, 5, 6, 7, 8, 9, 10, 11, 12, 13, 14, 15] [] [0, 1, 2, 3, 4, 5, 6, 7, 8, 9, 10, 11, 12, 13, 14, 15] rfl rfl rfl (fun _ => rfl) rfl rfl hl.1 (Nat.le_of_ble_eq_true rfl) ⟨Nat.zero_le _, Nat.zero_le _⟩ dX8_setScore_2 (fun r_1 u H locs h hP hD hS => ?_)
  have hP : va_P G vwCl [oX8 m_a m_m m_abySize m_many m_aconcept m_ascore m_examples m_aexamplePoint m_aexampleLabel m_atype m_alength m_awhole m_atwofold m_hasShot m_shotM m_shotMany m_ashotConcept m_ashotScore m_shotExamples m_ashotPoint m_ashotLabel m_alayerOf m_aplanOf, aI cI m_abySize 256 m_bySize, aI cI m_aconcept 20 m_concept, aD cD m_ascore 20 m_score, aI cI m_aexamplePoint 12 m_examplePoint, aI cI m_aexampleLabel 12 m_exampleLabel, aI cI m_atype 4 m_type, aI cI m_alength 4 m_length, aJ cJ m_awhole 160 m_whole, aD cD m_atwofold 160 m_twofold, aI cI m_ashotConcept 20 m_shotConcept, aD cD m_ashotScore 20 m_shotScore, aI cI m_ashotPoint 12 m_shotPoint, aI cI m_ashotLabel 12 m_shotLabel, aI cI m_alayerOf 20 m_layerOf, aI cI m_aplanOf 20 m_planOf] H := hP
  have hD : va_D A [oX8 m_a m_m m_abySize m_many m_aconcept m_ascore m_examples m_aexamplePoint m_aexampleLabel m_atype m_alength m_awhole m_atwofold m_hasShot m_shotM m_shotMany m_ashotConcept m_ashotScore m_shotExamples m_ashotPoint m_ashotLabel m_alayerOf m_aplanOf, aI cI m_abySize 256 m_bySize, aI cI m_aconcept 20 m_concept, aD cD m_ascore 20 m_score, aI cI m_aexamplePoint 12 m_examplePoint, aI cI m_aexampleLabel 12 m_exampleLabel, aI cI m_atype 4 m_type, aI cI m_alength 4 m_length, aJ cJ m_awhole 160 m_whole, aD cD m_atwofold 160 m_twofold, aI cI m_ashotConcept 20 m_shotConcept, aD cD m_ashotScore 20 m_shotScore, aI cI m_ashotPoint 12 m_shotPoint, aI cI m_ashotLabel 12 m_shotLabel, aI cI m_alayerOf 20 m_layerOf, aI cI m_aplanOf 20 m_planOf] := hD
  obtain ⟨ha, hf⟩ := h
  refine lv_if_ne (tgt := 11) hx hb dX8_setScore_5 (by decide) (fun hc => ?_) (fun hc => ?_)
  · have h := ha hc
    clear ha hf
    refine lv_iload_n hx hb dX8_setScore_11 rfl (lv_at hl 2 rfl) ?_
    refine lv_i2d hx hb dX8_setScore_12 ?_
    refine lv_iload_n hx hb dX8_setScore_13 rfl (lv_at hl 3 rfl) ?_
    refine lv_i2d hx hb dX8_setScore_14 ?_
    refine lv_ddiv_any hd0 lw_bits hx hb dX8_setScore_15 (fun r_2 d0 hal hd0 => ?_)
    have h := h r_2 hal
    have hts := dr_words hts0 d0
    have hK := KK.drawn hK0 d0
    have hret := hret0 d0 hd0
    have f_22 := hts (.fieldLink RX8 22 "TeachingSetsModel" "score" "[D") (List.mem_of_getElem? (i := 1) rfl)
    refine lv_dstore (lv' := [(4, .double r_2), (0, .ref m_a), (1, .int x1), (2, .int x2), (3, .int x3)]) hx hb dX8_setScore_16 hl (by decide) rfl (fun ls hl => ?_)
    refine lv_dload hx hb dX8_setScore_18 (lv_at hl 0 rfl) ?_
    refine lv_aload_n hx hb dX8_setScore_20 rfl (lv_at hl 1 rfl) ?_
    refine va_get (D := G) (ci := 8) (v := .ref m_ascore) (C := RX8) (T := TX8) (N := 22) hx hb hts i_X8 hown hK.1 hP 0 rfl rfl 4 (by decide) f_22 (fun _ h9 => h9) rfl dX8_setScore_21 ?_
    refine lv_iload_n hx hb dX8_setScore_24 rfl (lv_at hl 2 rfl) ?_
    obtain ⟨hi, h⟩ := h
    refine va_dald hx hb hK.1 hP 3 1 rfl rfl hi dX8_setScore_25 ?_
    refine lv_dcmp hx hb dX8_setScore_26 ?_
    obtain ⟨ha, hf⟩ := h
    refine lv_if_ne (tgt := 34) hx hb dX8_setScore_27 (by decide) (fun hc => ?_) (fun hc => ?_)
    · have h := ha hc
      clear ha hf
      refine lv_iconst (v := (0 : Int32)) hx hb dX8_setScore_34 (by decide) ?_
      exact b_35  _ _ _ h d0 hd0 _ _ _ ⟨hP, hD, hS, lv_sub hl [1, 2, 0] rfl⟩
    · have h := hf hc
      clear ha hf
      refine lv_iconst (v := (1 : Int32)) hx hb dX8_setScore_30 (by decide) ?_
      refine lv_goto (tgt := 35) hx hb dX8_setScore_31 (by decide) ?_
      exact b_35  _ _ _ h d0 hd0 _ _ _ ⟨hP, hD, hS, lv_sub hl [1, 2, 0] rfl⟩
  · have h := hf hc
    clear ha hf
    refine lv_bipush (v := (-2 : Int32)) hx hb dX8_setScore_8 (by decide) ?_
    exact hret _ m_score _ _ _ _ rfl h hP hD hS dX8_setScore_10
abbrev rm_X2_placeOf : Room := { frames := 0, cells := 0, slots := 0, locals := 0 }
def wp_X2_placeOf (x0 : Int32) (Q : Int32 → Prop) : Prop := Q ((x0 &&& (15 : Int32)) <<< ((2 : Int32) &&& 31))
set_option maxRecDepth 100000 in
set_option maxHeartbeats 4000000 in
theorem c_X2_placeOf (l : Launch) (G : va_G) (cI cD cZ cJ cO : ClassId) (x0 : Int32) (Q : Int32 → Prop) (h : wp_X2_placeOf x0 Q) : CtI l yX2_placeOf wsX2_placeOf rm_X2_placeOf G (TY cI cD cZ cJ cO) [.int x0] [] (fun (r : Int32) (u : Unit) => Q r) (fun (u : Unit) => []) := by
  refine ct_openI (cc := cX2_placeOf) (maxL := 1) (ty := .int) (by decide) rfl (Nat.le_of_ble_eq_true rfl) ?_
  intro p e s m args below meth c A Z ls hx hb hml hown hts hK hA hret hP hD hS hl
  have hown : s.vm.findClass RX2 = some m.cls := hown
  have hl : lv_has ls 1 [(0, .int x0)] := hl
  refine lv_iload_n hx hb dX2_placeOf_0 rfl (lv_at hl 0 rfl) ?_
  refine lv_bipush (v := (15 : Int32)) hx hb dX2_placeOf_1 (by decide) ?_
  refine lv_iand hx hb dX2_placeOf_3 ?_
  refine lv_iconst (v := (2 : Int32)) hx hb dX2_placeOf_4 (by decide) ?_
  refine lv_ishl hx hb dX2_placeOf_5 ?_
  exact hret _ () _ _ _ _ rfl h hP hD hS dX2_placeOf_6
abbrev rm_X2_knownDepth : Room := { frames := 1, cells := 0, slots := 0, locals := 20 }
def wp_X2_knownDepth (x1 : Int32) (q_depths : Nat → Int64) (Q : Int32 → Prop) : Prop := vp_in (x1 >>> ((4 : Int32) &&& 31)) 411 ∧ wp_X2_placeOf x1 (fun (r_1 : Int32) => Q (((((q_depths (x1 >>> ((4 : Int32) &&& 31)).toNatClampNeg) >>> (r_1.toInt64 &&& 63)) &&& (15 : Int64)).toInt32) - (1 : Int32)))
set_option maxRecDepth 100000 in
set_option maxHeartbeats 4000000 in
theorem c_X2_knownDepth (l : Launch) (G : va_G) (cI cD cZ cJ cO : ClassId) (q_a q_ad c_a : Nat) (q_depths : Nat → Int64) (x1 : Int32) (Q : Int32 → Prop) (h : wp_X2_knownDepth x1 q_depths Q) : CtI l yX2_knownDepth wsX2_knownDepth rm_X2_knownDepth G (TY cI cD cZ cJ cO) [.ref q_a, .int x1] [oX2 q_a c_a q_ad, aJ cJ q_ad 411 q_depths] (fun (r : Int32) (u : Unit) => Q r) (fun (u : Unit) => [oX2 q_a c_a q_ad, aJ cJ q_ad 411 q_depths]) := by
  refine ct_openI (cc := cX2_knownDepth) (maxL := 2) (ty := .int) (by decide) rfl (Nat.le_of_ble_eq_true rfl) ?_
  intro p e s m args below meth c A Z ls hx hb hml hown hts hK hA hret hP hD hS hl
  have hown : s.vm.findClass RX2 = some m.cls := hown
  have hl : lv_has ls 2 [(0, .ref q_a), (1, .int x1)] := hl
  have f_15 := hts (.fieldLink RX2 15 "TeachingSets$Queries" "depths" "[J") (List.mem_of_getElem? (i := 1) rfl)
  have i_X2 : ∀ w ∈ wsX20, w ∈ wsX2_knownDepth := fun _ h => List.mem_cons_of_mem _ (List.mem_append_right _ (h))
  refine lv_aload_n hx hb dX2_knownDepth_0 rfl (lv_at hl 0 rfl) ?_
  refine va_get (D := G) (ci := 2) (v := .ref q_ad) (C := RX2) (T := TX2) (N := 2) hx hb hts i_X2 hown hK.1 hP 0 rfl rfl 1 (by decide) f_15 (fun _ h9 => h9) rfl dX2_knownDepth_1 ?_
  refine lv_iload_n hx hb dX2_knownDepth_4 rfl (lv_at hl 1 rfl) ?_
  refine lv_iconst (v := (4 : Int32)) hx hb dX2_knownDepth_5 (by decide) ?_
  refine lv_ishr hx hb dX2_knownDepth_6 ?_
  obtain ⟨hi, h⟩ := h
  refine va_lald hx hb hK.1 hP 1 3 rfl rfl hi dX2_knownDepth_7 ?_
  refine lv_iload_n hx hb dX2_knownDepth_8 rfl (lv_at hl 1 rfl) ?_
  refine k_Si (wr := [oX2 q_a c_a q_ad, aJ cJ q_ad 411 q_depths]) (wf := (fun (u : Unit) => [oX2 q_a c_a q_ad, aJ cJ q_ad 411 q_depths])) (As := [.int x1]) (rest := [.long (q_depths (x1 >>> ((4 : Int32) &&& 31)).toNatClampNeg)]) ⟨hx, hb, hml, hown, hts⟩ hK hP hD hS hA (c_X2_placeOf l G cI cD cZ cJ cO x1 _ h) (va_cwS 1 hts gX2_knownDepth_X2_placeOf rfl rfl rfl (by decide +kernel) ⟨Nat.le_of_ble_eq_true rfl, Nat.le_of_ble_eq_true rfl⟩) [] [0, 1] [0, 1] rfl rfl rfl (fun _ => rfl) rfl rfl hl.1 (Nat.le_of_ble_eq_true rfl) ⟨Nat.zero_le _, Nat.zero_le _⟩ dX2_knownDepth_9 (fun r_1 u H locs h hP hD hS => ?_)
  have hP : va_P G vwCl [oX2 q_a c_a q_ad, aJ cJ q_ad 411 q_depths] H := hP
  have hD : va_D A [oX2 q_a c_a q_ad, aJ cJ q_ad 411 q_depths] := hD
  refine lv_lshr hx hb dX2_knownDepth_12 rfl ?_
  refine lv_ldc2 (v := (15 : Int64)) hx hb hown (hts _ (List.mem_of_getElem? (i := 2) rfl)) dX2_knownDepth_13 ?_
  refine lv_land hx hb dX2_knownDepth_16 ?_
  refine lv_l2i hx hb dX2_knownDepth_17 rfl ?_
  refine lv_iconst (v := (1 : Int32)) hx hb dX2_knownDepth_18 (by decide) ?_
  refine lv_isub hx hb dX2_knownDepth_19 ?_
  exact hret _ () _ _ _ _ rfl h hP hD hS dX2_knownDepth_20
abbrev rm_X2_keepDepth : Room := { frames := 1, cells := 0, slots := 0, locals := 20 }
def wp_X2_keepDepth (x1 : Int32) (x2 : Int32) (q_depths : Nat → Int64) (Q : (Nat → Int64) → Prop) : Prop := vp_in (x1 >>> ((4 : Int32) &&& 31)) 411 ∧ wp_X2_placeOf x1 (fun (r_1 : Int32) => vp_in (x1 >>> ((4 : Int32) &&& 31)) 411 ∧ Q (vp_updL q_depths (x1 >>> ((4 : Int32) &&& 31)).toNatClampNeg ((q_depths (x1 >>> ((4 : Int32) &&& 31)).toNatClampNeg) ||| (((x2.toInt64) + (1 : Int64)) <<< (r_1.toInt64 &&& 63)))))
set_option maxRecDepth 100000 in
set_option maxHeartbeats 4000000 in
theorem c_X2_keepDepth (l : Launch) (G : va_G) (cI cD cZ cJ cO : ClassId) (q_a q_ad c_a : Nat) (q_depths : Nat → Int64) (x1 : Int32) (x2 : Int32) (Q : (Nat → Int64) → Prop) (h : wp_X2_keepDepth x1 x2 q_depths Q) : CtV l yX2_keepDepth wsX2_keepDepth rm_X2_keepDepth G (TY cI cD cZ cJ cO) [.ref q_a, .int x1, .int x2] [oX2 q_a c_a q_ad, aJ cJ q_ad 411 q_depths] (fun (u : (Nat → Int64)) => Q u) (fun (u : (Nat → Int64)) => [oX2 q_a c_a q_ad, aJ cJ q_ad 411 u]) := by
  refine ct_openV (cc := cX2_keepDepth) (maxL := 3) (by decide) rfl (Nat.le_of_ble_eq_true rfl) ?_
  intro p e s m args below meth c A Z ls hx hb hml hown hts hK hA hret hP hD hS hl
  have hown : s.vm.findClass RX2 = some m.cls := hown
  have hl : lv_has ls 3 [(0, .ref q_a), (1, .int x1), (2, .int x2)] := hl
  have f_15 := hts (.fieldLink RX2 15 "TeachingSets$Queries" "depths" "[J") (List.mem_of_getElem? (i := 1) rfl)
  have i_X2 : ∀ w ∈ wsX20, w ∈ wsX2_keepDepth := fun _ h => List.mem_cons_of_mem _ (List.mem_append_right _ (h))
  refine lv_aload_n hx hb dX2_keepDepth_0 rfl (lv_at hl 0 rfl) ?_
  refine va_get (D := G) (ci := 2) (v := .ref q_ad) (C := RX2) (T := TX2) (N := 2) hx hb hts i_X2 hown hK.1 hP 0 rfl rfl 1 (by decide) f_15 (fun _ h9 => h9) rfl dX2_keepDepth_1 ?_
  refine lv_iload_n hx hb dX2_keepDepth_4 rfl (lv_at hl 1 rfl) ?_
  refine lv_iconst (v := (4 : Int32)) hx hb dX2_keepDepth_5 (by decide) ?_
  refine lv_ishr hx hb dX2_keepDepth_6 ?_
  refine lv_dup2_11 hx hb dX2_keepDepth_7 rfl rfl ?_
  obtain ⟨hi, h⟩ := h
  refine va_lald hx hb hK.1 hP 1 3 rfl rfl hi dX2_keepDepth_8 ?_
  refine lv_iload_n hx hb dX2_keepDepth_9 rfl (lv_at hl 2 rfl) ?_
  refine lv_i2l hx hb dX2_keepDepth_10 rfl ?_
  refine lv_lconst (v := (1 : Int64)) hx hb dX2_keepDepth_11 (by decide) ?_
  refine lv_ladd hx hb dX2_keepDepth_12 ?_
  refine lv_iload_n hx hb dX2_keepDepth_13 rfl (lv_at hl 1 rfl) ?_
  refine k_Si (wr := [oX2 q_a c_a q_ad, aJ cJ q_ad 411 q_depths]) (wf := (fun (u : Unit) => [oX2 q_a c_a q_ad, aJ cJ q_ad 411 q_depths])) (As := [.int x1]) (rest := [.long ((x2.toInt64) + (1 : Int64)), .long (q_depths (x1 >>> ((4 : Int32) &&& 31)).toNatClampNeg), .int (x1 >>> ((4 : Int32) &&& 31)), .ref q_ad]) ⟨hx, hb, hml, hown, hts⟩ hK hP hD hS hA (c_X2_placeOf l G cI cD cZ cJ cO x1 _ h) (va_cwS 1 hts gX2_keepDepth_X2_placeOf rfl rfl rfl (by decide +kernel) ⟨Nat.le_of_ble_eq_true rfl, Nat.le_of_ble_eq_true rfl⟩) [] [0, 1] [0, 1] rfl rfl rfl (fun _ => rfl) rfl rfl hl.1 (Nat.le_of_ble_eq_true rfl) ⟨Nat.zero_le _, Nat.zero_le _⟩ dX2_keepDepth_14 (fun r_1 u H locs h hP hD hS => ?_)
  have hP : va_P G vwCl [oX2 q_a c_a q_ad, aJ cJ q_ad 411 q_depths] H := hP
  have hD : va_D A [oX2 q_a c_a q_ad, aJ cJ q_ad 411 q_depths] := hD
  refine lv_lshl hx hb dX2_keepDepth_17 rfl ?_
  refine lv_lor hx hb dX2_keepDepth_18 ?_
  obtain ⟨hi, h⟩ := h
  refine va_last hx hb hK.1 hP hD hS 1 3 rfl rfl hi dX2_keepDepth_19 (fun H locs hP hD hS => ?_)
  have hP : va_P G vwCl [oX2 q_a c_a q_ad, aJ cJ q_ad 411 (vp_updL q_depths (x1 >>> ((4 : Int32) &&& 31)).toNatClampNeg ((q_depths (x1 >>> ((4 : Int32) &&& 31)).toNatClampNeg) ||| (((x2.toInt64) + (1 : Int64)) <<< (r_1.toInt64 &&& 63))))] H := hP
  have hD : va_D A [oX2 q_a c_a q_ad, aJ cJ q_ad 411 (vp_updL q_depths (x1 >>> ((4 : Int32) &&& 31)).toNatClampNeg ((q_depths (x1 >>> ((4 : Int32) &&& 31)).toNatClampNeg) ||| (((x2.toInt64) + (1 : Int64)) <<< (r_1.toInt64 &&& 63))))] := hD
  exact hret (vp_updL q_depths (x1 >>> ((4 : Int32) &&& 31)).toNatClampNeg ((q_depths (x1 >>> ((4 : Int32) &&& 31)).toNatClampNeg) ||| (((x2.toInt64) + (1 : Int64)) <<< (r_1.toInt64 &&& 63)))) _ _ _ _ h hP hD hS dX2_keepDepth_20
abbrev rm_X2_depthBy (F L : Nat) : Room := { frames := F + 4, cells := 0, slots := 0, locals := L + 120 }
def wp_X2_depthBy (K : Int32 → Int32 → Int32 → (Nat → Int64) → (Int32 → (Nat → Int64) → Prop) → Prop) (x1 : Int32) (x2 : Int32) (x3 : Int32) (x4 : Int32) (q_depths : Nat → Int64) (c_count : Int32) (c_hold : Nat → Int32) (Q : Int32 → (Nat → Int64) → Prop) : Prop := wp_X0_labelling x1 (1 : Int32) c_count c_hold (fun (r_1 : Int32) => (((x2 &&& r_1) = 0) → Q (9 : Int32) q_depths) ∧ ((¬ (x2 &&& r_1) = 0) → ((¬ (x2 &&& ((x2 &&& r_1) ^^^ (-1 : Int32))) = 0) → vp_in x1 8 ∧ K (x2 &&& r_1) (x3 + ((2 : Int32) * (POW x1.toNatClampNeg))) (x4 + (1 : Int32)) q_depths (fun (r_2 : Int32) (q_depths_3 : Nat → Int64) => vp_in x1 8 ∧ K (x2 &&& ((x2 &&& r_1) ^^^ (-1 : Int32))) (x3 + (POW x1.toNatClampNeg)) (x4 + (1 : Int32)) q_depths_3 (fun (r_4 : Int32) (q_depths_5 : Nat → Int64) => Q ((1 : Int32) + (if r_2 < r_4 then r_4 else r_2)) q_depths_5))) ∧ (((x2 &&& ((x2 &&& r_1) ^^^ (-1 : Int32))) = 0) → Q (9 : Int32) q_depths)))
set_option maxRecDepth 100000 in
set_option maxHeartbeats 4000000 in
theorem c_X2_depthBy (l : Launch) (G : va_G) (cI cD cZ cJ cO : ClassId) (aP : Nat) (q_a q_ad c_a c_as c_ad c_ar c_ah : Nat) (q_depths : Nat → Int64) (c_points : Int32) (c_count : Int32) (c_ed : Int32) (c_sets : Nat → Int32) (c_scores : Nat → UInt64) (c_rated : Nat → Int32) (c_hold : Nat → Int32) (x1 : Int32) (x2 : Int32) (x3 : Int32) (x4 : Int32) (F L : Nat) (K : Int32 → Int32 → Int32 → (Nat → Int64) → (Int32 → (Nat → Int64) → Prop) → Prop) (hrec : ∀ (x1 : Int32) (x2 : Int32) (x3 : Int32) (q_depths : Nat → Int64) (Q : Int32 → (Nat → Int64) → Prop), K x1 x2 x3 q_depths Q → CtIz l yX2_depthOf wsX2_depthOf { frames := F, cells := 0, slots := 0, locals := L } G (TY cI cD cZ cJ cO) aP [.ref q_a, .int x1, .int x2, .int x3] [oX2 q_a c_a q_ad, aJ cJ q_ad 411 q_depths, oX0 c_a c_points c_count c_as c_ad c_ar c_ah c_ed, aI cI c_as 20 c_sets, aD cD c_ad 20 c_scores, aZ cZ c_ar 20 c_rated, aI cI c_ah 8 c_hold] (fun (r : Int32) (u : (Nat → Int64)) => Q r u) (fun (u : (Nat → Int64)) => [oX2 q_a c_a q_ad, aJ cJ q_ad 411 u, oX0 c_a c_points c_count c_as c_ad c_ar c_ah c_ed, aI cI c_as 20 c_sets, aD cD c_ad 20 c_scores, aZ cZ c_ar 20 c_rated, aI cI c_ah 8 c_hold])) (Q : Int32 → (Nat → Int64) → Prop) (h : wp_X2_depthBy K x1 x2 x3 x4 q_depths c_count c_hold Q) : CtIz l yX2_depthBy wsX2_depthBy (rm_X2_depthBy F L) G (TY cI cD cZ cJ cO) aP [.ref q_a, .int x1, .int x2, .int x3, .int x4] [oX2 q_a c_a q_ad, aJ cJ q_ad 411 q_depths, oX0 c_a c_points c_count c_as c_ad c_ar c_ah c_ed, aI cI c_as 20 c_sets, aD cD c_ad 20 c_scores, aZ cZ c_ar 20 c_rated, aI cI c_ah 8 c_hold] (fun (r : Int32) (u : (Nat → Int64)) => Q r u) (fun (u : (Nat → Int64)) => [oX2 q_a c_a q_ad, aJ cJ q_ad 411 u, oX0 c_a c_points c_count c_as c_ad c_ar c_ah c_ed, aI cI c_as 20 c_sets, aD cD c_ad 20 c_scores, aZ cZ c_ar 20 c_rated, aI cI c_ah 8 c_hold]) := by
  refine ct_openIz (cc := cX2_depthBy) (maxL := 9) (ty := .int) (by decide) rfl (Nat.le_of_ble_eq_true rfl) ?_
  intro p e s m args below meth c A Z ls hx hb hml hown hts hK hA hret hP hD hS hZ hl
  have hown : s.vm.findClass RX2 = some m.cls := hown
  have hl : lv_has ls 9 [(0, .ref q_a), (1, .int x1), (2, .int x2), (3, .int x3), (4, .int x4)] := hl
  have f_9 := hts (.fieldLink RX2 9 "TeachingSets$Queries" "concepts" "LTeachingSets$Concepts;") (List.mem_of_getElem? (i := 1) rfl)
  have i_X2 : ∀ w ∈ wsX20, w ∈ wsX2_depthBy := fun _ h => List.mem_cons_of_mem _ (List.mem_append_left _ (List.mem_append_right _ (h)))
  refine lv_iload_n hx hb dX2_depthBy_0 rfl (lv_at hl 2 rfl) ?_
  refine lv_aload_n hx hb dX2_depthBy_1 rfl (lv_at hl 0 rfl) ?_
  refine va_get (D := G) (ci := 2) (v := .ref c_a) (C := RX2) (T := TX2) (N := 2) hx hb hts i_X2 hown hK.1 hP 0 rfl rfl 0 (by decide) f_9 (fun _ h9 => h9) rfl dX2_depthBy_2 ?_
  refine lv_iload_n hx hb dX2_depthBy_5 rfl (lv_at hl 1 rfl) ?_
  refine lv_iconst (v := (1 : Int32)) hx hb dX2_depthBy_6 (by decide) ?_
  refine k_Vi (wr := [oX2 q_a c_a q_ad, aJ cJ q_ad 411 q_depths]) (wf := (fun (u : Unit) => [oX2 q_a c_a q_ad, aJ cJ q_ad 411 q_depths, oX0 c_a c_points c_count c_as c_ad c_ar c_ah c_ed, aI cI c_as 20 c_sets, aD cD c_ad 20 c_scores, aZ cZ c_ar 20 c_rated, aI cI c_ah 8 c_hold])) (As := [.int x1, .int (1 : Int32)]) (rest := [.int x2]) ⟨hx, hb, hml, hown, hts⟩ hK hP hD hS hA (c_X0_labelling l G cI cD cZ cJ cO c_a c_as c_ad c_ar c_ah c_points c_count c_ed c_sets c_scores c_rated c_hold x1 (1 : Int32) _ h) (cwV 2 hts gX2_depthBy_X0_labelling rfl rfl rfl (by decide +kernel) ⟨by show 1 + 1 ≤ F + 4; omega, by show 8 + (3 + 11) + 20 ≤ L + 120; omega⟩) 0 rfl rfl [2, 3, 4, 5, 6] [0, 1] [0, 1, 2, 3, 4, 5, 6] rfl rfl rfl (fun _ => rfl) rfl rfl hl.1 (Nat.le_of_ble_eq_true rfl) ⟨Nat.zero_le _, Nat.zero_le _⟩ dX2_depthBy_7 (fun r_1 u H locs h hP hD hS => ?_)
  have hP : va_P G vwCl [oX2 q_a c_a q_ad, aJ cJ q_ad 411 q_depths, oX0 c_a c_points c_count c_as c_ad c_ar c_ah c_ed, aI cI c_as 20 c_sets, aD cD c_ad 20 c_scores, aZ cZ c_ar 20 c_rated, aI cI c_ah 8 c_hold] H := hP
  have hD : va_D A [oX2 q_a c_a q_ad, aJ cJ q_ad 411 q_depths, oX0 c_a c_points c_count c_as c_ad c_ar c_ah c_ed, aI cI c_as 20 c_sets, aD cD c_ad 20 c_scores, aZ cZ c_ar 20 c_rated, aI cI c_ah 8 c_hold] := hD
  refine lv_iand hx hb dX2_depthBy_10 ?_
  refine lv_istore (lv' := [(5, .int (x2 &&& r_1)), (0, .ref q_a), (1, .int x1), (2, .int x2), (3, .int x3), (4, .int x4)]) hx hb dX2_depthBy_11 hl (by decide) rfl (fun ls hl => ?_)
  refine lv_iload_n hx hb dX2_depthBy_13 rfl (lv_at hl 3 rfl) ?_
  refine lv_iload hx hb dX2_depthBy_14 (lv_at hl 0 rfl) ?_
  refine lv_iconst (v := (-1 : Int32)) hx hb dX2_depthBy_16 (by decide) ?_
  refine lv_ixor hx hb dX2_depthBy_17 ?_
  refine lv_iand hx hb dX2_depthBy_18 ?_
  refine lv_istore (lv' := [(6, .int (x2 &&& ((x2 &&& r_1) ^^^ (-1 : Int32)))), (5, .int (x2 &&& r_1)), (0, .ref q_a), (1, .int x1), (2, .int x2), (3, .int x3), (4, .int x4)]) hx hb dX2_depthBy_19 hl (by decide) rfl (fun ls hl => ?_)
  refine lv_iload hx hb dX2_depthBy_21 (lv_at hl 1 rfl) ?_
  obtain ⟨ha, hf⟩ := h
  refine lv_if_eq (tgt := 31) hx hb dX2_depthBy_23 (by decide) (fun hc => ?_) (fun hc => ?_)
  · have h := ha hc
    clear ha hf
    refine lv_bipush (v := (9 : Int32)) hx hb dX2_depthBy_31 (by decide) ?_
    exact hret _ q_depths _ _ _ _ rfl h hP hD hS dX2_depthBy_33
  · have h := hf hc
    clear ha hf
    refine lv_iload hx hb dX2_depthBy_26 (lv_at hl 0 rfl) ?_
    obtain ⟨ha, hf⟩ := h
    refine lv_if_ne (tgt := 34) hx hb dX2_depthBy_28 (by decide) (fun hc => ?_) (fun hc => ?_)
    · have h := ha hc
      clear ha hf
      refine lv_aload_n hx hb dX2_depthBy_34 rfl (lv_at hl 2 rfl) ?_
      refine lv_iload hx hb dX2_depthBy_35 (lv_at hl 1 rfl) ?_
      refine lv_iload_n hx hb dX2_depthBy_37 rfl (lv_at hl 5 rfl) ?_
      refine lv_iconst (v := (2 : Int32)) hx hb dX2_depthBy_38 (by decide) ?_
      refine va_gets hx hb hZ.1 hS hown (hts (.fieldLink RX2 72 "TeachingSets$Queries" "POWERS" "[I") (List.mem_of_getElem? (i := 2) rfl)) (fun _ h9 => h9) dX2_depthBy_39 ?_
      refine lv_iload_n hx hb dX2_depthBy_42 rfl (lv_at hl 3 rfl) ?_
      obtain ⟨hi, h⟩ := h
      refine va_sld hx hb hZ.2.1 hZ.2.2.1 hZ.2.2.2 hS hi dX2_depthBy_43 ?_
      refine lv_imul hx hb dX2_depthBy_44 ?_
      refine lv_iadd hx hb dX2_depthBy_45 ?_
      refine lv_iload hx hb dX2_depthBy_46 (lv_at hl 6 rfl) ?_
      refine lv_iconst (v := (1 : Int32)) hx hb dX2_depthBy_48 (by decide) ?_
      refine lv_iadd hx hb dX2_depthBy_49 ?_
      refine k_Viz (wr := []) (wf := (fun (u : (Nat → Int64)) => [oX2 q_a c_a q_ad, aJ cJ q_ad 411 u, oX0 c_a c_points c_count c_as c_ad c_ar c_ah c_ed, aI cI c_as 20 c_sets, aD cD c_ad 20 c_scores, aZ cZ c_ar 20 c_rated, aI cI c_ah 8 c_hold])) (As := [.int (x2 &&& r_1), .int (x3 + ((2 : Int32) * (POW x1.toNatClampNeg))), .int (x4 + (1 : Int32))]) (rest := []) ⟨hx, hb, hml, hown, hts⟩ hK hZ hP hD hS hA (hrec (x2 &&& r_1) (x3 + ((2 : Int32) * (POW x1.toNatClampNeg))) (x4 + (1 : Int32)) q_depths _ h) (cwV 3 hts gX2_depthBy_X2_depthOf rfl rfl rfl (by decide +kernel) ⟨by show F + 1 ≤ F + 4; omega, by show 8 + (6 + 11) + L ≤ L + 120; omega⟩) 0 rfl rfl [0, 1, 2, 3, 4, 5, 6] [] [0, 1, 2, 3, 4, 5, 6] rfl rfl rfl (fun _ => rfl) rfl rfl hl.1 (Nat.le_of_ble_eq_true rfl) ⟨Nat.zero_le _, Nat.zero_le _⟩ dX2_depthBy_50 (fun r_2 u H locs h hP hD hS => ?_)
      obtain ⟨q_depths_3, rfl⟩ : ∃ z, z = u := ⟨_, rfl⟩
      have hP : va_P G vwCl [oX2 q_a c_a q_ad, aJ cJ q_ad 411 q_depths_3, oX0 c_a c_points c_count c_as c_ad c_ar c_ah c_ed, aI cI c_as 20 c_sets, aD cD c_ad 20 c_scores, aZ cZ c_ar 20 c_rated, aI cI c_ah 8 c_hold] H := hP
      have hD : va_D A [oX2 q_a c_a q_ad, aJ cJ q_ad 411 q_depths_3, oX0 c_a c_points c_count c_as c_ad c_ar c_ah c_ed, aI cI c_as 20 c_sets, aD cD c_ad 20 c_scores, aZ cZ c_ar 20 c_rated, aI cI c_ah 8 c_hold] := hD
      refine lv_istore (lv' := [(7, .int r_2), (6, .int (x2 &&& ((x2 &&& r_1) ^^^ (-1 : Int32)))), (5, .int (x2 &&& r_1)), (0, .ref q_a), (1, .int x1), (2, .int x2), (3, .int x3), (4, .int x4)]) hx hb dX2_depthBy_53 hl (by decide) rfl (fun ls hl => ?_)
      refine lv_aload_n hx hb dX2_depthBy_55 rfl (lv_at hl 3 rfl) ?_
      refine lv_iload hx hb dX2_depthBy_56 (lv_at hl 1 rfl) ?_
      refine lv_iload_n hx hb dX2_depthBy_58 rfl (lv_at hl 6 rfl) ?_
      refine va_gets hx hb hZ.1 hS hown (hts (.fieldLink RX2 72 "TeachingSets$Queries" "POWERS" "[I") (List.mem_of_getElem? (i := 2) rfl)) (fun _ h9 => h9) dX2_depthBy_59 ?_
      refine lv_iload_n hx hb dX2_depthBy_62 rfl (lv_at hl 4 rfl) ?_
      obtain ⟨hi, h⟩ := h
      refine va_sld hx hb hZ.2.1 hZ.2.2.1 hZ.2.2.2 hS hi dX2_depthBy_63 ?_
      refine lv_iadd hx hb dX2_depthBy_64 ?_
      refine lv_iload hx hb dX2_depthBy_65 (lv_at hl 7 rfl) ?_
      refine lv_iconst (v := (1 : Int32)) hx hb dX2_depthBy_67 (by decide) ?_
      refine lv_iadd hx hb dX2_depthBy_68 ?_
      refine k_Viz (wr := []) (wf := (fun (u : (Nat → Int64)) => [oX2 q_a c_a q_ad, aJ cJ q_ad 411 u, oX0 c_a c_points c_count c_as c_ad c_ar c_ah c_ed, aI cI c_as 20 c_sets, aD cD c_ad 20 c_scores, aZ cZ c_ar 20 c_rated, aI cI c_ah 8 c_hold])) (As := [.int (x2 &&& ((x2 &&& r_1) ^^^ (-1 : Int32))), .int (x3 + (POW x1.toNatClampNeg)), .int (x4 + (1 : Int32))]) (rest := []) ⟨hx, hb, hml, hown, hts⟩ hK hZ hP hD hS hA (hrec (x2 &&& ((x2 &&& r_1) ^^^ (-1 : Int32))) (x3 + (POW x1.toNatClampNeg)) (x4 + (1 : Int32)) q_depths_3 _ h) (cwV 3 hts gX2_depthBy_X2_depthOf rfl rfl rfl (by decide +kernel) ⟨by show F + 1 ≤ F + 4; omega, by show 8 + (6 + 11) + L ≤ L + 120; omega⟩) 0 rfl rfl [0, 1, 2, 3, 4, 5, 6] [] [0, 1, 2, 3, 4, 5, 6] rfl rfl rfl (fun _ => rfl) rfl rfl hl.1 (Nat.le_of_ble_eq_true rfl) ⟨Nat.zero_le _, Nat.zero_le _⟩ dX2_depthBy_69 (fun r_4 u H locs h hP hD hS => ?_)
      obtain ⟨q_depths_5, rfl⟩ : ∃ z, z = u := ⟨_, rfl⟩
      have hP : va_P G vwCl [oX2 q_a c_a q_ad, aJ cJ q_ad 411 q_depths_5, oX0 c_a c_points c_count c_as c_ad c_ar c_ah c_ed, aI cI c_as 20 c_sets, aD cD c_ad 20 c_scores, aZ cZ c_ar 20 c_rated, aI cI c_ah 8 c_hold] H := hP
      have hD : va_D A [oX2 q_a c_a q_ad, aJ cJ q_ad 411 q_depths_5, oX0 c_a c_points c_count c_as c_ad c_ar c_ah c_ed, aI cI c_as 20 c_sets, aD cD c_ad 20 c_scores, aZ cZ c_ar 20 c_rated, aI cI c_ah 8 c_hold] := hD
      refine lv_istore (lv' := [(8, .int r_4), (7, .int r_2), (6, .int (x2 &&& ((x2 &&& r_1) ^^^ (-1 : Int32)))), (5, .int (x2 &&& r_1)), (0, .ref q_a), (1, .int x1), (2, .int x2), (3, .int x3), (4, .int x4)]) hx hb dX2_depthBy_72 hl (by decide) rfl (fun ls hl => ?_)
      refine lv_iconst (v := (1 : Int32)) hx hb dX2_depthBy_74 (by decide) ?_
      refine lv_iload hx hb dX2_depthBy_75 (lv_at hl 1 rfl) ?_
      refine lv_iload hx hb dX2_depthBy_77 (lv_at hl 0 rfl) ?_
      refine va_mmax hx hb (hml.trans hl.1.symm) hown (hts _ (List.mem_of_getElem? (i := 3) rfl)) (hts _ (List.mem_of_getElem? (i := 4) rfl)) (hts _ (List.mem_of_getElem? (i := 5) rfl)) (hts _ (List.mem_of_getElem? (i := 6) rfl)) (by show 1 ≤ F + 4; omega) (by show 1 + 13 ≤ L + 120; omega) (Nat.zero_le _) (Nat.zero_le _) dX2_depthBy_79 ?_
      refine lv_iadd hx hb dX2_depthBy_82 ?_
      exact hret _ q_depths_5 _ _ _ _ rfl h hP hD hS dX2_depthBy_83
    · have h := hf hc
      clear ha hf
      refine lv_bipush (v := (9 : Int32)) hx hb dX2_depthBy_31 (by decide) ?_
      exact hret _ q_depths _ _ _ _ rfl h hP hD hS dX2_depthBy_33
abbrev rm_X2_leastDepth (F L : Nat) : Room := { frames := F + 3, cells := 0, slots := 0, locals := L + 100 }
def wp_X2_leastDepth_b13 (K : Int32 → Int32 → Int32 → Int32 → (Nat → Int64) → (Int32 → (Nat → Int64) → Prop) → Prop) (x1 : Int32) (x2 : Int32) (x3 : Int32) (c_points : Int32) (Q : Int32 → (Nat → Int64) → Prop)  : Nat → Int32 → Int32 → Int32 → (Nat → Int64) → Prop
  | 0, _, _, _, _ => False
  | n + 1, x4, x5, x6, q_depths => ((c_points ≤ x6) → Q x5 q_depths) ∧ ((¬ c_points ≤ x6) → ((((1 : Int32) <<< ((x5 - (1 : Int32)) &&& 31)) < x4) → Q x5 q_depths) ∧ ((¬ ((1 : Int32) <<< ((x5 - (1 : Int32)) &&& 31)) < x4) → K x6 x1 x2 x3 q_depths (fun (r_2 : Int32) (q_depths_3 : Nat → Int64) => wp_X2_leastDepth_b13 K x1 x2 x3 c_points Q n x4 (if r_2 < x5 then r_2 else x5) (x6 + (1 : Int32)) q_depths_3)))
def wp_X2_leastDepth (K : Int32 → Int32 → Int32 → Int32 → (Nat → Int64) → (Int32 → (Nat → Int64) → Prop) → Prop) (x1 : Int32) (x2 : Int32) (x3 : Int32) (q_depths : Nat → Int64) (c_points : Int32) (Q : Int32 → (Nat → Int64) → Prop) : Prop := wp_J6_bitCount_0f7a4 x1 (fun (r_1 : Int32) => ∃ j13, wp_X2_leastDepth_b13 K x1 x2 x3 c_points Q j13 r_1 (9 : Int32) (0 : Int32) q_depths)
set_option maxRecDepth 100000 in
set_option maxHeartbeats 4000000 in
theorem c_X2_leastDepth (l : Launch) (G : va_G) (cI cD cZ cJ cO : ClassId) (aP : Nat) (q_a q_ad c_a c_as c_ad c_ar c_ah : Nat) (q_depths : Nat → Int64) (c_points : Int32) (c_count : Int32) (c_ed : Int32) (c_sets : Nat → Int32) (c_scores : Nat → UInt64) (c_rated : Nat → Int32) (c_hold : Nat → Int32) (x1 : Int32) (x2 : Int32) (x3 : Int32) (F L : Nat) (K : Int32 → Int32 → Int32 → Int32 → (Nat → Int64) → (Int32 → (Nat → Int64) → Prop) → Prop) (hrec : ∀ (x1 : Int32) (x2 : Int32) (x3 : Int32) (x4 : Int32) (q_depths : Nat → Int64) (Q : Int32 → (Nat → Int64) → Prop), K x1 x2 x3 x4 q_depths Q → CtIz l yX2_depthBy wsX2_depthBy { frames := F, cells := 0, slots := 0, locals := L } G (TY cI cD cZ cJ cO) aP [.ref q_a, .int x1, .int x2, .int x3, .int x4] [oX2 q_a c_a q_ad, aJ cJ q_ad 411 q_depths, oX0 c_a c_points c_count c_as c_ad c_ar c_ah c_ed, aI cI c_as 20 c_sets, aD cD c_ad 20 c_scores, aZ cZ c_ar 20 c_rated, aI cI c_ah 8 c_hold] (fun (r : Int32) (u : (Nat → Int64)) => Q r u) (fun (u : (Nat → Int64)) => [oX2 q_a c_a q_ad, aJ cJ q_ad 411 u, oX0 c_a c_points c_count c_as c_ad c_ar c_ah c_ed, aI cI c_as 20 c_sets, aD cD c_ad 20 c_scores, aZ cZ c_ar 20 c_rated, aI cI c_ah 8 c_hold])) (Q : Int32 → (Nat → Int64) → Prop) (h : wp_X2_leastDepth K x1 x2 x3 q_depths c_points Q) : CtIz l yX2_leastDepth wsX2_leastDepth (rm_X2_leastDepth F L) G (TY cI cD cZ cJ cO) aP [.ref q_a, .int x1, .int x2, .int x3] [oX2 q_a c_a q_ad, aJ cJ q_ad 411 q_depths, oX0 c_a c_points c_count c_as c_ad c_ar c_ah c_ed, aI cI c_as 20 c_sets, aD cD c_ad 20 c_scores, aZ cZ c_ar 20 c_rated, aI cI c_ah 8 c_hold] (fun (r : Int32) (u : (Nat → Int64)) => Q r u) (fun (u : (Nat → Int64)) => [oX2 q_a c_a q_ad, aJ cJ q_ad 411 u, oX0 c_a c_points c_count c_as c_ad c_ar c_ah c_ed, aI cI c_as 20 c_sets, aD cD c_ad 20 c_scores, aZ cZ c_ar 20 c_rated, aI cI c_ah 8 c_hold]) := by
  refine ct_openIz (cc := cX2_leastDepth) (maxL := 7) (ty := .int) (by decide) rfl (Nat.le_of_ble_eq_true rfl) ?_
  intro p e s m args below meth c A Z ls hx hb hml hown hts hK hA hret hP hD hS hZ hl
  have hown : s.vm.findClass RX2 = some m.cls := hown
  have hl : lv_has ls 7 [(0, .ref q_a), (1, .int x1), (2, .int x2), (3, .int x3)] := hl
  have f_9 := hts (.fieldLink RX2 9 "TeachingSets$Queries" "concepts" "LTeachingSets$Concepts;") (List.mem_of_getElem? (i := 1) rfl)
  have f_33 := hts (.fieldLink RX2 33 "TeachingSets$Concepts" "points" "I") (List.mem_of_getElem? (i := 2) rfl)
  have i_X2 : ∀ w ∈ wsX20, w ∈ wsX2_leastDepth := fun _ h => List.mem_cons_of_mem _ (List.mem_append_left _ (List.mem_append_right _ (h)))
  have i_X0 : ∀ w ∈ wsX00, w ∈ wsX2_leastDepth := fun _ h => List.mem_cons_of_mem _ (List.mem_append_right _ (h))
  have b_13 : ∀ (n : Nat) (x4 : Int32) (x5 : Int32) (x6 : Int32) (q_depths : Nat → Int64), wp_X2_leastDepth_b13 K x1 x2 x3 c_points Q n x4 x5 x6 q_depths → ∀ (H : Heap) (locs : List Loc) (ls : Array Slot), ST G A s.heap [oX2 q_a c_a q_ad, aJ cJ q_ad 411 q_depths, oX0 c_a c_points c_count c_as c_ad c_ar c_ah c_ed, aI cI c_as 20 c_sets, aD cD c_ad 20 c_scores, aZ cZ c_ar 20 c_rated, aI cI c_ah 8 c_hold] 7 [(0, .ref q_a), (1, .int x1), (2, .int x2), (3, .int x3), (4, .int x4), (5, .int x5), (6, .int x6)] H locs ls → W p l e (rm_X2_leastDepth F L) s m args below meth c H locs 0 0 Z (F0 m 13 ls []) := by
    intro n
    induction n with
    | zero =>
      intro x4 x5 x6 q_depths h; exact False.elim h
    | succ n ih =>
      intro x4 x5 x6 q_depths h H locs ls hst
      obtain ⟨hP, hD, hS, hl⟩ := hst
      refine lv_iload hx hb dX2_leastDepth_13 (lv_at hl 6 rfl) ?_
      refine lv_aload_n hx hb dX2_leastDepth_15 rfl (lv_at hl 0 rfl) ?_
      refine va_get (D := G) (ci := 2) (v := .ref c_a) (C := RX2) (T := TX2) (N := 2) hx hb hts i_X2 hown hK.1 hP 0 rfl rfl 0 (by decide) f_9 (fun _ h9 => h9) rfl dX2_leastDepth_16 ?_
      refine va_get (D := G) (ci := 0) (v := .int c_points) (C := RX0) (T := TX0) (N := 7) hx hb hts i_X0 hown hK.1 hP 2 rfl rfl 0 (by decide) f_33 (fun _ h9 => h9) rfl dX2_leastDepth_19 ?_
      obtain ⟨ha, hf⟩ := h
      refine lv_icmp_ge (tgt := 58) hx hb dX2_leastDepth_22 (by decide) (fun hc => ?_) (fun hc => ?_)
      · have h := ha hc
        clear ha hf
        refine lv_iload hx hb dX2_leastDepth_58 (lv_at hl 5 rfl) ?_
        exact hret _ q_depths _ _ _ _ rfl h hP hD hS dX2_leastDepth_60
      · have h := hf hc
        clear ha hf
        refine lv_iconst (v := (1 : Int32)) hx hb dX2_leastDepth_25 (by decide) ?_
        refine lv_iload hx hb dX2_leastDepth_26 (lv_at hl 5 rfl) ?_
        refine lv_iconst (v := (1 : Int32)) hx hb dX2_leastDepth_28 (by decide) ?_
        refine lv_isub hx hb dX2_leastDepth_29 ?_
        refine lv_ishl hx hb dX2_leastDepth_30 ?_
        refine lv_iload hx hb dX2_leastDepth_31 (lv_at hl 4 rfl) ?_
        obtain ⟨ha, hf⟩ := h
        refine lv_icmp_lt (tgt := 58) hx hb dX2_leastDepth_33 (by decide) (fun hc => ?_) (fun hc => ?_)
        · have h := ha hc
          clear ha hf
          refine lv_iload hx hb dX2_leastDepth_58 (lv_at hl 5 rfl) ?_
          exact hret _ q_depths _ _ _ _ rfl h hP hD hS dX2_leastDepth_60
        · have h := hf hc
          clear ha hf
          refine lv_iload hx hb dX2_leastDepth_36 (lv_at hl 5 rfl) ?_
          refine lv_aload_n hx hb dX2_leastDepth_38 rfl (lv_at hl 0 rfl) ?_
          refine lv_iload hx hb dX2_leastDepth_39 (lv_at hl 6 rfl) ?_
          refine lv_iload_n hx hb dX2_leastDepth_41 rfl (lv_at hl 1 rfl) ?_
          refine lv_iload_n hx hb dX2_leastDepth_42 rfl (lv_at hl 2 rfl) ?_
          refine lv_iload_n hx hb dX2_leastDepth_43 rfl (lv_at hl 3 rfl) ?_
          refine k_Viz (wr := []) (wf := (fun (u : (Nat → Int64)) => [oX2 q_a c_a q_ad, aJ cJ q_ad 411 u, oX0 c_a c_points c_count c_as c_ad c_ar c_ah c_ed, aI cI c_as 20 c_sets, aD cD c_ad 20 c_scores, aZ cZ c_ar 20 c_rated, aI cI c_ah 8 c_hold])) (As := [.int x6, .int x1, .int x2, .int x3]) (rest := [.int x5]) ⟨hx, hb, hml, hown, hts⟩ hK hZ hP hD hS hA (hrec x6 x1 x2 x3 q_depths _ h) (cwV 4 hts gX2_leastDepth_X2_depthBy rfl rfl rfl (by decide +kernel) ⟨by show F + 1 ≤ F + 3; omega, by show 8 + (9 + 11) + L ≤ L + 100; omega⟩) 0 rfl rfl [0, 1, 2, 3, 4, 5, 6] [] [0, 1, 2, 3, 4, 5, 6] rfl rfl rfl (fun _ => rfl) rfl rfl hl.1 (Nat.le_of_ble_eq_true rfl) ⟨Nat.zero_le _, Nat.zero_le _⟩ dX2_leastDepth_44 (fun r_2 u H locs h hP hD hS => ?_)
          obtain ⟨q_depths_3, rfl⟩ : ∃ z, z = u := ⟨_, rfl⟩
          have hP : va_P G vwCl [oX2 q_a c_a q_ad, aJ cJ q_ad 411 q_depths_3, oX0 c_a c_points c_count c_as c_ad c_ar c_ah c_ed, aI cI c_as 20 c_sets, aD cD c_ad 20 c_scores, aZ cZ c_ar 20 c_rated, aI cI c_ah 8 c_hold] H := hP
          have hD : va_D A [oX2 q_a c_a q_ad, aJ cJ q_ad 411 q_depths_3, oX0 c_a c_points c_count c_as c_ad c_ar c_ah c_ed, aI cI c_as 20 c_sets, aD cD c_ad 20 c_scores, aZ cZ c_ar 20 c_rated, aI cI c_ah 8 c_hold] := hD
          refine va_mmin hx hb (hml.trans hl.1.symm) hown (hts _ (List.mem_of_getElem? (i := 3) rfl)) (hts _ (List.mem_of_getElem? (i := 4) rfl)) (hts _ (List.mem_of_getElem? (i := 5) rfl)) (hts _ (List.mem_of_getElem? (i := 6) rfl)) (by show 1 ≤ F + 3; omega) (by show 0 + 13 ≤ L + 100; omega) (Nat.zero_le _) (Nat.zero_le _) dX2_leastDepth_47 ?_
          refine lv_istore (lv' := [(5, .int (if r_2 < x5 then r_2 else x5)), (0, .ref q_a), (1, .int x1), (2, .int x2), (3, .int x3), (4, .int x4), (6, .int x6)]) hx hb dX2_leastDepth_50 hl (by decide) rfl (fun ls hl => ?_)
          refine lv_iinc (v := (x6 + (1 : Int32))) (lv' := [(6, .int (x6 + (1 : Int32))), (5, .int (if r_2 < x5 then r_2 else x5)), (0, .ref q_a), (1, .int x1), (2, .int x2), (3, .int x3), (4, .int x4)]) hx hb dX2_leastDepth_52 hl (k := 6) rfl rfl (by decide) rfl (fun ls hl => ?_)
          refine lv_goto (tgt := 13) hx hb dX2_leastDepth_55 (by decide) ?_
          exact ih _ _ _ _ h _ _ _ ⟨hP, hD, hS, lv_sub hl [2, 3, 4, 5, 6, 1, 0] rfl⟩
  refine lv_iload_n hx hb dX2_leastDepth_0 rfl (lv_at hl 1 rfl) ?_
  refine k_Si (wr := [oX2 q_a c_a q_ad, aJ cJ q_ad 411 q_depths, oX0 c_a c_points c_count c_as c_ad c_ar c_ah c_ed, aI cI c_as 20 c_sets, aD cD c_ad 20 c_scores, aZ cZ c_ar 20 c_rated, aI cI c_ah 8 c_hold]) (wf := (fun (u : Unit) => [oX2 q_a c_a q_ad, aJ cJ q_ad 411 q_depths, oX0 c_a c_points c_count c_as c_ad c_ar c_ah c_ed, aI cI c_as 20 c_sets, aD cD c_ad 20 c_scores, aZ cZ c_ar 20 c_rated, aI cI c_ah 8 c_hold])) (As := [.int x1]) (rest := []) ⟨hx, hb, hml, hown, hts⟩ hK hP hD hS hA (c_J6_bitCount_0f7a4 l G cI cD cZ cJ cO x1 _ h) (va_cwS 1 hts gX2_leastDepth_J6_bitCount_0f7a4 rfl rfl rfl (by decide +kernel) ⟨by show 0 + 1 ≤ F + 3; omega, by show 8 + (1 + 11) + 0 ≤ L + 100; omega⟩) [] [0, 1, 2, 3, 4, 5, 6] [0, 1, 2, 3, 4, 5, 6] rfl rfl rfl (fun _ => rfl) rfl rfl hl.1 (Nat.le_of_ble_eq_true rfl) ⟨Nat.zero_le _, Nat.zero_le _⟩ dX2_leastDepth_1 (fun r_1 u H locs h hP hD hS => ?_)
  have hP : va_P G vwCl [oX2 q_a c_a q_ad, aJ cJ q_ad 411 q_depths, oX0 c_a c_points c_count c_as c_ad c_ar c_ah c_ed, aI cI c_as 20 c_sets, aD cD c_ad 20 c_scores, aZ cZ c_ar 20 c_rated, aI cI c_ah 8 c_hold] H := hP
  have hD : va_D A [oX2 q_a c_a q_ad, aJ cJ q_ad 411 q_depths, oX0 c_a c_points c_count c_as c_ad c_ar c_ah c_ed, aI cI c_as 20 c_sets, aD cD c_ad 20 c_scores, aZ cZ c_ar 20 c_rated, aI cI c_ah 8 c_hold] := hD
  refine lv_istore (lv' := [(4, .int r_1), (0, .ref q_a), (1, .int x1), (2, .int x2), (3, .int x3)]) hx hb dX2_leastDepth_4 hl (by decide) rfl (fun ls hl => ?_)
  refine lv_bipush (v := (9 : Int32)) hx hb dX2_leastDepth_6 (by decide) ?_
  refine lv_istore (lv' := [(5, .int (9 : Int32)), (4, .int r_1), (0, .ref q_a), (1, .int x1), (2, .int x2), (3, .int x3)]) hx hb dX2_leastDepth_8 hl (by decide) rfl (fun ls hl => ?_)
  refine lv_iconst (v := (0 : Int32)) hx hb dX2_leastDepth_10 (by decide) ?_
  refine lv_istore (lv' := [(6, .int (0 : Int32)), (5, .int (9 : Int32)), (4, .int r_1), (0, .ref q_a), (1, .int x1), (2, .int x2), (3, .int x3)]) hx hb dX2_leastDepth_11 hl (by decide) rfl (fun ls hl => ?_)
  obtain ⟨j, h⟩ := h
  exact b_13  j _ _ _ _ h _ _ _ ⟨hP, hD, hS, lv_sub hl [3, 4, 5, 6, 2, 1, 0] rfl⟩
abbrev rm_X2_depthOf (F L : Nat) : Room := { frames := F + 3, cells := 0, slots := 0, locals := L + 100 }
def wp_X2_depthOf (K : Int32 → Int32 → Int32 → (Nat → Int64) → (Int32 → (Nat → Int64) → Prop) → Prop) (x1 : Int32) (x2 : Int32) (x3 : Int32) (q_depths : Nat → Int64) (c_points : Int32) (Q : Int32 → (Nat → Int64) → Prop) : Prop := ((c_points ≤ x3) → Q (0 : Int32) q_depths) ∧ ((¬ c_points ≤ x3) → wp_J6_bitCount_0f7a4 x1 (fun (r_1 : Int32) => (((1 : Int32) < r_1) → wp_X2_knownDepth x2 q_depths (fun (r_2 : Int32) => ((r_2 = (-1 : Int32)) → K x1 x2 x3 q_depths (fun (r_3 : Int32) (q_depths_4 : Nat → Int64) => wp_X2_keepDepth x2 r_3 q_depths_4 (fun (q_depths_5 : Nat → Int64) => Q r_3 q_depths_5))) ∧ ((¬ r_2 = (-1 : Int32)) → Q r_2 q_depths))) ∧ ((¬ (1 : Int32) < r_1) → Q (0 : Int32) q_depths)))
set_option maxRecDepth 100000 in
set_option maxHeartbeats 4000000 in
theorem c_X2_depthOf (l : Launch) (G : va_G) (cI cD cZ cJ cO : ClassId) (aP : Nat) (q_a q_ad c_a c_as c_ad c_ar c_ah : Nat) (q_depths : Nat → Int64) (c_points : Int32) (c_count : Int32) (c_ed : Int32) (c_sets : Nat → Int32) (c_scores : Nat → UInt64) (c_rated : Nat → Int32) (c_hold : Nat → Int32) (x1 : Int32) (x2 : Int32) (x3 : Int32) (F L : Nat) (K : Int32 → Int32 → Int32 → (Nat → Int64) → (Int32 → (Nat → Int64) → Prop) → Prop) (hrec : ∀ (x1 : Int32) (x2 : Int32) (x3 : Int32) (q_depths : Nat → Int64) (Q : Int32 → (Nat → Int64) → Prop), K x1 x2 x3 q_depths Q → CtIz l yX2_leastDepth wsX2_leastDepth { frames := F, cells := 0, slots := 0, locals := L } G (TY cI cD cZ cJ cO) aP [.ref q_a, .int x1, .int x2, .int x3] [oX2 q_a c_a q_ad, aJ cJ q_ad 411 q_depths, oX0 c_a c_points c_count c_as c_ad c_ar c_ah c_ed, aI cI c_as 20 c_sets, aD cD c_ad 20 c_scores, aZ cZ c_ar 20 c_rated, aI cI c_ah 8 c_hold] (fun (r : Int32) (u : (Nat → Int64)) => Q r u) (fun (u : (Nat → Int64)) => [oX2 q_a c_a q_ad, aJ cJ q_ad 411 u, oX0 c_a c_points c_count c_as c_ad c_ar c_ah c_ed, aI cI c_as 20 c_sets, aD cD c_ad 20 c_scores, aZ cZ c_ar 20 c_rated, aI cI c_ah 8 c_hold])) (Q : Int32 → (Nat → Int64) → Prop) (h : wp_X2_depthOf K x1 x2 x3 q_depths c_points Q) : CtIz l yX2_depthOf wsX2_depthOf (rm_X2_depthOf F L) G (TY cI cD cZ cJ cO) aP [.ref q_a, .int x1, .int x2, .int x3] [oX2 q_a c_a q_ad, aJ cJ q_ad 411 q_depths, oX0 c_a c_points c_count c_as c_ad c_ar c_ah c_ed, aI cI c_as 20 c_sets, aD cD c_ad 20 c_scores, aZ cZ c_ar 20 c_rated, aI cI c_ah 8 c_hold] (fun (r : Int32) (u : (Nat → Int64)) => Q r u) (fun (u : (Nat → Int64)) => [oX2 q_a c_a q_ad, aJ cJ q_ad 411 u, oX0 c_a c_points c_count c_as c_ad c_ar c_ah c_ed, aI cI c_as 20 c_sets, aD cD c_ad 20 c_scores, aZ cZ c_ar 20 c_rated, aI cI c_ah 8 c_hold]) := by
  refine ct_openIz (cc := cX2_depthOf) (maxL := 6) (ty := .int) (by decide) rfl (Nat.le_of_ble_eq_true rfl) ?_
  intro p e s m args below meth c A Z ls hx hb hml hown hts hK hA hret hP hD hS hZ hl
  have hown : s.vm.findClass RX2 = some m.cls := hown
  have hl : lv_has ls 6 [(0, .ref q_a), (1, .int x1), (2, .int x2), (3, .int x3)] := hl
  have f_9 := hts (.fieldLink RX2 9 "TeachingSets$Queries" "concepts" "LTeachingSets$Concepts;") (List.mem_of_getElem? (i := 1) rfl)
  have f_33 := hts (.fieldLink RX2 33 "TeachingSets$Concepts" "points" "I") (List.mem_of_getElem? (i := 2) rfl)
  have i_X2 : ∀ w ∈ wsX20, w ∈ wsX2_depthOf := fun _ h => List.mem_cons_of_mem _ (List.mem_append_left _ (List.mem_append_right _ (h)))
  have i_X0 : ∀ w ∈ wsX00, w ∈ wsX2_depthOf := fun _ h => List.mem_cons_of_mem _ (List.mem_append_right _ (h))
  refine lv_iload_n hx hb dX2_depthOf_0 rfl (lv_at hl 3 rfl) ?_
  refine lv_aload_n hx hb dX2_depthOf_1 rfl (lv_at hl 0 rfl) ?_
  refine va_get (D := G) (ci := 2) (v := .ref c_a) (C := RX2) (T := TX2) (N := 2) hx hb hts i_X2 hown hK.1 hP 0 rfl rfl 0 (by decide) f_9 (fun _ h9 => h9) rfl dX2_depthOf_2 ?_
  refine va_get (D := G) (ci := 0) (v := .int c_points) (C := RX0) (T := TX0) (N := 7) hx hb hts i_X0 hown hK.1 hP 2 rfl rfl 0 (by decide) f_33 (fun _ h9 => h9) rfl dX2_depthOf_5 ?_
  obtain ⟨ha, hf⟩ := h
  refine lv_icmp_ge (tgt := 19) hx hb dX2_depthOf_8 (by decide) (fun hc => ?_) (fun hc => ?_)
  · have h := ha hc
    clear ha hf
    refine lv_iconst (v := (0 : Int32)) hx hb dX2_depthOf_19 (by decide) ?_
    exact hret _ q_depths _ _ _ _ rfl h hP hD hS dX2_depthOf_20
  · have h := hf hc
    clear ha hf
    refine lv_iload_n hx hb dX2_depthOf_11 rfl (lv_at hl 1 rfl) ?_
    refine k_Si (wr := [oX2 q_a c_a q_ad, aJ cJ q_ad 411 q_depths, oX0 c_a c_points c_count c_as c_ad c_ar c_ah c_ed, aI cI c_as 20 c_sets, aD cD c_ad 20 c_scores, aZ cZ c_ar 20 c_rated, aI cI c_ah 8 c_hold]) (wf := (fun (u : Unit) => [oX2 q_a c_a q_ad, aJ cJ q_ad 411 q_depths, oX0 c_a c_points c_count c_as c_ad c_ar c_ah c_ed, aI cI c_as 20 c_sets, aD cD c_ad 20 c_scores, aZ cZ c_ar 20 c_rated, aI cI c_ah 8 c_hold])) (As := [.int x1]) (rest := []) ⟨hx, hb, hml, hown, hts⟩ hK hP hD hS hA (c_J6_bitCount_0f7a4 l G cI cD cZ cJ cO x1 _ h) (va_cwS 1 hts gX2_depthOf_J6_bitCount_0f7a4 rfl rfl rfl (by decide +kernel) ⟨by show 0 + 1 ≤ F + 3; omega, by show 8 + (1 + 11) + 0 ≤ L + 100; omega⟩) [] [0, 1, 2, 3, 4, 5, 6] [0, 1, 2, 3, 4, 5, 6] rfl rfl rfl (fun _ => rfl) rfl rfl hl.1 (Nat.le_of_ble_eq_true rfl) ⟨Nat.zero_le _, Nat.zero_le _⟩ dX2_depthOf_12 (fun r_1 u H locs h hP hD hS => ?_)
    have hP : va_P G vwCl [oX2 q_a c_a q_ad, aJ cJ q_ad 411 q_depths, oX0 c_a c_points c_count c_as c_ad c_ar c_ah c_ed, aI cI c_as 20 c_sets, aD cD c_ad 20 c_scores, aZ cZ c_ar 20 c_rated, aI cI c_ah 8 c_hold] H := hP
    have hD : va_D A [oX2 q_a c_a q_ad, aJ cJ q_ad 411 q_depths, oX0 c_a c_points c_count c_as c_ad c_ar c_ah c_ed, aI cI c_as 20 c_sets, aD cD c_ad 20 c_scores, aZ cZ c_ar 20 c_rated, aI cI c_ah 8 c_hold] := hD
    refine lv_iconst (v := (1 : Int32)) hx hb dX2_depthOf_15 (by decide) ?_
    obtain ⟨ha, hf⟩ := h
    refine lv_icmp_gt (tgt := 21) hx hb dX2_depthOf_16 (by decide) (fun hc => ?_) (fun hc => ?_)
    · have h := ha hc
      clear ha hf
      refine lv_aload_n hx hb dX2_depthOf_21 rfl (lv_at hl 0 rfl) ?_
      refine lv_iload_n hx hb dX2_depthOf_22 rfl (lv_at hl 2 rfl) ?_
      refine k_Vi (wr := [oX0 c_a c_points c_count c_as c_ad c_ar c_ah c_ed, aI cI c_as 20 c_sets, aD cD c_ad 20 c_scores, aZ cZ c_ar 20 c_rated, aI cI c_ah 8 c_hold]) (wf := (fun (u : Unit) => [oX2 q_a c_a q_ad, aJ cJ q_ad 411 q_depths, oX0 c_a c_points c_count c_as c_ad c_ar c_ah c_ed, aI cI c_as 20 c_sets, aD cD c_ad 20 c_scores, aZ cZ c_ar 20 c_rated, aI cI c_ah 8 c_hold])) (As := [.int x2]) (rest := []) ⟨hx, hb, hml, hown, hts⟩ hK hP hD hS hA (c_X2_knownDepth l G cI cD cZ cJ cO q_a q_ad c_a q_depths x2 _ h) (cwV 1 hts gX2_depthOf_X2_knownDepth rfl rfl rfl (by decide +kernel) ⟨by show 1 + 1 ≤ F + 3; omega, by show 8 + (2 + 11) + 20 ≤ L + 100; omega⟩) 0 rfl rfl [0, 1] [2, 3, 4, 5, 6] [5, 6, 0, 1, 2, 3, 4] rfl rfl rfl (fun _ => rfl) rfl rfl hl.1 (Nat.le_of_ble_eq_true rfl) ⟨Nat.zero_le _, Nat.zero_le _⟩ dX2_depthOf_23 (fun r_2 u H locs h hP hD hS => ?_)
      have hP : va_P G vwCl [oX2 q_a c_a q_ad, aJ cJ q_ad 411 q_depths, oX0 c_a c_points c_count c_as c_ad c_ar c_ah c_ed, aI cI c_as 20 c_sets, aD cD c_ad 20 c_scores, aZ cZ c_ar 20 c_rated, aI cI c_ah 8 c_hold] H := hP
      have hD : va_D A [oX2 q_a c_a q_ad, aJ cJ q_ad 411 q_depths, oX0 c_a c_points c_count c_as c_ad c_ar c_ah c_ed, aI cI c_as 20 c_sets, aD cD c_ad 20 c_scores, aZ cZ c_ar 20 c_rated, aI cI c_ah 8 c_hold] := hD
      refine lv_istore (lv' := [(4, .int r_2), (0, .ref q_a), (1, .int x1), (2, .int x2), (3, .int x3)]) hx hb dX2_depthOf_26 hl (by decide) rfl (fun ls hl => ?_)
      refine lv_iload hx hb dX2_depthOf_28 (lv_at hl 0 rfl) ?_
      refine lv_iconst (v := (-1 : Int32)) hx hb dX2_depthOf_30 (by decide) ?_
      obtain ⟨ha, hf⟩ := h
      refine lv_icmp_eq (tgt := 37) hx hb dX2_depthOf_31 (by decide) (fun hc => ?_) (fun hc => ?_)
      · have h := ha hc
        clear ha hf
        refine lv_aload_n hx hb dX2_depthOf_37 rfl (lv_at hl 1 rfl) ?_
        refine lv_iload_n hx hb dX2_depthOf_38 rfl (lv_at hl 2 rfl) ?_
        refine lv_iload_n hx hb dX2_depthOf_39 rfl (lv_at hl 3 rfl) ?_
        refine lv_iload_n hx hb dX2_depthOf_40 rfl (lv_at hl 4 rfl) ?_
        refine k_Viz (wr := []) (wf := (fun (u : (Nat → Int64)) => [oX2 q_a c_a q_ad, aJ cJ q_ad 411 u, oX0 c_a c_points c_count c_as c_ad c_ar c_ah c_ed, aI cI c_as 20 c_sets, aD cD c_ad 20 c_scores, aZ cZ c_ar 20 c_rated, aI cI c_ah 8 c_hold])) (As := [.int x1, .int x2, .int x3]) (rest := []) ⟨hx, hb, hml, hown, hts⟩ hK hZ hP hD hS hA (hrec x1 x2 x3 q_depths _ h) (cwV 3 hts gX2_depthOf_X2_leastDepth rfl rfl rfl (by decide +kernel) ⟨by show F + 1 ≤ F + 3; omega, by show 8 + (7 + 11) + L ≤ L + 100; omega⟩) 0 rfl rfl [0, 1, 2, 3, 4, 5, 6] [] [0, 1, 2, 3, 4, 5, 6] rfl rfl rfl (fun _ => rfl) rfl rfl hl.1 (Nat.le_of_ble_eq_true rfl) ⟨Nat.zero_le _, Nat.zero_le _⟩ dX2_depthOf_41 (fun r_3 u H locs h hP hD hS => ?_)
        obtain ⟨q_depths_4, rfl⟩ : ∃ z, z = u := ⟨_, rfl⟩
        have hP : va_P G vwCl [oX2 q_a c_a q_ad, aJ cJ q_ad 411 q_depths_4, oX0 c_a c_points c_count c_as c_ad c_ar c_ah c_ed, aI cI c_as 20 c_sets, aD cD c_ad 20 c_scores, aZ cZ c_ar 20 c_rated, aI cI c_ah 8 c_hold] H := hP
        have hD : va_D A [oX2 q_a c_a q_ad, aJ cJ q_ad 411 q_depths_4, oX0 c_a c_points c_count c_as c_ad c_ar c_ah c_ed, aI cI c_as 20 c_sets, aD cD c_ad 20 c_scores, aZ cZ c_ar 20 c_rated, aI cI c_ah 8 c_hold] := hD
        refine lv_istore (lv' := [(5, .int r_3), (4, .int r_2), (0, .ref q_a), (1, .int x1), (2, .int x2), (3, .int x3)]) hx hb dX2_depthOf_44 hl (by decide) rfl (fun ls hl => ?_)
        refine lv_aload_n hx hb dX2_depthOf_46 rfl (lv_at hl 2 rfl) ?_
        refine lv_iload_n hx hb dX2_depthOf_47 rfl (lv_at hl 4 rfl) ?_
        refine lv_iload hx hb dX2_depthOf_48 (lv_at hl 0 rfl) ?_
        refine k_Vv (wr := [oX0 c_a c_points c_count c_as c_ad c_ar c_ah c_ed, aI cI c_as 20 c_sets, aD cD c_ad 20 c_scores, aZ cZ c_ar 20 c_rated, aI cI c_ah 8 c_hold]) (wf := (fun (u : (Nat → Int64)) => [oX2 q_a c_a q_ad, aJ cJ q_ad 411 u, oX0 c_a c_points c_count c_as c_ad c_ar c_ah c_ed, aI cI c_as 20 c_sets, aD cD c_ad 20 c_scores, aZ cZ c_ar 20 c_rated, aI cI c_ah 8 c_hold])) (As := [.int x2, .int r_3]) (rest := []) ⟨hx, hb, hml, hown, hts⟩ hK hP hD hS hA (c_X2_keepDepth l G cI cD cZ cJ cO q_a q_ad c_a q_depths_4 x2 r_3 _ h) (cwV 2 hts gX2_depthOf_X2_keepDepth rfl rfl rfl (by decide +kernel) ⟨by show 1 + 1 ≤ F + 3; omega, by show 8 + (3 + 11) + 20 ≤ L + 100; omega⟩) 0 rfl rfl [0, 1] [2, 3, 4, 5, 6] [5, 6, 0, 1, 2, 3, 4] rfl rfl rfl (fun _ => rfl) rfl rfl hl.1 (Nat.le_of_ble_eq_true rfl) ⟨Nat.zero_le _, Nat.zero_le _⟩ dX2_depthOf_50 (fun u H locs h hP hD hS => ?_)
        obtain ⟨q_depths_5, rfl⟩ : ∃ z, z = u := ⟨_, rfl⟩
        have hP : va_P G vwCl [oX2 q_a c_a q_ad, aJ cJ q_ad 411 q_depths_5, oX0 c_a c_points c_count c_as c_ad c_ar c_ah c_ed, aI cI c_as 20 c_sets, aD cD c_ad 20 c_scores, aZ cZ c_ar 20 c_rated, aI cI c_ah 8 c_hold] H := hP
        have hD : va_D A [oX2 q_a c_a q_ad, aJ cJ q_ad 411 q_depths_5, oX0 c_a c_points c_count c_as c_ad c_ar c_ah c_ed, aI cI c_as 20 c_sets, aD cD c_ad 20 c_scores, aZ cZ c_ar 20 c_rated, aI cI c_ah 8 c_hold] := hD
        refine lv_iload hx hb dX2_depthOf_53 (lv_at hl 0 rfl) ?_
        exact hret _ q_depths_5 _ _ _ _ rfl h hP hD hS dX2_depthOf_55
      · have h := hf hc
        clear ha hf
        refine lv_iload hx hb dX2_depthOf_34 (lv_at hl 0 rfl) ?_
        exact hret _ q_depths _ _ _ _ rfl h hP hD hS dX2_depthOf_36
    · have h := hf hc
      clear ha hf
      refine lv_iconst (v := (0 : Int32)) hx hb dX2_depthOf_19 (by decide) ?_
      exact hret _ q_depths _ _ _ _ rfl h hP hD hS dX2_depthOf_20
abbrev rm_X8_asked (F L : Nat) : Room := { frames := F + 4, cells := 0, slots := 0, locals := L + 120 }
def wp_X8_asked (K : Int32 → (Int32 → Prop) → Prop) (x1 : Int32) (x2 : Int32) (m_many : Int32) (m_concept : Nat → Int32) (Q : Int32 → Prop) : Prop := wp_X8_with x1 x2 m_many m_concept (fun (r_1 : Int32) => ((r_1 = 0) → Q (9 : Int32)) ∧ ((¬ r_1 = 0) → ((¬ r_1 = x1) → K r_1 (fun (r_2 : Int32) => K (x1 &&& (r_1 ^^^ (-1 : Int32))) (fun (r_3 : Int32) => ((r_2 ≤ r_3) → Q ((1 : Int32) + r_3)) ∧ ((¬ r_2 ≤ r_3) → Q ((1 : Int32) + r_2))))) ∧ ((r_1 = x1) → Q (9 : Int32))))
set_option maxRecDepth 100000 in
set_option maxHeartbeats 4000000 in
theorem c_X8_asked (l : Launch) (G : va_G) (cI cD cZ cJ cO : ClassId) (m_a m_abySize m_aconcept m_ascore m_aexamplePoint m_aexampleLabel m_atype m_alength m_awhole m_atwofold m_ashotConcept m_ashotScore m_ashotPoint m_ashotLabel m_alayerOf m_aplanOf : Nat) (m_m : Int32) (m_many : Int32) (m_examples : Int32) (m_hasShot : Int32) (m_shotM : Int32) (m_shotMany : Int32) (m_shotExamples : Int32) (m_bySize : Nat → Int32) (m_concept : Nat → Int32) (m_score : Nat → UInt64) (m_examplePoint : Nat → Int32) (m_exampleLabel : Nat → Int32) (m_type : Nat → Int32) (m_length : Nat → Int32) (m_whole : Nat → Int64) (m_twofold : Nat → UInt64) (m_shotConcept : Nat → Int32) (m_shotScore : Nat → UInt64) (m_shotPoint : Nat → Int32) (m_shotLabel : Nat → Int32) (m_layerOf : Nat → Int32) (m_planOf : Nat → Int32) (x1 : Int32) (x2 : Int32) (F L : Nat) (K : Int32 → (Int32 → Prop) → Prop) (hrec : ∀ (x1 : Int32) (Q : Int32 → Prop), K x1 Q → CtI l yX8_depth wsX8_depth { frames := F, cells := 0, slots := 0, locals := L } G (TY cI cD cZ cJ cO) [.ref m_a, .int x1] [oX8 m_a m_m m_abySize m_many m_aconcept m_ascore m_examples m_aexamplePoint m_aexampleLabel m_atype m_alength m_awhole m_atwofold m_hasShot m_shotM m_shotMany m_ashotConcept m_ashotScore m_shotExamples m_ashotPoint m_ashotLabel m_alayerOf m_aplanOf, aI cI m_abySize 256 m_bySize, aI cI m_aconcept 20 m_concept, aD cD m_ascore 20 m_score, aI cI m_aexamplePoint 12 m_examplePoint, aI cI m_aexampleLabel 12 m_exampleLabel, aI cI m_atype 4 m_type, aI cI m_alength 4 m_length, aJ cJ m_awhole 160 m_whole, aD cD m_atwofold 160 m_twofold, aI cI m_ashotConcept 20 m_shotConcept, aD cD m_ashotScore 20 m_shotScore, aI cI m_ashotPoint 12 m_shotPoint, aI cI m_ashotLabel 12 m_shotLabel, aI cI m_alayerOf 20 m_layerOf, aI cI m_aplanOf 20 m_planOf] (fun (r : Int32) (u : Unit) => Q r) (fun (u : Unit) => [oX8 m_a m_m m_abySize m_many m_aconcept m_ascore m_examples m_aexamplePoint m_aexampleLabel m_atype m_alength m_awhole m_atwofold m_hasShot m_shotM m_shotMany m_ashotConcept m_ashotScore m_shotExamples m_ashotPoint m_ashotLabel m_alayerOf m_aplanOf, aI cI m_abySize 256 m_bySize, aI cI m_aconcept 20 m_concept, aD cD m_ascore 20 m_score, aI cI m_aexamplePoint 12 m_examplePoint, aI cI m_aexampleLabel 12 m_exampleLabel, aI cI m_atype 4 m_type, aI cI m_alength 4 m_length, aJ cJ m_awhole 160 m_whole, aD cD m_atwofold 160 m_twofold, aI cI m_ashotConcept 20 m_shotConcept, aD cD m_ashotScore 20 m_shotScore, aI cI m_ashotPoint 12 m_shotPoint, aI cI m_ashotLabel 12 m_shotLabel, aI cI m_alayerOf 20 m_layerOf, aI cI m_aplanOf 20 m_planOf])) (Q : Int32 → Prop) (h : wp_X8_asked K x1 x2 m_many m_concept Q) : CtI l yX8_asked wsX8_asked (rm_X8_asked F L) G (TY cI cD cZ cJ cO) [.ref m_a, .int x1, .int x2] [oX8 m_a m_m m_abySize m_many m_aconcept m_ascore m_examples m_aexamplePoint m_aexampleLabel m_atype m_alength m_awhole m_atwofold m_hasShot m_shotM m_shotMany m_ashotConcept m_ashotScore m_shotExamples m_ashotPoint m_ashotLabel m_alayerOf m_aplanOf, aI cI m_abySize 256 m_bySize, aI cI m_aconcept 20 m_concept, aD cD m_ascore 20 m_score, aI cI m_aexamplePoint 12 m_examplePoint, aI cI m_aexampleLabel 12 m_exampleLabel, aI cI m_atype 4 m_type, aI cI m_alength 4 m_length, aJ cJ m_awhole 160 m_whole, aD cD m_atwofold 160 m_twofold, aI cI m_ashotConcept 20 m_shotConcept, aD cD m_ashotScore 20 m_shotScore, aI cI m_ashotPoint 12 m_shotPoint, aI cI m_ashotLabel 12 m_shotLabel, aI cI m_alayerOf 20 m_layerOf, aI cI m_aplanOf 20 m_planOf] (fun (r : Int32) (u : Unit) => Q r) (fun (u : Unit) => [oX8 m_a m_m m_abySize m_many m_aconcept m_ascore m_examples m_aexamplePoint m_aexampleLabel m_atype m_alength m_awhole m_atwofold m_hasShot m_shotM m_shotMany m_ashotConcept m_ashotScore m_shotExamples m_ashotPoint m_ashotLabel m_alayerOf m_aplanOf, aI cI m_abySize 256 m_bySize, aI cI m_aconcept 20 m_concept, aD cD m_ascore 20 m_score, aI cI m_aexamplePoint 12 m_examplePoint, aI cI m_aexampleLabel 12 m_exampleLabel, aI cI m_atype 4 m_type, aI cI m_alength 4 m_length, aJ cJ m_awhole 160 m_whole, aD cD m_atwofold 160 m_twofold, aI cI m_ashotConcept 20 m_shotConcept, aD cD m_ashotScore 20 m_shotScore, aI cI m_ashotPoint 12 m_shotPoint, aI cI m_ashotLabel 12 m_shotLabel, aI cI m_alayerOf 20 m_layerOf, aI cI m_aplanOf 20 m_planOf]) := by
  refine ct_openI (cc := cX8_asked) (maxL := 6) (ty := .int) (by decide) rfl (Nat.le_of_ble_eq_true rfl) ?_
  intro p e s m args below meth c A Z ls hx hb hml hown hts hK hA hret hP hD hS hl
  have hown : s.vm.findClass RX8 = some m.cls := hown
  have hl : lv_has ls 6 [(0, .ref m_a), (1, .int x1), (2, .int x2)] := hl
  refine lv_aload_n hx hb dX8_asked_0 rfl (lv_at hl 0 rfl) ?_
  refine lv_iload_n hx hb dX8_asked_1 rfl (lv_at hl 1 rfl) ?_
  refine lv_iload_n hx hb dX8_asked_2 rfl (lv_at hl 2 rfl) ?_
  refine k_Vi (wr := []) (wf := (fun (u : Unit) => [oX8 m_a m_m m_abySize m_many m_aconcept m_ascore m_examples m_aexamplePoint m_aexampleLabel m_atype m_alength m_awhole m_atwofold m_hasShot m_shotM m_shotMany m_ashotConcept m_ashotScore m_shotExamples m_ashotPoint m_ashotLabel m_alayerOf m_aplanOf, aI cI m_abySize 256 m_bySize, aI cI m_aconcept 20 m_concept, aD cD m_ascore 20 m_score, aI cI m_aexamplePoint 12 m_examplePoint, aI cI m_aexampleLabel 12 m_exampleLabel, aI cI m_atype 4 m_type, aI cI m_alength 4 m_length, aJ cJ m_awhole 160 m_whole, aD cD m_atwofold 160 m_twofold, aI cI m_ashotConcept 20 m_shotConcept, aD cD m_ashotScore 20 m_shotScore, aI cI m_ashotPoint 12 m_shotPoint, aI cI m_ashotLabel 12 m_shotLabel, aI cI m_alayerOf 20 m_layerOf, aI cI m_aplanOf 20 m_planOf])) (As := [.int x1, .int x2]) (rest := []) ⟨hx, hb, hml, hown, hts⟩ hK hP hD hS hA (c_X8_with l G cI cD cZ cJ cO m_a m_abySize m_aconcept m_ascore m_aexamplePoint m_aexampleLabel m_atype m_alength m_awhole m_atwofold m_ashotConcept m_ashotScore m_ashotPoint m_ashotLabel m_alayerOf m_aplanOf m_m m_many m_examples m_hasShot m_shotM m_shotMany m_shotExamples m_bySize m_concept m_score m_examplePoint m_exampleLabel m_type m_length m_whole m_twofold m_shotConcept m_shotScore m_shotPoint m_shotLabel m_layerOf m_planOf x1 x2 _ h) (cwV 2 hts gX8_asked_X8_with rfl rfl rfl (by decide +kernel) ⟨by show 1 + 1 ≤ F + 4; omega, by show 8 + (5 + 11) + 21 ≤ L + 120; omega⟩) 0 rfl rfl [0, 1, 2, 3, 4, 5, 6, 7, 8, 9, 10, 11, 12, 13, 14, 15] [] [0, 1, 2, 3, 4, 5, 6, 7, 8, 9, 10, 11, 12, 13, 14, 15] rfl rfl rfl (fun _ => rfl) rfl rfl hl.1 (Nat.le_of_ble_eq_true rfl) ⟨Nat.zero_le _, Nat.zero_le _⟩ dX8_asked_3 (fun r_1 u H locs h hP hD hS => ?_)
  have hP : va_P G vwCl [oX8 m_a m_m m_abySize m_many m_aconcept m_ascore m_examples m_aexamplePoint m_aexampleLabel m_atype m_alength m_awhole m_atwofold m_hasShot m_shotM m_shotMany m_ashotConcept m_ashotScore m_shotExamples m_ashotPoint m_ashotLabel m_alayerOf m_aplanOf, aI cI m_abySize 256 m_bySize, aI cI m_aconcept 20 m_concept, aD cD m_ascore 20 m_score, aI cI m_aexamplePoint 12 m_examplePoint, aI cI m_aexampleLabel 12 m_exampleLabel, aI cI m_atype 4 m_type, aI cI m_alength 4 m_length, aJ cJ m_awhole 160 m_whole, aD cD m_atwofold 160 m_twofold, aI cI m_ashotConcept 20 m_shotConcept, aD cD m_ashotScore 20 m_shotScore, aI cI m_ashotPoint 12 m_shotPoint, aI cI m_ashotLabel 12 m_shotLabel, aI cI m_alayerOf 20 m_layerOf, aI cI m_aplanOf 20 m_planOf] H := hP
  have hD : va_D A [oX8 m_a m_m m_abySize m_many m_aconcept m_ascore m_examples m_aexamplePoint m_aexampleLabel m_atype m_alength m_awhole m_atwofold m_hasShot m_shotM m_shotMany m_ashotConcept m_ashotScore m_shotExamples m_ashotPoint m_ashotLabel m_alayerOf m_aplanOf, aI cI m_abySize 256 m_bySize, aI cI m_aconcept 20 m_concept, aD cD m_ascore 20 m_score, aI cI m_aexamplePoint 12 m_examplePoint, aI cI m_aexampleLabel 12 m_exampleLabel, aI cI m_atype 4 m_type, aI cI m_alength 4 m_length, aJ cJ m_awhole 160 m_whole, aD cD m_atwofold 160 m_twofold, aI cI m_ashotConcept 20 m_shotConcept, aD cD m_ashotScore 20 m_shotScore, aI cI m_ashotPoint 12 m_shotPoint, aI cI m_ashotLabel 12 m_shotLabel, aI cI m_alayerOf 20 m_layerOf, aI cI m_aplanOf 20 m_planOf] := hD
  refine lv_istore_n (lv' := [(3, .int r_1), (0, .ref m_a), (1, .int x1), (2, .int x2)]) hx hb dX8_asked_6 rfl hl (by decide) rfl (fun ls hl => ?_)
  refine lv_iload_n hx hb dX8_asked_7 rfl (lv_at hl 0 rfl) ?_
  obtain ⟨ha, hf⟩ := h
  refine lv_if_eq (tgt := 16) hx hb dX8_asked_8 (by decide) (fun hc => ?_) (fun hc => ?_)
  · have h := ha hc
    clear ha hf
    refine lv_bipush (v := (9 : Int32)) hx hb dX8_asked_16 (by decide) ?_
    exact hret _ () _ _ _ _ rfl h hP hD hS dX8_asked_18
  · have h := hf hc
    clear ha hf
    refine lv_iload_n hx hb dX8_asked_11 rfl (lv_at hl 0 rfl) ?_
    refine lv_iload_n hx hb dX8_asked_12 rfl (lv_at hl 2 rfl) ?_
    obtain ⟨ha, hf⟩ := h
    refine lv_icmp_ne (tgt := 19) hx hb dX8_asked_13 (by decide) (fun hc => ?_) (fun hc => ?_)
    · have h := ha hc
      clear ha hf
      refine lv_aload_n hx hb dX8_asked_19 rfl (lv_at hl 1 rfl) ?_
      refine lv_iload_n hx hb dX8_asked_20 rfl (lv_at hl 0 rfl) ?_
      refine k_Si (wr := []) (wf := (fun (u : Unit) => [oX8 m_a m_m m_abySize m_many m_aconcept m_ascore m_examples m_aexamplePoint m_aexampleLabel m_atype m_alength m_awhole m_atwofold m_hasShot m_shotM m_shotMany m_ashotConcept m_ashotScore m_shotExamples m_ashotPoint m_ashotLabel m_alayerOf m_aplanOf, aI cI m_abySize 256 m_bySize, aI cI m_aconcept 20 m_concept, aD cD m_ascore 20 m_score, aI cI m_aexamplePoint 12 m_examplePoint, aI cI m_aexampleLabel 12 m_exampleLabel, aI cI m_atype 4 m_type, aI cI m_alength 4 m_length, aJ cJ m_awhole 160 m_whole, aD cD m_atwofold 160 m_twofold, aI cI m_ashotConcept 20 m_shotConcept, aD cD m_ashotScore 20 m_shotScore, aI cI m_ashotPoint 12 m_shotPoint, aI cI m_ashotLabel 12 m_shotLabel, aI cI m_alayerOf 20 m_layerOf, aI cI m_aplanOf 20 m_planOf])) (As := [.ref m_a, .int r_1]) (rest := []) ⟨hx, hb, hml, hown, hts⟩ hK hP hD hS hA (hrec r_1 _ h) (va_cwS 2 hts gX8_asked_X8_depth rfl rfl rfl (by decide +kernel) ⟨by show F + 1 ≤ F + 4; omega, by show 8 + (5 + 11) + L ≤ L + 120; omega⟩) [0, 1, 2, 3, 4, 5, 6, 7, 8, 9, 10, 11, 12, 13, 14, 15] [] [0, 1, 2, 3, 4, 5, 6, 7, 8, 9, 10, 11, 12, 13, 14, 15] rfl rfl rfl (fun _ => rfl) rfl rfl hl.1 (Nat.le_of_ble_eq_true rfl) ⟨Nat.zero_le _, Nat.zero_le _⟩ dX8_asked_21 (fun r_2 u H locs h hP hD hS => ?_)
      have hP : va_P G vwCl [oX8 m_a m_m m_abySize m_many m_aconcept m_ascore m_examples m_aexamplePoint m_aexampleLabel m_atype m_alength m_awhole m_atwofold m_hasShot m_shotM m_shotMany m_ashotConcept m_ashotScore m_shotExamples m_ashotPoint m_ashotLabel m_alayerOf m_aplanOf, aI cI m_abySize 256 m_bySize, aI cI m_aconcept 20 m_concept, aD cD m_ascore 20 m_score, aI cI m_aexamplePoint 12 m_examplePoint, aI cI m_aexampleLabel 12 m_exampleLabel, aI cI m_atype 4 m_type, aI cI m_alength 4 m_length, aJ cJ m_awhole 160 m_whole, aD cD m_atwofold 160 m_twofold, aI cI m_ashotConcept 20 m_shotConcept, aD cD m_ashotScore 20 m_shotScore, aI cI m_ashotPoint 12 m_shotPoint, aI cI m_ashotLabel 12 m_shotLabel, aI cI m_alayerOf 20 m_layerOf, aI cI m_aplanOf 20 m_planOf] H := hP
      have hD : va_D A [oX8 m_a m_m m_abySize m_many m_aconcept m_ascore m_examples m_aexamplePoint m_aexampleLabel m_atype m_alength m_awhole m_atwofold m_hasShot m_shotM m_shotMany m_ashotConcept m_ashotScore m_shotExamples m_ashotPoint m_ashotLabel m_alayerOf m_aplanOf, aI cI m_abySize 256 m_bySize, aI cI m_aconcept 20 m_concept, aD cD m_ascore 20 m_score, aI cI m_aexamplePoint 12 m_examplePoint, aI cI m_aexampleLabel 12 m_exampleLabel, aI cI m_atype 4 m_type, aI cI m_alength 4 m_length, aJ cJ m_awhole 160 m_whole, aD cD m_atwofold 160 m_twofold, aI cI m_ashotConcept 20 m_shotConcept, aD cD m_ashotScore 20 m_shotScore, aI cI m_ashotPoint 12 m_shotPoint, aI cI m_ashotLabel 12 m_shotLabel, aI cI m_alayerOf 20 m_layerOf, aI cI m_aplanOf 20 m_planOf] := hD
      refine lv_istore (lv' := [(4, .int r_2), (3, .int r_1), (0, .ref m_a), (1, .int x1), (2, .int x2)]) hx hb dX8_asked_24 hl (by decide) rfl (fun ls hl => ?_)
      refine lv_aload_n hx hb dX8_asked_26 rfl (lv_at hl 2 rfl) ?_
      refine lv_iload_n hx hb dX8_asked_27 rfl (lv_at hl 3 rfl) ?_
      refine lv_iload_n hx hb dX8_asked_28 rfl (lv_at hl 1 rfl) ?_
      refine lv_iconst (v := (-1 : Int32)) hx hb dX8_asked_29 (by decide) ?_
      refine lv_ixor hx hb dX8_asked_30 ?_
      refine lv_iand hx hb dX8_asked_31 ?_
      refine k_Si (wr := []) (wf := (fun (u : Unit) => [oX8 m_a m_m m_abySize m_many m_aconcept m_ascore m_examples m_aexamplePoint m_aexampleLabel m_atype m_alength m_awhole m_atwofold m_hasShot m_shotM m_shotMany m_ashotConcept m_ashotScore m_shotExamples m_ashotPoint m_ashotLabel m_alayerOf m_aplanOf, aI cI m_abySize 256 m_bySize, aI cI m_aconcept 20 m_concept, aD cD m_ascore 20 m_score, aI cI m_aexamplePoint 12 m_examplePoint, aI cI m_aexampleLabel 12 m_exampleLabel, aI cI m_atype 4 m_type, aI cI m_alength 4 m_length, aJ cJ m_awhole 160 m_whole, aD cD m_atwofold 160 m_twofold, aI cI m_ashotConcept 20 m_shotConcept, aD cD m_ashotScore 20 m_shotScore, aI cI m_ashotPoint 12 m_shotPoint, aI cI m_ashotLabel 12 m_shotLabel, aI cI m_alayerOf 20 m_layerOf, aI cI m_aplanOf 20 m_planOf])) (As := [.ref m_a, .int (x1 &&& (r_1 ^^^ (-1 : Int32)))]) (rest := []) ⟨hx, hb, hml, hown, hts⟩ hK hP hD hS hA (hrec (x1 &&& (r_1 ^^^ (-1 : Int32))) _ h) (va_cwS 2 hts gX8_asked_X8_depth rfl rfl rfl (by decide +kernel) ⟨by show F + 1 ≤ F + 4; omega, by show 8 + (5 + 11) + L ≤ L + 120; omega⟩) [0, 1, 2, 3, 4, 5, 6, 7, 8, 9, 10, 11, 12, 13, 14, 15] [] [0, 1, 2, 3, 4, 5, 6, 7, 8, 9, 10, 11, 12, 13, 14, 15] rfl rfl rfl (fun _ => rfl) rfl rfl hl.1 (Nat.le_of_ble_eq_true rfl) ⟨Nat.zero_le _, Nat.zero_le _⟩ dX8_asked_32 (fun r_3 u H locs h hP hD hS => ?_)
      have hP : va_P G vwCl [oX8 m_a m_m m_abySize m_many m_aconcept m_ascore m_examples m_aexamplePoint m_aexampleLabel m_atype m_alength m_awhole m_atwofold m_hasShot m_shotM m_shotMany m_ashotConcept m_ashotScore m_shotExamples m_ashotPoint m_ashotLabel m_alayerOf m_aplanOf, aI cI m_abySize 256 m_bySize, aI cI m_aconcept 20 m_concept, aD cD m_ascore 20 m_score, aI cI m_aexamplePoint 12 m_examplePoint, aI cI m_aexampleLabel 12 m_exampleLabel, aI cI m_atype 4 m_type, aI cI m_alength 4 m_length, aJ cJ m_awhole 160 m_whole, aD cD m_atwofold 160 m_twofold, aI cI m_ashotConcept 20 m_shotConcept, aD cD m_ashotScore 20 m_shotScore, aI cI m_ashotPoint 12 m_shotPoint, aI cI m_ashotLabel 12 m_shotLabel, aI cI m_alayerOf 20 m_layerOf, aI cI m_aplanOf 20 m_planOf] H := hP
      have hD : va_D A [oX8 m_a m_m m_abySize m_many m_aconcept m_ascore m_examples m_aexamplePoint m_aexampleLabel m_atype m_alength m_awhole m_atwofold m_hasShot m_shotM m_shotMany m_ashotConcept m_ashotScore m_shotExamples m_ashotPoint m_ashotLabel m_alayerOf m_aplanOf, aI cI m_abySize 256 m_bySize, aI cI m_aconcept 20 m_concept, aD cD m_ascore 20 m_score, aI cI m_aexamplePoint 12 m_examplePoint, aI cI m_aexampleLabel 12 m_exampleLabel, aI cI m_atype 4 m_type, aI cI m_alength 4 m_length, aJ cJ m_awhole 160 m_whole, aD cD m_atwofold 160 m_twofold, aI cI m_ashotConcept 20 m_shotConcept, aD cD m_ashotScore 20 m_shotScore, aI cI m_ashotPoint 12 m_shotPoint, aI cI m_ashotLabel 12 m_shotLabel, aI cI m_alayerOf 20 m_layerOf, aI cI m_aplanOf 20 m_planOf] := hD
      refine lv_istore (lv' := [(5, .int r_3), (4, .int r_2), (3, .int r_1), (0, .ref m_a), (1, .int x1), (2, .int x2)]) hx hb dX8_asked_35 hl (by decide) rfl (fun ls hl => ?_)
      refine lv_iconst (v := (1 : Int32)) hx hb dX8_asked_37 (by decide) ?_
      refine lv_iload hx hb dX8_asked_38 (lv_at hl 1 rfl) ?_
      refine lv_iload hx hb dX8_asked_40 (lv_at hl 0 rfl) ?_
      obtain ⟨ha, hf⟩ := h
      refine lv_icmp_le (tgt := 50) hx hb dX8_asked_42 (by decide) (fun hc => ?_) (fun hc => ?_)
      · have h := ha hc
        clear ha hf
        refine lv_iload hx hb dX8_asked_50 (lv_at hl 0 rfl) ?_
        refine lv_iadd hx hb dX8_asked_52 ?_
        exact hret _ () _ _ _ _ rfl h hP hD hS dX8_asked_53
      · have h := hf hc
        clear ha hf
        refine lv_iload hx hb dX8_asked_45 (lv_at hl 1 rfl) ?_
        refine lv_goto (tgt := 52) hx hb dX8_asked_47 (by decide) ?_
        refine lv_iadd hx hb dX8_asked_52 ?_
        exact hret _ () _ _ _ _ rfl h hP hD hS dX8_asked_53
    · have h := hf hc
      clear ha hf
      refine lv_bipush (v := (9 : Int32)) hx hb dX8_asked_16 (by decide) ?_
      exact hret _ () _ _ _ _ rfl h hP hD hS dX8_asked_18
abbrev rm_X8_depth (F L : Nat) : Room := { frames := F + 3, cells := 0, slots := 0, locals := L + 100 }
def wp_X8_depth_b15 (K : Int32 → Int32 → (Int32 → Prop) → Prop) (x1 : Int32) (m_m : Int32) (Q : Int32 → Prop)  : Nat → Int32 → Int32 → Prop
  | 0, _, _ => False
  | n + 1, x2, x3 => ((m_m ≤ x3) → Q x2) ∧ ((¬ m_m ≤ x3) → K x1 x3 (fun (r_2 : Int32) => ((x2 ≤ r_2) → wp_X8_depth_b15 K x1 m_m Q n x2 (x3 + (1 : Int32))) ∧ ((¬ x2 ≤ r_2) → wp_X8_depth_b15 K x1 m_m Q n r_2 (x3 + (1 : Int32)))))
def wp_X8_depth (K : Int32 → Int32 → (Int32 → Prop) → Prop) (x1 : Int32) (m_m : Int32) (Q : Int32 → Prop) : Prop := wp_X8_sizeOf x1 (fun (r_1 : Int32) => (((1 : Int32) < r_1) → ∃ j15, wp_X8_depth_b15 K x1 m_m Q j15 (9 : Int32) (0 : Int32)) ∧ ((¬ (1 : Int32) < r_1) → Q (0 : Int32)))
set_option maxRecDepth 100000 in
set_option maxHeartbeats 4000000 in
theorem c_X8_depth (l : Launch) (G : va_G) (cI cD cZ cJ cO : ClassId) (m_a m_abySize m_aconcept m_ascore m_aexamplePoint m_aexampleLabel m_atype m_alength m_awhole m_atwofold m_ashotConcept m_ashotScore m_ashotPoint m_ashotLabel m_alayerOf m_aplanOf : Nat) (m_m : Int32) (m_many : Int32) (m_examples : Int32) (m_hasShot : Int32) (m_shotM : Int32) (m_shotMany : Int32) (m_shotExamples : Int32) (m_bySize : Nat → Int32) (m_concept : Nat → Int32) (m_score : Nat → UInt64) (m_examplePoint : Nat → Int32) (m_exampleLabel : Nat → Int32) (m_type : Nat → Int32) (m_length : Nat → Int32) (m_whole : Nat → Int64) (m_twofold : Nat → UInt64) (m_shotConcept : Nat → Int32) (m_shotScore : Nat → UInt64) (m_shotPoint : Nat → Int32) (m_shotLabel : Nat → Int32) (m_layerOf : Nat → Int32) (m_planOf : Nat → Int32) (x1 : Int32) (F L : Nat) (K : Int32 → Int32 → (Int32 → Prop) → Prop) (hrec : ∀ (x1 : Int32) (x2 : Int32) (Q : Int32 → Prop), K x1 x2 Q → CtI l yX8_asked wsX8_asked { frames := F, cells := 0, slots := 0, locals := L } G (TY cI cD cZ cJ cO) [.ref m_a, .int x1, .int x2] [oX8 m_a m_m m_abySize m_many m_aconcept m_ascore m_examples m_aexamplePoint m_aexampleLabel m_atype m_alength m_awhole m_atwofold m_hasShot m_shotM m_shotMany m_ashotConcept m_ashotScore m_shotExamples m_ashotPoint m_ashotLabel m_alayerOf m_aplanOf, aI cI m_abySize 256 m_bySize, aI cI m_aconcept 20 m_concept, aD cD m_ascore 20 m_score, aI cI m_aexamplePoint 12 m_examplePoint, aI cI m_aexampleLabel 12 m_exampleLabel, aI cI m_atype 4 m_type, aI cI m_alength 4 m_length, aJ cJ m_awhole 160 m_whole, aD cD m_atwofold 160 m_twofold, aI cI m_ashotConcept 20 m_shotConcept, aD cD m_ashotScore 20 m_shotScore, aI cI m_ashotPoint 12 m_shotPoint, aI cI m_ashotLabel 12 m_shotLabel, aI cI m_alayerOf 20 m_layerOf, aI cI m_aplanOf 20 m_planOf] (fun (r : Int32) (u : Unit) => Q r) (fun (u : Unit) => [oX8 m_a m_m m_abySize m_many m_aconcept m_ascore m_examples m_aexamplePoint m_aexampleLabel m_atype m_alength m_awhole m_atwofold m_hasShot m_shotM m_shotMany m_ashotConcept m_ashotScore m_shotExamples m_ashotPoint m_ashotLabel m_alayerOf m_aplanOf, aI cI m_abySize 256 m_bySize, aI cI m_aconcept 20 m_concept, aD cD m_ascore 20 m_score, aI cI m_aexamplePoint 12 m_examplePoint, aI cI m_aexampleLabel 12 m_exampleLabel, aI cI m_atype 4 m_type, aI cI m_alength 4 m_length, aJ cJ m_awhole 160 m_whole, aD cD m_atwofold 160 m_twofold, aI cI m_ashotConcept 20 m_shotConcept, aD cD m_ashotScore 20 m_shotScore, aI cI m_ashotPoint 12 m_shotPoint, aI cI m_ashotLabel 12 m_shotLabel, aI cI m_alayerOf 20 m_layerOf, aI cI m_aplanOf 20 m_planOf])) (Q : Int32 → Prop) (h : wp_X8_depth K x1 m_m Q) : CtI l yX8_depth wsX8_depth (rm_X8_depth F L) G (TY cI cD cZ cJ cO) [.ref m_a, .int x1] [oX8 m_a m_m m_abySize m_many m_aconcept m_ascore m_examples m_aexamplePoint m_aexampleLabel m_atype m_alength m_awhole m_atwofold m_hasShot m_shotM m_shotMany m_ashotConcept m_ashotScore m_shotExamples m_ashotPoint m_ashotLabel m_alayerOf m_aplanOf, aI cI m_abySize 256 m_bySize, aI cI m_aconcept 20 m_concept, aD cD m_ascore 20 m_score, aI cI m_aexamplePoint 12 m_examplePoint, aI cI m_aexampleLabel 12 m_exampleLabel, aI cI m_atype 4 m_type, aI cI m_alength 4 m_length, aJ cJ m_awhole 160 m_whole, aD cD m_atwofold 160 m_twofold, aI cI m_ashotConcept 20 m_shotConcept, aD cD m_ashotScore 20 m_shotScore, aI cI m_ashotPoint 12 m_shotPoint, aI cI m_ashotLabel 12 m_shotLabel, aI cI m_alayerOf 20 m_layerOf, aI cI m_aplanOf 20 m_planOf] (fun (r : Int32) (u : Unit) => Q r) (fun (u : Unit) => [oX8 m_a m_m m_abySize m_many m_aconcept m_ascore m_examples m_aexamplePoint m_aexampleLabel m_atype m_alength m_awhole m_atwofold m_hasShot m_shotM m_shotMany m_ashotConcept m_ashotScore m_shotExamples m_ashotPoint m_ashotLabel m_alayerOf m_aplanOf, aI cI m_abySize 256 m_bySize, aI cI m_aconcept 20 m_concept, aD cD m_ascore 20 m_score, aI cI m_aexamplePoint 12 m_examplePoint, aI cI m_aexampleLabel 12 m_exampleLabel, aI cI m_atype 4 m_type, aI cI m_alength 4 m_length, aJ cJ m_awhole 160 m_whole, aD cD m_atwofold 160 m_twofold, aI cI m_ashotConcept 20 m_shotConcept, aD cD m_ashotScore 20 m_shotScore, aI cI m_ashotPoint 12 m_shotPoint, aI cI m_ashotLabel 12 m_shotLabel, aI cI m_alayerOf 20 m_layerOf, aI cI m_aplanOf 20 m_planOf]) := by
  refine ct_openI (cc := cX8_depth) (maxL := 5) (ty := .int) (by decide) rfl (Nat.le_of_ble_eq_true rfl) ?_
  intro p e s m args below meth c A Z ls hx hb hml hown hts hK hA hret hP hD hS hl
  have hown : s.vm.findClass RX8 = some m.cls := hown
  have hl : lv_has ls 5 [(0, .ref m_a), (1, .int x1)] := hl
  have f_9 := hts (.fieldLink RX8 9 "TeachingSetsModel" "m" "I") (List.mem_of_getElem? (i := 1) rfl)
  have i_X8 : ∀ w ∈ wsX80, w ∈ wsX8_depth := fun _ h => List.mem_cons_of_mem _ (List.mem_append_right _ (h))
  have b_15 : ∀ (n : Nat) (x2 : Int32) (x3 : Int32), wp_X8_depth_b15 K x1 m_m Q n x2 x3 → ∀ (H : Heap) (locs : List Loc) (ls : Array Slot), ST G A s.heap [oX8 m_a m_m m_abySize m_many m_aconcept m_ascore m_examples m_aexamplePoint m_aexampleLabel m_atype m_alength m_awhole m_atwofold m_hasShot m_shotM m_shotMany m_ashotConcept m_ashotScore m_shotExamples m_ashotPoint m_ashotLabel m_alayerOf m_aplanOf, aI cI m_abySize 256 m_bySize, aI cI m_aconcept 20 m_concept, aD cD m_ascore 20 m_score, aI cI m_aexamplePoint 12 m_examplePoint, aI cI m_aexampleLabel 12 m_exampleLabel, aI cI m_atype 4 m_type, aI cI m_alength 4 m_length, aJ cJ m_awhole 160 m_whole, aD cD m_atwofold 160 m_twofold, aI cI m_ashotConcept 20 m_shotConcept, aD cD m_ashotScore 20 m_shotScore, aI cI m_ashotPoint 12 m_shotPoint, aI cI m_ashotLabel 12 m_shotLabel, aI cI m_alayerOf 20 m_layerOf, aI cI m_aplanOf 20 m_planOf] 5 [(0, .ref m_a), (1, .int x1), (2, .int x2), (3, .int x3)] H locs ls → W p l e (rm_X8_depth F L) s m args below meth c H locs 0 0 Z (F0 m 15 ls []) := by
    intro n
    induction n with
    | zero =>
      intro x2 x3 h; exact False.elim h
    | succ n ih =>
      intro x2 x3 h H locs ls hst
      obtain ⟨hP, hD, hS, hl⟩ := hst
      refine lv_iload_n hx hb dX8_depth_15 rfl (lv_at hl 3 rfl) ?_
      refine lv_aload_n hx hb dX8_depth_16 rfl (lv_at hl 0 rfl) ?_
      refine va_get (D := G) (ci := 8) (v := .int m_m) (C := RX8) (T := TX8) (N := 22) hx hb hts i_X8 hown hK.1 hP 0 rfl rfl 0 (by decide) f_9 (fun _ h9 => h9) rfl dX8_depth_17 ?_
      obtain ⟨ha, hf⟩ := h
      refine lv_icmp_ge (tgt := 50) hx hb dX8_depth_20 (by decide) (fun hc => ?_) (fun hc => ?_)
      · have h := ha hc
        clear ha hf
        refine lv_iload_n hx hb dX8_depth_50 rfl (lv_at hl 2 rfl) ?_
        exact hret _ () _ _ _ _ rfl h hP hD hS dX8_depth_51
      · have h := hf hc
        clear ha hf
        refine lv_aload_n hx hb dX8_depth_23 rfl (lv_at hl 0 rfl) ?_
        refine lv_iload_n hx hb dX8_depth_24 rfl (lv_at hl 1 rfl) ?_
        refine lv_iload_n hx hb dX8_depth_25 rfl (lv_at hl 3 rfl) ?_
        refine k_Si (wr := []) (wf := (fun (u : Unit) => [oX8 m_a m_m m_abySize m_many m_aconcept m_ascore m_examples m_aexamplePoint m_aexampleLabel m_atype m_alength m_awhole m_atwofold m_hasShot m_shotM m_shotMany m_ashotConcept m_ashotScore m_shotExamples m_ashotPoint m_ashotLabel m_alayerOf m_aplanOf, aI cI m_abySize 256 m_bySize, aI cI m_aconcept 20 m_concept, aD cD m_ascore 20 m_score, aI cI m_aexamplePoint 12 m_examplePoint, aI cI m_aexampleLabel 12 m_exampleLabel, aI cI m_atype 4 m_type, aI cI m_alength 4 m_length, aJ cJ m_awhole 160 m_whole, aD cD m_atwofold 160 m_twofold, aI cI m_ashotConcept 20 m_shotConcept, aD cD m_ashotScore 20 m_shotScore, aI cI m_ashotPoint 12 m_shotPoint, aI cI m_ashotLabel 12 m_shotLabel, aI cI m_alayerOf 20 m_layerOf, aI cI m_aplanOf 20 m_planOf])) (As := [.ref m_a, .int x1, .int x3]) (rest := []) ⟨hx, hb, hml, hown, hts⟩ hK hP hD hS hA (hrec x1 x3 _ h) (va_cwS 3 hts gX8_depth_X8_asked rfl rfl rfl (by decide +kernel) ⟨by show F + 1 ≤ F + 3; omega, by show 8 + (6 + 11) + L ≤ L + 100; omega⟩) [0, 1, 2, 3, 4, 5, 6, 7, 8, 9, 10, 11, 12, 13, 14, 15] [] [0, 1, 2, 3, 4, 5, 6, 7, 8, 9, 10, 11, 12, 13, 14, 15] rfl rfl rfl (fun _ => rfl) rfl rfl hl.1 (Nat.le_of_ble_eq_true rfl) ⟨Nat.zero_le _, Nat.zero_le _⟩ dX8_depth_26 (fun r_2 u H locs h hP hD hS => ?_)
        have hP : va_P G vwCl [oX8 m_a m_m m_abySize m_many m_aconcept m_ascore m_examples m_aexamplePoint m_aexampleLabel m_atype m_alength m_awhole m_atwofold m_hasShot m_shotM m_shotMany m_ashotConcept m_ashotScore m_shotExamples m_ashotPoint m_ashotLabel m_alayerOf m_aplanOf, aI cI m_abySize 256 m_bySize, aI cI m_aconcept 20 m_concept, aD cD m_ascore 20 m_score, aI cI m_aexamplePoint 12 m_examplePoint, aI cI m_aexampleLabel 12 m_exampleLabel, aI cI m_atype 4 m_type, aI cI m_alength 4 m_length, aJ cJ m_awhole 160 m_whole, aD cD m_atwofold 160 m_twofold, aI cI m_ashotConcept 20 m_shotConcept, aD cD m_ashotScore 20 m_shotScore, aI cI m_ashotPoint 12 m_shotPoint, aI cI m_ashotLabel 12 m_shotLabel, aI cI m_alayerOf 20 m_layerOf, aI cI m_aplanOf 20 m_planOf] H := hP
        have hD : va_D A [oX8 m_a m_m m_abySize m_many m_aconcept m_ascore m_examples m_aexamplePoint m_aexampleLabel m_atype m_alength m_awhole m_atwofold m_hasShot m_shotM m_shotMany m_ashotConcept m_ashotScore m_shotExamples m_ashotPoint m_ashotLabel m_alayerOf m_aplanOf, aI cI m_abySize 256 m_bySize, aI cI m_aconcept 20 m_concept, aD cD m_ascore 20 m_score, aI cI m_aexamplePoint 12 m_examplePoint, aI cI m_aexampleLabel 12 m_exampleLabel, aI cI m_atype 4 m_type, aI cI m_alength 4 m_length, aJ cJ m_awhole 160 m_whole, aD cD m_atwofold 160 m_twofold, aI cI m_ashotConcept 20 m_shotConcept, aD cD m_ashotScore 20 m_shotScore, aI cI m_ashotPoint 12 m_shotPoint, aI cI m_ashotLabel 12 m_shotLabel, aI cI m_alayerOf 20 m_layerOf, aI cI m_aplanOf 20 m_planOf] := hD
        refine lv_istore (lv' := [(4, .int r_2), (0, .ref m_a), (1, .int x1), (2, .int x2), (3, .int x3)]) hx hb dX8_depth_29 hl (by decide) rfl (fun ls hl => ?_)
        refine lv_iload hx hb dX8_depth_31 (lv_at hl 0 rfl) ?_
        refine lv_iload_n hx hb dX8_depth_33 rfl (lv_at hl 3 rfl) ?_
        obtain ⟨ha, hf⟩ := h
        refine lv_icmp_ge (tgt := 42) hx hb dX8_depth_34 (by decide) (fun hc => ?_) (fun hc => ?_)
        · have h := ha hc
          clear ha hf
          refine lv_iload_n hx hb dX8_depth_42 rfl (lv_at hl 3 rfl) ?_
          refine lv_istore_n (lv' := [(2, .int x2), (4, .int r_2), (0, .ref m_a), (1, .int x1), (3, .int x3)]) hx hb dX8_depth_43 rfl hl (by decide) rfl (fun ls hl => ?_)
          refine lv_iinc (v := (x3 + (1 : Int32))) (lv' := [(3, .int (x3 + (1 : Int32))), (2, .int x2), (4, .int r_2), (0, .ref m_a), (1, .int x1)]) hx hb dX8_depth_44 hl (k := 4) rfl rfl (by decide) rfl (fun ls hl => ?_)
          refine lv_goto (tgt := 15) hx hb dX8_depth_47 (by decide) ?_
          exact ih _ _ h _ _ _ ⟨hP, hD, hS, lv_sub hl [3, 4, 1, 0] rfl⟩
        · have h := hf hc
          clear ha hf
          refine lv_iload hx hb dX8_depth_37 (lv_at hl 0 rfl) ?_
          refine lv_goto (tgt := 43) hx hb dX8_depth_39 (by decide) ?_
          refine lv_istore_n (lv' := [(2, .int r_2), (4, .int r_2), (0, .ref m_a), (1, .int x1), (3, .int x3)]) hx hb dX8_depth_43 rfl hl (by decide) rfl (fun ls hl => ?_)
          refine lv_iinc (v := (x3 + (1 : Int32))) (lv' := [(3, .int (x3 + (1 : Int32))), (2, .int r_2), (4, .int r_2), (0, .ref m_a), (1, .int x1)]) hx hb dX8_depth_44 hl (k := 4) rfl rfl (by decide) rfl (fun ls hl => ?_)
          refine lv_goto (tgt := 15) hx hb dX8_depth_47 (by decide) ?_
          exact ih _ _ h _ _ _ ⟨hP, hD, hS, lv_sub hl [3, 4, 1, 0] rfl⟩
  refine lv_iload_n hx hb dX8_depth_0 rfl (lv_at hl 1 rfl) ?_
  refine k_Si (wr := [oX8 m_a m_m m_abySize m_many m_aconcept m_ascore m_examples m_aexamplePoint m_aexampleLabel m_atype m_alength m_awhole m_atwofold m_hasShot m_shotM m_shotMany m_ashotConcept m_ashotScore m_shotExamples m_ashotPoint m_ashotLabel m_alayerOf m_aplanOf, aI cI m_abySize 256 m_bySize, aI cI m_aconcept 20 m_concept, aD cD m_ascore 20 m_score, aI cI m_aexamplePoint 12 m_examplePoint, aI cI m_aexampleLabel 12 m_exampleLabel, aI cI m_atype 4 m_type, aI cI m_alength 4 m_length, aJ cJ m_awhole 160 m_whole, aD cD m_atwofold 160 m_twofold, aI cI m_ashotConcept 20 m_shotConcept, aD cD m_ashotScore 20 m_shotScore, aI cI m_ashotPoint 12 m_shotPoint, aI cI m_ashotLabel 12 m_shotLabel, aI cI m_alayerOf 20 m_layerOf, aI cI m_aplanOf 20 m_planOf]) (wf := (fun (u : Unit) => [oX8 m_a m_m m_abySize m_many m_aconcept m_ascore m_examples m_aexamplePoint m_aexampleLabel m_atype m_alength m_awhole m_atwofold m_hasShot m_shotM m_shotMany m_ashotConcept m_ashotScore m_shotExamples m_ashotPoint m_ashotLabel m_alayerOf m_aplanOf, aI cI m_abySize 256 m_bySize, aI cI m_aconcept 20 m_concept, aD cD m_ascore 20 m_score, aI cI m_aexamplePoint 12 m_examplePoint, aI cI m_aexampleLabel 12 m_exampleLabel, aI cI m_atype 4 m_type, aI cI m_alength 4 m_length, aJ cJ m_awhole 160 m_whole, aD cD m_atwofold 160 m_twofold, aI cI m_ashotConcept 20 m_shotConcept, aD cD m_ashotScore 20 m_shotScore, aI cI m_ashotPoint 12 m_shotPoint, aI cI m_ashotLabel 12 m_shotLabel, aI cI m_alayerOf 20 m_layerOf, aI cI m_aplanOf 20 m_planOf])) (As := [.int x1]) (rest := []) ⟨hx, hb, hml, hown, hts⟩ hK hP hD hS hA (c_X8_sizeOf l G cI cD cZ cJ cO x1 _ h) (va_cwS 1 hts gX8_depth_X8_sizeOf rfl rfl rfl (by decide +kernel) ⟨by show 0 + 1 ≤ F + 3; omega, by show 8 + (3 + 11) + 0 ≤ L + 100; omega⟩) [] [0, 1, 2, 3, 4, 5, 6, 7, 8, 9, 10, 11, 12, 13, 14, 15] [0, 1, 2, 3, 4, 5, 6, 7, 8, 9, 10, 11, 12, 13, 14, 15] rfl rfl rfl (fun _ => rfl) rfl rfl hl.1 (Nat.le_of_ble_eq_true rfl) ⟨Nat.zero_le _, Nat.zero_le _⟩ dX8_depth_1 (fun r_1 u H locs h hP hD hS => ?_)
  have hP : va_P G vwCl [oX8 m_a m_m m_abySize m_many m_aconcept m_ascore m_examples m_aexamplePoint m_aexampleLabel m_atype m_alength m_awhole m_atwofold m_hasShot m_shotM m_shotMany m_ashotConcept m_ashotScore m_shotExamples m_ashotPoint m_ashotLabel m_alayerOf m_aplanOf, aI cI m_abySize 256 m_bySize, aI cI m_aconcept 20 m_concept, aD cD m_ascore 20 m_score, aI cI m_aexamplePoint 12 m_examplePoint, aI cI m_aexampleLabel 12 m_exampleLabel, aI cI m_atype 4 m_type, aI cI m_alength 4 m_length, aJ cJ m_awhole 160 m_whole, aD cD m_atwofold 160 m_twofold, aI cI m_ashotConcept 20 m_shotConcept, aD cD m_ashotScore 20 m_shotScore, aI cI m_ashotPoint 12 m_shotPoint, aI cI m_ashotLabel 12 m_shotLabel, aI cI m_alayerOf 20 m_layerOf, aI cI m_aplanOf 20 m_planOf] H := hP
  have hD : va_D A [oX8 m_a m_m m_abySize m_many m_aconcept m_ascore m_examples m_aexamplePoint m_aexampleLabel m_atype m_alength m_awhole m_atwofold m_hasShot m_shotM m_shotMany m_ashotConcept m_ashotScore m_shotExamples m_ashotPoint m_ashotLabel m_alayerOf m_aplanOf, aI cI m_abySize 256 m_bySize, aI cI m_aconcept 20 m_concept, aD cD m_ascore 20 m_score, aI cI m_aexamplePoint 12 m_examplePoint, aI cI m_aexampleLabel 12 m_exampleLabel, aI cI m_atype 4 m_type, aI cI m_alength 4 m_length, aJ cJ m_awhole 160 m_whole, aD cD m_atwofold 160 m_twofold, aI cI m_ashotConcept 20 m_shotConcept, aD cD m_ashotScore 20 m_shotScore, aI cI m_ashotPoint 12 m_shotPoint, aI cI m_ashotLabel 12 m_shotLabel, aI cI m_alayerOf 20 m_layerOf, aI cI m_aplanOf 20 m_planOf] := hD
  refine lv_iconst (v := (1 : Int32)) hx hb dX8_depth_4 (by decide) ?_
  obtain ⟨ha, hf⟩ := h
  refine lv_icmp_gt (tgt := 10) hx hb dX8_depth_5 (by decide) (fun hc => ?_) (fun hc => ?_)
  · have h := ha hc
    clear ha hf
    refine lv_bipush (v := (9 : Int32)) hx hb dX8_depth_10 (by decide) ?_
    refine lv_istore_n (lv' := [(2, .int (9 : Int32)), (0, .ref m_a), (1, .int x1)]) hx hb dX8_depth_12 rfl hl (by decide) rfl (fun ls hl => ?_)
    refine lv_iconst (v := (0 : Int32)) hx hb dX8_depth_13 (by decide) ?_
    refine lv_istore_n (lv' := [(3, .int (0 : Int32)), (2, .int (9 : Int32)), (0, .ref m_a), (1, .int x1)]) hx hb dX8_depth_14 rfl hl (by decide) rfl (fun ls hl => ?_)
    obtain ⟨j, h⟩ := h
    exact b_15  j _ _ h _ _ _ ⟨hP, hD, hS, lv_sub hl [2, 3, 1, 0] rfl⟩
  · have h := hf hc
    clear ha hf
    refine lv_iconst (v := (0 : Int32)) hx hb dX8_depth_8 (by decide) ?_
    exact hret _ () _ _ _ _ rfl h hP hD hS dX8_depth_9
