abbrev rm_X4_weigh : Room := { frames := 2, cells := 0, slots := 0, locals := 43 }
def wp_X4_weigh_b47 (x1 : Int32) (x2 : Int32) (c_points : Int32) (c_count : Int32) (c_sets : Nat → Int32) (c_hold : Nat → Int32) (Q : (Nat → Int32) → Prop) (k9 : Int32 → (Nat → Int32) → Prop) : Nat → Int32 → Int32 → Int32 → Int32 → (Nat → Int32) → Prop
  | 0, _, _, _, _, _ => False
  | n + 1, x3, x4, x5, x6, e_stand => ((x5 ≤ x6) → k9 (x3 + (1 : Int32)) e_stand) ∧ ((¬ x5 ≤ x6) → vp_in x6 256 ∧ vp_in (x5 + x6) 256 ∧ wp_X4_weigh_b47 x1 x2 c_points c_count c_sets c_hold Q k9 n x3 x4 x5 (x6 + (1 : Int32)) (upd e_stand (x5 + x6).toNatClampNeg ((e_stand x6.toNatClampNeg) &&& x4)))
def wp_X4_weigh_b9 (x1 : Int32) (x2 : Int32) (c_points : Int32) (c_count : Int32) (c_sets : Nat → Int32) (c_hold : Nat → Int32) (Q : (Nat → Int32) → Prop)  : Nat → Int32 → (Nat → Int32) → Prop
  | 0, _, _ => False
  | n + 1, x3, e_stand => ((c_points ≤ x3) → Q e_stand) ∧ ((¬ c_points ≤ x3) → wp_X0_labelOf x1 x3 c_sets (fun (r_1 : Int32) => wp_X0_labelling x3 r_1 c_count c_hold (fun (r_2 : Int32) => ∃ j47, wp_X4_weigh_b47 x1 x2 c_points c_count c_sets c_hold Q (fun (x3 : Int32) (e_stand : Nat → Int32) => wp_X4_weigh_b9 x1 x2 c_points c_count c_sets c_hold Q n x3 e_stand) j47 x3 r_2 ((1 : Int32) <<< (x3 &&& 31)) (0 : Int32) e_stand)))
def wp_X4_weigh (x1 : Int32) (x2 : Int32) (e_stand : Nat → Int32) (c_points : Int32) (c_count : Int32) (c_sets : Nat → Int32) (c_hold : Nat → Int32) (Q : (Nat → Int32) → Prop) : Prop := vp_in (0 : Int32) 256 ∧ ∃ j9, wp_X4_weigh_b9 x1 x2 c_points c_count c_sets c_hold Q j9 (0 : Int32) (upd e_stand (0 : Int32).toNatClampNeg x2)
set_option maxRecDepth 100000 in
set_option maxHeartbeats 4000000 in
theorem c_X4_weigh (l : Launch) (G : va_G) (cI cD cZ cJ cO : ClassId) (e_a e_at c_a c_as c_ad c_ar c_ah : Nat) (e_stand : Nat → Int32) (c_points : Int32) (c_count : Int32) (c_ed : Int32) (c_sets : Nat → Int32) (c_scores : Nat → UInt64) (c_rated : Nat → Int32) (c_hold : Nat → Int32) (x1 : Int32) (x2 : Int32) (Q : (Nat → Int32) → Prop) (h : wp_X4_weigh x1 x2 e_stand c_points c_count c_sets c_hold Q) : CtV l yX4_weigh wsX4_weigh rm_X4_weigh G (TY cI cD cZ cJ cO) [.ref e_a, .int x1, .int x2] [oX4 e_a c_a e_at, aI cI e_at 256 e_stand, oX0 c_a c_points c_count c_as c_ad c_ar c_ah c_ed, aI cI c_as 20 c_sets, aD cD c_ad 20 c_scores, aZ cZ c_ar 20 c_rated, aI cI c_ah 8 c_hold] (fun (u : (Nat → Int32)) => Q u) (fun (u : (Nat → Int32)) => [oX4 e_a c_a e_at, aI cI e_at 256 u, oX0 c_a c_points c_count c_as c_ad c_ar c_ah c_ed, aI cI c_as 20 c_sets, aD cD c_ad 20 c_scores, aZ cZ c_ar 20 c_rated, aI cI c_ah 8 c_hold]) := by
  refine ct_openV (cc := cX4_weigh) (maxL := 7) (by decide) rfl (Nat.le_of_ble_eq_true rfl) ?_
  intro p e s m args below meth c A Z ls hx hb hml hown hts hK hA hret hP hD hS hl
  have hown : s.vm.findClass RX4 = some m.cls := hown
  have hl : lv_has ls 7 [(0, .ref e_a), (1, .int x1), (2, .int x2)] := hl
  have f_15 := hts (.fieldLink RX4 15 "TeachingSets$Search" "standing" "[I") (List.mem_of_getElem? (i := 1) rfl)
  have f_9 := hts (.fieldLink RX4 9 "TeachingSets$Search" "concepts" "LTeachingSets$Concepts;") (List.mem_of_getElem? (i := 2) rfl)
  have f_42 := hts (.fieldLink RX4 42 "TeachingSets$Concepts" "points" "I") (List.mem_of_getElem? (i := 3) rfl)
  have i_X4 : ∀ w ∈ wsX40, w ∈ wsX4_weigh := fun _ h => List.mem_cons_of_mem _ (List.mem_append_left _ (List.mem_append_right _ (h)))
  have i_X0 : ∀ w ∈ wsX00, w ∈ wsX4_weigh := fun _ h => List.mem_cons_of_mem _ (List.mem_append_right _ (h))
  have b_47 : ∀ (k9 : Int32 → (Nat → Int32) → Prop), (∀ (x3 : Int32) (e_stand : Nat → Int32), k9 x3 e_stand → ∀ (H : Heap) (locs : List Loc) (ls : Array Slot), ST G A s.heap [oX4 e_a c_a e_at, aI cI e_at 256 e_stand, oX0 c_a c_points c_count c_as c_ad c_ar c_ah c_ed, aI cI c_as 20 c_sets, aD cD c_ad 20 c_scores, aZ cZ c_ar 20 c_rated, aI cI c_ah 8 c_hold] 7 [(0, .ref e_a), (1, .int x1), (3, .int x3)] H locs ls → W p l e rm_X4_weigh s m args below meth c H locs 0 0 Z (F0 m 9 ls [])) → ∀ (n : Nat) (x3 : Int32) (x4 : Int32) (x5 : Int32) (x6 : Int32) (e_stand : Nat → Int32), wp_X4_weigh_b47 x1 x2 c_points c_count c_sets c_hold Q k9 n x3 x4 x5 x6 e_stand → ∀ (H : Heap) (locs : List Loc) (ls : Array Slot), ST G A s.heap [oX4 e_a c_a e_at, aI cI e_at 256 e_stand, oX0 c_a c_points c_count c_as c_ad c_ar c_ah c_ed, aI cI c_as 20 c_sets, aD cD c_ad 20 c_scores, aZ cZ c_ar 20 c_rated, aI cI c_ah 8 c_hold] 7 [(0, .ref e_a), (1, .int x1), (3, .int x3), (4, .int x4), (5, .int x5), (6, .int x6)] H locs ls → W p l e rm_X4_weigh s m args below meth c H locs 0 0 Z (F0 m 47 ls []) := by
    intro k9 hk9 n
    induction n with
    | zero =>
      intro x3 x4 x5 x6 e_stand h; exact False.elim h
    | succ n ih =>
      intro x3 x4 x5 x6 e_stand h H locs ls hst
      obtain ⟨hP, hD, hS, hl⟩ := hst
      refine lv_iload hx hb dX4_weigh_47 (lv_at hl 5 rfl) ?_
      refine lv_iload hx hb dX4_weigh_49 (lv_at hl 4 rfl) ?_
      obtain ⟨ha, hf⟩ := h
      refine lv_icmp_ge (tgt := 80) hx hb dX4_weigh_51 (by decide) (fun hc => ?_) (fun hc => ?_)
      · have h := ha hc
        clear ha hf
        refine lv_iinc (v := (x3 + (1 : Int32))) (lv' := [(3, .int (x3 + (1 : Int32))), (0, .ref e_a), (1, .int x1), (4, .int x4), (5, .int x5), (6, .int x6)]) hx hb dX4_weigh_80 hl (k := 2) rfl rfl (by decide) rfl (fun ls hl => ?_)
        refine lv_goto (tgt := 9) hx hb dX4_weigh_83 (by decide) ?_
        exact hk9 _ _ h _ _ _ ⟨hP, hD, hS, lv_sub hl [1, 2, 0] rfl⟩
      · have h := hf hc
        clear ha hf
        refine lv_aload_n hx hb dX4_weigh_54 rfl (lv_at hl 0 rfl) ?_
        refine va_get (D := G) (ci := 4) (v := .ref e_at) (C := RX4) (T := TX4) (N := 2) hx hb hts i_X4 hown hK.1 hP 0 rfl rfl 1 (by decide) f_15 (fun _ h9 => h9) rfl dX4_weigh_55 ?_
        refine lv_iload hx hb dX4_weigh_58 (lv_at hl 4 rfl) ?_
        refine lv_iload hx hb dX4_weigh_60 (lv_at hl 5 rfl) ?_
        refine lv_iadd hx hb dX4_weigh_62 ?_
        refine lv_aload_n hx hb dX4_weigh_63 rfl (lv_at hl 0 rfl) ?_
        refine va_get (D := G) (ci := 4) (v := .ref e_at) (C := RX4) (T := TX4) (N := 2) hx hb hts i_X4 hown hK.1 hP 0 rfl rfl 1 (by decide) f_15 (fun _ h9 => h9) rfl dX4_weigh_64 ?_
        refine lv_iload hx hb dX4_weigh_67 (lv_at hl 5 rfl) ?_
        obtain ⟨hi, h⟩ := h
        refine va_iald hx hb hK.1 hP 1 0 rfl rfl hi dX4_weigh_69 ?_
        refine lv_iload hx hb dX4_weigh_70 (lv_at hl 3 rfl) ?_
        refine lv_iand hx hb dX4_weigh_72 ?_
        obtain ⟨hi, h⟩ := h
        refine va_iast hx hb hK.1 hP hD hS 1 0 rfl rfl hi dX4_weigh_73 (fun H locs hP hD hS => ?_)
        have hP : va_P G vwCl [oX4 e_a c_a e_at, aI cI e_at 256 (upd e_stand (x5 + x6).toNatClampNeg ((e_stand x6.toNatClampNeg) &&& x4)), oX0 c_a c_points c_count c_as c_ad c_ar c_ah c_ed, aI cI c_as 20 c_sets, aD cD c_ad 20 c_scores, aZ cZ c_ar 20 c_rated, aI cI c_ah 8 c_hold] H := hP
        have hD : va_D A [oX4 e_a c_a e_at, aI cI e_at 256 (upd e_stand (x5 + x6).toNatClampNeg ((e_stand x6.toNatClampNeg) &&& x4)), oX0 c_a c_points c_count c_as c_ad c_ar c_ah c_ed, aI cI c_as 20 c_sets, aD cD c_ad 20 c_scores, aZ cZ c_ar 20 c_rated, aI cI c_ah 8 c_hold] := hD
        refine lv_iinc (v := (x6 + (1 : Int32))) (lv' := [(6, .int (x6 + (1 : Int32))), (0, .ref e_a), (1, .int x1), (3, .int x3), (4, .int x4), (5, .int x5)]) hx hb dX4_weigh_74 hl (k := 5) rfl rfl (by decide) rfl (fun ls hl => ?_)
        refine lv_goto (tgt := 47) hx hb dX4_weigh_77 (by decide) ?_
        exact ih _ _ _ _ _ h _ _ _ ⟨hP, hD, hS, lv_sub hl [1, 2, 3, 4, 5, 0] rfl⟩
  have b_9 : ∀ (n : Nat) (x3 : Int32) (e_stand : Nat → Int32), wp_X4_weigh_b9 x1 x2 c_points c_count c_sets c_hold Q n x3 e_stand → ∀ (H : Heap) (locs : List Loc) (ls : Array Slot), ST G A s.heap [oX4 e_a c_a e_at, aI cI e_at 256 e_stand, oX0 c_a c_points c_count c_as c_ad c_ar c_ah c_ed, aI cI c_as 20 c_sets, aD cD c_ad 20 c_scores, aZ cZ c_ar 20 c_rated, aI cI c_ah 8 c_hold] 7 [(0, .ref e_a), (1, .int x1), (3, .int x3)] H locs ls → W p l e rm_X4_weigh s m args below meth c H locs 0 0 Z (F0 m 9 ls []) := by
    intro n
    induction n with
    | zero =>
      intro x3 e_stand h; exact False.elim h
    | succ n ih =>
      intro x3 e_stand h H locs ls hst
      obtain ⟨hP, hD, hS, hl⟩ := hst
      refine lv_iload_n hx hb dX4_weigh_9 rfl (lv_at hl 2 rfl) ?_
      refine lv_aload_n hx hb dX4_weigh_10 rfl (lv_at hl 0 rfl) ?_
      refine va_get (D := G) (ci := 4) (v := .ref c_a) (C := RX4) (T := TX4) (N := 2) hx hb hts i_X4 hown hK.1 hP 0 rfl rfl 0 (by decide) f_9 (fun _ h9 => h9) rfl dX4_weigh_11 ?_
      refine va_get (D := G) (ci := 0) (v := .int c_points) (C := RX0) (T := TX0) (N := 7) hx hb hts i_X0 hown hK.1 hP 2 rfl rfl 0 (by decide) f_42 (fun _ h9 => h9) rfl dX4_weigh_14 ?_
      obtain ⟨ha, hf⟩ := h
      refine lv_icmp_ge (tgt := 86) hx hb dX4_weigh_17 (by decide) (fun hc => ?_) (fun hc => ?_)
      · have h := ha hc
        clear ha hf
        exact hret e_stand _ _ _ _ h hP hD hS dX4_weigh_86
      · have h := hf hc
        clear ha hf
        refine lv_aload_n hx hb dX4_weigh_20 rfl (lv_at hl 0 rfl) ?_
        refine va_get (D := G) (ci := 4) (v := .ref c_a) (C := RX4) (T := TX4) (N := 2) hx hb hts i_X4 hown hK.1 hP 0 rfl rfl 0 (by decide) f_9 (fun _ h9 => h9) rfl dX4_weigh_21 ?_
        refine lv_iload_n hx hb dX4_weigh_24 rfl (lv_at hl 2 rfl) ?_
        refine lv_aload_n hx hb dX4_weigh_25 rfl (lv_at hl 0 rfl) ?_
        refine va_get (D := G) (ci := 4) (v := .ref c_a) (C := RX4) (T := TX4) (N := 2) hx hb hts i_X4 hown hK.1 hP 0 rfl rfl 0 (by decide) f_9 (fun _ h9 => h9) rfl dX4_weigh_26 ?_
        refine lv_iload_n hx hb dX4_weigh_29 rfl (lv_at hl 1 rfl) ?_
        refine lv_iload_n hx hb dX4_weigh_30 rfl (lv_at hl 2 rfl) ?_
        refine k_Vi (wr := [oX4 e_a c_a e_at, aI cI e_at 256 e_stand]) (wf := (fun (u : Unit) => [oX4 e_a c_a e_at, aI cI e_at 256 e_stand, oX0 c_a c_points c_count c_as c_ad c_ar c_ah c_ed, aI cI c_as 20 c_sets, aD cD c_ad 20 c_scores, aZ cZ c_ar 20 c_rated, aI cI c_ah 8 c_hold])) (As := [.int x1, .int x3]) (rest := [.int x3, .ref c_a]) ⟨hx, hb, hml, hown, hts⟩ hK hP hD hS hA (c_X0_labelOf l G cI cD cZ cJ cO c_a c_as c_ad c_ar c_ah c_points c_count c_ed c_sets c_scores c_rated c_hold x1 x3 _ h) (cwV 2 hts gX4_weigh_X0_labelOf rfl rfl rfl (by decide +kernel) ⟨Nat.le_of_ble_eq_true rfl, Nat.le_of_ble_eq_true rfl⟩) 0 rfl rfl [2, 3, 4, 5, 6] [0, 1] [0, 1, 2, 3, 4, 5, 6] rfl rfl rfl (fun _ => rfl) rfl rfl hl.1 (Nat.le_of_ble_eq_true rfl) ⟨Nat.zero_le _, Nat.zero_le _⟩ dX4_weigh_31 (fun r_1 u H locs h hP hD hS => ?_)
        have hP : va_P G vwCl [oX4 e_a c_a e_at, aI cI e_at 256 e_stand, oX0 c_a c_points c_count c_as c_ad c_ar c_ah c_ed, aI cI c_as 20 c_sets, aD cD c_ad 20 c_scores, aZ cZ c_ar 20 c_rated, aI cI c_ah 8 c_hold] H := hP
        have hD : va_D A [oX4 e_a c_a e_at, aI cI e_at 256 e_stand, oX0 c_a c_points c_count c_as c_ad c_ar c_ah c_ed, aI cI c_as 20 c_sets, aD cD c_ad 20 c_scores, aZ cZ c_ar 20 c_rated, aI cI c_ah 8 c_hold] := hD
        refine k_Vi (wr := [oX4 e_a c_a e_at, aI cI e_at 256 e_stand]) (wf := (fun (u : Unit) => [oX4 e_a c_a e_at, aI cI e_at 256 e_stand, oX0 c_a c_points c_count c_as c_ad c_ar c_ah c_ed, aI cI c_as 20 c_sets, aD cD c_ad 20 c_scores, aZ cZ c_ar 20 c_rated, aI cI c_ah 8 c_hold])) (As := [.int x3, .int r_1]) (rest := []) ⟨hx, hb, hml, hown, hts⟩ hK hP hD hS hA (c_X0_labelling l G cI cD cZ cJ cO c_a c_as c_ad c_ar c_ah c_points c_count c_ed c_sets c_scores c_rated c_hold x3 r_1 _ h) (cwV 2 hts gX4_weigh_X0_labelling rfl rfl rfl (by decide +kernel) ⟨Nat.le_of_ble_eq_true rfl, Nat.le_of_ble_eq_true rfl⟩) 0 rfl rfl [2, 3, 4, 5, 6] [0, 1] [0, 1, 2, 3, 4, 5, 6] rfl rfl rfl (fun _ => rfl) rfl rfl hl.1 (Nat.le_of_ble_eq_true rfl) ⟨Nat.zero_le _, Nat.zero_le _⟩ dX4_weigh_34 (fun r_2 u H locs h hP hD hS => ?_)
        have hP : va_P G vwCl [oX4 e_a c_a e_at, aI cI e_at 256 e_stand, oX0 c_a c_points c_count c_as c_ad c_ar c_ah c_ed, aI cI c_as 20 c_sets, aD cD c_ad 20 c_scores, aZ cZ c_ar 20 c_rated, aI cI c_ah 8 c_hold] H := hP
        have hD : va_D A [oX4 e_a c_a e_at, aI cI e_at 256 e_stand, oX0 c_a c_points c_count c_as c_ad c_ar c_ah c_ed, aI cI c_as 20 c_sets, aD cD c_ad 20 c_scores, aZ cZ c_ar 20 c_rated, aI cI c_ah 8 c_hold] := hD
        refine lv_istore (lv' := [(4, .int r_2), (0, .ref e_a), (1, .int x1), (3, .int x3)]) hx hb dX4_weigh_37 hl (by decide) rfl (fun ls hl => ?_)
        refine lv_iconst (v := (1 : Int32)) hx hb dX4_weigh_39 (by decide) ?_
        refine lv_iload_n hx hb dX4_weigh_40 rfl (lv_at hl 3 rfl) ?_
        refine lv_ishl hx hb dX4_weigh_41 ?_
        refine lv_istore (lv' := [(5, .int ((1 : Int32) <<< (x3 &&& 31))), (4, .int r_2), (0, .ref e_a), (1, .int x1), (3, .int x3)]) hx hb dX4_weigh_42 hl (by decide) rfl (fun ls hl => ?_)
        refine lv_iconst (v := (0 : Int32)) hx hb dX4_weigh_44 (by decide) ?_
        refine lv_istore (lv' := [(6, .int (0 : Int32)), (5, .int ((1 : Int32) <<< (x3 &&& 31))), (4, .int r_2), (0, .ref e_a), (1, .int x1), (3, .int x3)]) hx hb dX4_weigh_45 hl (by decide) rfl (fun ls hl => ?_)
        obtain ⟨j, h⟩ := h
        exact b_47 _ ih j _ _ _ _ _ h _ _ _ ⟨hP, hD, hS, lv_sub hl [3, 4, 5, 2, 1, 0] rfl⟩
  refine lv_aload_n hx hb dX4_weigh_0 rfl (lv_at hl 0 rfl) ?_
  refine va_get (D := G) (ci := 4) (v := .ref e_at) (C := RX4) (T := TX4) (N := 2) hx hb hts i_X4 hown hK.1 hP 0 rfl rfl 1 (by decide) f_15 (fun _ h9 => h9) rfl dX4_weigh_1 ?_
  refine lv_iconst (v := (0 : Int32)) hx hb dX4_weigh_4 (by decide) ?_
  refine lv_iload_n hx hb dX4_weigh_5 rfl (lv_at hl 2 rfl) ?_
  obtain ⟨hi, h⟩ := h
  refine va_iast hx hb hK.1 hP hD hS 1 0 rfl rfl hi dX4_weigh_6 (fun H locs hP hD hS => ?_)
  have hP : va_P G vwCl [oX4 e_a c_a e_at, aI cI e_at 256 (upd e_stand (0 : Int32).toNatClampNeg x2), oX0 c_a c_points c_count c_as c_ad c_ar c_ah c_ed, aI cI c_as 20 c_sets, aD cD c_ad 20 c_scores, aZ cZ c_ar 20 c_rated, aI cI c_ah 8 c_hold] H := hP
  have hD : va_D A [oX4 e_a c_a e_at, aI cI e_at 256 (upd e_stand (0 : Int32).toNatClampNeg x2), oX0 c_a c_points c_count c_as c_ad c_ar c_ah c_ed, aI cI c_as 20 c_sets, aD cD c_ad 20 c_scores, aZ cZ c_ar 20 c_rated, aI cI c_ah 8 c_hold] := hD
  refine lv_iconst (v := (0 : Int32)) hx hb dX4_weigh_7 (by decide) ?_
  refine lv_istore_n (lv' := [(3, .int (0 : Int32)), (0, .ref e_a), (1, .int x1), (2, .int x2)]) hx hb dX4_weigh_8 rfl hl (by decide) rfl (fun ls hl => ?_)
  obtain ⟨j, h⟩ := h
  exact b_9  j _ _ h _ _ _ ⟨hP, hD, hS, lv_sub hl [1, 2, 0] rfl⟩
abbrev rm_X4_beats : Room := { frames := 3, cells := 0, slots := 0, locals := 69 }
def wp_X4_beats (x1 : Int32) (x2 : Int32) (x3 : Int32) (e_stand : Nat → Int32) (c_points : Int32) (c_count : Int32) (c_sets : Nat → Int32) (c_hold : Nat → Int32) (Q : Int32 → (Nat → Int32) → Prop) : Prop := wp_X4_weigh x1 x2 e_stand c_points c_count c_sets c_hold (fun (e_stand_1 : Nat → Int32) => vp_in x3 256 ∧ ((¬ (e_stand_1 x3.toNatClampNeg) = 0) → Q (0 : Int32) e_stand_1) ∧ (((e_stand_1 x3.toNatClampNeg) = 0) → Q (1 : Int32) e_stand_1))
set_option maxRecDepth 100000 in
set_option maxHeartbeats 4000000 in
theorem c_X4_beats (l : Launch) (G : va_G) (cI cD cZ cJ cO : ClassId) (e_a e_at c_a c_as c_ad c_ar c_ah : Nat) (e_stand : Nat → Int32) (c_points : Int32) (c_count : Int32) (c_ed : Int32) (c_sets : Nat → Int32) (c_scores : Nat → UInt64) (c_rated : Nat → Int32) (c_hold : Nat → Int32) (x1 : Int32) (x2 : Int32) (x3 : Int32) (Q : Int32 → (Nat → Int32) → Prop) (h : wp_X4_beats x1 x2 x3 e_stand c_points c_count c_sets c_hold Q) : CtI l yX4_beats wsX4_beats rm_X4_beats G (TY cI cD cZ cJ cO) [.ref e_a, .int x1, .int x2, .int x3] [oX4 e_a c_a e_at, aI cI e_at 256 e_stand, oX0 c_a c_points c_count c_as c_ad c_ar c_ah c_ed, aI cI c_as 20 c_sets, aD cD c_ad 20 c_scores, aZ cZ c_ar 20 c_rated, aI cI c_ah 8 c_hold] (fun (r : Int32) (u : (Nat → Int32)) => Q r u) (fun (u : (Nat → Int32)) => [oX4 e_a c_a e_at, aI cI e_at 256 u, oX0 c_a c_points c_count c_as c_ad c_ar c_ah c_ed, aI cI c_as 20 c_sets, aD cD c_ad 20 c_scores, aZ cZ c_ar 20 c_rated, aI cI c_ah 8 c_hold]) := by
  refine ct_openI (cc := cX4_beats) (maxL := 4) (ty := .boolean) (by decide) rfl (Nat.le_of_ble_eq_true rfl) ?_
  intro p e s m args below meth c A Z ls hx hb hml hown hts hK hA hret hP hD hS hl
  have hown : s.vm.findClass RX4 = some m.cls := hown
  have hl : lv_has ls 4 [(0, .ref e_a), (1, .int x1), (2, .int x2), (3, .int x3)] := hl
  have f_15 := hts (.fieldLink RX4 15 "TeachingSets$Search" "standing" "[I") (List.mem_of_getElem? (i := 1) rfl)
  have i_X4 : ∀ w ∈ wsX40, w ∈ wsX4_beats := fun _ h => List.mem_cons_of_mem _ (List.mem_append_left _ (List.mem_append_right _ (h)))
  refine lv_aload_n hx hb dX4_beats_0 rfl (lv_at hl 0 rfl) ?_
  refine lv_iload_n hx hb dX4_beats_1 rfl (lv_at hl 1 rfl) ?_
  refine lv_iload_n hx hb dX4_beats_2 rfl (lv_at hl 2 rfl) ?_
  refine k_Vv (wr := []) (wf := (fun (u : (Nat → Int32)) => [oX4 e_a c_a e_at, aI cI e_at 256 u, oX0 c_a c_points c_count c_as c_ad c_ar c_ah c_ed, aI cI c_as 20 c_sets, aD cD c_ad 20 c_scores, aZ cZ c_ar 20 c_rated, aI cI c_ah 8 c_hold])) (As := [.int x1, .int x2]) (rest := []) ⟨hx, hb, hml, hown, hts⟩ hK hP hD hS hA (c_X4_weigh l G cI cD cZ cJ cO e_a e_at c_a c_as c_ad c_ar c_ah e_stand c_points c_count c_ed c_sets c_scores c_rated c_hold x1 x2 _ h) (cwV 2 hts gX4_beats_X4_weigh rfl rfl rfl (by decide +kernel) ⟨Nat.le_of_ble_eq_true rfl, Nat.le_of_ble_eq_true rfl⟩) 0 rfl rfl [0, 1, 2, 3, 4, 5, 6] [] [0, 1, 2, 3, 4, 5, 6] rfl rfl rfl (fun _ => rfl) rfl rfl hl.1 (Nat.le_of_ble_eq_true rfl) ⟨Nat.zero_le _, Nat.zero_le _⟩ dX4_beats_3 (fun u H locs h hP hD hS => ?_)
  obtain ⟨e_stand_1, rfl⟩ : ∃ z, z = u := ⟨_, rfl⟩
  have hP : va_P G vwCl [oX4 e_a c_a e_at, aI cI e_at 256 e_stand_1, oX0 c_a c_points c_count c_as c_ad c_ar c_ah c_ed, aI cI c_as 20 c_sets, aD cD c_ad 20 c_scores, aZ cZ c_ar 20 c_rated, aI cI c_ah 8 c_hold] H := hP
  have hD : va_D A [oX4 e_a c_a e_at, aI cI e_at 256 e_stand_1, oX0 c_a c_points c_count c_as c_ad c_ar c_ah c_ed, aI cI c_as 20 c_sets, aD cD c_ad 20 c_scores, aZ cZ c_ar 20 c_rated, aI cI c_ah 8 c_hold] := hD
  refine lv_aload_n hx hb dX4_beats_6 rfl (lv_at hl 0 rfl) ?_
  refine va_get (D := G) (ci := 4) (v := .ref e_at) (C := RX4) (T := TX4) (N := 2) hx hb hts i_X4 hown hK.1 hP 0 rfl rfl 1 (by decide) f_15 (fun _ h9 => h9) rfl dX4_beats_7 ?_
  refine lv_iload_n hx hb dX4_beats_10 rfl (lv_at hl 3 rfl) ?_
  obtain ⟨hi, h⟩ := h
  refine va_iald hx hb hK.1 hP 1 0 rfl rfl hi dX4_beats_11 ?_
  obtain ⟨ha, hf⟩ := h
  refine lv_if_ne (tgt := 19) hx hb dX4_beats_12 (by decide) (fun hc => ?_) (fun hc => ?_)
  · have h := ha hc
    clear ha hf
    refine lv_iconst (v := (0 : Int32)) hx hb dX4_beats_19 (by decide) ?_
    exact hret _ e_stand_1 _ _ _ _ rfl h hP hD hS dX4_beats_20
  · have h := hf hc
    clear ha hf
    refine lv_iconst (v := (1 : Int32)) hx hb dX4_beats_15 (by decide) ?_
    refine lv_goto (tgt := 20) hx hb dX4_beats_16 (by decide) ?_
    exact hret _ e_stand_1 _ _ _ _ rfl h hP hD hS dX4_beats_20
abbrev rm_X4_smallest : Room := { frames := 3, cells := 0, slots := 0, locals := 69 }
def wp_X4_smallest_b17 (x1 : Int32) (x2 : Int32) (c_points : Int32) (c_count : Int32) (c_sets : Nat → Int32) (c_hold : Nat → Int32) (Q : Int32 → (Nat → Int32) → Prop)  : Nat → Int32 → Int32 → (Nat → Int32) → Prop
  | 0, _, _, _ => False
  | n + 1, x3, x4, e_stand => wp_X0_allPoints c_points (fun (r_3 : Int32) => ((r_3 < x4) → Q x3 e_stand) ∧ ((¬ r_3 < x4) → vp_in x4 256 ∧ ((¬ (e_stand x4.toNatClampNeg) = 0) → wp_X4_smallest_b17 x1 x2 c_points c_count c_sets c_hold Q n x3 (x4 + (1 : Int32)) e_stand) ∧ (((e_stand x4.toNatClampNeg) = 0) → wp_J6_bitCount_0f7a4 x4 (fun (r_4 : Int32) => wp_J6_bitCount_0f7a4 x3 (fun (r_5 : Int32) => ((r_5 ≤ r_4) → wp_X4_smallest_b17 x1 x2 c_points c_count c_sets c_hold Q n x3 (x4 + (1 : Int32)) e_stand) ∧ ((¬ r_5 ≤ r_4) → wp_X4_smallest_b17 x1 x2 c_points c_count c_sets c_hold Q n x4 (x4 + (1 : Int32)) e_stand))))))
def wp_X4_smallest (x1 : Int32) (x2 : Int32) (e_stand : Nat → Int32) (c_points : Int32) (c_count : Int32) (c_sets : Nat → Int32) (c_hold : Nat → Int32) (Q : Int32 → (Nat → Int32) → Prop) : Prop := wp_X4_weigh x1 x2 e_stand c_points c_count c_sets c_hold (fun (e_stand_1 : Nat → Int32) => wp_X0_allPoints c_points (fun (r_2 : Int32) => ∃ j17, wp_X4_smallest_b17 x1 x2 c_points c_count c_sets c_hold Q j17 r_2 (0 : Int32) e_stand_1))
set_option maxRecDepth 100000 in
set_option maxHeartbeats 4000000 in
theorem c_X4_smallest (l : Launch) (G : va_G) (cI cD cZ cJ cO : ClassId) (e_a e_at c_a c_as c_ad c_ar c_ah : Nat) (e_stand : Nat → Int32) (c_points : Int32) (c_count : Int32) (c_ed : Int32) (c_sets : Nat → Int32) (c_scores : Nat → UInt64) (c_rated : Nat → Int32) (c_hold : Nat → Int32) (x1 : Int32) (x2 : Int32) (Q : Int32 → (Nat → Int32) → Prop) (h : wp_X4_smallest x1 x2 e_stand c_points c_count c_sets c_hold Q) : CtI l yX4_smallest wsX4_smallest rm_X4_smallest G (TY cI cD cZ cJ cO) [.ref e_a, .int x1, .int x2] [oX4 e_a c_a e_at, aI cI e_at 256 e_stand, oX0 c_a c_points c_count c_as c_ad c_ar c_ah c_ed, aI cI c_as 20 c_sets, aD cD c_ad 20 c_scores, aZ cZ c_ar 20 c_rated, aI cI c_ah 8 c_hold] (fun (r : Int32) (u : (Nat → Int32)) => Q r u) (fun (u : (Nat → Int32)) => [oX4 e_a c_a e_at, aI cI e_at 256 u, oX0 c_a c_points c_count c_as c_ad c_ar c_ah c_ed, aI cI c_as 20 c_sets, aD cD c_ad 20 c_scores, aZ cZ c_ar 20 c_rated, aI cI c_ah 8 c_hold]) := by
  refine ct_openI (cc := cX4_smallest) (maxL := 5) (ty := .int) (by decide) rfl (Nat.le_of_ble_eq_true rfl) ?_
  intro p e s m args below meth c A Z ls hx hb hml hown hts hK hA hret hP hD hS hl
  have hown : s.vm.findClass RX4 = some m.cls := hown
  have hl : lv_has ls 5 [(0, .ref e_a), (1, .int x1), (2, .int x2)] := hl
  have f_9 := hts (.fieldLink RX4 9 "TeachingSets$Search" "concepts" "LTeachingSets$Concepts;") (List.mem_of_getElem? (i := 1) rfl)
  have f_15 := hts (.fieldLink RX4 15 "TeachingSets$Search" "standing" "[I") (List.mem_of_getElem? (i := 2) rfl)
  have i_X4 : ∀ w ∈ wsX40, w ∈ wsX4_smallest := fun _ h => List.mem_cons_of_mem _ (List.mem_append_left _ (List.mem_append_right _ (h)))
  have b_17 : ∀ (n : Nat) (x3 : Int32) (x4 : Int32) (e_stand : Nat → Int32), wp_X4_smallest_b17 x1 x2 c_points c_count c_sets c_hold Q n x3 x4 e_stand → ∀ (H : Heap) (locs : List Loc) (ls : Array Slot), ST G A s.heap [oX4 e_a c_a e_at, aI cI e_at 256 e_stand, oX0 c_a c_points c_count c_as c_ad c_ar c_ah c_ed, aI cI c_as 20 c_sets, aD cD c_ad 20 c_scores, aZ cZ c_ar 20 c_rated, aI cI c_ah 8 c_hold] 5 [(0, .ref e_a), (3, .int x3), (4, .int x4)] H locs ls → W p l e rm_X4_smallest s m args below meth c H locs 0 0 Z (F0 m 17 ls []) := by
    intro n
    induction n with
    | zero =>
      intro x3 x4 e_stand h; exact False.elim h
    | succ n ih =>
      intro x3 x4 e_stand h H locs ls hst
      obtain ⟨hP, hD, hS, hl⟩ := hst
      refine lv_iload hx hb dX4_smallest_17 (lv_at hl 2 rfl) ?_
      refine lv_aload_n hx hb dX4_smallest_19 rfl (lv_at hl 0 rfl) ?_
      refine va_get (D := G) (ci := 4) (v := .ref c_a) (C := RX4) (T := TX4) (N := 2) hx hb hts i_X4 hown hK.1 hP 0 rfl rfl 0 (by decide) f_9 (fun _ h9 => h9) rfl dX4_smallest_20 ?_
      refine k_Vi (wr := [oX4 e_a c_a e_at, aI cI e_at 256 e_stand]) (wf := (fun (u : Unit) => [oX4 e_a c_a e_at, aI cI e_at 256 e_stand, oX0 c_a c_points c_count c_as c_ad c_ar c_ah c_ed, aI cI c_as 20 c_sets, aD cD c_ad 20 c_scores, aZ cZ c_ar 20 c_rated, aI cI c_ah 8 c_hold])) (As := []) (rest := [.int x4]) ⟨hx, hb, hml, hown, hts⟩ hK hP hD hS hA (c_X0_allPoints l G cI cD cZ cJ cO c_a c_as c_ad c_ar c_ah c_points c_count c_ed c_sets c_scores c_rated c_hold _ h) (cwV 0 hts gX4_smallest_X0_allPoints rfl rfl rfl (by decide +kernel) ⟨Nat.le_of_ble_eq_true rfl, Nat.le_of_ble_eq_true rfl⟩) 0 rfl rfl [2, 3, 4, 5, 6] [0, 1] [0, 1, 2, 3, 4, 5, 6] rfl rfl rfl (fun _ => rfl) rfl rfl hl.1 (Nat.le_of_ble_eq_true rfl) ⟨Nat.zero_le _, Nat.zero_le _⟩ dX4_smallest_23 (fun r_3 u H locs h hP hD hS => ?_)
      have hP : va_P G vwCl [oX4 e_a c_a e_at, aI cI e_at 256 e_stand, oX0 c_a c_points c_count c_as c_ad c_ar c_ah c_ed, aI cI c_as 20 c_sets, aD cD c_ad 20 c_scores, aZ cZ c_ar 20 c_rated, aI cI c_ah 8 c_hold] H := hP
      have hD : va_D A [oX4 e_a c_a e_at, aI cI e_at 256 e_stand, oX0 c_a c_points c_count c_as c_ad c_ar c_ah c_ed, aI cI c_as 20 c_sets, aD cD c_ad 20 c_scores, aZ cZ c_ar 20 c_rated, aI cI c_ah 8 c_hold] := hD
      obtain ⟨ha, hf⟩ := h
      refine lv_icmp_gt (tgt := 60) hx hb dX4_smallest_26 (by decide) (fun hc => ?_) (fun hc => ?_)
      · have h := ha hc
        clear ha hf
        refine lv_iload_n hx hb dX4_smallest_60 rfl (lv_at hl 1 rfl) ?_
        exact hret _ e_stand _ _ _ _ rfl h hP hD hS dX4_smallest_61
      · have h := hf hc
        clear ha hf
        refine lv_aload_n hx hb dX4_smallest_29 rfl (lv_at hl 0 rfl) ?_
        refine va_get (D := G) (ci := 4) (v := .ref e_at) (C := RX4) (T := TX4) (N := 2) hx hb hts i_X4 hown hK.1 hP 0 rfl rfl 1 (by decide) f_15 (fun _ h9 => h9) rfl dX4_smallest_30 ?_
        refine lv_iload hx hb dX4_smallest_33 (lv_at hl 2 rfl) ?_
        obtain ⟨hi, h⟩ := h
        refine va_iald hx hb hK.1 hP 1 0 rfl rfl hi dX4_smallest_35 ?_
        obtain ⟨ha, hf⟩ := h
        refine lv_if_ne (tgt := 54) hx hb dX4_smallest_36 (by decide) (fun hc => ?_) (fun hc => ?_)
        · have h := ha hc
          clear ha hf
          refine lv_iinc (v := (x4 + (1 : Int32))) (lv' := [(4, .int (x4 + (1 : Int32))), (0, .ref e_a), (3, .int x3)]) hx hb dX4_smallest_54 hl (k := 2) rfl rfl (by decide) rfl (fun ls hl => ?_)
          refine lv_goto (tgt := 17) hx hb dX4_smallest_57 (by decide) ?_
          exact ih _ _ _ h _ _ _ ⟨hP, hD, hS, lv_sub hl [1, 2, 0] rfl⟩
        · have h := hf hc
          clear ha hf
          refine lv_iload hx hb dX4_smallest_39 (lv_at hl 2 rfl) ?_
          refine k_Si (wr := [oX4 e_a c_a e_at, aI cI e_at 256 e_stand, oX0 c_a c_points c_count c_as c_ad c_ar c_ah c_ed, aI cI c_as 20 c_sets, aD cD c_ad 20 c_scores, aZ cZ c_ar 20 c_rated, aI cI c_ah 8 c_hold]) (wf := (fun (u : Unit) => [oX4 e_a c_a e_at, aI cI e_at 256 e_stand, oX0 c_a c_points c_count c_as c_ad c_ar c_ah c_ed, aI cI c_as 20 c_sets, aD cD c_ad 20 c_scores, aZ cZ c_ar 20 c_rated, aI cI c_ah 8 c_hold])) (As := [.int x4]) (rest := []) ⟨hx, hb, hml, hown, hts⟩ hK hP hD hS hA (c_J6_bitCount_0f7a4 l G cI cD cZ cJ cO x4 _ h) (va_cwS 1 hts gX4_smallest_J6_bitCount_0f7a4 rfl rfl rfl (by decide +kernel) ⟨Nat.le_of_ble_eq_true rfl, Nat.le_of_ble_eq_true rfl⟩) [] [0, 1, 2, 3, 4, 5, 6] [0, 1, 2, 3, 4, 5, 6] rfl rfl rfl (fun _ => rfl) rfl rfl hl.1 (Nat.le_of_ble_eq_true rfl) ⟨Nat.zero_le _, Nat.zero_le _⟩ dX4_smallest_41 (fun r_4 u H locs h hP hD hS => ?_)
          have hP : va_P G vwCl [oX4 e_a c_a e_at, aI cI e_at 256 e_stand, oX0 c_a c_points c_count c_as c_ad c_ar c_ah c_ed, aI cI c_as 20 c_sets, aD cD c_ad 20 c_scores, aZ cZ c_ar 20 c_rated, aI cI c_ah 8 c_hold] H := hP
          have hD : va_D A [oX4 e_a c_a e_at, aI cI e_at 256 e_stand, oX0 c_a c_points c_count c_as c_ad c_ar c_ah c_ed, aI cI c_as 20 c_sets, aD cD c_ad 20 c_scores, aZ cZ c_ar 20 c_rated, aI cI c_ah 8 c_hold] := hD
          refine lv_iload_n hx hb dX4_smallest_44 rfl (lv_at hl 1 rfl) ?_
          refine k_Si (wr := [oX4 e_a c_a e_at, aI cI e_at 256 e_stand, oX0 c_a c_points c_count c_as c_ad c_ar c_ah c_ed, aI cI c_as 20 c_sets, aD cD c_ad 20 c_scores, aZ cZ c_ar 20 c_rated, aI cI c_ah 8 c_hold]) (wf := (fun (u : Unit) => [oX4 e_a c_a e_at, aI cI e_at 256 e_stand, oX0 c_a c_points c_count c_as c_ad c_ar c_ah c_ed, aI cI c_as 20 c_sets, aD cD c_ad 20 c_scores, aZ cZ c_ar 20 c_rated, aI cI c_ah 8 c_hold])) (As := [.int x3]) (rest := [.int r_4]) ⟨hx, hb, hml, hown, hts⟩ hK hP hD hS hA (c_J6_bitCount_0f7a4 l G cI cD cZ cJ cO x3 _ h) (va_cwS 1 hts gX4_smallest_J6_bitCount_0f7a4 rfl rfl rfl (by decide +kernel) ⟨Nat.le_of_ble_eq_true rfl, Nat.le_of_ble_eq_true rfl⟩) [] [0, 1, 2, 3, 4, 5, 6] [0, 1, 2, 3, 4, 5, 6] rfl rfl rfl (fun _ => rfl) rfl rfl hl.1 (Nat.le_of_ble_eq_true rfl) ⟨Nat.zero_le _, Nat.zero_le _⟩ dX4_smallest_45 (fun r_5 u H locs h hP hD hS => ?_)
          have hP : va_P G vwCl [oX4 e_a c_a e_at, aI cI e_at 256 e_stand, oX0 c_a c_points c_count c_as c_ad c_ar c_ah c_ed, aI cI c_as 20 c_sets, aD cD c_ad 20 c_scores, aZ cZ c_ar 20 c_rated, aI cI c_ah 8 c_hold] H := hP
          have hD : va_D A [oX4 e_a c_a e_at, aI cI e_at 256 e_stand, oX0 c_a c_points c_count c_as c_ad c_ar c_ah c_ed, aI cI c_as 20 c_sets, aD cD c_ad 20 c_scores, aZ cZ c_ar 20 c_rated, aI cI c_ah 8 c_hold] := hD
          obtain ⟨ha, hf⟩ := h
          refine lv_icmp_ge (tgt := 54) hx hb dX4_smallest_48 (by decide) (fun hc => ?_) (fun hc => ?_)
          · have h := ha hc
            clear ha hf
            refine lv_iinc (v := (x4 + (1 : Int32))) (lv' := [(4, .int (x4 + (1 : Int32))), (0, .ref e_a), (3, .int x3)]) hx hb dX4_smallest_54 hl (k := 2) rfl rfl (by decide) rfl (fun ls hl => ?_)
            refine lv_goto (tgt := 17) hx hb dX4_smallest_57 (by decide) ?_
            exact ih _ _ _ h _ _ _ ⟨hP, hD, hS, lv_sub hl [1, 2, 0] rfl⟩
          · have h := hf hc
            clear ha hf
            refine lv_iload hx hb dX4_smallest_51 (lv_at hl 2 rfl) ?_
            refine lv_istore_n (lv' := [(3, .int x4), (0, .ref e_a), (4, .int x4)]) hx hb dX4_smallest_53 rfl hl (by decide) rfl (fun ls hl => ?_)
            refine lv_iinc (v := (x4 + (1 : Int32))) (lv' := [(4, .int (x4 + (1 : Int32))), (3, .int x4), (0, .ref e_a)]) hx hb dX4_smallest_54 hl (k := 2) rfl rfl (by decide) rfl (fun ls hl => ?_)
            refine lv_goto (tgt := 17) hx hb dX4_smallest_57 (by decide) ?_
            exact ih _ _ _ h _ _ _ ⟨hP, hD, hS, lv_sub hl [2, 1, 0] rfl⟩
  refine lv_aload_n hx hb dX4_smallest_0 rfl (lv_at hl 0 rfl) ?_
  refine lv_iload_n hx hb dX4_smallest_1 rfl (lv_at hl 1 rfl) ?_
  refine lv_iload_n hx hb dX4_smallest_2 rfl (lv_at hl 2 rfl) ?_
  refine k_Vv (wr := []) (wf := (fun (u : (Nat → Int32)) => [oX4 e_a c_a e_at, aI cI e_at 256 u, oX0 c_a c_points c_count c_as c_ad c_ar c_ah c_ed, aI cI c_as 20 c_sets, aD cD c_ad 20 c_scores, aZ cZ c_ar 20 c_rated, aI cI c_ah 8 c_hold])) (As := [.int x1, .int x2]) (rest := []) ⟨hx, hb, hml, hown, hts⟩ hK hP hD hS hA (c_X4_weigh l G cI cD cZ cJ cO e_a e_at c_a c_as c_ad c_ar c_ah e_stand c_points c_count c_ed c_sets c_scores c_rated c_hold x1 x2 _ h) (cwV 2 hts gX4_smallest_X4_weigh rfl rfl rfl (by decide +kernel) ⟨Nat.le_of_ble_eq_true rfl, Nat.le_of_ble_eq_true rfl⟩) 0 rfl rfl [0, 1, 2, 3, 4, 5, 6] [] [0, 1, 2, 3, 4, 5, 6] rfl rfl rfl (fun _ => rfl) rfl rfl hl.1 (Nat.le_of_ble_eq_true rfl) ⟨Nat.zero_le _, Nat.zero_le _⟩ dX4_smallest_3 (fun u H locs h hP hD hS => ?_)
  obtain ⟨e_stand_1, rfl⟩ : ∃ z, z = u := ⟨_, rfl⟩
  have hP : va_P G vwCl [oX4 e_a c_a e_at, aI cI e_at 256 e_stand_1, oX0 c_a c_points c_count c_as c_ad c_ar c_ah c_ed, aI cI c_as 20 c_sets, aD cD c_ad 20 c_scores, aZ cZ c_ar 20 c_rated, aI cI c_ah 8 c_hold] H := hP
  have hD : va_D A [oX4 e_a c_a e_at, aI cI e_at 256 e_stand_1, oX0 c_a c_points c_count c_as c_ad c_ar c_ah c_ed, aI cI c_as 20 c_sets, aD cD c_ad 20 c_scores, aZ cZ c_ar 20 c_rated, aI cI c_ah 8 c_hold] := hD
  refine lv_aload_n hx hb dX4_smallest_6 rfl (lv_at hl 0 rfl) ?_
  refine va_get (D := G) (ci := 4) (v := .ref c_a) (C := RX4) (T := TX4) (N := 2) hx hb hts i_X4 hown hK.1 hP 0 rfl rfl 0 (by decide) f_9 (fun _ h9 => h9) rfl dX4_smallest_7 ?_
  refine k_Vi (wr := [oX4 e_a c_a e_at, aI cI e_at 256 e_stand_1]) (wf := (fun (u : Unit) => [oX4 e_a c_a e_at, aI cI e_at 256 e_stand_1, oX0 c_a c_points c_count c_as c_ad c_ar c_ah c_ed, aI cI c_as 20 c_sets, aD cD c_ad 20 c_scores, aZ cZ c_ar 20 c_rated, aI cI c_ah 8 c_hold])) (As := []) (rest := []) ⟨hx, hb, hml, hown, hts⟩ hK hP hD hS hA (c_X0_allPoints l G cI cD cZ cJ cO c_a c_as c_ad c_ar c_ah c_points c_count c_ed c_sets c_scores c_rated c_hold _ h) (cwV 0 hts gX4_smallest_X0_allPoints rfl rfl rfl (by decide +kernel) ⟨Nat.le_of_ble_eq_true rfl, Nat.le_of_ble_eq_true rfl⟩) 0 rfl rfl [2, 3, 4, 5, 6] [0, 1] [0, 1, 2, 3, 4, 5, 6] rfl rfl rfl (fun _ => rfl) rfl rfl hl.1 (Nat.le_of_ble_eq_true rfl) ⟨Nat.zero_le _, Nat.zero_le _⟩ dX4_smallest_10 (fun r_2 u H locs h hP hD hS => ?_)
  have hP : va_P G vwCl [oX4 e_a c_a e_at, aI cI e_at 256 e_stand_1, oX0 c_a c_points c_count c_as c_ad c_ar c_ah c_ed, aI cI c_as 20 c_sets, aD cD c_ad 20 c_scores, aZ cZ c_ar 20 c_rated, aI cI c_ah 8 c_hold] H := hP
  have hD : va_D A [oX4 e_a c_a e_at, aI cI e_at 256 e_stand_1, oX0 c_a c_points c_count c_as c_ad c_ar c_ah c_ed, aI cI c_as 20 c_sets, aD cD c_ad 20 c_scores, aZ cZ c_ar 20 c_rated, aI cI c_ah 8 c_hold] := hD
  refine lv_istore_n (lv' := [(3, .int r_2), (0, .ref e_a), (1, .int x1), (2, .int x2)]) hx hb dX4_smallest_13 rfl hl (by decide) rfl (fun ls hl => ?_)
  refine lv_iconst (v := (0 : Int32)) hx hb dX4_smallest_14 (by decide) ?_
  refine lv_istore (lv' := [(4, .int (0 : Int32)), (3, .int r_2), (0, .ref e_a), (1, .int x1), (2, .int x2)]) hx hb dX4_smallest_15 hl (by decide) rfl (fun ls hl => ?_)
  obtain ⟨j, h⟩ := h
  exact b_17  j _ _ _ h _ _ _ ⟨hP, hD, hS, lv_sub hl [2, 1, 0] rfl⟩
abbrev rm_X4_smallestSize : Room := { frames := 4, cells := 0, slots := 0, locals := 93 }
def wp_X4_smallestSize (x1 : Int32) (e_stand : Nat → Int32) (c_points : Int32) (c_count : Int32) (c_sets : Nat → Int32) (c_hold : Nat → Int32) (Q : Int32 → (Nat → Int32) → Prop) : Prop := wp_X0_others x1 c_count (fun (r_1 : Int32) => wp_X4_smallest x1 r_1 e_stand c_points c_count c_sets c_hold (fun (r_2 : Int32) (e_stand_3 : Nat → Int32) => wp_J6_bitCount_0f7a4 r_2 (fun (r_4 : Int32) => Q r_4 e_stand_3)))
set_option maxRecDepth 100000 in
set_option maxHeartbeats 4000000 in
theorem c_X4_smallestSize (l : Launch) (G : va_G) (cI cD cZ cJ cO : ClassId) (e_a e_at c_a c_as c_ad c_ar c_ah : Nat) (e_stand : Nat → Int32) (c_points : Int32) (c_count : Int32) (c_ed : Int32) (c_sets : Nat → Int32) (c_scores : Nat → UInt64) (c_rated : Nat → Int32) (c_hold : Nat → Int32) (x1 : Int32) (Q : Int32 → (Nat → Int32) → Prop) (h : wp_X4_smallestSize x1 e_stand c_points c_count c_sets c_hold Q) : CtI l yX4_smallestSize wsX4_smallestSize rm_X4_smallestSize G (TY cI cD cZ cJ cO) [.ref e_a, .int x1] [oX4 e_a c_a e_at, aI cI e_at 256 e_stand, oX0 c_a c_points c_count c_as c_ad c_ar c_ah c_ed, aI cI c_as 20 c_sets, aD cD c_ad 20 c_scores, aZ cZ c_ar 20 c_rated, aI cI c_ah 8 c_hold] (fun (r : Int32) (u : (Nat → Int32)) => Q r u) (fun (u : (Nat → Int32)) => [oX4 e_a c_a e_at, aI cI e_at 256 u, oX0 c_a c_points c_count c_as c_ad c_ar c_ah c_ed, aI cI c_as 20 c_sets, aD cD c_ad 20 c_scores, aZ cZ c_ar 20 c_rated, aI cI c_ah 8 c_hold]) := by
  refine ct_openI (cc := cX4_smallestSize) (maxL := 2) (ty := .int) (by decide) rfl (Nat.le_of_ble_eq_true rfl) ?_
  intro p e s m args below meth c A Z ls hx hb hml hown hts hK hA hret hP hD hS hl
  have hown : s.vm.findClass RX4 = some m.cls := hown
  have hl : lv_has ls 2 [(0, .ref e_a), (1, .int x1)] := hl
  have f_9 := hts (.fieldLink RX4 9 "TeachingSets$Search" "concepts" "LTeachingSets$Concepts;") (List.mem_of_getElem? (i := 1) rfl)
  have i_X4 : ∀ w ∈ wsX40, w ∈ wsX4_smallestSize := fun _ h => List.mem_cons_of_mem _ (List.mem_append_left _ (List.mem_append_right _ (h)))
  refine lv_aload_n hx hb dX4_smallestSize_0 rfl (lv_at hl 0 rfl) ?_
  refine lv_iload_n hx hb dX4_smallestSize_1 rfl (lv_at hl 1 rfl) ?_
  refine lv_aload_n hx hb dX4_smallestSize_2 rfl (lv_at hl 0 rfl) ?_
  refine va_get (D := G) (ci := 4) (v := .ref c_a) (C := RX4) (T := TX4) (N := 2) hx hb hts i_X4 hown hK.1 hP 0 rfl rfl 0 (by decide) f_9 (fun _ h9 => h9) rfl dX4_smallestSize_3 ?_
  refine lv_iload_n hx hb dX4_smallestSize_6 rfl (lv_at hl 1 rfl) ?_
  refine k_Vi (wr := [oX4 e_a c_a e_at, aI cI e_at 256 e_stand]) (wf := (fun (u : Unit) => [oX4 e_a c_a e_at, aI cI e_at 256 e_stand, oX0 c_a c_points c_count c_as c_ad c_ar c_ah c_ed, aI cI c_as 20 c_sets, aD cD c_ad 20 c_scores, aZ cZ c_ar 20 c_rated, aI cI c_ah 8 c_hold])) (As := [.int x1]) (rest := [.int x1, .ref e_a]) ⟨hx, hb, hml, hown, hts⟩ hK hP hD hS hA (c_X0_others l G cI cD cZ cJ cO c_a c_as c_ad c_ar c_ah c_points c_count c_ed c_sets c_scores c_rated c_hold x1 _ h) (cwV 1 hts gX4_smallestSize_X0_others rfl rfl rfl (by decide +kernel) ⟨Nat.le_of_ble_eq_true rfl, Nat.le_of_ble_eq_true rfl⟩) 0 rfl rfl [2, 3, 4, 5, 6] [0, 1] [0, 1, 2, 3, 4, 5, 6] rfl rfl rfl (fun _ => rfl) rfl rfl hl.1 (Nat.le_of_ble_eq_true rfl) ⟨Nat.zero_le _, Nat.zero_le _⟩ dX4_smallestSize_7 (fun r_1 u H locs h hP hD hS => ?_)
  have hP : va_P G vwCl [oX4 e_a c_a e_at, aI cI e_at 256 e_stand, oX0 c_a c_points c_count c_as c_ad c_ar c_ah c_ed, aI cI c_as 20 c_sets, aD cD c_ad 20 c_scores, aZ cZ c_ar 20 c_rated, aI cI c_ah 8 c_hold] H := hP
  have hD : va_D A [oX4 e_a c_a e_at, aI cI e_at 256 e_stand, oX0 c_a c_points c_count c_as c_ad c_ar c_ah c_ed, aI cI c_as 20 c_sets, aD cD c_ad 20 c_scores, aZ cZ c_ar 20 c_rated, aI cI c_ah 8 c_hold] := hD
  refine k_Vi (wr := []) (wf := (fun (u : (Nat → Int32)) => [oX4 e_a c_a e_at, aI cI e_at 256 u, oX0 c_a c_points c_count c_as c_ad c_ar c_ah c_ed, aI cI c_as 20 c_sets, aD cD c_ad 20 c_scores, aZ cZ c_ar 20 c_rated, aI cI c_ah 8 c_hold])) (As := [.int x1, .int r_1]) (rest := []) ⟨hx, hb, hml, hown, hts⟩ hK hP hD hS hA (c_X4_smallest l G cI cD cZ cJ cO e_a e_at c_a c_as c_ad c_ar c_ah e_stand c_points c_count c_ed c_sets c_scores c_rated c_hold x1 r_1 _ h) (cwV 2 hts gX4_smallestSize_X4_smallest rfl rfl rfl (by decide +kernel) ⟨Nat.le_of_ble_eq_true rfl, Nat.le_of_ble_eq_true rfl⟩) 0 rfl rfl [0, 1, 2, 3, 4, 5, 6] [] [0, 1, 2, 3, 4, 5, 6] rfl rfl rfl (fun _ => rfl) rfl rfl hl.1 (Nat.le_of_ble_eq_true rfl) ⟨Nat.zero_le _, Nat.zero_le _⟩ dX4_smallestSize_10 (fun r_2 u H locs h hP hD hS => ?_)
  obtain ⟨e_stand_3, rfl⟩ : ∃ z, z = u := ⟨_, rfl⟩
  have hP : va_P G vwCl [oX4 e_a c_a e_at, aI cI e_at 256 e_stand_3, oX0 c_a c_points c_count c_as c_ad c_ar c_ah c_ed, aI cI c_as 20 c_sets, aD cD c_ad 20 c_scores, aZ cZ c_ar 20 c_rated, aI cI c_ah 8 c_hold] H := hP
  have hD : va_D A [oX4 e_a c_a e_at, aI cI e_at 256 e_stand_3, oX0 c_a c_points c_count c_as c_ad c_ar c_ah c_ed, aI cI c_as 20 c_sets, aD cD c_ad 20 c_scores, aZ cZ c_ar 20 c_rated, aI cI c_ah 8 c_hold] := hD
  refine k_Si (wr := [oX4 e_a c_a e_at, aI cI e_at 256 e_stand_3, oX0 c_a c_points c_count c_as c_ad c_ar c_ah c_ed, aI cI c_as 20 c_sets, aD cD c_ad 20 c_scores, aZ cZ c_ar 20 c_rated, aI cI c_ah 8 c_hold]) (wf := (fun (u : Unit) => [oX4 e_a c_a e_at, aI cI e_at 256 e_stand_3, oX0 c_a c_points c_count c_as c_ad c_ar c_ah c_ed, aI cI c_as 20 c_sets, aD cD c_ad 20 c_scores, aZ cZ c_ar 20 c_rated, aI cI c_ah 8 c_hold])) (As := [.int r_2]) (rest := []) ⟨hx, hb, hml, hown, hts⟩ hK hP hD hS hA (c_J6_bitCount_0f7a4 l G cI cD cZ cJ cO r_2 _ h) (va_cwS 1 hts gX4_smallestSize_J6_bitCount_0f7a4 rfl rfl rfl (by decide +kernel) ⟨Nat.le_of_ble_eq_true rfl, Nat.le_of_ble_eq_true rfl⟩) [] [0, 1, 2, 3, 4, 5, 6] [0, 1, 2, 3, 4, 5, 6] rfl rfl rfl (fun _ => rfl) rfl rfl hl.1 (Nat.le_of_ble_eq_true rfl) ⟨Nat.zero_le _, Nat.zero_le _⟩ dX4_smallestSize_13 (fun r_4 u H locs h hP hD hS => ?_)
  have hP : va_P G vwCl [oX4 e_a c_a e_at, aI cI e_at 256 e_stand_3, oX0 c_a c_points c_count c_as c_ad c_ar c_ah c_ed, aI cI c_as 20 c_sets, aD cD c_ad 20 c_scores, aZ cZ c_ar 20 c_rated, aI cI c_ah 8 c_hold] H := hP
  have hD : va_D A [oX4 e_a c_a e_at, aI cI e_at 256 e_stand_3, oX0 c_a c_points c_count c_as c_ad c_ar c_ah c_ed, aI cI c_as 20 c_sets, aD cD c_ad 20 c_scores, aZ cZ c_ar 20 c_rated, aI cI c_ah 8 c_hold] := hD
  exact hret _ e_stand_3 _ _ _ _ rfl h hP hD hS dX4_smallestSize_16
abbrev rm_X4_countOfSize : Room := { frames := 3, cells := 0, slots := 0, locals := 69 }
def wp_X4_countOfSize_b12 (x1 : Int32) (x2 : Int32) (x3 : Int32) (c_points : Int32) (c_count : Int32) (c_sets : Nat → Int32) (c_hold : Nat → Int32) (Q : Int32 → (Nat → Int32) → Prop)  : Nat → Int32 → Int32 → (Nat → Int32) → Prop
  | 0, _, _, _ => False
  | n + 1, x4, x5, e_stand => wp_X0_allPoints c_points (fun (r_2 : Int32) => ((r_2 < x5) → Q x4 e_stand) ∧ ((¬ r_2 < x5) → vp_in x5 256 ∧ ((¬ (e_stand x5.toNatClampNeg) = 0) → wp_X4_countOfSize_b12 x1 x2 x3 c_points c_count c_sets c_hold Q n x4 (x5 + (1 : Int32)) e_stand) ∧ (((e_stand x5.toNatClampNeg) = 0) → wp_J6_bitCount_0f7a4 x5 (fun (r_3 : Int32) => ((¬ r_3 = x3) → wp_X4_countOfSize_b12 x1 x2 x3 c_points c_count c_sets c_hold Q n x4 (x5 + (1 : Int32)) e_stand) ∧ ((r_3 = x3) → wp_X4_countOfSize_b12 x1 x2 x3 c_points c_count c_sets c_hold Q n (x4 + (1 : Int32)) (x5 + (1 : Int32)) e_stand)))))
def wp_X4_countOfSize (x1 : Int32) (x2 : Int32) (x3 : Int32) (e_stand : Nat → Int32) (c_points : Int32) (c_count : Int32) (c_sets : Nat → Int32) (c_hold : Nat → Int32) (Q : Int32 → (Nat → Int32) → Prop) : Prop := wp_X4_weigh x1 x2 e_stand c_points c_count c_sets c_hold (fun (e_stand_1 : Nat → Int32) => ∃ j12, wp_X4_countOfSize_b12 x1 x2 x3 c_points c_count c_sets c_hold Q j12 (0 : Int32) (0 : Int32) e_stand_1)
set_option maxRecDepth 100000 in
set_option maxHeartbeats 4000000 in
theorem c_X4_countOfSize (l : Launch) (G : va_G) (cI cD cZ cJ cO : ClassId) (e_a e_at c_a c_as c_ad c_ar c_ah : Nat) (e_stand : Nat → Int32) (c_points : Int32) (c_count : Int32) (c_ed : Int32) (c_sets : Nat → Int32) (c_scores : Nat → UInt64) (c_rated : Nat → Int32) (c_hold : Nat → Int32) (x1 : Int32) (x2 : Int32) (x3 : Int32) (Q : Int32 → (Nat → Int32) → Prop) (h : wp_X4_countOfSize x1 x2 x3 e_stand c_points c_count c_sets c_hold Q) : CtI l yX4_countOfSize wsX4_countOfSize rm_X4_countOfSize G (TY cI cD cZ cJ cO) [.ref e_a, .int x1, .int x2, .int x3] [oX4 e_a c_a e_at, aI cI e_at 256 e_stand, oX0 c_a c_points c_count c_as c_ad c_ar c_ah c_ed, aI cI c_as 20 c_sets, aD cD c_ad 20 c_scores, aZ cZ c_ar 20 c_rated, aI cI c_ah 8 c_hold] (fun (r : Int32) (u : (Nat → Int32)) => Q r u) (fun (u : (Nat → Int32)) => [oX4 e_a c_a e_at, aI cI e_at 256 u, oX0 c_a c_points c_count c_as c_ad c_ar c_ah c_ed, aI cI c_as 20 c_sets, aD cD c_ad 20 c_scores, aZ cZ c_ar 20 c_rated, aI cI c_ah 8 c_hold]) := by
  refine ct_openI (cc := cX4_countOfSize) (maxL := 6) (ty := .int) (by decide) rfl (Nat.le_of_ble_eq_true rfl) ?_
  intro p e s m args below meth c A Z ls hx hb hml hown hts hK hA hret hP hD hS hl
  have hown : s.vm.findClass RX4 = some m.cls := hown
  have hl : lv_has ls 6 [(0, .ref e_a), (1, .int x1), (2, .int x2), (3, .int x3)] := hl
  have f_9 := hts (.fieldLink RX4 9 "TeachingSets$Search" "concepts" "LTeachingSets$Concepts;") (List.mem_of_getElem? (i := 1) rfl)
  have f_15 := hts (.fieldLink RX4 15 "TeachingSets$Search" "standing" "[I") (List.mem_of_getElem? (i := 2) rfl)
  have i_X4 : ∀ w ∈ wsX40, w ∈ wsX4_countOfSize := fun _ h => List.mem_cons_of_mem _ (List.mem_append_left _ (List.mem_append_right _ (h)))
  have b_12 : ∀ (n : Nat) (x4 : Int32) (x5 : Int32) (e_stand : Nat → Int32), wp_X4_countOfSize_b12 x1 x2 x3 c_points c_count c_sets c_hold Q n x4 x5 e_stand → ∀ (H : Heap) (locs : List Loc) (ls : Array Slot), ST G A s.heap [oX4 e_a c_a e_at, aI cI e_at 256 e_stand, oX0 c_a c_points c_count c_as c_ad c_ar c_ah c_ed, aI cI c_as 20 c_sets, aD cD c_ad 20 c_scores, aZ cZ c_ar 20 c_rated, aI cI c_ah 8 c_hold] 6 [(0, .ref e_a), (3, .int x3), (4, .int x4), (5, .int x5)] H locs ls → W p l e rm_X4_countOfSize s m args below meth c H locs 0 0 Z (F0 m 12 ls []) := by
    intro n
    induction n with
    | zero =>
      intro x4 x5 e_stand h; exact False.elim h
    | succ n ih =>
      intro x4 x5 e_stand h H locs ls hst
      obtain ⟨hP, hD, hS, hl⟩ := hst
      refine lv_iload hx hb dX4_countOfSize_12 (lv_at hl 3 rfl) ?_
      refine lv_aload_n hx hb dX4_countOfSize_14 rfl (lv_at hl 0 rfl) ?_
      refine va_get (D := G) (ci := 4) (v := .ref c_a) (C := RX4) (T := TX4) (N := 2) hx hb hts i_X4 hown hK.1 hP 0 rfl rfl 0 (by decide) f_9 (fun _ h9 => h9) rfl dX4_countOfSize_15 ?_
      refine k_Vi (wr := [oX4 e_a c_a e_at, aI cI e_at 256 e_stand]) (wf := (fun (u : Unit) => [oX4 e_a c_a e_at, aI cI e_at 256 e_stand, oX0 c_a c_points c_count c_as c_ad c_ar c_ah c_ed, aI cI c_as 20 c_sets, aD cD c_ad 20 c_scores, aZ cZ c_ar 20 c_rated, aI cI c_ah 8 c_hold])) (As := []) (rest := [.int x5]) ⟨hx, hb, hml, hown, hts⟩ hK hP hD hS hA (c_X0_allPoints l G cI cD cZ cJ cO c_a c_as c_ad c_ar c_ah c_points c_count c_ed c_sets c_scores c_rated c_hold _ h) (cwV 0 hts gX4_countOfSize_X0_allPoints rfl rfl rfl (by decide +kernel) ⟨Nat.le_of_ble_eq_true rfl, Nat.le_of_ble_eq_true rfl⟩) 0 rfl rfl [2, 3, 4, 5, 6] [0, 1] [0, 1, 2, 3, 4, 5, 6] rfl rfl rfl (fun _ => rfl) rfl rfl hl.1 (Nat.le_of_ble_eq_true rfl) ⟨Nat.zero_le _, Nat.zero_le _⟩ dX4_countOfSize_18 (fun r_2 u H locs h hP hD hS => ?_)
      have hP : va_P G vwCl [oX4 e_a c_a e_at, aI cI e_at 256 e_stand, oX0 c_a c_points c_count c_as c_ad c_ar c_ah c_ed, aI cI c_as 20 c_sets, aD cD c_ad 20 c_scores, aZ cZ c_ar 20 c_rated, aI cI c_ah 8 c_hold] H := hP
      have hD : va_D A [oX4 e_a c_a e_at, aI cI e_at 256 e_stand, oX0 c_a c_points c_count c_as c_ad c_ar c_ah c_ed, aI cI c_as 20 c_sets, aD cD c_ad 20 c_scores, aZ cZ c_ar 20 c_rated, aI cI c_ah 8 c_hold] := hD
      obtain ⟨ha, hf⟩ := h
      refine lv_icmp_gt (tgt := 52) hx hb dX4_countOfSize_21 (by decide) (fun hc => ?_) (fun hc => ?_)
      · have h := ha hc
        clear ha hf
        refine lv_iload hx hb dX4_countOfSize_52 (lv_at hl 2 rfl) ?_
        exact hret _ e_stand _ _ _ _ rfl h hP hD hS dX4_countOfSize_54
      · have h := hf hc
        clear ha hf
        refine lv_aload_n hx hb dX4_countOfSize_24 rfl (lv_at hl 0 rfl) ?_
        refine va_get (D := G) (ci := 4) (v := .ref e_at) (C := RX4) (T := TX4) (N := 2) hx hb hts i_X4 hown hK.1 hP 0 rfl rfl 1 (by decide) f_15 (fun _ h9 => h9) rfl dX4_countOfSize_25 ?_
        refine lv_iload hx hb dX4_countOfSize_28 (lv_at hl 3 rfl) ?_
        obtain ⟨hi, h⟩ := h
        refine va_iald hx hb hK.1 hP 1 0 rfl rfl hi dX4_countOfSize_30 ?_
        obtain ⟨ha, hf⟩ := h
        refine lv_if_ne (tgt := 46) hx hb dX4_countOfSize_31 (by decide) (fun hc => ?_) (fun hc => ?_)
        · have h := ha hc
          clear ha hf
          refine lv_iinc (v := (x5 + (1 : Int32))) (lv' := [(5, .int (x5 + (1 : Int32))), (0, .ref e_a), (3, .int x3), (4, .int x4)]) hx hb dX4_countOfSize_46 hl (k := 3) rfl rfl (by decide) rfl (fun ls hl => ?_)
          refine lv_goto (tgt := 12) hx hb dX4_countOfSize_49 (by decide) ?_
          exact ih _ _ _ h _ _ _ ⟨hP, hD, hS, lv_sub hl [1, 2, 3, 0] rfl⟩
        · have h := hf hc
          clear ha hf
          refine lv_iload hx hb dX4_countOfSize_34 (lv_at hl 3 rfl) ?_
          refine k_Si (wr := [oX4 e_a c_a e_at, aI cI e_at 256 e_stand, oX0 c_a c_points c_count c_as c_ad c_ar c_ah c_ed, aI cI c_as 20 c_sets, aD cD c_ad 20 c_scores, aZ cZ c_ar 20 c_rated, aI cI c_ah 8 c_hold]) (wf := (fun (u : Unit) => [oX4 e_a c_a e_at, aI cI e_at 256 e_stand, oX0 c_a c_points c_count c_as c_ad c_ar c_ah c_ed, aI cI c_as 20 c_sets, aD cD c_ad 20 c_scores, aZ cZ c_ar 20 c_rated, aI cI c_ah 8 c_hold])) (As := [.int x5]) (rest := []) ⟨hx, hb, hml, hown, hts⟩ hK hP hD hS hA (c_J6_bitCount_0f7a4 l G cI cD cZ cJ cO x5 _ h) (va_cwS 1 hts gX4_countOfSize_J6_bitCount_0f7a4 rfl rfl rfl (by decide +kernel) ⟨Nat.le_of_ble_eq_true rfl, Nat.le_of_ble_eq_true rfl⟩) [] [0, 1, 2, 3, 4, 5, 6] [0, 1, 2, 3, 4, 5, 6] rfl rfl rfl (fun _ => rfl) rfl rfl hl.1 (Nat.le_of_ble_eq_true rfl) ⟨Nat.zero_le _, Nat.zero_le _⟩ dX4_countOfSize_36 (fun r_3 u H locs h hP hD hS => ?_)
          have hP : va_P G vwCl [oX4 e_a c_a e_at, aI cI e_at 256 e_stand, oX0 c_a c_points c_count c_as c_ad c_ar c_ah c_ed, aI cI c_as 20 c_sets, aD cD c_ad 20 c_scores, aZ cZ c_ar 20 c_rated, aI cI c_ah 8 c_hold] H := hP
          have hD : va_D A [oX4 e_a c_a e_at, aI cI e_at 256 e_stand, oX0 c_a c_points c_count c_as c_ad c_ar c_ah c_ed, aI cI c_as 20 c_sets, aD cD c_ad 20 c_scores, aZ cZ c_ar 20 c_rated, aI cI c_ah 8 c_hold] := hD
          refine lv_iload_n hx hb dX4_countOfSize_39 rfl (lv_at hl 1 rfl) ?_
          obtain ⟨ha, hf⟩ := h
          refine lv_icmp_ne (tgt := 46) hx hb dX4_countOfSize_40 (by decide) (fun hc => ?_) (fun hc => ?_)
          · have h := ha hc
            clear ha hf
            refine lv_iinc (v := (x5 + (1 : Int32))) (lv' := [(5, .int (x5 + (1 : Int32))), (0, .ref e_a), (3, .int x3), (4, .int x4)]) hx hb dX4_countOfSize_46 hl (k := 3) rfl rfl (by decide) rfl (fun ls hl => ?_)
            refine lv_goto (tgt := 12) hx hb dX4_countOfSize_49 (by decide) ?_
            exact ih _ _ _ h _ _ _ ⟨hP, hD, hS, lv_sub hl [1, 2, 3, 0] rfl⟩
          · have h := hf hc
            clear ha hf
            refine lv_iinc (v := (x4 + (1 : Int32))) (lv' := [(4, .int (x4 + (1 : Int32))), (0, .ref e_a), (3, .int x3), (5, .int x5)]) hx hb dX4_countOfSize_43 hl (k := 2) rfl rfl (by decide) rfl (fun ls hl => ?_)
            refine lv_iinc (v := (x5 + (1 : Int32))) (lv' := [(5, .int (x5 + (1 : Int32))), (4, .int (x4 + (1 : Int32))), (0, .ref e_a), (3, .int x3)]) hx hb dX4_countOfSize_46 hl (k := 3) rfl rfl (by decide) rfl (fun ls hl => ?_)
            refine lv_goto (tgt := 12) hx hb dX4_countOfSize_49 (by decide) ?_
            exact ih _ _ _ h _ _ _ ⟨hP, hD, hS, lv_sub hl [2, 3, 1, 0] rfl⟩
  refine lv_aload_n hx hb dX4_countOfSize_0 rfl (lv_at hl 0 rfl) ?_
  refine lv_iload_n hx hb dX4_countOfSize_1 rfl (lv_at hl 1 rfl) ?_
  refine lv_iload_n hx hb dX4_countOfSize_2 rfl (lv_at hl 2 rfl) ?_
  refine k_Vv (wr := []) (wf := (fun (u : (Nat → Int32)) => [oX4 e_a c_a e_at, aI cI e_at 256 u, oX0 c_a c_points c_count c_as c_ad c_ar c_ah c_ed, aI cI c_as 20 c_sets, aD cD c_ad 20 c_scores, aZ cZ c_ar 20 c_rated, aI cI c_ah 8 c_hold])) (As := [.int x1, .int x2]) (rest := []) ⟨hx, hb, hml, hown, hts⟩ hK hP hD hS hA (c_X4_weigh l G cI cD cZ cJ cO e_a e_at c_a c_as c_ad c_ar c_ah e_stand c_points c_count c_ed c_sets c_scores c_rated c_hold x1 x2 _ h) (cwV 2 hts gX4_countOfSize_X4_weigh rfl rfl rfl (by decide +kernel) ⟨Nat.le_of_ble_eq_true rfl, Nat.le_of_ble_eq_true rfl⟩) 0 rfl rfl [0, 1, 2, 3, 4, 5, 6] [] [0, 1, 2, 3, 4, 5, 6] rfl rfl rfl (fun _ => rfl) rfl rfl hl.1 (Nat.le_of_ble_eq_true rfl) ⟨Nat.zero_le _, Nat.zero_le _⟩ dX4_countOfSize_3 (fun u H locs h hP hD hS => ?_)
  obtain ⟨e_stand_1, rfl⟩ : ∃ z, z = u := ⟨_, rfl⟩
  have hP : va_P G vwCl [oX4 e_a c_a e_at, aI cI e_at 256 e_stand_1, oX0 c_a c_points c_count c_as c_ad c_ar c_ah c_ed, aI cI c_as 20 c_sets, aD cD c_ad 20 c_scores, aZ cZ c_ar 20 c_rated, aI cI c_ah 8 c_hold] H := hP
  have hD : va_D A [oX4 e_a c_a e_at, aI cI e_at 256 e_stand_1, oX0 c_a c_points c_count c_as c_ad c_ar c_ah c_ed, aI cI c_as 20 c_sets, aD cD c_ad 20 c_scores, aZ cZ c_ar 20 c_rated, aI cI c_ah 8 c_hold] := hD
  refine lv_iconst (v := (0 : Int32)) hx hb dX4_countOfSize_6 (by decide) ?_
  refine lv_istore (lv' := [(4, .int (0 : Int32)), (0, .ref e_a), (1, .int x1), (2, .int x2), (3, .int x3)]) hx hb dX4_countOfSize_7 hl (by decide) rfl (fun ls hl => ?_)
  refine lv_iconst (v := (0 : Int32)) hx hb dX4_countOfSize_9 (by decide) ?_
  refine lv_istore (lv' := [(5, .int (0 : Int32)), (4, .int (0 : Int32)), (0, .ref e_a), (1, .int x1), (2, .int x2), (3, .int x3)]) hx hb dX4_countOfSize_10 hl (by decide) rfl (fun ls hl => ?_)
  obtain ⟨j, h⟩ := h
  exact b_12  j _ _ _ h _ _ _ ⟨hP, hD, hS, lv_sub hl [2, 5, 1, 0] rfl⟩
abbrev rm_X1_formSets : Room := { frames := 4, cells := 0, slots := 0, locals := 93 }
def wp_X1_formSets_b5 (x1 : Int32) (c_points : Int32) (c_count : Int32) (c_sets : Nat → Int32) (c_hold : Nat → Int32) (Q : Int32 → (Nat → Int32) → (Nat → Int32) → Prop)  : Nat → Int32 → Int32 → (Nat → Int32) → (Nat → Int32) → Prop
  | 0, _, _, _, _ => False
  | n + 1, x2, x3, p_sets, e_stand => ((c_count ≤ x3) → Q x2 p_sets e_stand) ∧ ((¬ c_count ≤ x3) → wp_X7_hasBit x1 x3 (fun (r_1 : Int32) => ((r_1 = 0) → wp_X1_formSets_b5 x1 c_points c_count c_sets c_hold Q n x2 (x3 + (1 : Int32)) p_sets e_stand) ∧ ((¬ r_1 = 0) → wp_X4_smallest x3 (x1 &&& (((1 : Int32) <<< (x3 &&& 31)) ^^^ (-1 : Int32))) e_stand c_points c_count c_sets c_hold (fun (r_2 : Int32) (e_stand_3 : Nat → Int32) => vp_in x3 20 ∧ vp_in x3 20 ∧ wp_J6_bitCount_0f7a4 ((upd p_sets x3.toNatClampNeg r_2) x3.toNatClampNeg) (fun (r_4 : Int32) => wp_X1_formSets_b5 x1 c_points c_count c_sets c_hold Q n (if r_4 < x2 then r_4 else x2) (x3 + (1 : Int32)) (upd p_sets x3.toNatClampNeg r_2) e_stand_3)))))
def wp_X1_formSets (x1 : Int32) (p_sets : Nat → Int32) (e_stand : Nat → Int32) (c_points : Int32) (c_count : Int32) (c_sets : Nat → Int32) (c_hold : Nat → Int32) (Q : Int32 → (Nat → Int32) → (Nat → Int32) → Prop) : Prop := ∃ j5, wp_X1_formSets_b5 x1 c_points c_count c_sets c_hold Q j5 (8 : Int32) (0 : Int32) p_sets e_stand
set_option maxRecDepth 100000 in
set_option maxHeartbeats 4000000 in
theorem c_X1_formSets (l : Launch) (G : va_G) (cI cD cZ cJ cO : ClassId) (p_a p_al p_as e_a e_at c_a c_as c_ad c_ar c_ah : Nat) (p_height : Int32) (p_largest : Int32) (p_ed : Int32) (p_layers : Nat → Int32) (p_sets : Nat → Int32) (e_stand : Nat → Int32) (c_points : Int32) (c_count : Int32) (c_ed : Int32) (c_sets : Nat → Int32) (c_scores : Nat → UInt64) (c_rated : Nat → Int32) (c_hold : Nat → Int32) (x1 : Int32) (Q : Int32 → (Nat → Int32) → (Nat → Int32) → Prop) (h : wp_X1_formSets x1 p_sets e_stand c_points c_count c_sets c_hold Q) : CtI l yX1_formSets wsX1_formSets rm_X1_formSets G (TY cI cD cZ cJ cO) [.ref p_a, .int x1] [oX1 p_a c_a e_a p_al p_as p_height p_largest p_ed, aI cI p_al 20 p_layers, aI cI p_as 20 p_sets, oX4 e_a c_a e_at, aI cI e_at 256 e_stand, oX0 c_a c_points c_count c_as c_ad c_ar c_ah c_ed, aI cI c_as 20 c_sets, aD cD c_ad 20 c_scores, aZ cZ c_ar 20 c_rated, aI cI c_ah 8 c_hold] (fun (r : Int32) (u : (Nat → Int32) × (Nat → Int32)) => Q r u.1 u.2) (fun (u : (Nat → Int32) × (Nat → Int32)) => [oX1 p_a c_a e_a p_al p_as p_height p_largest p_ed, aI cI p_al 20 p_layers, aI cI p_as 20 u.1, oX4 e_a c_a e_at, aI cI e_at 256 u.2, oX0 c_a c_points c_count c_as c_ad c_ar c_ah c_ed, aI cI c_as 20 c_sets, aD cD c_ad 20 c_scores, aZ cZ c_ar 20 c_rated, aI cI c_ah 8 c_hold]) := by
  refine ct_openI (cc := cX1_formSets) (maxL := 4) (ty := .int) (by decide) rfl (Nat.le_of_ble_eq_true rfl) ?_
  intro p e s m args below meth c A Z ls hx hb hml hown hts hK hA hret hP hD hS hl
  have hown : s.vm.findClass RX1 = some m.cls := hown
  have hl : lv_has ls 4 [(0, .ref p_a), (1, .int x1)] := hl
  have f_9 := hts (.fieldLink RX1 9 "TeachingSets$Plan" "concepts" "LTeachingSets$Concepts;") (List.mem_of_getElem? (i := 1) rfl)
  have f_59 := hts (.fieldLink RX1 59 "TeachingSets$Concepts" "count" "I") (List.mem_of_getElem? (i := 2) rfl)
  have f_23 := hts (.fieldLink RX1 23 "TeachingSets$Plan" "sets" "[I") (List.mem_of_getElem? (i := 3) rfl)
  have f_15 := hts (.fieldLink RX1 15 "TeachingSets$Plan" "search" "LTeachingSets$Search;") (List.mem_of_getElem? (i := 4) rfl)
  have i_X1 : ∀ w ∈ wsX10, w ∈ wsX1_formSets := fun _ h => List.mem_cons_of_mem _ (List.mem_append_left _ (List.mem_append_left _ (List.mem_append_right _ (h))))
  have i_X0 : ∀ w ∈ wsX00, w ∈ wsX1_formSets := fun _ h => List.mem_cons_of_mem _ (List.mem_append_left _ (List.mem_append_right _ (h)))
  have b_5 : ∀ (n : Nat) (x2 : Int32) (x3 : Int32) (p_sets : Nat → Int32) (e_stand : Nat → Int32), wp_X1_formSets_b5 x1 c_points c_count c_sets c_hold Q n x2 x3 p_sets e_stand → ∀ (H : Heap) (locs : List Loc) (ls : Array Slot), ST G A s.heap [oX1 p_a c_a e_a p_al p_as p_height p_largest p_ed, aI cI p_al 20 p_layers, aI cI p_as 20 p_sets, oX4 e_a c_a e_at, aI cI e_at 256 e_stand, oX0 c_a c_points c_count c_as c_ad c_ar c_ah c_ed, aI cI c_as 20 c_sets, aD cD c_ad 20 c_scores, aZ cZ c_ar 20 c_rated, aI cI c_ah 8 c_hold] 4 [(0, .ref p_a), (1, .int x1), (2, .int x2), (3, .int x3)] H locs ls → W p l e rm_X1_formSets s m args below meth c H locs 0 0 Z (F0 m 5 ls []) := by
    intro n
    induction n with
    | zero =>
      intro x2 x3 p_sets e_stand h; exact False.elim h
    | succ n ih =>
      intro x2 x3 p_sets e_stand h H locs ls hst
      obtain ⟨hP, hD, hS, hl⟩ := hst
      refine lv_iload_n hx hb dX1_formSets_5 rfl (lv_at hl 3 rfl) ?_
      refine lv_aload_n hx hb dX1_formSets_6 rfl (lv_at hl 0 rfl) ?_
      refine va_get (D := G) (ci := 1) (v := .ref c_a) (C := RX1) (T := TX1) (N := 7) hx hb hts i_X1 hown hK.1 hP 0 rfl rfl 0 (by decide) f_9 (fun _ h9 => h9) rfl dX1_formSets_7 ?_
      refine va_get (D := G) (ci := 0) (v := .int c_count) (C := RX0) (T := TX0) (N := 7) hx hb hts i_X0 hown hK.1 hP 5 rfl rfl 1 (by decide) f_59 (fun _ h9 => h9) rfl dX1_formSets_10 ?_
      obtain ⟨ha, hf⟩ := h
      refine lv_icmp_ge (tgt := 65) hx hb dX1_formSets_13 (by decide) (fun hc => ?_) (fun hc => ?_)
      · have h := ha hc
        clear ha hf
        refine lv_iload_n hx hb dX1_formSets_65 rfl (lv_at hl 2 rfl) ?_
        exact hret _ (p_sets, e_stand) _ _ _ _ rfl h hP hD hS dX1_formSets_66
      · have h := hf hc
        clear ha hf
        refine lv_iload_n hx hb dX1_formSets_16 rfl (lv_at hl 1 rfl) ?_
        refine lv_iload_n hx hb dX1_formSets_17 rfl (lv_at hl 3 rfl) ?_
        refine k_SNi (wr := [oX1 p_a c_a e_a p_al p_as p_height p_largest p_ed, aI cI p_al 20 p_layers, aI cI p_as 20 p_sets, oX4 e_a c_a e_at, aI cI e_at 256 e_stand, oX0 c_a c_points c_count c_as c_ad c_ar c_ah c_ed, aI cI c_as 20 c_sets, aD cD c_ad 20 c_scores, aZ cZ c_ar 20 c_rated, aI cI c_ah 8 c_hold]) (wf := (fun (u : Unit) => [oX1 p_a c_a e_a p_al p_as p_height p_largest p_ed, aI cI p_al 20 p_layers, aI cI p_as 20 p_sets, oX4 e_a c_a e_at, aI cI e_at 256 e_stand, oX0 c_a c_points c_count c_as c_ad c_ar c_ah c_ed, aI cI c_as 20 c_sets, aD cD c_ad 20 c_scores, aZ cZ c_ar 20 c_rated, aI cI c_ah 8 c_hold])) (As := [.int x1, .int x3]) (rest := []) ⟨hx, hb, hml, hown, hts⟩ hK hP hD hS hA (c_X7_hasBit l G cI cD cZ cJ cO x1 x3 _ h) ⟨va_cnB (host := RX7) 2 hts gX1_formSets_X7_hasBit_n62 rfl rfl rfl hK.2.2 (hts (.initialized RX7) (List.mem_of_getElem? (i := 10) rfl)) (by decide +kernel) ⟨Nat.le_of_ble_eq_true rfl, Nat.le_of_ble_eq_true rfl⟩, hts (.static yX7_hasBit) (List.mem_of_getElem? (i := 9) rfl), trivial⟩ [] [0, 1, 2, 3, 4, 5, 6, 7, 8, 9] [0, 1, 2, 3, 4, 5, 6, 7, 8, 9] rfl rfl rfl (fun _ => rfl) rfl rfl hl.1 (Nat.le_of_ble_eq_true rfl) ⟨Nat.zero_le _, Nat.zero_le _⟩ dX1_formSets_18 (fun r_1 u H locs h hP hD hS => ?_)
        have hP : va_P G vwCl [oX1 p_a c_a e_a p_al p_as p_height p_largest p_ed, aI cI p_al 20 p_layers, aI cI p_as 20 p_sets, oX4 e_a c_a e_at, aI cI e_at 256 e_stand, oX0 c_a c_points c_count c_as c_ad c_ar c_ah c_ed, aI cI c_as 20 c_sets, aD cD c_ad 20 c_scores, aZ cZ c_ar 20 c_rated, aI cI c_ah 8 c_hold] H := hP
        have hD : va_D A [oX1 p_a c_a e_a p_al p_as p_height p_largest p_ed, aI cI p_al 20 p_layers, aI cI p_as 20 p_sets, oX4 e_a c_a e_at, aI cI e_at 256 e_stand, oX0 c_a c_points c_count c_as c_ad c_ar c_ah c_ed, aI cI c_as 20 c_sets, aD cD c_ad 20 c_scores, aZ cZ c_ar 20 c_rated, aI cI c_ah 8 c_hold] := hD
        obtain ⟨ha, hf⟩ := h
        refine lv_if_eq (tgt := 59) hx hb dX1_formSets_21 (by decide) (fun hc => ?_) (fun hc => ?_)
        · have h := ha hc
          clear ha hf
          refine lv_iinc (v := (x3 + (1 : Int32))) (lv' := [(3, .int (x3 + (1 : Int32))), (0, .ref p_a), (1, .int x1), (2, .int x2)]) hx hb dX1_formSets_59 hl (k := 3) rfl rfl (by decide) rfl (fun ls hl => ?_)
          refine lv_goto (tgt := 5) hx hb dX1_formSets_62 (by decide) ?_
          exact ih _ _ _ _ h _ _ _ ⟨hP, hD, hS, lv_sub hl [1, 2, 3, 0] rfl⟩
        · have h := hf hc
          clear ha hf
          refine lv_aload_n hx hb dX1_formSets_24 rfl (lv_at hl 0 rfl) ?_
          refine va_get (D := G) (ci := 1) (v := .ref p_as) (C := RX1) (T := TX1) (N := 7) hx hb hts i_X1 hown hK.1 hP 0 rfl rfl 3 (by decide) f_23 (fun _ h9 => h9) rfl dX1_formSets_25 ?_
          refine lv_iload_n hx hb dX1_formSets_28 rfl (lv_at hl 3 rfl) ?_
          refine lv_aload_n hx hb dX1_formSets_29 rfl (lv_at hl 0 rfl) ?_
          refine va_get (D := G) (ci := 1) (v := .ref e_a) (C := RX1) (T := TX1) (N := 7) hx hb hts i_X1 hown hK.1 hP 0 rfl rfl 1 (by decide) f_15 (fun _ h9 => h9) rfl dX1_formSets_30 ?_
          refine lv_iload_n hx hb dX1_formSets_33 rfl (lv_at hl 3 rfl) ?_
          refine lv_iload_n hx hb dX1_formSets_34 rfl (lv_at hl 1 rfl) ?_
          refine lv_iconst (v := (1 : Int32)) hx hb dX1_formSets_35 (by decide) ?_
          refine lv_iload_n hx hb dX1_formSets_36 rfl (lv_at hl 3 rfl) ?_
          refine lv_ishl hx hb dX1_formSets_37 ?_
          refine lv_iconst (v := (-1 : Int32)) hx hb dX1_formSets_38 (by decide) ?_
          refine lv_ixor hx hb dX1_formSets_39 ?_
          refine lv_iand hx hb dX1_formSets_40 ?_
          refine k_Vi (wr := [oX1 p_a c_a e_a p_al p_as p_height p_largest p_ed, aI cI p_al 20 p_layers, aI cI p_as 20 p_sets]) (wf := (fun (u : (Nat → Int32)) => [oX1 p_a c_a e_a p_al p_as p_height p_largest p_ed, aI cI p_al 20 p_layers, aI cI p_as 20 p_sets, oX4 e_a c_a e_at, aI cI e_at 256 u, oX0 c_a c_points c_count c_as c_ad c_ar c_ah c_ed, aI cI c_as 20 c_sets, aD cD c_ad 20 c_scores, aZ cZ c_ar 20 c_rated, aI cI c_ah 8 c_hold])) (As := [.int x3, .int (x1 &&& (((1 : Int32) <<< (x3 &&& 31)) ^^^ (-1 : Int32)))]) (rest := [.int x3, .ref p_as]) ⟨hx, hb, hml, hown, hts⟩ hK hP hD hS hA (c_X4_smallest l G cI cD cZ cJ cO e_a e_at c_a c_as c_ad c_ar c_ah e_stand c_points c_count c_ed c_sets c_scores c_rated c_hold x3 (x1 &&& (((1 : Int32) <<< (x3 &&& 31)) ^^^ (-1 : Int32))) _ h) (cwV 2 hts gX1_formSets_X4_smallest rfl rfl rfl (by decide +kernel) ⟨Nat.le_of_ble_eq_true rfl, Nat.le_of_ble_eq_true rfl⟩) 0 rfl rfl [3, 4, 5, 6, 7, 8, 9] [0, 1, 2] [0, 1, 2, 3, 4, 5, 6, 7, 8, 9] rfl rfl rfl (fun _ => rfl) rfl rfl hl.1 (Nat.le_of_ble_eq_true rfl) ⟨Nat.zero_le _, Nat.zero_le _⟩ dX1_formSets_41 (fun r_2 u H locs h hP hD hS => ?_)
          obtain ⟨e_stand_3, rfl⟩ : ∃ z, z = u := ⟨_, rfl⟩
          have hP : va_P G vwCl [oX1 p_a c_a e_a p_al p_as p_height p_largest p_ed, aI cI p_al 20 p_layers, aI cI p_as 20 p_sets, oX4 e_a c_a e_at, aI cI e_at 256 e_stand_3, oX0 c_a c_points c_count c_as c_ad c_ar c_ah c_ed, aI cI c_as 20 c_sets, aD cD c_ad 20 c_scores, aZ cZ c_ar 20 c_rated, aI cI c_ah 8 c_hold] H := hP
          have hD : va_D A [oX1 p_a c_a e_a p_al p_as p_height p_largest p_ed, aI cI p_al 20 p_layers, aI cI p_as 20 p_sets, oX4 e_a c_a e_at, aI cI e_at 256 e_stand_3, oX0 c_a c_points c_count c_as c_ad c_ar c_ah c_ed, aI cI c_as 20 c_sets, aD cD c_ad 20 c_scores, aZ cZ c_ar 20 c_rated, aI cI c_ah 8 c_hold] := hD
          obtain ⟨hi, h⟩ := h
          refine va_iast hx hb hK.1 hP hD hS 2 0 rfl rfl hi dX1_formSets_44 (fun H locs hP hD hS => ?_)
          have hP : va_P G vwCl [oX1 p_a c_a e_a p_al p_as p_height p_largest p_ed, aI cI p_al 20 p_layers, aI cI p_as 20 (upd p_sets x3.toNatClampNeg r_2), oX4 e_a c_a e_at, aI cI e_at 256 e_stand_3, oX0 c_a c_points c_count c_as c_ad c_ar c_ah c_ed, aI cI c_as 20 c_sets, aD cD c_ad 20 c_scores, aZ cZ c_ar 20 c_rated, aI cI c_ah 8 c_hold] H := hP
          have hD : va_D A [oX1 p_a c_a e_a p_al p_as p_height p_largest p_ed, aI cI p_al 20 p_layers, aI cI p_as 20 (upd p_sets x3.toNatClampNeg r_2), oX4 e_a c_a e_at, aI cI e_at 256 e_stand_3, oX0 c_a c_points c_count c_as c_ad c_ar c_ah c_ed, aI cI c_as 20 c_sets, aD cD c_ad 20 c_scores, aZ cZ c_ar 20 c_rated, aI cI c_ah 8 c_hold] := hD
          refine lv_iload_n hx hb dX1_formSets_45 rfl (lv_at hl 2 rfl) ?_
          refine lv_aload_n hx hb dX1_formSets_46 rfl (lv_at hl 0 rfl) ?_
          refine va_get (D := G) (ci := 1) (v := .ref p_as) (C := RX1) (T := TX1) (N := 7) hx hb hts i_X1 hown hK.1 hP 0 rfl rfl 3 (by decide) f_23 (fun _ h9 => h9) rfl dX1_formSets_47 ?_
          refine lv_iload_n hx hb dX1_formSets_50 rfl (lv_at hl 3 rfl) ?_
          obtain ⟨hi, h⟩ := h
          refine va_iald hx hb hK.1 hP 2 0 rfl rfl hi dX1_formSets_51 ?_
          refine k_Si (wr := [oX1 p_a c_a e_a p_al p_as p_height p_largest p_ed, aI cI p_al 20 p_layers, aI cI p_as 20 (upd p_sets x3.toNatClampNeg r_2), oX4 e_a c_a e_at, aI cI e_at 256 e_stand_3, oX0 c_a c_points c_count c_as c_ad c_ar c_ah c_ed, aI cI c_as 20 c_sets, aD cD c_ad 20 c_scores, aZ cZ c_ar 20 c_rated, aI cI c_ah 8 c_hold]) (wf := (fun (u : Unit) => [oX1 p_a c_a e_a p_al p_as p_height p_largest p_ed, aI cI p_al 20 p_layers, aI cI p_as 20 (upd p_sets x3.toNatClampNeg r_2), oX4 e_a c_a e_at, aI cI e_at 256 e_stand_3, oX0 c_a c_points c_count c_as c_ad c_ar c_ah c_ed, aI cI c_as 20 c_sets, aD cD c_ad 20 c_scores, aZ cZ c_ar 20 c_rated, aI cI c_ah 8 c_hold])) (As := [.int ((upd p_sets x3.toNatClampNeg r_2) x3.toNatClampNeg)]) (rest := [.int x2]) ⟨hx, hb, hml, hown, hts⟩ hK hP hD hS hA (c_J6_bitCount_0f7a4 l G cI cD cZ cJ cO ((upd p_sets x3.toNatClampNeg r_2) x3.toNatClampNeg) _ h) (va_cwS 1 hts gX1_formSets_J6_bitCount_0f7a4 rfl rfl rfl (by decide +kernel) ⟨Nat.le_of_ble_eq_true rfl, Nat.le_of_ble_eq_true rfl⟩) [] [0, 1, 2, 3, 4, 5, 6, 7, 8, 9] [0, 1, 2, 3, 4, 5, 6, 7, 8, 9] rfl rfl rfl (fun _ => rfl) rfl rfl hl.1 (Nat.le_of_ble_eq_true rfl) ⟨Nat.zero_le _, Nat.zero_le _⟩ dX1_formSets_52 (fun r_4 u H locs h hP hD hS => ?_)
          have hP : va_P G vwCl [oX1 p_a c_a e_a p_al p_as p_height p_largest p_ed, aI cI p_al 20 p_layers, aI cI p_as 20 (upd p_sets x3.toNatClampNeg r_2), oX4 e_a c_a e_at, aI cI e_at 256 e_stand_3, oX0 c_a c_points c_count c_as c_ad c_ar c_ah c_ed, aI cI c_as 20 c_sets, aD cD c_ad 20 c_scores, aZ cZ c_ar 20 c_rated, aI cI c_ah 8 c_hold] H := hP
          have hD : va_D A [oX1 p_a c_a e_a p_al p_as p_height p_largest p_ed, aI cI p_al 20 p_layers, aI cI p_as 20 (upd p_sets x3.toNatClampNeg r_2), oX4 e_a c_a e_at, aI cI e_at 256 e_stand_3, oX0 c_a c_points c_count c_as c_ad c_ar c_ah c_ed, aI cI c_as 20 c_sets, aD cD c_ad 20 c_scores, aZ cZ c_ar 20 c_rated, aI cI c_ah 8 c_hold] := hD
          refine va_mmin hx hb (hml.trans hl.1.symm) hown (hts _ (List.mem_of_getElem? (i := 5) rfl)) (hts _ (List.mem_of_getElem? (i := 6) rfl)) (hts _ (List.mem_of_getElem? (i := 7) rfl)) (hts _ (List.mem_of_getElem? (i := 8) rfl)) (Nat.le_of_ble_eq_true rfl) (Nat.le_of_ble_eq_true rfl) (Nat.zero_le _) (Nat.zero_le _) dX1_formSets_55 ?_
          refine lv_istore_n (lv' := [(2, .int (if r_4 < x2 then r_4 else x2)), (0, .ref p_a), (1, .int x1), (3, .int x3)]) hx hb dX1_formSets_58 rfl hl (by decide) rfl (fun ls hl => ?_)
          refine lv_iinc (v := (x3 + (1 : Int32))) (lv' := [(3, .int (x3 + (1 : Int32))), (2, .int (if r_4 < x2 then r_4 else x2)), (0, .ref p_a), (1, .int x1)]) hx hb dX1_formSets_59 hl (k := 3) rfl rfl (by decide) rfl (fun ls hl => ?_)
          refine lv_goto (tgt := 5) hx hb dX1_formSets_62 (by decide) ?_
          exact ih _ _ _ _ h _ _ _ ⟨hP, hD, hS, lv_sub hl [2, 3, 1, 0] rfl⟩
  refine lv_bipush (v := (8 : Int32)) hx hb dX1_formSets_0 (by decide) ?_
  refine lv_istore_n (lv' := [(2, .int (8 : Int32)), (0, .ref p_a), (1, .int x1)]) hx hb dX1_formSets_2 rfl hl (by decide) rfl (fun ls hl => ?_)
  refine lv_iconst (v := (0 : Int32)) hx hb dX1_formSets_3 (by decide) ?_
  refine lv_istore_n (lv' := [(3, .int (0 : Int32)), (2, .int (8 : Int32)), (0, .ref p_a), (1, .int x1)]) hx hb dX1_formSets_4 rfl hl (by decide) rfl (fun ls hl => ?_)
  obtain ⟨j, h⟩ := h
  exact b_5  j _ _ _ _ h _ _ _ ⟨hP, hD, hS, lv_sub hl [2, 3, 1, 0] rfl⟩
abbrev rm_X1_takeAway : Room := { frames := 1, cells := 0, slots := 0, locals := 21 }
def wp_X1_takeAway_b5 (x1 : Int32) (x2 : Int32) (p_height : Int32) (p_sets : Nat → Int32) (c_count : Int32) (Q : Int32 → (Nat → Int32) → Prop)  : Nat → Int32 → Int32 → (Nat → Int32) → Prop
  | 0, _, _, _ => False
  | n + 1, x3, x4, p_layers => ((c_count ≤ x4) → Q x3 p_layers) ∧ ((¬ c_count ≤ x4) → wp_X7_hasBit x1 x4 (fun (r_1 : Int32) => ((r_1 = 0) → wp_X1_takeAway_b5 x1 x2 p_height p_sets c_count Q n x3 (x4 + (1 : Int32)) p_layers) ∧ ((¬ r_1 = 0) → vp_in x4 20 ∧ wp_J6_bitCount_0f7a4 (p_sets x4.toNatClampNeg) (fun (r_2 : Int32) => ((¬ r_2 = x2) → wp_X1_takeAway_b5 x1 x2 p_height p_sets c_count Q n x3 (x4 + (1 : Int32)) p_layers) ∧ ((r_2 = x2) → vp_in x4 20 ∧ wp_X1_takeAway_b5 x1 x2 p_height p_sets c_count Q n (x3 ||| ((1 : Int32) <<< (x4 &&& 31))) (x4 + (1 : Int32)) (upd p_layers x4.toNatClampNeg p_height))))))
def wp_X1_takeAway (x1 : Int32) (x2 : Int32) (p_height : Int32) (p_layers : Nat → Int32) (p_sets : Nat → Int32) (c_count : Int32) (Q : Int32 → (Nat → Int32) → Prop) : Prop := ∃ j5, wp_X1_takeAway_b5 x1 x2 p_height p_sets c_count Q j5 (0 : Int32) (0 : Int32) p_layers
set_option maxRecDepth 100000 in
set_option maxHeartbeats 4000000 in
theorem c_X1_takeAway (l : Launch) (G : va_G) (cI cD cZ cJ cO : ClassId) (p_a p_al p_as e_a e_at c_a c_as c_ad c_ar c_ah : Nat) (p_height : Int32) (p_largest : Int32) (p_ed : Int32) (p_layers : Nat → Int32) (p_sets : Nat → Int32) (e_stand : Nat → Int32) (c_points : Int32) (c_count : Int32) (c_ed : Int32) (c_sets : Nat → Int32) (c_scores : Nat → UInt64) (c_rated : Nat → Int32) (c_hold : Nat → Int32) (x1 : Int32) (x2 : Int32) (Q : Int32 → (Nat → Int32) → Prop) (h : wp_X1_takeAway x1 x2 p_height p_layers p_sets c_count Q) : CtI l yX1_takeAway wsX1_takeAway rm_X1_takeAway G (TY cI cD cZ cJ cO) [.ref p_a, .int x1, .int x2] [oX1 p_a c_a e_a p_al p_as p_height p_largest p_ed, aI cI p_al 20 p_layers, aI cI p_as 20 p_sets, oX4 e_a c_a e_at, aI cI e_at 256 e_stand, oX0 c_a c_points c_count c_as c_ad c_ar c_ah c_ed, aI cI c_as 20 c_sets, aD cD c_ad 20 c_scores, aZ cZ c_ar 20 c_rated, aI cI c_ah 8 c_hold] (fun (r : Int32) (u : (Nat → Int32)) => Q r u) (fun (u : (Nat → Int32)) => [oX1 p_a c_a e_a p_al p_as p_height p_largest p_ed, aI cI p_al 20 u, aI cI p_as 20 p_sets, oX4 e_a c_a e_at, aI cI e_at 256 e_stand, oX0 c_a c_points c_count c_as c_ad c_ar c_ah c_ed, aI cI c_as 20 c_sets, aD cD c_ad 20 c_scores, aZ cZ c_ar 20 c_rated, aI cI c_ah 8 c_hold]) := by
  refine ct_openI (cc := cX1_takeAway) (maxL := 5) (ty := .int) (by decide) rfl (Nat.le_of_ble_eq_true rfl) ?_
  intro p e s m args below meth c A Z ls hx hb hml hown hts hK hA hret hP hD hS hl
  have hown : s.vm.findClass RX1 = some m.cls := hown
  have hl : lv_has ls 5 [(0, .ref p_a), (1, .int x1), (2, .int x2)] := hl
  have f_9 := hts (.fieldLink RX1 9 "TeachingSets$Plan" "concepts" "LTeachingSets$Concepts;") (List.mem_of_getElem? (i := 1) rfl)
  have f_59 := hts (.fieldLink RX1 59 "TeachingSets$Concepts" "count" "I") (List.mem_of_getElem? (i := 2) rfl)
  have f_23 := hts (.fieldLink RX1 23 "TeachingSets$Plan" "sets" "[I") (List.mem_of_getElem? (i := 3) rfl)
  have f_19 := hts (.fieldLink RX1 19 "TeachingSets$Plan" "layers" "[I") (List.mem_of_getElem? (i := 4) rfl)
  have f_26 := hts (.fieldLink RX1 26 "TeachingSets$Plan" "height" "I") (List.mem_of_getElem? (i := 5) rfl)
  have i_X1 : ∀ w ∈ wsX10, w ∈ wsX1_takeAway := fun _ h => List.mem_cons_of_mem _ (List.mem_append_left _ (List.mem_append_right _ (h)))
  have i_X0 : ∀ w ∈ wsX00, w ∈ wsX1_takeAway := fun _ h => List.mem_cons_of_mem _ (List.mem_append_right _ (h))
  have b_5 : ∀ (n : Nat) (x3 : Int32) (x4 : Int32) (p_layers : Nat → Int32), wp_X1_takeAway_b5 x1 x2 p_height p_sets c_count Q n x3 x4 p_layers → ∀ (H : Heap) (locs : List Loc) (ls : Array Slot), ST G A s.heap [oX1 p_a c_a e_a p_al p_as p_height p_largest p_ed, aI cI p_al 20 p_layers, aI cI p_as 20 p_sets, oX4 e_a c_a e_at, aI cI e_at 256 e_stand, oX0 c_a c_points c_count c_as c_ad c_ar c_ah c_ed, aI cI c_as 20 c_sets, aD cD c_ad 20 c_scores, aZ cZ c_ar 20 c_rated, aI cI c_ah 8 c_hold] 5 [(0, .ref p_a), (1, .int x1), (2, .int x2), (3, .int x3), (4, .int x4)] H locs ls → W p l e rm_X1_takeAway s m args below meth c H locs 0 0 Z (F0 m 5 ls []) := by
    intro n
    induction n with
    | zero =>
      intro x3 x4 p_layers h; exact False.elim h
    | succ n ih =>
      intro x3 x4 p_layers h H locs ls hst
      obtain ⟨hP, hD, hS, hl⟩ := hst
      refine lv_iload hx hb dX1_takeAway_5 (lv_at hl 4 rfl) ?_
      refine lv_aload_n hx hb dX1_takeAway_7 rfl (lv_at hl 0 rfl) ?_
      refine va_get (D := G) (ci := 1) (v := .ref c_a) (C := RX1) (T := TX1) (N := 7) hx hb hts i_X1 hown hK.1 hP 0 rfl rfl 0 (by decide) f_9 (fun _ h9 => h9) rfl dX1_takeAway_8 ?_
      refine va_get (D := G) (ci := 0) (v := .int c_count) (C := RX0) (T := TX0) (N := 7) hx hb hts i_X0 hown hK.1 hP 5 rfl rfl 1 (by decide) f_59 (fun _ h9 => h9) rfl dX1_takeAway_11 ?_
      obtain ⟨ha, hf⟩ := h
      refine lv_icmp_ge (tgt := 64) hx hb dX1_takeAway_14 (by decide) (fun hc => ?_) (fun hc => ?_)
      · have h := ha hc
        clear ha hf
        refine lv_iload_n hx hb dX1_takeAway_64 rfl (lv_at hl 3 rfl) ?_
        exact hret _ p_layers _ _ _ _ rfl h hP hD hS dX1_takeAway_65
      · have h := hf hc
        clear ha hf
        refine lv_iload_n hx hb dX1_takeAway_17 rfl (lv_at hl 1 rfl) ?_
        refine lv_iload hx hb dX1_takeAway_18 (lv_at hl 4 rfl) ?_
        refine k_SNi (wr := [oX1 p_a c_a e_a p_al p_as p_height p_largest p_ed, aI cI p_al 20 p_layers, aI cI p_as 20 p_sets, oX4 e_a c_a e_at, aI cI e_at 256 e_stand, oX0 c_a c_points c_count c_as c_ad c_ar c_ah c_ed, aI cI c_as 20 c_sets, aD cD c_ad 20 c_scores, aZ cZ c_ar 20 c_rated, aI cI c_ah 8 c_hold]) (wf := (fun (u : Unit) => [oX1 p_a c_a e_a p_al p_as p_height p_largest p_ed, aI cI p_al 20 p_layers, aI cI p_as 20 p_sets, oX4 e_a c_a e_at, aI cI e_at 256 e_stand, oX0 c_a c_points c_count c_as c_ad c_ar c_ah c_ed, aI cI c_as 20 c_sets, aD cD c_ad 20 c_scores, aZ cZ c_ar 20 c_rated, aI cI c_ah 8 c_hold])) (As := [.int x1, .int x4]) (rest := []) ⟨hx, hb, hml, hown, hts⟩ hK hP hD hS hA (c_X7_hasBit l G cI cD cZ cJ cO x1 x4 _ h) ⟨va_cnB (host := RX7) 2 hts gX1_takeAway_X7_hasBit_n62 rfl rfl rfl hK.2.2 (hts (.initialized RX7) (List.mem_of_getElem? (i := 7) rfl)) (by decide +kernel) ⟨Nat.le_of_ble_eq_true rfl, Nat.le_of_ble_eq_true rfl⟩, hts (.static yX7_hasBit) (List.mem_of_getElem? (i := 6) rfl), trivial⟩ [] [0, 1, 2, 3, 4, 5, 6, 7, 8, 9] [0, 1, 2, 3, 4, 5, 6, 7, 8, 9] rfl rfl rfl (fun _ => rfl) rfl rfl hl.1 (Nat.le_of_ble_eq_true rfl) ⟨Nat.zero_le _, Nat.zero_le _⟩ dX1_takeAway_20 (fun r_1 u H locs h hP hD hS => ?_)
        have hP : va_P G vwCl [oX1 p_a c_a e_a p_al p_as p_height p_largest p_ed, aI cI p_al 20 p_layers, aI cI p_as 20 p_sets, oX4 e_a c_a e_at, aI cI e_at 256 e_stand, oX0 c_a c_points c_count c_as c_ad c_ar c_ah c_ed, aI cI c_as 20 c_sets, aD cD c_ad 20 c_scores, aZ cZ c_ar 20 c_rated, aI cI c_ah 8 c_hold] H := hP
        have hD : va_D A [oX1 p_a c_a e_a p_al p_as p_height p_largest p_ed, aI cI p_al 20 p_layers, aI cI p_as 20 p_sets, oX4 e_a c_a e_at, aI cI e_at 256 e_stand, oX0 c_a c_points c_count c_as c_ad c_ar c_ah c_ed, aI cI c_as 20 c_sets, aD cD c_ad 20 c_scores, aZ cZ c_ar 20 c_rated, aI cI c_ah 8 c_hold] := hD
        obtain ⟨ha, hf⟩ := h
        refine lv_if_eq (tgt := 58) hx hb dX1_takeAway_23 (by decide) (fun hc => ?_) (fun hc => ?_)
        · have h := ha hc
          clear ha hf
          refine lv_iinc (v := (x4 + (1 : Int32))) (lv' := [(4, .int (x4 + (1 : Int32))), (0, .ref p_a), (1, .int x1), (2, .int x2), (3, .int x3)]) hx hb dX1_takeAway_58 hl (k := 4) rfl rfl (by decide) rfl (fun ls hl => ?_)
          refine lv_goto (tgt := 5) hx hb dX1_takeAway_61 (by decide) ?_
          exact ih _ _ _ h _ _ _ ⟨hP, hD, hS, lv_sub hl [1, 2, 3, 4, 0] rfl⟩
        · have h := hf hc
          clear ha hf
          refine lv_aload_n hx hb dX1_takeAway_26 rfl (lv_at hl 0 rfl) ?_
          refine va_get (D := G) (ci := 1) (v := .ref p_as) (C := RX1) (T := TX1) (N := 7) hx hb hts i_X1 hown hK.1 hP 0 rfl rfl 3 (by decide) f_23 (fun _ h9 => h9) rfl dX1_takeAway_27 ?_
          refine lv_iload hx hb dX1_takeAway_30 (lv_at hl 4 rfl) ?_
          obtain ⟨hi, h⟩ := h
          refine va_iald hx hb hK.1 hP 2 0 rfl rfl hi dX1_takeAway_32 ?_
          refine k_Si (wr := [oX1 p_a c_a e_a p_al p_as p_height p_largest p_ed, aI cI p_al 20 p_layers, aI cI p_as 20 p_sets, oX4 e_a c_a e_at, aI cI e_at 256 e_stand, oX0 c_a c_points c_count c_as c_ad c_ar c_ah c_ed, aI cI c_as 20 c_sets, aD cD c_ad 20 c_scores, aZ cZ c_ar 20 c_rated, aI cI c_ah 8 c_hold]) (wf := (fun (u : Unit) => [oX1 p_a c_a e_a p_al p_as p_height p_largest p_ed, aI cI p_al 20 p_layers, aI cI p_as 20 p_sets, oX4 e_a c_a e_at, aI cI e_at 256 e_stand, oX0 c_a c_points c_count c_as c_ad c_ar c_ah c_ed, aI cI c_as 20 c_sets, aD cD c_ad 20 c_scores, aZ cZ c_ar 20 c_rated, aI cI c_ah 8 c_hold])) (As := [.int (p_sets x4.toNatClampNeg)]) (rest := []) ⟨hx, hb, hml, hown, hts⟩ hK hP hD hS hA (c_J6_bitCount_0f7a4 l G cI cD cZ cJ cO (p_sets x4.toNatClampNeg) _ h) (va_cwS 1 hts gX1_takeAway_J6_bitCount_0f7a4 rfl rfl rfl (by decide +kernel) ⟨Nat.le_of_ble_eq_true rfl, Nat.le_of_ble_eq_true rfl⟩) [] [0, 1, 2, 3, 4, 5, 6, 7, 8, 9] [0, 1, 2, 3, 4, 5, 6, 7, 8, 9] rfl rfl rfl (fun _ => rfl) rfl rfl hl.1 (Nat.le_of_ble_eq_true rfl) ⟨Nat.zero_le _, Nat.zero_le _⟩ dX1_takeAway_33 (fun r_2 u H locs h hP hD hS => ?_)
          have hP : va_P G vwCl [oX1 p_a c_a e_a p_al p_as p_height p_largest p_ed, aI cI p_al 20 p_layers, aI cI p_as 20 p_sets, oX4 e_a c_a e_at, aI cI e_at 256 e_stand, oX0 c_a c_points c_count c_as c_ad c_ar c_ah c_ed, aI cI c_as 20 c_sets, aD cD c_ad 20 c_scores, aZ cZ c_ar 20 c_rated, aI cI c_ah 8 c_hold] H := hP
          have hD : va_D A [oX1 p_a c_a e_a p_al p_as p_height p_largest p_ed, aI cI p_al 20 p_layers, aI cI p_as 20 p_sets, oX4 e_a c_a e_at, aI cI e_at 256 e_stand, oX0 c_a c_points c_count c_as c_ad c_ar c_ah c_ed, aI cI c_as 20 c_sets, aD cD c_ad 20 c_scores, aZ cZ c_ar 20 c_rated, aI cI c_ah 8 c_hold] := hD
          refine lv_iload_n hx hb dX1_takeAway_36 rfl (lv_at hl 2 rfl) ?_
          obtain ⟨ha, hf⟩ := h
          refine lv_icmp_ne (tgt := 58) hx hb dX1_takeAway_37 (by decide) (fun hc => ?_) (fun hc => ?_)
          · have h := ha hc
            clear ha hf
            refine lv_iinc (v := (x4 + (1 : Int32))) (lv' := [(4, .int (x4 + (1 : Int32))), (0, .ref p_a), (1, .int x1), (2, .int x2), (3, .int x3)]) hx hb dX1_takeAway_58 hl (k := 4) rfl rfl (by decide) rfl (fun ls hl => ?_)
            refine lv_goto (tgt := 5) hx hb dX1_takeAway_61 (by decide) ?_
            exact ih _ _ _ h _ _ _ ⟨hP, hD, hS, lv_sub hl [1, 2, 3, 4, 0] rfl⟩
          · have h := hf hc
            clear ha hf
            refine lv_aload_n hx hb dX1_takeAway_40 rfl (lv_at hl 0 rfl) ?_
            refine va_get (D := G) (ci := 1) (v := .ref p_al) (C := RX1) (T := TX1) (N := 7) hx hb hts i_X1 hown hK.1 hP 0 rfl rfl 2 (by decide) f_19 (fun _ h9 => h9) rfl dX1_takeAway_41 ?_
            refine lv_iload hx hb dX1_takeAway_44 (lv_at hl 4 rfl) ?_
            refine lv_aload_n hx hb dX1_takeAway_46 rfl (lv_at hl 0 rfl) ?_
            refine va_get (D := G) (ci := 1) (v := .int p_height) (C := RX1) (T := TX1) (N := 7) hx hb hts i_X1 hown hK.1 hP 0 rfl rfl 4 (by decide) f_26 (fun _ h9 => h9) rfl dX1_takeAway_47 ?_
            obtain ⟨hi, h⟩ := h
            refine va_iast hx hb hK.1 hP hD hS 1 0 rfl rfl hi dX1_takeAway_50 (fun H locs hP hD hS => ?_)
            have hP : va_P G vwCl [oX1 p_a c_a e_a p_al p_as p_height p_largest p_ed, aI cI p_al 20 (upd p_layers x4.toNatClampNeg p_height), aI cI p_as 20 p_sets, oX4 e_a c_a e_at, aI cI e_at 256 e_stand, oX0 c_a c_points c_count c_as c_ad c_ar c_ah c_ed, aI cI c_as 20 c_sets, aD cD c_ad 20 c_scores, aZ cZ c_ar 20 c_rated, aI cI c_ah 8 c_hold] H := hP
            have hD : va_D A [oX1 p_a c_a e_a p_al p_as p_height p_largest p_ed, aI cI p_al 20 (upd p_layers x4.toNatClampNeg p_height), aI cI p_as 20 p_sets, oX4 e_a c_a e_at, aI cI e_at 256 e_stand, oX0 c_a c_points c_count c_as c_ad c_ar c_ah c_ed, aI cI c_as 20 c_sets, aD cD c_ad 20 c_scores, aZ cZ c_ar 20 c_rated, aI cI c_ah 8 c_hold] := hD
            refine lv_iload_n hx hb dX1_takeAway_51 rfl (lv_at hl 3 rfl) ?_
            refine lv_iconst (v := (1 : Int32)) hx hb dX1_takeAway_52 (by decide) ?_
            refine lv_iload hx hb dX1_takeAway_53 (lv_at hl 4 rfl) ?_
            refine lv_ishl hx hb dX1_takeAway_55 ?_
            refine lv_ior hx hb dX1_takeAway_56 ?_
            refine lv_istore_n (lv' := [(3, .int (x3 ||| ((1 : Int32) <<< (x4 &&& 31)))), (0, .ref p_a), (1, .int x1), (2, .int x2), (4, .int x4)]) hx hb dX1_takeAway_57 rfl hl (by decide) rfl (fun ls hl => ?_)
            refine lv_iinc (v := (x4 + (1 : Int32))) (lv' := [(4, .int (x4 + (1 : Int32))), (3, .int (x3 ||| ((1 : Int32) <<< (x4 &&& 31)))), (0, .ref p_a), (1, .int x1), (2, .int x2)]) hx hb dX1_takeAway_58 hl (k := 4) rfl rfl (by decide) rfl (fun ls hl => ?_)
            refine lv_goto (tgt := 5) hx hb dX1_takeAway_61 (by decide) ?_
            exact ih _ _ _ h _ _ _ ⟨hP, hD, hS, lv_sub hl [2, 3, 4, 1, 0] rfl⟩
  refine lv_iconst (v := (0 : Int32)) hx hb dX1_takeAway_0 (by decide) ?_
  refine lv_istore_n (lv' := [(3, .int (0 : Int32)), (0, .ref p_a), (1, .int x1), (2, .int x2)]) hx hb dX1_takeAway_1 rfl hl (by decide) rfl (fun ls hl => ?_)
  refine lv_iconst (v := (0 : Int32)) hx hb dX1_takeAway_2 (by decide) ?_
  refine lv_istore (lv' := [(4, .int (0 : Int32)), (3, .int (0 : Int32)), (0, .ref p_a), (1, .int x1), (2, .int x2)]) hx hb dX1_takeAway_3 hl (by decide) rfl (fun ls hl => ?_)
  obtain ⟨j, h⟩ := h
  exact b_5  j _ _ _ h _ _ _ ⟨hP, hD, hS, lv_sub hl [2, 3, 4, 1, 0] rfl⟩
abbrev rm_X1_make : Room := { frames := 5, cells := 0, slots := 0, locals := 116 }
def wp_X1_make_b20 (c_points : Int32) (c_count : Int32) (c_sets : Nat → Int32) (c_hold : Nat → Int32) (Q : Int32 → Int32 → (Nat → Int32) → (Nat → Int32) → (Nat → Int32) → Prop)  : Nat → Int32 → Int32 → Int32 → Int32 → (Nat → Int32) → (Nat → Int32) → (Nat → Int32) → Prop
  | 0, _, _, _, _, _, _, _ => False
  | n + 1, x1, x2, p_height, p_largest, p_layers, p_sets, e_stand => (((20 : Int32) ≤ x2) → Q p_height p_largest p_layers p_sets e_stand) ∧ ((¬ (20 : Int32) ≤ x2) → ((x1 = 0) → Q p_height p_largest p_layers p_sets e_stand) ∧ ((¬ x1 = 0) → wp_X1_formSets x1 p_sets e_stand c_points c_count c_sets c_hold (fun (r_2 : Int32) (p_sets_3 : Nat → Int32) (e_stand_4 : Nat → Int32) => wp_X1_takeAway x1 r_2 p_height p_layers p_sets_3 c_count (fun (r_5 : Int32) (p_layers_6 : Nat → Int32) => wp_X1_make_b20 c_points c_count c_sets c_hold Q n (x1 &&& (r_5 ^^^ (-1 : Int32))) (x2 + (1 : Int32)) (p_height + (1 : Int32)) (if p_largest < r_2 then r_2 else p_largest) p_layers_6 p_sets_3 e_stand_4))))
def wp_X1_make (p_height : Int32) (p_largest : Int32) (p_layers : Nat → Int32) (p_sets : Nat → Int32) (e_stand : Nat → Int32) (c_points : Int32) (c_count : Int32) (c_sets : Nat → Int32) (c_hold : Nat → Int32) (Q : Int32 → Int32 → (Nat → Int32) → (Nat → Int32) → (Nat → Int32) → Prop) : Prop := wp_X0_allNumbers c_count (fun (r_1 : Int32) => ∃ j20, wp_X1_make_b20 c_points c_count c_sets c_hold Q j20 r_1 (0 : Int32) (0 : Int32) (0 : Int32) p_layers p_sets e_stand)
set_option maxRecDepth 100000 in
set_option maxHeartbeats 4000000 in
theorem c_X1_make (l : Launch) (G : va_G) (cI cD cZ cJ cO : ClassId) (p_a p_al p_as e_a e_at c_a c_as c_ad c_ar c_ah : Nat) (p_height : Int32) (p_largest : Int32) (p_ed : Int32) (p_layers : Nat → Int32) (p_sets : Nat → Int32) (e_stand : Nat → Int32) (c_points : Int32) (c_count : Int32) (c_ed : Int32) (c_sets : Nat → Int32) (c_scores : Nat → UInt64) (c_rated : Nat → Int32) (c_hold : Nat → Int32) (Q : Int32 → Int32 → (Nat → Int32) → (Nat → Int32) → (Nat → Int32) → Prop) (h : wp_X1_make p_height p_largest p_layers p_sets e_stand c_points c_count c_sets c_hold Q) : CtV l yX1_make wsX1_make rm_X1_make G (TY cI cD cZ cJ cO) [.ref p_a] [oX1 p_a c_a e_a p_al p_as p_height p_largest p_ed, aI cI p_al 20 p_layers, aI cI p_as 20 p_sets, oX4 e_a c_a e_at, aI cI e_at 256 e_stand, oX0 c_a c_points c_count c_as c_ad c_ar c_ah c_ed, aI cI c_as 20 c_sets, aD cD c_ad 20 c_scores, aZ cZ c_ar 20 c_rated, aI cI c_ah 8 c_hold] (fun (u : Int32 × Int32 × (Nat → Int32) × (Nat → Int32) × (Nat → Int32)) => Q u.1 u.2.1 u.2.2.1 u.2.2.2.1 u.2.2.2.2) (fun (u : Int32 × Int32 × (Nat → Int32) × (Nat → Int32) × (Nat → Int32)) => [oX1 p_a c_a e_a p_al p_as u.1 u.2.1 p_ed, aI cI p_al 20 u.2.2.1, aI cI p_as 20 u.2.2.2.1, oX4 e_a c_a e_at, aI cI e_at 256 u.2.2.2.2, oX0 c_a c_points c_count c_as c_ad c_ar c_ah c_ed, aI cI c_as 20 c_sets, aD cD c_ad 20 c_scores, aZ cZ c_ar 20 c_rated, aI cI c_ah 8 c_hold]) := by
  refine ct_openV (cc := cX1_make) (maxL := 4) (by decide) rfl (Nat.le_of_ble_eq_true rfl) ?_
  intro p e s m args below meth c A Z ls hx hb hml hown hts hK hA hret hP hD hS hl
  have hown : s.vm.findClass RX1 = some m.cls := hown
  have hl : lv_has ls 4 [(0, .ref p_a)] := hl
  have f_9 := hts (.fieldLink RX1 9 "TeachingSets$Plan" "concepts" "LTeachingSets$Concepts;") (List.mem_of_getElem? (i := 1) rfl)
  have f_26 := hts (.fieldLink RX1 26 "TeachingSets$Plan" "height" "I") (List.mem_of_getElem? (i := 2) rfl)
  have f_30 := hts (.fieldLink RX1 30 "TeachingSets$Plan" "largest" "I") (List.mem_of_getElem? (i := 3) rfl)
  have i_X1 : ∀ w ∈ wsX10, w ∈ wsX1_make := fun _ h => List.mem_cons_of_mem _ (List.mem_append_left _ (List.mem_append_left _ (List.mem_append_right _ (h))))
  have b_20 : ∀ (n : Nat) (x1 : Int32) (x2 : Int32) (p_height : Int32) (p_largest : Int32) (p_layers : Nat → Int32) (p_sets : Nat → Int32) (e_stand : Nat → Int32), wp_X1_make_b20 c_points c_count c_sets c_hold Q n x1 x2 p_height p_largest p_layers p_sets e_stand → ∀ (H : Heap) (locs : List Loc) (ls : Array Slot), ST G A s.heap [oX1 p_a c_a e_a p_al p_as p_height p_largest p_ed, aI cI p_al 20 p_layers, aI cI p_as 20 p_sets, oX4 e_a c_a e_at, aI cI e_at 256 e_stand, oX0 c_a c_points c_count c_as c_ad c_ar c_ah c_ed, aI cI c_as 20 c_sets, aD cD c_ad 20 c_scores, aZ cZ c_ar 20 c_rated, aI cI c_ah 8 c_hold] 4 [(0, .ref p_a), (1, .int x1), (2, .int x2)] H locs ls → W p l e rm_X1_make s m args below meth c H locs 0 0 Z (F0 m 20 ls []) := by
    intro n
    induction n with
    | zero =>
      intro x1 x2 p_height p_largest p_layers p_sets e_stand h; exact False.elim h
    | succ n ih =>
      intro x1 x2 p_height p_largest p_layers p_sets e_stand h H locs ls hst
      obtain ⟨hP, hD, hS, hl⟩ := hst
      refine lv_iload_n hx hb dX1_make_20 rfl (lv_at hl 2 rfl) ?_
      refine lv_bipush (v := (20 : Int32)) hx hb dX1_make_21 (by decide) ?_
      obtain ⟨ha, hf⟩ := h
      refine lv_icmp_ge (tgt := 75) hx hb dX1_make_23 (by decide) (fun hc => ?_) (fun hc => ?_)
      · have h := ha hc
        clear ha hf
        exact hret (p_height, p_largest, p_layers, p_sets, e_stand) _ _ _ _ h hP hD hS dX1_make_75
      · have h := hf hc
        clear ha hf
        refine lv_iload_n hx hb dX1_make_26 rfl (lv_at hl 1 rfl) ?_
        obtain ⟨ha, hf⟩ := h
        refine lv_if_eq (tgt := 75) hx hb dX1_make_27 (by decide) (fun hc => ?_) (fun hc => ?_)
        · have h := ha hc
          clear ha hf
          exact hret (p_height, p_largest, p_layers, p_sets, e_stand) _ _ _ _ h hP hD hS dX1_make_75
        · have h := hf hc
          clear ha hf
          refine lv_aload_n hx hb dX1_make_30 rfl (lv_at hl 0 rfl) ?_
          refine lv_iload_n hx hb dX1_make_31 rfl (lv_at hl 1 rfl) ?_
          refine k_Vi (wr := []) (wf := (fun (u : (Nat → Int32) × (Nat → Int32)) => [oX1 p_a c_a e_a p_al p_as p_height p_largest p_ed, aI cI p_al 20 p_layers, aI cI p_as 20 u.1, oX4 e_a c_a e_at, aI cI e_at 256 u.2, oX0 c_a c_points c_count c_as c_ad c_ar c_ah c_ed, aI cI c_as 20 c_sets, aD cD c_ad 20 c_scores, aZ cZ c_ar 20 c_rated, aI cI c_ah 8 c_hold])) (As := [.int x1]) (rest := []) ⟨hx, hb, hml, hown, hts⟩ hK hP hD hS hA (c_X1_formSets l G cI cD cZ cJ cO p_a p_al p_as e_a e_at c_a c_as c_ad c_ar c_ah p_height p_largest p_ed p_layers p_sets e_stand c_points c_count c_ed c_sets c_scores c_rated c_hold x1 _ h) (cwV 1 hts gX1_make_X1_formSets rfl rfl rfl (by decide +kernel) ⟨Nat.le_of_ble_eq_true rfl, Nat.le_of_ble_eq_true rfl⟩) 0 rfl rfl [0, 1, 2, 3, 4, 5, 6, 7, 8, 9] [] [0, 1, 2, 3, 4, 5, 6, 7, 8, 9] rfl rfl rfl (fun _ => rfl) rfl rfl hl.1 (Nat.le_of_ble_eq_true rfl) ⟨Nat.zero_le _, Nat.zero_le _⟩ dX1_make_32 (fun r_2 u H locs h hP hD hS => ?_)
          obtain ⟨p_sets_3, e_stand_4⟩ := u
          have hP : va_P G vwCl [oX1 p_a c_a e_a p_al p_as p_height p_largest p_ed, aI cI p_al 20 p_layers, aI cI p_as 20 p_sets_3, oX4 e_a c_a e_at, aI cI e_at 256 e_stand_4, oX0 c_a c_points c_count c_as c_ad c_ar c_ah c_ed, aI cI c_as 20 c_sets, aD cD c_ad 20 c_scores, aZ cZ c_ar 20 c_rated, aI cI c_ah 8 c_hold] H := hP
          have hD : va_D A [oX1 p_a c_a e_a p_al p_as p_height p_largest p_ed, aI cI p_al 20 p_layers, aI cI p_as 20 p_sets_3, oX4 e_a c_a e_at, aI cI e_at 256 e_stand_4, oX0 c_a c_points c_count c_as c_ad c_ar c_ah c_ed, aI cI c_as 20 c_sets, aD cD c_ad 20 c_scores, aZ cZ c_ar 20 c_rated, aI cI c_ah 8 c_hold] := hD
          refine lv_istore_n (lv' := [(3, .int r_2), (0, .ref p_a), (1, .int x1), (2, .int x2)]) hx hb dX1_make_35 rfl hl (by decide) rfl (fun ls hl => ?_)
          refine lv_iload_n hx hb dX1_make_36 rfl (lv_at hl 2 rfl) ?_
          refine lv_aload_n hx hb dX1_make_37 rfl (lv_at hl 1 rfl) ?_
          refine lv_iload_n hx hb dX1_make_38 rfl (lv_at hl 2 rfl) ?_
          refine lv_iload_n hx hb dX1_make_39 rfl (lv_at hl 0 rfl) ?_
          refine k_Vi (wr := []) (wf := (fun (u : (Nat → Int32)) => [oX1 p_a c_a e_a p_al p_as p_height p_largest p_ed, aI cI p_al 20 u, aI cI p_as 20 p_sets_3, oX4 e_a c_a e_at, aI cI e_at 256 e_stand_4, oX0 c_a c_points c_count c_as c_ad c_ar c_ah c_ed, aI cI c_as 20 c_sets, aD cD c_ad 20 c_scores, aZ cZ c_ar 20 c_rated, aI cI c_ah 8 c_hold])) (As := [.int x1, .int r_2]) (rest := [.int x1]) ⟨hx, hb, hml, hown, hts⟩ hK hP hD hS hA (c_X1_takeAway l G cI cD cZ cJ cO p_a p_al p_as e_a e_at c_a c_as c_ad c_ar c_ah p_height p_largest p_ed p_layers p_sets_3 e_stand_4 c_points c_count c_ed c_sets c_scores c_rated c_hold x1 r_2 _ h) (cwV 2 hts gX1_make_X1_takeAway rfl rfl rfl (by decide +kernel) ⟨Nat.le_of_ble_eq_true rfl, Nat.le_of_ble_eq_true rfl⟩) 0 rfl rfl [0, 1, 2, 3, 4, 5, 6, 7, 8, 9] [] [0, 1, 2, 3, 4, 5, 6, 7, 8, 9] rfl rfl rfl (fun _ => rfl) rfl rfl hl.1 (Nat.le_of_ble_eq_true rfl) ⟨Nat.zero_le _, Nat.zero_le _⟩ dX1_make_40 (fun r_5 u H locs h hP hD hS => ?_)
          obtain ⟨p_layers_6, rfl⟩ : ∃ z, z = u := ⟨_, rfl⟩
          have hP : va_P G vwCl [oX1 p_a c_a e_a p_al p_as p_height p_largest p_ed, aI cI p_al 20 p_layers_6, aI cI p_as 20 p_sets_3, oX4 e_a c_a e_at, aI cI e_at 256 e_stand_4, oX0 c_a c_points c_count c_as c_ad c_ar c_ah c_ed, aI cI c_as 20 c_sets, aD cD c_ad 20 c_scores, aZ cZ c_ar 20 c_rated, aI cI c_ah 8 c_hold] H := hP
          have hD : va_D A [oX1 p_a c_a e_a p_al p_as p_height p_largest p_ed, aI cI p_al 20 p_layers_6, aI cI p_as 20 p_sets_3, oX4 e_a c_a e_at, aI cI e_at 256 e_stand_4, oX0 c_a c_points c_count c_as c_ad c_ar c_ah c_ed, aI cI c_as 20 c_sets, aD cD c_ad 20 c_scores, aZ cZ c_ar 20 c_rated, aI cI c_ah 8 c_hold] := hD
          refine lv_iconst (v := (-1 : Int32)) hx hb dX1_make_43 (by decide) ?_
          refine lv_ixor hx hb dX1_make_44 ?_
          refine lv_iand hx hb dX1_make_45 ?_
          refine lv_istore_n (lv' := [(1, .int (x1 &&& (r_5 ^^^ (-1 : Int32)))), (3, .int r_2), (0, .ref p_a), (2, .int x2)]) hx hb dX1_make_46 rfl hl (by decide) rfl (fun ls hl => ?_)
          refine lv_aload_n hx hb dX1_make_47 rfl (lv_at hl 2 rfl) ?_
          refine lv_aload_n hx hb dX1_make_48 rfl (lv_at hl 2 rfl) ?_
          refine va_get (D := G) (ci := 1) (v := .int p_largest) (C := RX1) (T := TX1) (N := 7) hx hb hts i_X1 hown hK.1 hP 0 rfl rfl 5 (by decide) f_30 (fun _ h9 => h9) rfl dX1_make_49 ?_
          refine lv_iload_n hx hb dX1_make_52 rfl (lv_at hl 1 rfl) ?_
          refine va_mmax hx hb (hml.trans hl.1.symm) hown (hts _ (List.mem_of_getElem? (i := 4) rfl)) (hts _ (List.mem_of_getElem? (i := 5) rfl)) (hts _ (List.mem_of_getElem? (i := 6) rfl)) (hts _ (List.mem_of_getElem? (i := 7) rfl)) (Nat.le_of_ble_eq_true rfl) (Nat.le_of_ble_eq_true rfl) (Nat.zero_le _) (Nat.zero_le _) dX1_make_53 ?_
          refine va_put (D := G) (ci := 1) (v := .int (if p_largest < r_2 then r_2 else p_largest)) (ty := .int) (C := RX1) (T := TX1) (N := 7) hx hb hts i_X1 tyX1 tyX1_ok nmX1 hown hK.1 hP hD hS 0 rfl rfl 5 (by decide) f_30 (fun _ h9 => h9) rfl (tyX1_ok 5 (by decide)) rfl rfl (Nat.le_of_ble_eq_true rfl) dX1_make_56 (fun H locs hP hD hS => ?_)
          have hP : va_P G vwCl [oX1 p_a c_a e_a p_al p_as p_height (if p_largest < r_2 then r_2 else p_largest) p_ed, aI cI p_al 20 p_layers_6, aI cI p_as 20 p_sets_3, oX4 e_a c_a e_at, aI cI e_at 256 e_stand_4, oX0 c_a c_points c_count c_as c_ad c_ar c_ah c_ed, aI cI c_as 20 c_sets, aD cD c_ad 20 c_scores, aZ cZ c_ar 20 c_rated, aI cI c_ah 8 c_hold] H := hP
          have hD : va_D A [oX1 p_a c_a e_a p_al p_as p_height (if p_largest < r_2 then r_2 else p_largest) p_ed, aI cI p_al 20 p_layers_6, aI cI p_as 20 p_sets_3, oX4 e_a c_a e_at, aI cI e_at 256 e_stand_4, oX0 c_a c_points c_count c_as c_ad c_ar c_ah c_ed, aI cI c_as 20 c_sets, aD cD c_ad 20 c_scores, aZ cZ c_ar 20 c_rated, aI cI c_ah 8 c_hold] := hD
          refine lv_aload_n hx hb dX1_make_59 rfl (lv_at hl 2 rfl) ?_
          refine lv_dup hx hb dX1_make_60 rfl ?_
          refine va_get (D := G) (ci := 1) (v := .int p_height) (C := RX1) (T := TX1) (N := 7) hx hb hts i_X1 hown hK.1 hP 0 rfl rfl 4 (by decide) f_26 (fun _ h9 => h9) rfl dX1_make_61 ?_
          refine lv_iconst (v := (1 : Int32)) hx hb dX1_make_64 (by decide) ?_
          refine lv_iadd hx hb dX1_make_65 ?_
          refine va_put (D := G) (ci := 1) (v := .int (p_height + (1 : Int32))) (ty := .int) (C := RX1) (T := TX1) (N := 7) hx hb hts i_X1 tyX1 tyX1_ok nmX1 hown hK.1 hP hD hS 0 rfl rfl 4 (by decide) f_26 (fun _ h9 => h9) rfl (tyX1_ok 4 (by decide)) rfl rfl (Nat.le_of_ble_eq_true rfl) dX1_make_66 (fun H locs hP hD hS => ?_)
          have hP : va_P G vwCl [oX1 p_a c_a e_a p_al p_as (p_height + (1 : Int32)) (if p_largest < r_2 then r_2 else p_largest) p_ed, aI cI p_al 20 p_layers_6, aI cI p_as 20 p_sets_3, oX4 e_a c_a e_at, aI cI e_at 256 e_stand_4, oX0 c_a c_points c_count c_as c_ad c_ar c_ah c_ed, aI cI c_as 20 c_sets, aD cD c_ad 20 c_scores, aZ cZ c_ar 20 c_rated, aI cI c_ah 8 c_hold] H := hP
          have hD : va_D A [oX1 p_a c_a e_a p_al p_as (p_height + (1 : Int32)) (if p_largest < r_2 then r_2 else p_largest) p_ed, aI cI p_al 20 p_layers_6, aI cI p_as 20 p_sets_3, oX4 e_a c_a e_at, aI cI e_at 256 e_stand_4, oX0 c_a c_points c_count c_as c_ad c_ar c_ah c_ed, aI cI c_as 20 c_sets, aD cD c_ad 20 c_scores, aZ cZ c_ar 20 c_rated, aI cI c_ah 8 c_hold] := hD
          refine lv_iinc (v := (x2 + (1 : Int32))) (lv' := [(2, .int (x2 + (1 : Int32))), (1, .int (x1 &&& (r_5 ^^^ (-1 : Int32)))), (3, .int r_2), (0, .ref p_a)]) hx hb dX1_make_69 hl (k := 3) rfl rfl (by decide) rfl (fun ls hl => ?_)
          refine lv_goto (tgt := 20) hx hb dX1_make_72 (by decide) ?_
          exact ih _ _ _ _ _ _ _ h _ _ _ ⟨hP, hD, hS, lv_sub hl [3, 1, 0] rfl⟩
  refine lv_aload_n hx hb dX1_make_0 rfl (lv_at hl 0 rfl) ?_
  refine va_get (D := G) (ci := 1) (v := .ref c_a) (C := RX1) (T := TX1) (N := 7) hx hb hts i_X1 hown hK.1 hP 0 rfl rfl 0 (by decide) f_9 (fun _ h9 => h9) rfl dX1_make_1 ?_
  refine k_Vi (wr := [oX1 p_a c_a e_a p_al p_as p_height p_largest p_ed, aI cI p_al 20 p_layers, aI cI p_as 20 p_sets, oX4 e_a c_a e_at, aI cI e_at 256 e_stand]) (wf := (fun (u : Unit) => [oX1 p_a c_a e_a p_al p_as p_height p_largest p_ed, aI cI p_al 20 p_layers, aI cI p_as 20 p_sets, oX4 e_a c_a e_at, aI cI e_at 256 e_stand, oX0 c_a c_points c_count c_as c_ad c_ar c_ah c_ed, aI cI c_as 20 c_sets, aD cD c_ad 20 c_scores, aZ cZ c_ar 20 c_rated, aI cI c_ah 8 c_hold])) (As := []) (rest := []) ⟨hx, hb, hml, hown, hts⟩ hK hP hD hS hA (c_X0_allNumbers l G cI cD cZ cJ cO c_a c_as c_ad c_ar c_ah c_points c_count c_ed c_sets c_scores c_rated c_hold _ h) (cwV 0 hts gX1_make_X0_allNumbers rfl rfl rfl (by decide +kernel) ⟨Nat.le_of_ble_eq_true rfl, Nat.le_of_ble_eq_true rfl⟩) 0 rfl rfl [5, 6, 7, 8, 9] [0, 1, 2, 3, 4] [0, 1, 2, 3, 4, 5, 6, 7, 8, 9] rfl rfl rfl (fun _ => rfl) rfl rfl hl.1 (Nat.le_of_ble_eq_true rfl) ⟨Nat.zero_le _, Nat.zero_le _⟩ dX1_make_4 (fun r_1 u H locs h hP hD hS => ?_)
  have hP : va_P G vwCl [oX1 p_a c_a e_a p_al p_as p_height p_largest p_ed, aI cI p_al 20 p_layers, aI cI p_as 20 p_sets, oX4 e_a c_a e_at, aI cI e_at 256 e_stand, oX0 c_a c_points c_count c_as c_ad c_ar c_ah c_ed, aI cI c_as 20 c_sets, aD cD c_ad 20 c_scores, aZ cZ c_ar 20 c_rated, aI cI c_ah 8 c_hold] H := hP
  have hD : va_D A [oX1 p_a c_a e_a p_al p_as p_height p_largest p_ed, aI cI p_al 20 p_layers, aI cI p_as 20 p_sets, oX4 e_a c_a e_at, aI cI e_at 256 e_stand, oX0 c_a c_points c_count c_as c_ad c_ar c_ah c_ed, aI cI c_as 20 c_sets, aD cD c_ad 20 c_scores, aZ cZ c_ar 20 c_rated, aI cI c_ah 8 c_hold] := hD
  refine lv_istore_n (lv' := [(1, .int r_1), (0, .ref p_a)]) hx hb dX1_make_7 rfl hl (by decide) rfl (fun ls hl => ?_)
  refine lv_aload_n hx hb dX1_make_8 rfl (lv_at hl 1 rfl) ?_
  refine lv_iconst (v := (0 : Int32)) hx hb dX1_make_9 (by decide) ?_
  refine va_put (D := G) (ci := 1) (v := .int (0 : Int32)) (ty := .int) (C := RX1) (T := TX1) (N := 7) hx hb hts i_X1 tyX1 tyX1_ok nmX1 hown hK.1 hP hD hS 0 rfl rfl 4 (by decide) f_26 (fun _ h9 => h9) rfl (tyX1_ok 4 (by decide)) rfl rfl (Nat.le_of_ble_eq_true rfl) dX1_make_10 (fun H locs hP hD hS => ?_)
  have hP : va_P G vwCl [oX1 p_a c_a e_a p_al p_as (0 : Int32) p_largest p_ed, aI cI p_al 20 p_layers, aI cI p_as 20 p_sets, oX4 e_a c_a e_at, aI cI e_at 256 e_stand, oX0 c_a c_points c_count c_as c_ad c_ar c_ah c_ed, aI cI c_as 20 c_sets, aD cD c_ad 20 c_scores, aZ cZ c_ar 20 c_rated, aI cI c_ah 8 c_hold] H := hP
  have hD : va_D A [oX1 p_a c_a e_a p_al p_as (0 : Int32) p_largest p_ed, aI cI p_al 20 p_layers, aI cI p_as 20 p_sets, oX4 e_a c_a e_at, aI cI e_at 256 e_stand, oX0 c_a c_points c_count c_as c_ad c_ar c_ah c_ed, aI cI c_as 20 c_sets, aD cD c_ad 20 c_scores, aZ cZ c_ar 20 c_rated, aI cI c_ah 8 c_hold] := hD
  refine lv_aload_n hx hb dX1_make_13 rfl (lv_at hl 1 rfl) ?_
  refine lv_iconst (v := (0 : Int32)) hx hb dX1_make_14 (by decide) ?_
  refine va_put (D := G) (ci := 1) (v := .int (0 : Int32)) (ty := .int) (C := RX1) (T := TX1) (N := 7) hx hb hts i_X1 tyX1 tyX1_ok nmX1 hown hK.1 hP hD hS 0 rfl rfl 5 (by decide) f_30 (fun _ h9 => h9) rfl (tyX1_ok 5 (by decide)) rfl rfl (Nat.le_of_ble_eq_true rfl) dX1_make_15 (fun H locs hP hD hS => ?_)
  have hP : va_P G vwCl [oX1 p_a c_a e_a p_al p_as (0 : Int32) (0 : Int32) p_ed, aI cI p_al 20 p_layers, aI cI p_as 20 p_sets, oX4 e_a c_a e_at, aI cI e_at 256 e_stand, oX0 c_a c_points c_count c_as c_ad c_ar c_ah c_ed, aI cI c_as 20 c_sets, aD cD c_ad 20 c_scores, aZ cZ c_ar 20 c_rated, aI cI c_ah 8 c_hold] H := hP
  have hD : va_D A [oX1 p_a c_a e_a p_al p_as (0 : Int32) (0 : Int32) p_ed, aI cI p_al 20 p_layers, aI cI p_as 20 p_sets, oX4 e_a c_a e_at, aI cI e_at 256 e_stand, oX0 c_a c_points c_count c_as c_ad c_ar c_ah c_ed, aI cI c_as 20 c_sets, aD cD c_ad 20 c_scores, aZ cZ c_ar 20 c_rated, aI cI c_ah 8 c_hold] := hD
  refine lv_iconst (v := (0 : Int32)) hx hb dX1_make_18 (by decide) ?_
  refine lv_istore_n (lv' := [(2, .int (0 : Int32)), (1, .int r_1), (0, .ref p_a)]) hx hb dX1_make_19 rfl hl (by decide) rfl (fun ls hl => ?_)
  obtain ⟨j, h⟩ := h
  exact b_20  j _ _ _ _ _ _ _ h _ _ _ ⟨hP, hD, hS, lv_sub hl [2, 1, 0] rfl⟩
abbrev rm_X1_renew : Room := { frames := 6, cells := 0, slots := 0, locals := 139 }
def wp_X1_renew (p_height : Int32) (p_largest : Int32) (p_ed : Int32) (p_layers : Nat → Int32) (p_sets : Nat → Int32) (e_stand : Nat → Int32) (c_points : Int32) (c_count : Int32) (c_ed : Int32) (c_sets : Nat → Int32) (c_hold : Nat → Int32) (Q : Int32 → Int32 → Int32 → (Nat → Int32) → (Nat → Int32) → (Nat → Int32) → Prop) : Prop := ((p_ed = c_ed) → Q p_height p_largest p_ed p_layers p_sets e_stand) ∧ ((¬ p_ed = c_ed) → wp_X1_make p_height p_largest p_layers p_sets e_stand c_points c_count c_sets c_hold (fun (p_height_1 : Int32) (p_largest_2 : Int32) (p_layers_3 : Nat → Int32) (p_sets_4 : Nat → Int32) (e_stand_5 : Nat → Int32) => Q p_height_1 p_largest_2 c_ed p_layers_3 p_sets_4 e_stand_5))
set_option maxRecDepth 100000 in
set_option maxHeartbeats 4000000 in
theorem c_X1_renew (l : Launch) (G : va_G) (cI cD cZ cJ cO : ClassId) (p_a p_al p_as e_a e_at c_a c_as c_ad c_ar c_ah : Nat) (p_height : Int32) (p_largest : Int32) (p_ed : Int32) (p_layers : Nat → Int32) (p_sets : Nat → Int32) (e_stand : Nat → Int32) (c_points : Int32) (c_count : Int32) (c_ed : Int32) (c_sets : Nat → Int32) (c_scores : Nat → UInt64) (c_rated : Nat → Int32) (c_hold : Nat → Int32) (Q : Int32 → Int32 → Int32 → (Nat → Int32) → (Nat → Int32) → (Nat → Int32) → Prop) (h : wp_X1_renew p_height p_largest p_ed p_layers p_sets e_stand c_points c_count c_ed c_sets c_hold Q) : CtV l yX1_renew wsX1_renew rm_X1_renew G (TY cI cD cZ cJ cO) [.ref p_a] [oX1 p_a c_a e_a p_al p_as p_height p_largest p_ed, aI cI p_al 20 p_layers, aI cI p_as 20 p_sets, oX4 e_a c_a e_at, aI cI e_at 256 e_stand, oX0 c_a c_points c_count c_as c_ad c_ar c_ah c_ed, aI cI c_as 20 c_sets, aD cD c_ad 20 c_scores, aZ cZ c_ar 20 c_rated, aI cI c_ah 8 c_hold] (fun (u : Int32 × Int32 × Int32 × (Nat → Int32) × (Nat → Int32) × (Nat → Int32)) => Q u.1 u.2.1 u.2.2.1 u.2.2.2.1 u.2.2.2.2.1 u.2.2.2.2.2) (fun (u : Int32 × Int32 × Int32 × (Nat → Int32) × (Nat → Int32) × (Nat → Int32)) => [oX1 p_a c_a e_a p_al p_as u.1 u.2.1 u.2.2.1, aI cI p_al 20 u.2.2.2.1, aI cI p_as 20 u.2.2.2.2.1, oX4 e_a c_a e_at, aI cI e_at 256 u.2.2.2.2.2, oX0 c_a c_points c_count c_as c_ad c_ar c_ah c_ed, aI cI c_as 20 c_sets, aD cD c_ad 20 c_scores, aZ cZ c_ar 20 c_rated, aI cI c_ah 8 c_hold]) := by
  refine ct_openV (cc := cX1_renew) (maxL := 1) (by decide) rfl (Nat.le_of_ble_eq_true rfl) ?_
  intro p e s m args below meth c A Z ls hx hb hml hown hts hK hA hret hP hD hS hl
  have hown : s.vm.findClass RX1 = some m.cls := hown
  have hl : lv_has ls 1 [(0, .ref p_a)] := hl
  have f_38 := hts (.fieldLink RX1 38 "TeachingSets$Plan" "edition" "I") (List.mem_of_getElem? (i := 1) rfl)
  have f_9 := hts (.fieldLink RX1 9 "TeachingSets$Plan" "concepts" "LTeachingSets$Concepts;") (List.mem_of_getElem? (i := 2) rfl)
  have f_33 := hts (.fieldLink RX1 33 "TeachingSets$Concepts" "edition" "I") (List.mem_of_getElem? (i := 3) rfl)
  have i_X1 : ∀ w ∈ wsX10, w ∈ wsX1_renew := fun _ h => List.mem_cons_of_mem _ (List.mem_append_left _ (List.mem_append_left _ (List.mem_append_right _ (h))))
  have i_X0 : ∀ w ∈ wsX00, w ∈ wsX1_renew := fun _ h => List.mem_cons_of_mem _ (List.mem_append_left _ (List.mem_append_right _ (h)))
  refine lv_aload_n hx hb dX1_renew_0 rfl (lv_at hl 0 rfl) ?_
  refine va_get (D := G) (ci := 1) (v := .int p_ed) (C := RX1) (T := TX1) (N := 7) hx hb hts i_X1 hown hK.1 hP 0 rfl rfl 6 (by decide) f_38 (fun _ h9 => h9) rfl dX1_renew_1 ?_
  refine lv_aload_n hx hb dX1_renew_4 rfl (lv_at hl 0 rfl) ?_
  refine va_get (D := G) (ci := 1) (v := .ref c_a) (C := RX1) (T := TX1) (N := 7) hx hb hts i_X1 hown hK.1 hP 0 rfl rfl 0 (by decide) f_9 (fun _ h9 => h9) rfl dX1_renew_5 ?_
  refine va_get (D := G) (ci := 0) (v := .int c_ed) (C := RX0) (T := TX0) (N := 7) hx hb hts i_X0 hown hK.1 hP 5 rfl rfl 6 (by decide) f_33 (fun _ h9 => h9) rfl dX1_renew_8 ?_
  obtain ⟨ha, hf⟩ := h
  refine lv_icmp_eq (tgt := 29) hx hb dX1_renew_11 (by decide) (fun hc => ?_) (fun hc => ?_)
  · have h := ha hc
    clear ha hf
    exact hret (p_height, p_largest, p_ed, p_layers, p_sets, e_stand) _ _ _ _ h hP hD hS dX1_renew_29
  · have h := hf hc
    clear ha hf
    refine lv_aload_n hx hb dX1_renew_14 rfl (lv_at hl 0 rfl) ?_
    refine k_Vv (wr := []) (wf := (fun (u : Int32 × Int32 × (Nat → Int32) × (Nat → Int32) × (Nat → Int32)) => [oX1 p_a c_a e_a p_al p_as u.1 u.2.1 p_ed, aI cI p_al 20 u.2.2.1, aI cI p_as 20 u.2.2.2.1, oX4 e_a c_a e_at, aI cI e_at 256 u.2.2.2.2, oX0 c_a c_points c_count c_as c_ad c_ar c_ah c_ed, aI cI c_as 20 c_sets, aD cD c_ad 20 c_scores, aZ cZ c_ar 20 c_rated, aI cI c_ah 8 c_hold])) (As := []) (rest := []) ⟨hx, hb, hml, hown, hts⟩ hK hP hD hS hA (c_X1_make l G cI cD cZ cJ cO p_a p_al p_as e_a e_at c_a c_as c_ad c_ar c_ah p_height p_largest p_ed p_layers p_sets e_stand c_points c_count c_ed c_sets c_scores c_rated c_hold _ h) (cwV 0 hts gX1_renew_X1_make rfl rfl rfl (by decide +kernel) ⟨Nat.le_of_ble_eq_true rfl, Nat.le_of_ble_eq_true rfl⟩) 0 rfl rfl [0, 1, 2, 3, 4, 5, 6, 7, 8, 9] [] [0, 1, 2, 3, 4, 5, 6, 7, 8, 9] rfl rfl rfl (fun _ => rfl) rfl rfl hl.1 (Nat.le_of_ble_eq_true rfl) ⟨Nat.zero_le _, Nat.zero_le _⟩ dX1_renew_15 (fun u H locs h hP hD hS => ?_)
    obtain ⟨p_height_1, p_largest_2, p_layers_3, p_sets_4, e_stand_5⟩ := u
    have hP : va_P G vwCl [oX1 p_a c_a e_a p_al p_as p_height_1 p_largest_2 p_ed, aI cI p_al 20 p_layers_3, aI cI p_as 20 p_sets_4, oX4 e_a c_a e_at, aI cI e_at 256 e_stand_5, oX0 c_a c_points c_count c_as c_ad c_ar c_ah c_ed, aI cI c_as 20 c_sets, aD cD c_ad 20 c_scores, aZ cZ c_ar 20 c_rated, aI cI c_ah 8 c_hold] H := hP
    have hD : va_D A [oX1 p_a c_a e_a p_al p_as p_height_1 p_largest_2 p_ed, aI cI p_al 20 p_layers_3, aI cI p_as 20 p_sets_4, oX4 e_a c_a e_at, aI cI e_at 256 e_stand_5, oX0 c_a c_points c_count c_as c_ad c_ar c_ah c_ed, aI cI c_as 20 c_sets, aD cD c_ad 20 c_scores, aZ cZ c_ar 20 c_rated, aI cI c_ah 8 c_hold] := hD
    refine lv_aload_n hx hb dX1_renew_18 rfl (lv_at hl 0 rfl) ?_
    refine lv_aload_n hx hb dX1_renew_19 rfl (lv_at hl 0 rfl) ?_
    refine va_get (D := G) (ci := 1) (v := .ref c_a) (C := RX1) (T := TX1) (N := 7) hx hb hts i_X1 hown hK.1 hP 0 rfl rfl 0 (by decide) f_9 (fun _ h9 => h9) rfl dX1_renew_20 ?_
    refine va_get (D := G) (ci := 0) (v := .int c_ed) (C := RX0) (T := TX0) (N := 7) hx hb hts i_X0 hown hK.1 hP 5 rfl rfl 6 (by decide) f_33 (fun _ h9 => h9) rfl dX1_renew_23 ?_
    refine va_put (D := G) (ci := 1) (v := .int c_ed) (ty := .int) (C := RX1) (T := TX1) (N := 7) hx hb hts i_X1 tyX1 tyX1_ok nmX1 hown hK.1 hP hD hS 0 rfl rfl 6 (by decide) f_38 (fun _ h9 => h9) rfl (tyX1_ok 6 (by decide)) rfl rfl (Nat.le_of_ble_eq_true rfl) dX1_renew_26 (fun H locs hP hD hS => ?_)
    have hP : va_P G vwCl [oX1 p_a c_a e_a p_al p_as p_height_1 p_largest_2 c_ed, aI cI p_al 20 p_layers_3, aI cI p_as 20 p_sets_4, oX4 e_a c_a e_at, aI cI e_at 256 e_stand_5, oX0 c_a c_points c_count c_as c_ad c_ar c_ah c_ed, aI cI c_as 20 c_sets, aD cD c_ad 20 c_scores, aZ cZ c_ar 20 c_rated, aI cI c_ah 8 c_hold] H := hP
    have hD : va_D A [oX1 p_a c_a e_a p_al p_as p_height_1 p_largest_2 c_ed, aI cI p_al 20 p_layers_3, aI cI p_as 20 p_sets_4, oX4 e_a c_a e_at, aI cI e_at 256 e_stand_5, oX0 c_a c_points c_count c_as c_ad c_ar c_ah c_ed, aI cI c_as 20 c_sets, aD cD c_ad 20 c_scores, aZ cZ c_ar 20 c_rated, aI cI c_ah 8 c_hold] := hD
    exact hret (p_height_1, p_largest_2, c_ed, p_layers_3, p_sets_4, e_stand_5) _ _ _ _ h hP hD hS dX1_renew_29
