/-! constructors: what makes cells -/
def CtN (l : Launch) (y : MethodName) (ws : List Cond) (rm : Room) (G : va_G) (T : List (ClassId × FieldType)) (av : List Value) (wc : va_W) (mc ms : Nat) {S : Type} (Q : S → Prop) (w1 : S → va_W) : Prop :=
  ∀ sz : Nat, Met l y ws rm (va_Pc av (PRE G T wc sz)) (va_Qv Q (fun u t => POS G wc sz (w1 u) t) (va_A wc sz)) mc ms (va_A wc sz)
set_option maxHeartbeats 1000000 in
theorem ct_openN {l : Launch} {y : MethodName} {ws ws' : List Cond} {rm : Room} {G : va_G} {T : List (ClassId × FieldType)} {av : List Value} {wc : va_W} {mc ms : Nat} {S : Type} {Q : S → Prop} {w1 : S → va_W} {cc : ByteArray} {maxL : Nat}
    (hy : plainName y.cls = true) (hw : ws = Cond.code y cc maxL none :: ws') (hal : (lg_sl av).length ≤ maxL)
    (body : ∀ (p : Program) (e : Env) (s : State) (m : MethodId) (args : Array Value) (below : List Frame) (meth : Method) (c : Code) (A : Nat → Prop) (Z : State → Prop) (ls : Array Slot),
      p.tables.exec = Jvm.exec → c.code = cc → c.maxLocals = maxL → s.vm.findClass y.cls = some m.cls → meth.name = y.name → (∀ w ∈ ws, w.before args s = true) → KK G T s → (∀ q, s.heap.size ≤ q → A q) →
      (∀ (u : S) (H : Heap) (locs : List Loc) (ls : Array Slot) (pc : Nat), Q u → va_P G vwCl (w1 u) H → va_D A (w1 u) → va_S A s.heap H locs → decode cc pc = .ok (.return_, 1) → W p l e rm s m args below meth c H locs mc ms Z (F0 m pc ls [])) →
      va_P G vwCl wc s.heap → va_D A wc → va_S A s.heap s.heap [] → lv_has ls maxL (lv_args 0 av) → W p l e rm s m args below meth c s.heap [] 0 0 Z (F0 m 0 ls [])) : CtN l y ws rm G T av wc mc ms Q w1 := by
  intro sz
  refine Met.ofW (cc := cc) (maxL := maxL) (ret := none) hy hw ?_
  intro p e s m args below meth c s₁ B hml hv
  obtain ⟨rfl, hsz, hP, hK, hD0⟩ := hv
  subst hsz
  rw [lg_entry_eq]
  refine body p e s m _ below meth c (va_A wc s.heap.size) _ _ B.exec B.bytes hml (findClass_of_methodNamed B.named) (name_of_methodNamed B.named B.method).1 (atoms_spec (ws := ws) B.pre) hK (fun q h => Or.inr h) ?_ hP hD0.self va_S.rf (lv_entry av hal)
  intro u H locs ls pc hq hP' hD' hS' hd
  exact W.vret B.exec B.bytes B.returns (fun t ht hW => ⟨⟨u, rfl, hq, by rw [ht]; exact hP', hD'⟩, hS'.F ht⟩) hS'.2.2 hd B.notSynchronized
/-- with the array class over the slots -/
def CtNo (l : Launch) (y : MethodName) (ws : List Cond) (rm : Room) (G : va_G) (T : List (ClassId × FieldType)) (av : List Value) (wc : va_W) (mc ms : Nat) {S : Type} (Q : S → Prop) (w1 : S → va_W) : Prop :=
  ∀ sz : Nat, Met l y ws rm (va_Pc av (fun U => PRE G T wc sz U ∧ va_AO "TeachingSets$Slot" U)) (va_Qv Q (fun u t => POS G wc sz (w1 u) t) (va_A wc sz)) mc ms (va_A wc sz)
set_option maxHeartbeats 1000000 in
theorem ct_openNo {l : Launch} {y : MethodName} {ws ws' : List Cond} {rm : Room} {G : va_G} {T : List (ClassId × FieldType)} {av : List Value} {wc : va_W} {mc ms : Nat} {S : Type} {Q : S → Prop} {w1 : S → va_W} {cc : ByteArray} {maxL : Nat}
    (hy : plainName y.cls = true) (hw : ws = Cond.code y cc maxL none :: ws') (hal : (lg_sl av).length ≤ maxL)
    (body : ∀ (p : Program) (e : Env) (s : State) (m : MethodId) (args : Array Value) (below : List Frame) (meth : Method) (c : Code) (A : Nat → Prop) (Z : State → Prop) (ls : Array Slot),
      p.tables.exec = Jvm.exec → c.code = cc → c.maxLocals = maxL → s.vm.findClass y.cls = some m.cls → meth.name = y.name → (∀ w ∈ ws, w.before args s = true) → KK G T s → (∀ q, s.heap.size ≤ q → A q) →
      (∀ (u : S) (H : Heap) (locs : List Loc) (ls : Array Slot) (pc : Nat), Q u → va_P G vwCl (w1 u) H → va_D A (w1 u) → va_S A s.heap H locs → decode cc pc = .ok (.return_, 1) → W p l e rm s m args below meth c H locs mc ms Z (F0 m pc ls [])) →
      va_P G vwCl wc s.heap → va_D A wc → va_S A s.heap s.heap [] → va_AO "TeachingSets$Slot" s → lv_has ls maxL (lv_args 0 av) → W p l e rm s m args below meth c s.heap [] 0 0 Z (F0 m 0 ls [])) : CtNo l y ws rm G T av wc mc ms Q w1 := by
  intro sz
  refine Met.ofW (cc := cc) (maxL := maxL) (ret := none) hy hw ?_
  intro p e s m args below meth c s₁ B hml hv
  obtain ⟨rfl, ⟨hsz, hP, hK, hD0⟩, hAO⟩ := hv
  subst hsz
  rw [lg_entry_eq]
  refine body p e s m _ below meth c (va_A wc s.heap.size) _ _ B.exec B.bytes hml (findClass_of_methodNamed B.named) (name_of_methodNamed B.named B.method).1 (atoms_spec (ws := ws) B.pre) hK (fun q h => Or.inr h) ?_ hP hD0.self va_S.rf hAO (lv_entry av hal)
  intro u H locs ls pc hq hP' hD' hS' hd
  exact W.vret B.exec B.bytes B.returns (fun t ht hW => ⟨⟨u, rfl, hq, by rw [ht]; exact hP', hD'⟩, hS'.F ht⟩) hS'.2.2 hd B.notSynchronized
section
variable {p : Program} {l : Launch} {e : Env} {R : Room} {s : State} {m : MethodId} {args : Array Value} {below : List Frame} {meth : Method} {c : Code} {H H0 : Heap} {locs : List Loc} {cells slots : Nat} {Z : State → Prop} {A : Nat → Prop} {G : va_G} {T : List (ClassId × FieldType)}
variable {y : MethodName} {bytes cc : ByteArray} {maxL nL n index pc mc ms : Nat} {ws : List Cond} {rm : Room} {Ts : List Cond} {own : String} {b : Addr} {As rest st : List Value} {ls : Array Slot} {wz wc wr : va_W}
theorem k_Iv {S : Type} {Q : S → Prop} {w1 wf : S → va_W} (F : CallFix p m c cc nL s args Ts own) (hK : KK G T s) (hP : va_P G vwCl wz H) (hD : va_D A wz) (hS : va_S A H0 H locs) (hA : ∀ q, H0.size ≤ q → A q) (hM : CtN l y ws rm G T (.ref b :: As) wc mc ms Q w1) (cw : CallB R s args own index y bytes maxL none ws rm mc ms n ∧ y.name = "<init>" ∧ (Cond.instanceMethod y).before args s = true)
    (isC isR isF : List Nat) (hC : isC.map (fun i => wz[i]?) = wc.map some) (hR : isR.map (fun i => wz[i]?) = wr.map some) (hnd : okIs isC isR isF = true) (hF : ∀ u, isF.map (fun i => (wr ++ w1 u)[i]?) = (wf u).map some)
    (hst : st = As.reverse ++ .ref b :: rest) (hn : As.length = n) (hsz : ls.size = nL) (hW : (rest.map fun v => v.category).sum ≤ 8) (hf : cells + mc ≤ R.cells ∧ slots + ms ≤ R.slots) (hdg : decode cc pc = .ok (.invokespecial index, 3))
    (kk : ∀ (u : S) (H1 : Heap) (locs1 : List Loc), Q u → va_P G vwCl (wf u) H1 → va_D A (wf u) → va_S A H0 H1 locs1 → W p l e R s m args below meth c H1 locs1 (cells + mc) (slots + ms) Z (F0 m (pc + 3) ls rest)) : W p l e R s m args below meth c H locs cells slots Z (F0 m pc ls st) := by
  have hFc := va_free (wc := wc) hD hS hA isC hC
  refine va_callv (va_runI F (hM H.size) cw (k_pre hK hP hD isC hC (okC hnd)) rfl hn hsz hst (lv_room hW) hdg hf) hS (fun q _ h => hFc q h) hFc (fun u t H1 locs1 ht hvm hw hB hz1 hk1 hS => ?_)
  obtain ⟨a, b⟩ := k_fin hP hD isC isR isF hC hR hnd (hF u) hk1 hFc hB ht
  exact kk u H1 locs1 hw a b hS
theorem k_Ivo {S : Type} {Q : S → Prop} {w1 wf : S → va_W} (F : CallFix p m c cc nL s args Ts own) (hK : KK G T s) (hAO : va_AO "TeachingSets$Slot" s) (hP : va_P G vwCl wz H) (hD : va_D A wz) (hS : va_S A H0 H locs) (hA : ∀ q, H0.size ≤ q → A q) (hM : CtNo l y ws rm G T (.ref b :: As) wc mc ms Q w1) (cw : CallB R s args own index y bytes maxL none ws rm mc ms n ∧ y.name = "<init>" ∧ (Cond.instanceMethod y).before args s = true)
    (isC isR isF : List Nat) (hC : isC.map (fun i => wz[i]?) = wc.map some) (hR : isR.map (fun i => wz[i]?) = wr.map some) (hnd : okIs isC isR isF = true) (hF : ∀ u, isF.map (fun i => (wr ++ w1 u)[i]?) = (wf u).map some)
    (hst : st = As.reverse ++ .ref b :: rest) (hn : As.length = n) (hsz : ls.size = nL) (hW : (rest.map fun v => v.category).sum ≤ 8) (hf : cells + mc ≤ R.cells ∧ slots + ms ≤ R.slots) (hdg : decode cc pc = .ok (.invokespecial index, 3))
    (kk : ∀ (u : S) (H1 : Heap) (locs1 : List Loc), Q u → va_P G vwCl (wf u) H1 → va_D A (wf u) → va_S A H0 H1 locs1 → W p l e R s m args below meth c H1 locs1 (cells + mc) (slots + ms) Z (F0 m (pc + 3) ls rest)) : W p l e R s m args below meth c H locs cells slots Z (F0 m pc ls st) := by
  have hFc := va_free (wc := wc) hD hS hA isC hC
  have hp := k_pre (av := .ref b :: As) hK hP hD isC hC (okC hnd)
  refine va_callv (va_runI F (hM H.size) cw ⟨fun a U g mk q => ⟨q.1, (hp.1 a U g mk ⟨q.1, q.2.1⟩).2, va_AO.moved (u := U) (U := U.calling g mk a) (Vm.Alike.refl U.vm) q.2.2⟩, fun U hU hW => ⟨(hp.2 U hU hW).1, (hp.2 U hU hW).2, va_AO.moved hW.alike hAO⟩⟩ rfl hn hsz hst (lv_room hW) hdg hf) hS (fun q _ h => hFc q h) hFc (fun u t H1 locs1 ht hvm hw hB hz1 hk1 hS => ?_)
  obtain ⟨a, b⟩ := k_fin hP hD isC isR isF hC hR hnd (hF u) hk1 hFc hB ht
  exact kk u H1 locs1 hw a b hS
end
section
variable {G : va_G} {cI cD cZ cJ cO cA : ClassId} {s : State}
theorem newI_eq (hK : va_K G vwCl (TY cI cD cZ cJ cO ++ [(cA, .int)]) s) : cA = cI := Option.some.inj ((hK.2 5 (cA, .int) rfl).2.symm.trans (hK.2 0 (cI, .int) rfl).2)
theorem newD_eq (hK : va_K G vwCl (TY cI cD cZ cJ cO ++ [(cA, .double)]) s) : cA = cD := Option.some.inj ((hK.2 5 (cA, .double) rfl).2.symm.trans (hK.2 1 (cD, .double) rfl).2)
theorem newZ_eq (hK : va_K G vwCl (TY cI cD cZ cJ cO ++ [(cA, .boolean)]) s) : cA = cZ := Option.some.inj ((hK.2 5 (cA, .boolean) rfl).2.symm.trans (hK.2 2 (cZ, .boolean) rfl).2)
theorem newJ_eq (hK : va_K G vwCl (TY cI cD cZ cJ cO ++ [(cA, .long)]) s) : cA = cJ := Option.some.inj ((hK.2 5 (cA, .long) rfl).2.symm.trans (hK.2 3 (cJ, .long) rfl).2)
theorem newO_eq (hK : va_K G vwCl (TY cI cD cZ cJ cO ++ [(cA, .object "TeachingSets$Slot")]) s) : cA = cO := by
  obtain ⟨k1, c1, -, -, -, h1⟩ := (hK.2 5 (cA, .object "TeachingSets$Slot") rfl).2
  obtain ⟨k2, c2, -, -, -, h2⟩ := (hK.2 4 (cO, .object "TeachingSets$Slot") rfl).2
  exact Option.some.inj (h1.symm.trans h2)
end
theorem dfltX0 : ∀ j, j < 7 → defaultValue (tyX0 j) = vp_V [.int 0, .int 0, .null, .null, .null, .null, .int 0] j := by
  intro j hj
  rcases (show j = 0 ∨ j = 1 ∨ j = 2 ∨ j = 3 ∨ j = 4 ∨ j = 5 ∨ j = 6 by omega) with rfl | rfl | rfl | rfl | rfl | rfl | rfl <;> rfl
theorem dfltX1 : ∀ j, j < 7 → defaultValue (tyX1 j) = vp_V [.null, .null, .null, .null, .int 0, .int 0, .int 0] j := by
  intro j hj
  rcases (show j = 0 ∨ j = 1 ∨ j = 2 ∨ j = 3 ∨ j = 4 ∨ j = 5 ∨ j = 6 by omega) with rfl | rfl | rfl | rfl | rfl | rfl | rfl <;> rfl
theorem dfltX2 : ∀ j, j < 2 → defaultValue (tyX2 j) = vp_V [.null, .null] j := by
  intro j hj
  rcases (show j = 0 ∨ j = 1 by omega) with rfl | rfl <;> rfl
theorem dfltX3 : ∀ j, j < 2 → defaultValue (tyX3 j) = vp_V [.int 0, .null] j := by
  intro j hj
  rcases (show j = 0 ∨ j = 1 by omega) with rfl | rfl <;> rfl
theorem dfltX4 : ∀ j, j < 2 → defaultValue (tyX4 j) = vp_V [.null, .null] j := by
  intro j hj
  rcases (show j = 0 ∨ j = 1 by omega) with rfl | rfl <;> rfl
theorem dfltX5 : ∀ j, j < 4 → defaultValue (tyX5 j) = vp_V [.int 0, .int 0, .null, .null] j := by
  intro j hj
  rcases (show j = 0 ∨ j = 1 ∨ j = 2 ∨ j = 3 by omega) with rfl | rfl | rfl | rfl <;> rfl
theorem dfltX6 : ∀ j, j < 2 → defaultValue (tyX6 j) = vp_V [.null, .null] j := by
  intro j hj
  rcases (show j = 0 ∨ j = 1 by omega) with rfl | rfl <;> rfl
theorem dfltX7 : ∀ j, j < 10 → defaultValue (tyX7 j) = vp_V [.null, .null, .null, .null, .int 0, .null, .null, .null, .null, .null] j := by
  intro j hj
  rcases (show j = 0 ∨ j = 1 ∨ j = 2 ∨ j = 3 ∨ j = 4 ∨ j = 5 ∨ j = 6 ∨ j = 7 ∨ j = 8 ∨ j = 9 by omega) with rfl | rfl | rfl | rfl | rfl | rfl | rfl | rfl | rfl | rfl <;> rfl
theorem dfltX8 : ∀ j, j < 22 → defaultValue (tyX8 j) = vp_V [.int 0, .null, .int 0, .null, .null, .int 0, .null, .null, .null, .null, .null, .null, .int 0, .int 0, .int 0, .null, .null, .int 0, .null, .null, .null, .null] j := by
  intro j hj
  rcases (show j = 0 ∨ j = 1 ∨ j = 2 ∨ j = 3 ∨ j = 4 ∨ j = 5 ∨ j = 6 ∨ j = 7 ∨ j = 8 ∨ j = 9 ∨ j = 10 ∨ j = 11 ∨ j = 12 ∨ j = 13 ∨ j = 14 ∨ j = 15 ∨ j = 16 ∨ j = 17 ∨ j = 18 ∨ j = 19 ∨ j = 20 ∨ j = 21 by omega) with rfl | rfl | rfl | rfl | rfl | rfl | rfl | rfl | rfl | rfl | rfl | rfl | rfl | rfl | rfl | rfl | rfl | rfl | rfl | rfl | rfl | rfl <;> rfl
