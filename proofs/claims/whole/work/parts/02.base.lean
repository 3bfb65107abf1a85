/-! the words in which all contracts are said: the world's array classes, a method's start and end, a call -/
abbrev TY (cI cD cZ cJ cO : ClassId) : List (ClassId × FieldType) := [(cI, .int), (cD, .double), (cZ, .boolean), (cJ, .long), (cO, .object "TeachingSets$Slot")]
def NW (U : State) : Prop := va_Nw (.methodLinkNest RX0 43 yX7_hasBit RX7) U ∧ va_Nw (.methodLinkNest RX1 62 yX7_hasBit RX7) U
theorem NW.warm {s U : State} (hW : s.WarmedH U.vm) (h : NW s) : NW U := ⟨va_Nw.warmM hW h.1, va_Nw.warmM hW h.2⟩
theorem NW.same {u U : State} (h : u.vm = U.vm) (hZ : NW u) : NW U := ⟨va_Nw.same rfl h hZ.1, va_Nw.same rfl h hZ.2⟩
def KK (G : va_G) (T : List (ClassId × FieldType)) (U : State) : Prop := va_K G vwCl T U ∧ NW U
theorem KK.warm {G : va_G} {T : List (ClassId × FieldType)} {s U : State} (hW : s.WarmedH U.vm) (h : KK G T s) : KK G T U := ⟨va_K.moved hW.alike h.1, h.2.warm hW⟩
def PRE (G : va_G) (T : List (ClassId × FieldType)) (wc : va_W) (sz : Nat) : State → Prop := fun U => U.heap.size = sz ∧ va_P G vwCl wc U.heap ∧ KK G T U ∧ va_D (fun _ => True) wc
theorem PRE.blind {G : va_G} {T : List (ClassId × FieldType)} {wc : va_W} {sz : Nat} {av : List Value} : FrameBlind (va_Pc av (PRE G T wc sz)) := fun a U g mk q =>
  ⟨q.1, q.2.1, q.2.2.1, ⟨va_K.moved (u := U) (U := U.calling g mk a) (Vm.Alike.refl U.vm) q.2.2.2.1.1, NW.same (u := U) (U := U.calling g mk a) rfl q.2.2.2.1.2⟩, q.2.2.2.2⟩
def POS (G : va_G) (wc : va_W) (sz : Nat) (w1 : va_W) (t : State) : Prop := va_P G vwCl w1 t.heap ∧ va_D (va_A wc sz) w1
/-- contracts: an int (or boolean), a long, nothing -/
def CtI (l : Launch) (y : MethodName) (ws : List Cond) (rm : Room) (G : va_G) (T : List (ClassId × FieldType)) (av : List Value) (wc : va_W) {S : Type} (Q : Int32 → S → Prop) (w1 : S → va_W) : Prop :=
  ∀ sz : Nat, Met l y ws rm (va_Pc av (PRE G T wc sz)) (va_Qi Q (fun u t => POS G wc sz (w1 u) t) (va_A wc sz)) 0 0 (va_A wc sz)
def CtL (l : Launch) (y : MethodName) (ws : List Cond) (rm : Room) (G : va_G) (T : List (ClassId × FieldType)) (av : List Value) (wc : va_W) {S : Type} (Q : Int64 → S → Prop) (w1 : S → va_W) : Prop :=
  ∀ sz : Nat, Met l y ws rm (va_Pc av (PRE G T wc sz)) (va_Ql Q (fun u t => POS G wc sz (w1 u) t) (va_A wc sz)) 0 0 (va_A wc sz)
def CtV (l : Launch) (y : MethodName) (ws : List Cond) (rm : Room) (G : va_G) (T : List (ClassId × FieldType)) (av : List Value) (wc : va_W) {S : Type} (Q : S → Prop) (w1 : S → va_W) : Prop :=
  ∀ sz : Nat, Met l y ws rm (va_Pc av (PRE G T wc sz)) (va_Qv Q (fun u t => POS G wc sz (w1 u) t) (va_A wc sz)) 0 0 (va_A wc sz)
/-- what a walk holds at a block's head -/
def ST (G : va_G) (A : Nat → Prop) (H0 : Heap) (ws : va_W) (nL : Nat) (lv : List (Nat × Value)) (H : Heap) (locs : List Loc) (ls : Array Slot) : Prop := va_P G vwCl ws H ∧ va_D A ws ∧ va_S A H0 H locs ∧ lv_has ls nL lv
set_option maxHeartbeats 1000000 in
theorem ct_openI {l : Launch} {y : MethodName} {ws ws' : List Cond} {rm : Room} {G : va_G} {T : List (ClassId × FieldType)} {av : List Value} {wc : va_W} {S : Type} {Q : Int32 → S → Prop} {w1 : S → va_W} {cc : ByteArray} {maxL : Nat} {ty : FieldType}
    (hy : plainName y.cls = true) (hw : ws = Cond.code y cc maxL (some ty) :: ws') (hal : (lg_sl av).length ≤ maxL)
    (body : ∀ (p : Program) (e : Env) (s : State) (m : MethodId) (args : Array Value) (below : List Frame) (meth : Method) (c : Code) (A : Nat → Prop) (Z : State → Prop) (ls : Array Slot),
      p.tables.exec = Jvm.exec → c.code = cc → c.maxLocals = maxL → s.vm.findClass y.cls = some m.cls → (∀ w ∈ ws, w.before args s = true) → KK G T s → (∀ q, s.heap.size ≤ q → A q) →
      (∀ (r : Int32) (u : S) (H : Heap) (locs : List Loc) (ls : Array Slot) (pc : Nat), narrow ty (.int r) = .int r → Q r u → va_P G vwCl (w1 u) H → va_D A (w1 u) → va_S A s.heap H locs → decode cc pc = .ok (.ireturn, 1) → W p l e rm s m args below meth c H locs 0 0 Z (F0 m pc ls [.int r])) →
      va_P G vwCl wc s.heap → va_D A wc → va_S A s.heap s.heap [] → lv_has ls maxL (lv_args 0 av) → W p l e rm s m args below meth c s.heap [] 0 0 Z (F0 m 0 ls [])) : CtI l y ws rm G T av wc Q w1 := by
  intro sz
  refine Met.ofW (cc := cc) (maxL := maxL) (ret := some ty) hy hw ?_
  intro p e s m args below meth c s₁ B hml hv
  obtain ⟨rfl, hsz, hP, hK, hD0⟩ := hv
  subst hsz
  rw [lg_entry_eq]
  refine body p e s m _ below meth c (va_A wc s.heap.size) _ _ B.exec B.bytes hml (findClass_of_methodNamed B.named) (atoms_spec (ws := ws) B.pre) hK (fun q h => Or.inr h) ?_ hP hD0.self va_S.rf (lv_entry av hal)
  intro r u H locs ls pc hn hq hP' hD' hS' hd
  exact W.zret B.exec B.bytes B.returns hn (fun t ht hW => ⟨⟨r, u, rfl, hq, by rw [ht]; exact hP', hD'⟩, hS'.F ht⟩) hS'.2.2 hd B.notSynchronized
set_option maxHeartbeats 1000000 in
theorem ct_openL {l : Launch} {y : MethodName} {ws ws' : List Cond} {rm : Room} {G : va_G} {T : List (ClassId × FieldType)} {av : List Value} {wc : va_W} {S : Type} {Q : Int64 → S → Prop} {w1 : S → va_W} {cc : ByteArray} {maxL : Nat}
    (hy : plainName y.cls = true) (hw : ws = Cond.code y cc maxL (some .long) :: ws') (hal : (lg_sl av).length ≤ maxL)
    (body : ∀ (p : Program) (e : Env) (s : State) (m : MethodId) (args : Array Value) (below : List Frame) (meth : Method) (c : Code) (A : Nat → Prop) (Z : State → Prop) (ls : Array Slot),
      p.tables.exec = Jvm.exec → c.code = cc → c.maxLocals = maxL → s.vm.findClass y.cls = some m.cls → (∀ w ∈ ws, w.before args s = true) → KK G T s → (∀ q, s.heap.size ≤ q → A q) →
      (∀ (r : Int64) (u : S) (H : Heap) (locs : List Loc) (ls : Array Slot) (pc : Nat), Q r u → va_P G vwCl (w1 u) H → va_D A (w1 u) → va_S A s.heap H locs → decode cc pc = .ok (.lreturn, 1) → W p l e rm s m args below meth c H locs 0 0 Z (F0 m pc ls [.long r])) →
      va_P G vwCl wc s.heap → va_D A wc → va_S A s.heap s.heap [] → lv_has ls maxL (lv_args 0 av) → W p l e rm s m args below meth c s.heap [] 0 0 Z (F0 m 0 ls [])) : CtL l y ws rm G T av wc Q w1 := by
  intro sz
  refine Met.ofW (cc := cc) (maxL := maxL) (ret := some .long) hy hw ?_
  intro p e s m args below meth c s₁ B hml hv
  obtain ⟨rfl, hsz, hP, hK, hD0⟩ := hv
  subst hsz
  rw [lg_entry_eq]
  refine body p e s m _ below meth c (va_A wc s.heap.size) _ _ B.exec B.bytes hml (findClass_of_methodNamed B.named) (atoms_spec (ws := ws) B.pre) hK (fun q h => Or.inr h) ?_ hP hD0.self va_S.rf (lv_entry av hal)
  intro r u H locs ls pc hq hP' hD' hS' hd
  exact W.lret B.exec B.bytes B.returns (fun t ht hW => ⟨⟨r, u, rfl, hq, by rw [ht]; exact hP', hD'⟩, hS'.F ht⟩) hS'.2.2 hd B.notSynchronized
set_option maxHeartbeats 1000000 in
theorem ct_openV {l : Launch} {y : MethodName} {ws ws' : List Cond} {rm : Room} {G : va_G} {T : List (ClassId × FieldType)} {av : List Value} {wc : va_W} {S : Type} {Q : S → Prop} {w1 : S → va_W} {cc : ByteArray} {maxL : Nat}
    (hy : plainName y.cls = true) (hw : ws = Cond.code y cc maxL none :: ws') (hal : (lg_sl av).length ≤ maxL)
    (body : ∀ (p : Program) (e : Env) (s : State) (m : MethodId) (args : Array Value) (below : List Frame) (meth : Method) (c : Code) (A : Nat → Prop) (Z : State → Prop) (ls : Array Slot),
      p.tables.exec = Jvm.exec → c.code = cc → c.maxLocals = maxL → s.vm.findClass y.cls = some m.cls → (∀ w ∈ ws, w.before args s = true) → KK G T s → (∀ q, s.heap.size ≤ q → A q) →
      (∀ (u : S) (H : Heap) (locs : List Loc) (ls : Array Slot) (pc : Nat), Q u → va_P G vwCl (w1 u) H → va_D A (w1 u) → va_S A s.heap H locs → decode cc pc = .ok (.return_, 1) → W p l e rm s m args below meth c H locs 0 0 Z (F0 m pc ls [])) →
      va_P G vwCl wc s.heap → va_D A wc → va_S A s.heap s.heap [] → lv_has ls maxL (lv_args 0 av) → W p l e rm s m args below meth c s.heap [] 0 0 Z (F0 m 0 ls [])) : CtV l y ws rm G T av wc Q w1 := by
  intro sz
  refine Met.ofW (cc := cc) (maxL := maxL) (ret := none) hy hw ?_
  intro p e s m args below meth c s₁ B hml hv
  obtain ⟨rfl, hsz, hP, hK, hD0⟩ := hv
  subst hsz
  rw [lg_entry_eq]
  refine body p e s m _ below meth c (va_A wc s.heap.size) _ _ B.exec B.bytes hml (findClass_of_methodNamed B.named) (atoms_spec (ws := ws) B.pre) hK (fun q h => Or.inr h) ?_ hP hD0.self va_S.rf (lv_entry av hal)
  intro u H locs ls pc hq hP' hD' hS' hd
  exact W.vret B.exec B.bytes B.returns (fun t ht hW => ⟨⟨u, rfl, hq, by rw [ht]; exact hP', hD'⟩, hS'.F ht⟩) hS'.2.2 hd B.notSynchronized
/-! calls -/
theorem fm_of_map {α : Type} {is : List Nat} {f : Nat → Option α} {l : List α} (h : is.map f = l.map some) : is.filterMap f = l := by
  have e : is.filterMap f = (is.map f).filterMap id := by rw [List.filterMap_map]; rfl
  rw [e, h, List.filterMap_map]
  simp
def okIs (isC isR isF : List Nat) : Bool := va_nd isC && va_nd isR && va_nd isF && isR.all (fun i => !isC.contains i)
theorem k_fin {G : va_G} {wz wc wr w1u wfu : va_W} {A : Nat → Prop} {H H1 : Heap} {t : State} (hP : va_P G vwCl wz H) (hD : va_D A wz) (isC isR isF : List Nat) (hC : isC.map (fun i => wz[i]?) = wc.map some) (hR : isR.map (fun i => wz[i]?) = wr.map some) (hnd : okIs isC isR isF = true) (hF : isF.map (fun i => (wr ++ w1u)[i]?) = wfu.map some)
    (hk : ∀ q : Nat, q < H.size → ¬ va_A wc H.size q → H1[q]? = H[q]?) (hFc : ∀ q, va_A wc H.size q → A q) (hB : POS G wc H.size w1u t) (ht : t.heap = H1) : va_P G vwCl wfu H1 ∧ va_D A wfu := by
  simp only [okIs, Bool.and_eq_true, List.all_eq_true, Bool.not_eq_true', List.contains_eq_mem, decide_eq_false_iff_not] at hnd
  obtain ⟨⟨⟨h1, h2⟩, h3⟩, h4⟩ := hnd
  obtain ⟨hP1, hD1⟩ := hB
  rw [ht] at hP1
  obtain ⟨a, b⟩ := va_join hP hD isC isR hC hR h2 h4 hk hFc hP1 hD1
  exact ⟨a.sub isF (fm_of_map hF), b.sub isF h3 hF⟩
section
variable {p : Program} {l : Launch} {e : Env} {R : Room} {s : State} {m : MethodId} {args : Array Value} {below : List Frame} {meth : Method} {c : Code} {H H0 : Heap} {locs : List Loc} {cells slots : Nat} {Z : State → Prop} {A : Nat → Prop} {G : va_G} {T : List (ClassId × FieldType)}
variable {y : MethodName} {bytes cc : ByteArray} {maxL nL n index pc : Nat} {ret : Option FieldType} {ws : List Cond} {rm : Room} {Ts : List Cond} {own C host : String} {b : Addr} {As rest st : List Value} {ls : Array Slot} {wz wc wr : va_W}
theorem k_pre {av : List Value} (hK : KK G T s) (hP : va_P G vwCl wz H) (hD : va_D A wz) (isC : List Nat) (hC : isC.map (fun i => wz[i]?) = wc.map some) (hn : va_nd isC = true) : PreS s H (va_Pc av (PRE G T wc H.size)) av :=
  ⟨PRE.blind, fun U hU hW => ⟨rfl, by rw [hU], by rw [hU]; exact hP.sub isC (fm_of_map hC), hK.warm hW, (hD.sub isC hn hC).weaken (fun _ _ _ _ => trivial)⟩⟩
theorem okC {isC isR isF : List Nat} (h : okIs isC isR isF = true) : va_nd isC = true := by
  simp only [okIs, Bool.and_eq_true] at h
  exact h.1.1.1
theorem k_preV {ci k0 : Nat} {fs : List Value} {q : u_T × Nat} (hK : KK G T s) (hP : va_P G vwCl wz H) (hD : va_D A wz) (isC : List Nat) (hC : isC.map (fun i => wz[i]?) = wc.map some) (hn : va_nd isC = true) (he : wc[k0]? = some (b, .inr (ci, fs))) (hc : vwCl[ci]? = some (C, q)) : PreV s H C b (va_Pc (.ref b :: As) (PRE G T wc H.size)) As :=
  ⟨PRE.blind, va_recv hK.1 (hP.sub isC (fm_of_map hC)) hc he, (k_pre (av := .ref b :: As) hK hP hD isC hC hn).2⟩
theorem k_Vi {S : Type} {Q : Int32 → S → Prop} {w1 wf : S → va_W} (F : CallFix p m c cc nL s args Ts own) (hK : KK G T s) (hP : va_P G vwCl wz H) (hD : va_D A wz) (hS : va_S A H0 H locs) (hA : ∀ q, H0.size ≤ q → A q) (hM : CtI l y ws rm G T (.ref b :: As) wc Q w1) (cw : CallW R s args own C index y bytes maxL ret ws rm 0 0 n)
    (k0 : Nat) {ci : Nat} {fs : List Value} {q : u_T × Nat} (he : wc[k0]? = some (b, .inr (ci, fs))) (hc : vwCl[ci]? = some (C, q)) (isC isR isF : List Nat) (hC : isC.map (fun i => wz[i]?) = wc.map some) (hR : isR.map (fun i => wz[i]?) = wr.map some) (hnd : okIs isC isR isF = true) (hF : ∀ u, isF.map (fun i => (wr ++ w1 u)[i]?) = (wf u).map some)
    (hst : st = As.reverse ++ .ref b :: rest) (hn : As.length = n) (hsz : ls.size = nL) (hW : (rest.map fun v => v.category).sum ≤ 8) (hf : cells ≤ R.cells ∧ slots ≤ R.slots) (hdg : decode cc pc = .ok (.invokevirtual index, 3))
    (kk : ∀ (r : Int32) (u : S) (H1 : Heap) (locs1 : List Loc), Q r u → va_P G vwCl (wf u) H1 → va_D A (wf u) → va_S A H0 H1 locs1 → W p l e R s m args below meth c H1 locs1 cells slots Z (F0 m (pc + 3) ls (.int r :: rest))) : W p l e R s m args below meth c H locs cells slots Z (F0 m pc ls st) := by
  have hFc := va_free (wc := wc) hD hS hA isC hC
  refine va_calli (va_runV F (hM H.size) cw (k_preV hK hP hD isC hC (okC hnd) he hc) rfl hn hsz hst (lv_room hW) hdg hf) hS (fun q _ h => hFc q h) hFc (fun r u t H1 locs1 ht hvm hw hB hz1 hk1 hS => ?_)
  obtain ⟨a, b⟩ := k_fin hP hD isC isR isF hC hR hnd (hF u) hk1 hFc hB ht
  exact kk r u H1 locs1 hw a b hS
theorem k_Vl {S : Type} {Q : Int64 → S → Prop} {w1 wf : S → va_W} (F : CallFix p m c cc nL s args Ts own) (hK : KK G T s) (hP : va_P G vwCl wz H) (hD : va_D A wz) (hS : va_S A H0 H locs) (hA : ∀ q, H0.size ≤ q → A q) (hM : CtL l y ws rm G T (.ref b :: As) wc Q w1) (cw : CallW R s args own C index y bytes maxL ret ws rm 0 0 n)
    (k0 : Nat) {ci : Nat} {fs : List Value} {q : u_T × Nat} (he : wc[k0]? = some (b, .inr (ci, fs))) (hc : vwCl[ci]? = some (C, q)) (isC isR isF : List Nat) (hC : isC.map (fun i => wz[i]?) = wc.map some) (hR : isR.map (fun i => wz[i]?) = wr.map some) (hnd : okIs isC isR isF = true) (hF : ∀ u, isF.map (fun i => (wr ++ w1 u)[i]?) = (wf u).map some)
    (hst : st = As.reverse ++ .ref b :: rest) (hn : As.length = n) (hsz : ls.size = nL) (hW : (rest.map fun v => v.category).sum ≤ 8) (hf : cells ≤ R.cells ∧ slots ≤ R.slots) (hdg : decode cc pc = .ok (.invokevirtual index, 3))
    (kk : ∀ (r : Int64) (u : S) (H1 : Heap) (locs1 : List Loc), Q r u → va_P G vwCl (wf u) H1 → va_D A (wf u) → va_S A H0 H1 locs1 → W p l e R s m args below meth c H1 locs1 cells slots Z (F0 m (pc + 3) ls (.long r :: rest))) : W p l e R s m args below meth c H locs cells slots Z (F0 m pc ls st) := by
  have hFc := va_free (wc := wc) hD hS hA isC hC
  refine va_calll (va_runV F (hM H.size) cw (k_preV hK hP hD isC hC (okC hnd) he hc) rfl hn hsz hst (lv_room hW) hdg hf) hS (fun q _ h => hFc q h) hFc (fun r u t H1 locs1 ht hvm hw hB hz1 hk1 hS => ?_)
  obtain ⟨a, b⟩ := k_fin hP hD isC isR isF hC hR hnd (hF u) hk1 hFc hB ht
  exact kk r u H1 locs1 hw a b hS
theorem k_Vv {S : Type} {Q : S → Prop} {w1 wf : S → va_W} (F : CallFix p m c cc nL s args Ts own) (hK : KK G T s) (hP : va_P G vwCl wz H) (hD : va_D A wz) (hS : va_S A H0 H locs) (hA : ∀ q, H0.size ≤ q → A q) (hM : CtV l y ws rm G T (.ref b :: As) wc Q w1) (cw : CallW R s args own C index y bytes maxL ret ws rm 0 0 n)
    (k0 : Nat) {ci : Nat} {fs : List Value} {q : u_T × Nat} (he : wc[k0]? = some (b, .inr (ci, fs))) (hc : vwCl[ci]? = some (C, q)) (isC isR isF : List Nat) (hC : isC.map (fun i => wz[i]?) = wc.map some) (hR : isR.map (fun i => wz[i]?) = wr.map some) (hnd : okIs isC isR isF = true) (hF : ∀ u, isF.map (fun i => (wr ++ w1 u)[i]?) = (wf u).map some)
    (hst : st = As.reverse ++ .ref b :: rest) (hn : As.length = n) (hsz : ls.size = nL) (hW : (rest.map fun v => v.category).sum ≤ 8) (hf : cells ≤ R.cells ∧ slots ≤ R.slots) (hdg : decode cc pc = .ok (.invokevirtual index, 3))
    (kk : ∀ (u : S) (H1 : Heap) (locs1 : List Loc), Q u → va_P G vwCl (wf u) H1 → va_D A (wf u) → va_S A H0 H1 locs1 → W p l e R s m args below meth c H1 locs1 cells slots Z (F0 m (pc + 3) ls rest)) : W p l e R s m args below meth c H locs cells slots Z (F0 m pc ls st) := by
  have hFc := va_free (wc := wc) hD hS hA isC hC
  refine va_callv (va_runV F (hM H.size) cw (k_preV hK hP hD isC hC (okC hnd) he hc) rfl hn hsz hst (lv_room hW) hdg hf) hS (fun q _ h => hFc q h) hFc (fun u t H1 locs1 ht hvm hw hB hz1 hk1 hS => ?_)
  obtain ⟨a, b⟩ := k_fin hP hD isC isR isF hC hR hnd (hF u) hk1 hFc hB ht
  exact kk u H1 locs1 hw a b hS
theorem k_Si {S : Type} {Q : Int32 → S → Prop} {w1 wf : S → va_W} (F : CallFix p m c cc nL s args Ts own) (hK : KK G T s) (hP : va_P G vwCl wz H) (hD : va_D A wz) (hS : va_S A H0 H locs) (hA : ∀ q, H0.size ≤ q → A q) (hM : CtI l y ws rm G T As wc Q w1) (cw : CallB R s args own index y bytes maxL ret ws rm 0 0 n ∧ (Cond.static y).before args s = true)
    (isC isR isF : List Nat) (hC : isC.map (fun i => wz[i]?) = wc.map some) (hR : isR.map (fun i => wz[i]?) = wr.map some) (hnd : okIs isC isR isF = true) (hF : ∀ u, isF.map (fun i => (wr ++ w1 u)[i]?) = (wf u).map some)
    (hst : st = As.reverse ++ rest) (hn : As.length = n) (hsz : ls.size = nL) (hW : (rest.map fun v => v.category).sum ≤ 8) (hf : cells ≤ R.cells ∧ slots ≤ R.slots) (hdg : decode cc pc = .ok (.invokestatic index, 3))
    (kk : ∀ (r : Int32) (u : S) (H1 : Heap) (locs1 : List Loc), Q r u → va_P G vwCl (wf u) H1 → va_D A (wf u) → va_S A H0 H1 locs1 → W p l e R s m args below meth c H1 locs1 cells slots Z (F0 m (pc + 3) ls (.int r :: rest))) : W p l e R s m args below meth c H locs cells slots Z (F0 m pc ls st) := by
  have hFc := va_free (wc := wc) hD hS hA isC hC
  refine va_calli (va_runS F (hM H.size) cw (k_pre hK hP hD isC hC (okC hnd)) rfl hn hsz hst (lv_room hW) hdg hf) hS (fun q _ h => hFc q h) hFc (fun r u t H1 locs1 ht hvm hw hB hz1 hk1 hS => ?_)
  obtain ⟨a, b⟩ := k_fin hP hD isC isR isF hC hR hnd (hF u) hk1 hFc hB ht
  exact kk r u H1 locs1 hw a b hS
theorem k_Sv {S : Type} {Q : S → Prop} {w1 wf : S → va_W} (F : CallFix p m c cc nL s args Ts own) (hK : KK G T s) (hP : va_P G vwCl wz H) (hD : va_D A wz) (hS : va_S A H0 H locs) (hA : ∀ q, H0.size ≤ q → A q) (hM : CtV l y ws rm G T As wc Q w1) (cw : CallB R s args own index y bytes maxL ret ws rm 0 0 n ∧ (Cond.static y).before args s = true)
    (isC isR isF : List Nat) (hC : isC.map (fun i => wz[i]?) = wc.map some) (hR : isR.map (fun i => wz[i]?) = wr.map some) (hnd : okIs isC isR isF = true) (hF : ∀ u, isF.map (fun i => (wr ++ w1 u)[i]?) = (wf u).map some)
    (hst : st = As.reverse ++ rest) (hn : As.length = n) (hsz : ls.size = nL) (hW : (rest.map fun v => v.category).sum ≤ 8) (hf : cells ≤ R.cells ∧ slots ≤ R.slots) (hdg : decode cc pc = .ok (.invokestatic index, 3))
    (kk : ∀ (u : S) (H1 : Heap) (locs1 : List Loc), Q u → va_P G vwCl (wf u) H1 → va_D A (wf u) → va_S A H0 H1 locs1 → W p l e R s m args below meth c H1 locs1 cells slots Z (F0 m (pc + 3) ls rest)) : W p l e R s m args below meth c H locs cells slots Z (F0 m pc ls st) := by
  have hFc := va_free (wc := wc) hD hS hA isC hC
  refine va_callv (va_runS F (hM H.size) cw (k_pre hK hP hD isC hC (okC hnd)) rfl hn hsz hst (lv_room hW) hdg hf) hS (fun q _ h => hFc q h) hFc (fun u t H1 locs1 ht hvm hw hB hz1 hk1 hS => ?_)
  obtain ⟨a, b⟩ := k_fin hP hD isC isR isF hC hR hnd (hF u) hk1 hFc hB ht
  exact kk u H1 locs1 hw a b hS
theorem k_SNi {S : Type} {Q : Int32 → S → Prop} {w1 wf : S → va_W} (F : CallFix p m c cc nL s args Ts own) (hK : KK G T s) (hP : va_P G vwCl wz H) (hD : va_D A wz) (hS : va_S A H0 H locs) (hA : ∀ q, H0.size ≤ q → A q) (hM : CtI l y ws rm G T As wc Q w1) (cw : va_CN R s args own index y host bytes maxL ret ws rm 0 0 n ∧ (Cond.static y).before args s = true ∧ True)
    (isC isR isF : List Nat) (hC : isC.map (fun i => wz[i]?) = wc.map some) (hR : isR.map (fun i => wz[i]?) = wr.map some) (hnd : okIs isC isR isF = true) (hF : ∀ u, isF.map (fun i => (wr ++ w1 u)[i]?) = (wf u).map some)
    (hst : st = As.reverse ++ rest) (hn : As.length = n) (hsz : ls.size = nL) (hW : (rest.map fun v => v.category).sum ≤ 8) (hf : cells ≤ R.cells ∧ slots ≤ R.slots) (hdg : decode cc pc = .ok (.invokestatic index, 3))
    (kk : ∀ (r : Int32) (u : S) (H1 : Heap) (locs1 : List Loc), Q r u → va_P G vwCl (wf u) H1 → va_D A (wf u) → va_S A H0 H1 locs1 → W p l e R s m args below meth c H1 locs1 cells slots Z (F0 m (pc + 3) ls (.int r :: rest))) : W p l e R s m args below meth c H locs cells slots Z (F0 m pc ls st) := by
  have hFc := va_free (wc := wc) hD hS hA isC hC
  refine va_calli (va_runSN F (hM H.size) cw (k_pre hK hP hD isC hC (okC hnd)) rfl hn hsz hst (lv_room hW) hdg hf) hS (fun q _ h => hFc q h) hFc (fun r u t H1 locs1 ht hvm hw hB hz1 hk1 hS => ?_)
  obtain ⟨a, b⟩ := k_fin hP hD isC isR isF hC hR hnd (hF u) hk1 hFc hB ht
  exact kk r u H1 locs1 hw a b hS
end
