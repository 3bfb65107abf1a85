/-! methods that draw, and methods that read the static row POWERS -/
theorem KK.drawn {G : va_G} {T : List (ClassId × FieldType)} {s : State} (h : KK G T s) (d : Drawn) : KK G T (s.setDrawn d) := ⟨h.1, (Cond.before_setDrawn _ s d _).trans h.2.1, (Cond.before_setDrawn _ s d _).trans h.2.2⟩
def CtID (l : Launch) (y : MethodName) (ws : List Cond) (rm : Room) (G : va_G) (T : List (ClassId × FieldType)) (av : List Value) (wc : va_W) {S : Type} (Q : Int32 → S → Prop) (w1 : S → va_W) : Prop :=
  ∀ sz : Nat, MetD lw_cs l y ws rm (va_Pc av (PRE G T wc sz)) (va_Qi Q (fun u t => POS G wc sz (w1 u) t) (va_A wc sz)) 0 0 (va_A wc sz)
set_option maxHeartbeats 1000000 in
theorem ct_openID {l : Launch} {y : MethodName} {ws ws' : List Cond} {rm : Room} {G : va_G} {T : List (ClassId × FieldType)} {av : List Value} {wc : va_W} {S : Type} {Q : Int32 → S → Prop} {w1 : S → va_W} {cc : ByteArray} {maxL : Nat} {ty : FieldType}
    (hy : plainName y.cls = true) (hw : ws = Cond.code y cc maxL (some ty) :: ws') (hal : (lg_sl av).length ≤ maxL)
    (body : ∀ (p : Program) (e : Env) (s : State) (m : MethodId) (args : Array Value) (below : List Frame) (meth : Method) (c : Code) (A : Nat → Prop) (Z : State → Prop) (ls : Array Slot),
      p.tables.exec = Jvm.exec → c.code = cc → c.maxLocals = maxL → s.vm.findClass y.cls = some m.cls → (∀ w ∈ ws, w.before args s = true) → KK G T s → (∀ q, s.heap.size ≤ q → A q) →
      (∀ (d0 : Drawn), s.drawn.sameBut d0 lw_cs → ∀ (r : Int32) (u : S) (H : Heap) (locs : List Loc) (ls : Array Slot) (pc : Nat), narrow ty (.int r) = .int r → Q r u → va_P G vwCl (w1 u) H → va_D A (w1 u) → va_S A s.heap H locs → decode cc pc = .ok (.ireturn, 1) → W p l e rm (s.setDrawn d0) m args below meth c H locs 0 0 Z (F0 m pc ls [.int r])) →
      va_P G vwCl wc s.heap → va_D A wc → va_S A s.heap s.heap [] → lv_has ls maxL (lv_args 0 av) → ∀ (d0 : Drawn), s.drawn.sameBut d0 lw_cs → W p l e rm (s.setDrawn d0) m args below meth c s.heap [] 0 0 Z (F0 m 0 ls [])) : CtID l y ws rm G T av wc Q w1 := by
  intro sz
  refine MetD.ofW (cc := cc) (maxL := maxL) (ret := some ty) hy hw ?_
  intro p e s m args below meth c s₁ B hml hv hd0
  obtain ⟨rfl, hsz, hP, hK, hD0⟩ := hv
  subst hsz
  rw [lg_entry_eq]
  refine body p e s m _ below meth c (va_A wc s.heap.size) _ _ B.exec B.bytes hml (findClass_of_methodNamed B.named) (atoms_spec (ws := ws) B.pre) hK (fun q h => Or.inr h) ?_ hP hD0.self va_S.rf (lv_entry av hal) _ hd0
  intro d1 hd1 r u H locs ls pc hn hq hP' hD' hS' hd
  refine W.endD hd1 ?_
  exact W.zret B.exec B.bytes B.returns hn (fun t ht hW => ⟨⟨r, u, rfl, hq, by rw [ht]; exact hP', hD'⟩, hS'.F ht⟩) hS'.2.2 hd B.notSynchronized
/-- the row of the powers of 3 -/
def POW : Nat → Int32 := fun k => nI (3 ^ k)
def ZZ (aP : Nat) (A : Nat → Prop) (U : State) : Prop := va_Z "TeachingSets$Queries" "POWERS" "[I" (.ref aP) A U U.heap ∧ va_X aP 8 POW U U.heap ∧ aP < U.heap.size ∧ ¬ A aP
def PREz (G : va_G) (T : List (ClassId × FieldType)) (aP : Nat) (wc : va_W) (sz : Nat) : State → Prop := fun U => PRE G T wc sz U ∧ ZZ aP (va_A wc sz) U
theorem PREz.blind {G : va_G} {T : List (ClassId × FieldType)} {aP : Nat} {wc : va_W} {sz : Nat} {av : List Value} : FrameBlind (va_Pc av (PREz G T aP wc sz)) := fun a U g mk q =>
  ⟨q.1, (PRE.blind (av := av) a U g mk ⟨q.1, q.2.1⟩).2, va_Z.moved (u := U) (U := U.calling g mk a) (Vm.Alike.refl U.vm) q.2.2.1, va_X.moved (u := U) (U := U.calling g mk a) (Vm.Alike.refl U.vm) q.2.2.2.1, q.2.2.2.2⟩
def CtIz (l : Launch) (y : MethodName) (ws : List Cond) (rm : Room) (G : va_G) (T : List (ClassId × FieldType)) (aP : Nat) (av : List Value) (wc : va_W) {S : Type} (Q : Int32 → S → Prop) (w1 : S → va_W) : Prop :=
  ∀ sz : Nat, Met l y ws rm (va_Pc av (PREz G T aP wc sz)) (va_Qi Q (fun u t => POS G wc sz (w1 u) t) (va_A wc sz)) 0 0 (va_A wc sz)
set_option maxHeartbeats 1000000 in
theorem ct_openIz {l : Launch} {y : MethodName} {ws ws' : List Cond} {rm : Room} {G : va_G} {T : List (ClassId × FieldType)} {aP : Nat} {av : List Value} {wc : va_W} {S : Type} {Q : Int32 → S → Prop} {w1 : S → va_W} {cc : ByteArray} {maxL : Nat} {ty : FieldType}
    (hy : plainName y.cls = true) (hw : ws = Cond.code y cc maxL (some ty) :: ws') (hal : (lg_sl av).length ≤ maxL)
    (body : ∀ (p : Program) (e : Env) (s : State) (m : MethodId) (args : Array Value) (below : List Frame) (meth : Method) (c : Code) (A : Nat → Prop) (Z : State → Prop) (ls : Array Slot),
      p.tables.exec = Jvm.exec → c.code = cc → c.maxLocals = maxL → s.vm.findClass y.cls = some m.cls → (∀ w ∈ ws, w.before args s = true) → KK G T s → (∀ q, s.heap.size ≤ q → A q) →
      (∀ (r : Int32) (u : S) (H : Heap) (locs : List Loc) (ls : Array Slot) (pc : Nat), narrow ty (.int r) = .int r → Q r u → va_P G vwCl (w1 u) H → va_D A (w1 u) → va_S A s.heap H locs → decode cc pc = .ok (.ireturn, 1) → W p l e rm s m args below meth c H locs 0 0 Z (F0 m pc ls [.int r])) →
      va_P G vwCl wc s.heap → va_D A wc → va_S A s.heap s.heap [] → ZZ aP A s → lv_has ls maxL (lv_args 0 av) → W p l e rm s m args below meth c s.heap [] 0 0 Z (F0 m 0 ls [])) : CtIz l y ws rm G T aP av wc Q w1 := by
  intro sz
  refine Met.ofW (cc := cc) (maxL := maxL) (ret := some ty) hy hw ?_
  intro p e s m args below meth c s₁ B hml hv
  obtain ⟨rfl, ⟨hsz, hP, hK, hD0⟩, hZ⟩ := hv
  subst hsz
  rw [lg_entry_eq]
  refine body p e s m _ below meth c (va_A wc s.heap.size) _ _ B.exec B.bytes hml (findClass_of_methodNamed B.named) (atoms_spec (ws := ws) B.pre) hK (fun q h => Or.inr h) ?_ hP hD0.self va_S.rf hZ (lv_entry av hal)
  intro r u H locs ls pc hn hq hP' hD' hS' hd
  exact W.zret B.exec B.bytes B.returns hn (fun t ht hW => ⟨⟨r, u, rfl, hq, by rw [ht]; exact hP', hD'⟩, hS'.F ht⟩) hS'.2.2 hd B.notSynchronized
theorem ZZ.call {aP : Nat} {A : Nat → Prop} {s U : State} {H : Heap} {locs : List Loc} {wc : va_W} (h : ZZ aP A s) (hS : va_S A s.heap H locs) (hFc : ∀ q, va_A wc H.size q → A q) (hU : U.heap = H) (hW : s.vm.Alike U.vm) : ZZ aP (va_A wc H.size) U := by
  obtain ⟨h1, h2, h3, h4⟩ := h
  subst hU
  obtain ⟨cf, kf, fi, f, a, cell, g1, g2, g3, g4, g5, g6, g7, g8⟩ := va_Z.moved hW h1
  have ha : a < s.heap.size := (Array.getElem?_eq_some_iff.mp g5).1
  exact ⟨⟨cf, kf, fi, f, a, cell, g1, g2, g3, g4, (hS.2.1 a ha g8).trans g5, g6, g7, fun q => g8 (hFc a q)⟩, (va_X.moved hW h2).kept (hS.2.1 aP h3 h4), Nat.lt_of_lt_of_le h3 hS.1, fun q => h4 (hFc aP q)⟩
section
variable {p : Program} {l : Launch} {e : Env} {R : Room} {s : State} {m : MethodId} {args : Array Value} {below : List Frame} {meth : Method} {c : Code} {H : Heap} {locs : List Loc} {cells slots : Nat} {Z : State → Prop} {A : Nat → Prop} {G : va_G} {T : List (ClassId × FieldType)} {aP : Nat}
variable {y : MethodName} {bytes cc : ByteArray} {maxL nL n index pc : Nat} {ret : Option FieldType} {ws : List Cond} {rm : Room} {Ts : List Cond} {own C host : String} {b : Addr} {As rest st : List Value} {ls : Array Slot} {wz wc wr : va_W}
theorem k_Viz {S : Type} {Q : Int32 → S → Prop} {w1 wf : S → va_W} (F : CallFix p m c cc nL s args Ts own) (hK : KK G T s) (hZ : ZZ aP A s) (hP : va_P G vwCl wz H) (hD : va_D A wz) (hS : va_S A s.heap H locs) (hA : ∀ q, s.heap.size ≤ q → A q) (hM : CtIz l y ws rm G T aP (.ref b :: As) wc Q w1) (cw : CallW R s args own C index y bytes maxL ret ws rm 0 0 n)
    (k0 : Nat) {ci : Nat} {fs : List Value} {q : u_T × Nat} (he : wc[k0]? = some (b, .inr (ci, fs))) (hc : vwCl[ci]? = some (C, q)) (isC isR isF : List Nat) (hC : isC.map (fun i => wz[i]?) = wc.map some) (hR : isR.map (fun i => wz[i]?) = wr.map some) (hnd : okIs isC isR isF = true) (hF : ∀ u, isF.map (fun i => (wr ++ w1 u)[i]?) = (wf u).map some)
    (hst : st = As.reverse ++ .ref b :: rest) (hn : As.length = n) (hsz : ls.size = nL) (hW : (rest.map fun v => v.category).sum ≤ 8) (hf : cells ≤ R.cells ∧ slots ≤ R.slots) (hdg : decode cc pc = .ok (.invokevirtual index, 3))
    (kk : ∀ (r : Int32) (u : S) (H1 : Heap) (locs1 : List Loc), Q r u → va_P G vwCl (wf u) H1 → va_D A (wf u) → va_S A s.heap H1 locs1 → W p l e R s m args below meth c H1 locs1 cells slots Z (F0 m (pc + 3) ls (.int r :: rest))) : W p l e R s m args below meth c H locs cells slots Z (F0 m pc ls st) := by
  have hFc := va_free (wc := wc) hD hS hA isC hC
  have hpv := k_preV (As := As) hK hP hD isC hC (okC hnd) he hc
  refine va_calli (va_runV F (hM H.size) cw ⟨PREz.blind, hpv.2.1, fun U hU hW => ⟨rfl, (hpv.2.2 U hU hW).2, hZ.call hS hFc hU hW.alike⟩⟩ rfl hn hsz hst (lv_room hW) hdg hf) hS (fun q _ h => hFc q h) hFc (fun r u t H1 locs1 ht hvm hw hB hz1 hk1 hS => ?_)
  obtain ⟨a, b⟩ := k_fin hP hD isC isR isF hC hR hnd (hF u) hk1 hFc hB ht
  exact kk r u H1 locs1 hw a b hS
end
