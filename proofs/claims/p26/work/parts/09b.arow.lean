/-! what the list's methods need of the start: the classes, the rows of objects, the empty row dz that all share, the class object of such rows -/
def aE (D : va_G) (cO : ClassId) (dz mi : Nat) (A : Nat → Prop) (U : State) (H : Heap) : Prop :=
  va_K D vwCl [(cO, .object "java/lang/Object")] U ∧ va_AO "java/lang/Object" U ∧ va_Z "java/util/ArrayList" "DEFAULTCAPACITY_EMPTY_ELEMENTDATA" "[Ljava/lang/Object;" (.ref dz) A U H ∧ (∃ f : Nat → Value, va_T (.object "java/lang/Object") dz 0 f A U H) ∧ va_Mi "[Ljava/lang/Object;" mi U ∧ va_Dc U ∧
  va_Nw (.castable RX0 "java/lang/Object") U ∧ va_Nw (.castable RX1 "java/lang/Object") U ∧ va_Nw (.castable RX2 "java/lang/Object") U
theorem aE.call {D : va_G} {cO : ClassId} {dz mi : Nat} {A : Nat → Prop} {s U : State} {H : Heap} {locs : List Loc} (h : aE D cO dz mi A s s.heap) (hS : va_S A s.heap H locs) (hU : U.heap = H) (hW : s.WarmedH U.vm) : aE D cO dz mi A U U.heap := by
  obtain ⟨h1, h2, h3, ⟨f, h4⟩, h5, h6, h7, h8, h9⟩ := h
  rw [hU]
  exact ⟨va_K.moved hW.alike h1, va_AO.moved hW.alike h2, va_Z.moved hW.alike (h3.kept hS.2.1), ⟨f, va_T.moved hW.alike (h4.kept hS.2.1)⟩, va_Mi.moved hW.alike h5, va_Dc.moved hW.alike h6, va_Nw.warmC hW h7, va_Nw.warmC hW h8, va_Nw.warmC hW h9⟩
theorem aE.narrow {D : va_G} {cO : ClassId} {dz mi : Nat} {A B : Nat → Prop} {s : State} {H : Heap} (h : aE D cO dz mi A s H) (hAB : ∀ q, B q → A q) : aE D cO dz mi B s H := by
  obtain ⟨h1, h2, h3, ⟨f, h4⟩, h5, h6, h7, h8, h9⟩ := h
  exact ⟨h1, h2, h3.narrow hAB, ⟨f, h4.narrow hAB⟩, h5, h6, h7, h8, h9⟩
theorem aE.calling {D : va_G} {cO : ClassId} {dz mi : Nat} {A : Nat → Prop} {U : State} (h : aE D cO dz mi A U U.heap) (g : JFrame) (mk : MethodId) (a : Array Value) : aE D cO dz mi A (U.calling g mk a) (U.calling g mk a).heap := by
  obtain ⟨h1, h2, h3, ⟨f, h4⟩, h5, h6, h7, h8, h9⟩ := h
  have hv : U.vm.Alike (U.calling g mk a).vm := Vm.Alike.refl U.vm
  have hv2 : U.vm = (U.calling g mk a).vm := rfl
  exact ⟨va_K.moved hv h1, va_AO.moved hv h2, va_Z.moved hv h3, ⟨f, va_T.moved hv h4⟩, va_Mi.moved hv h5, va_Dc.moved hv h6, va_Nw.same rfl hv2 h7, va_Nw.same rfl hv2 h8, va_Nw.same rfl hv2 h9⟩
/-- the start, and the world behind, of a method over a list of cells -/
def aPre (D : va_G) (cO : ClassId) (dz mi : Nat) (A : Nat → Prop) (ws : va_W) (U : State) : Prop := (∀ q, U.heap.size ≤ q → A q) ∧ va_P D vwCl ws U.heap ∧ aE D cO dz mi A U U.heap
def aB (D : va_G) (A : Nat → Prop) (ws : va_W) (t : State) : Prop := va_P D vwCl ws t.heap ∧ va_D A ws
def aI (l : Launch) (y : MethodName) (w : List Cond) (rm : Room) (D : va_G) (cO : ClassId) (dz mi : Nat) (A : Nat → Prop) (av : List Value) (ws : va_W) (post : Int32 → va_W → Prop) (mc ms : Nat) : Prop :=
  Met l y w rm (va_Pc av (aPre D cO dz mi A ws)) (va_Qi post (aB D A) A) mc ms A
def aV (l : Launch) (y : MethodName) (w : List Cond) (rm : Room) (D : va_G) (cO : ClassId) (dz mi : Nat) (A : Nat → Prop) (av : List Value) (ws : va_W) (post : va_W → Prop) (mc ms : Nat) : Prop :=
  Met l y w rm (va_Pc av (aPre D cO dz mi A ws)) (va_Qv post (aB D A) A) mc ms A
def aRf (l : Launch) (y : MethodName) (w : List Cond) (rm : Room) (D : va_G) (cO : ClassId) (dz mi : Nat) (A : Nat → Prop) (av : List Value) (ws : va_W) (post : Option Nat → va_W → Prop) (mc ms : Nat) : Prop :=
  Met l y w rm (va_Pc av (aPre D cO dz mi A ws)) (va_Qq post (aB D A) A) mc ms A
theorem a_blind {D : va_G} {cO : ClassId} {dz mi : Nat} {A : Nat → Prop} {av : List Value} {ws : va_W} : FrameBlind (va_Pc av (aPre D cO dz mi A ws)) := fun a U g mk q => ⟨q.1, q.2.1, q.2.2.1, q.2.2.2.calling g mk a⟩
section ARows
variable {p : Program} {l : Launch} {e : Env} {R : Room} {s : State} {m : MethodId} {args : Array Value} {below : List Frame} {meth : Method} {c : Code} {H : Heap} {locs : List Loc} {cells slots : Nat} {Q : State → Prop}
variable {cc : ByteArray} {pc : Nat} {ls : Array Slot} {rest : List Value} {D : va_G} {cO : ClassId} {dz mi : Nat} {A : Nat → Prop} {ws : va_W}
theorem aI_of {y : MethodName} {w w' : List Cond} {rm : Room} {maxL : Nat} {ty : FieldType} {av : List Value} {post : Int32 → va_W → Prop} {mc ms : Nat} (hy : plainName y.cls = true) (hw : w = Cond.code y cc maxL (some ty) :: w') (hlen : (lg_sl av).length ≤ maxL)
    (body : ∀ (p : Program) (e : Env) (s : State) (m : MethodId) (args : Array Value) (below : List Frame) (meth : Method) (c : Code) (Q : State → Prop), p.tables.exec = Jvm.exec → c.code = cc → c.maxLocals = maxL → s.vm.findClass y.cls = some m.cls → (∀ x ∈ w, x.before args s = true) → (∀ q, s.heap.size ≤ q → A q) → va_P D vwCl ws s.heap → aE D cO dz mi A s s.heap → va_S A s.heap s.heap [] →
      (∀ (v : Int) (ws' : va_W) (H : Heap) (locs : List Loc) (pc cells slots : Nat) (ls : Array Slot), decode cc pc = .ok (.ireturn, 1) → narrow ty (.int (iI v)) = .int (iI v) → va_P D vwCl ws' H → va_D A ws' → va_S A s.heap H locs → cells ≤ mc → slots ≤ ms → post (iI v) ws' → W p l e rm s m args below meth c H locs cells slots Q (F0 m pc ls [.int (iI v)])) →
      ∀ ls : Array Slot, lv_has ls maxL (lv_args 0 av) → W p l e rm s m args below meth c s.heap [] 0 0 Q (F0 m 0 ls [])) : aI l y w rm D cO dz mi A av ws post mc ms := by
  refine Met.ofW (cc := cc) (maxL := maxL) (ret := some ty) hy hw ?_
  intro p e s m args below meth c s₁ B hml hv
  obtain ⟨rfl, hA, hP, hE⟩ := hv
  have hl := lv_entry av (n := maxL) hlen
  rw [lg_entry_eq]
  refine body p e s m av.toArray below meth c _ B.exec B.bytes hml (findClass_of_methodNamed B.named) (atoms_spec (ws := w) B.pre) hA hP hE va_S.rf ?_ _ hl
  intro v ws' H locs pc cells slots ls hdg hn hP1 hD1 hS1 hc hs hp
  refine W.widen hc hs ?_
  exact W.zret B.exec B.bytes B.returns hn (fun t ht hW => ⟨⟨iI v, ws', rfl, hp, by rw [ht]; exact hP1, hD1⟩, hS1.F ht⟩) hS1.2.2 hdg B.notSynchronized
theorem aV_of {y : MethodName} {w w' : List Cond} {rm : Room} {maxL : Nat} {av : List Value} {post : va_W → Prop} {mc ms : Nat} (hy : plainName y.cls = true) (hw : w = Cond.code y cc maxL none :: w') (hlen : (lg_sl av).length ≤ maxL)
    (body : ∀ (p : Program) (e : Env) (s : State) (m : MethodId) (args : Array Value) (below : List Frame) (meth : Method) (c : Code) (Q : State → Prop), p.tables.exec = Jvm.exec → c.code = cc → c.maxLocals = maxL → s.vm.findClass y.cls = some m.cls → (∀ x ∈ w, x.before args s = true) → (∀ q, s.heap.size ≤ q → A q) → va_P D vwCl ws s.heap → aE D cO dz mi A s s.heap → va_S A s.heap s.heap [] → (y.name = "<init>" → meth.name = "<init>") →
      (∀ (ws' : va_W) (H : Heap) (locs : List Loc) (pc cells slots : Nat) (ls : Array Slot), decode cc pc = .ok (.return_, 1) → va_P D vwCl ws' H → va_D A ws' → va_S A s.heap H locs → cells ≤ mc → slots ≤ ms → post ws' → W p l e rm s m args below meth c H locs cells slots Q (F0 m pc ls [])) →
      ∀ ls : Array Slot, lv_has ls maxL (lv_args 0 av) → W p l e rm s m args below meth c s.heap [] 0 0 Q (F0 m 0 ls [])) : aV l y w rm D cO dz mi A av ws post mc ms := by
  refine Met.ofW (cc := cc) (maxL := maxL) (ret := none) hy hw ?_
  intro p e s m args below meth c s₁ B hml hv
  obtain ⟨rfl, hA, hP, hE⟩ := hv
  have hl := lv_entry av (n := maxL) hlen
  rw [lg_entry_eq]
  refine body p e s m av.toArray below meth c _ B.exec B.bytes hml (findClass_of_methodNamed B.named) (atoms_spec (ws := w) B.pre) hA hP hE va_S.rf (fun h => (name_of_methodNamed B.named B.method).1.trans h) ?_ _ hl
  intro ws' H locs pc cells slots ls hdg hP1 hD1 hS1 hc hs hp
  refine W.widen hc hs ?_
  exact W.vret B.exec B.bytes B.returns (fun t ht hW => ⟨⟨ws', rfl, hp, by rw [ht]; exact hP1, hD1⟩, hS1.F ht⟩) hS1.2.2 hdg B.notSynchronized
theorem aRf_of {y : MethodName} {w w' : List Cond} {rm : Room} {maxL : Nat} {ty : FieldType} {av : List Value} {post : Option Nat → va_W → Prop} {mc ms : Nat} (hy : plainName y.cls = true) (hw : w = Cond.code y cc maxL (some ty) :: w') (hlen : (lg_sl av).length ≤ maxL) (hty : (∃ n, ty = .object n) ∨ ∃ t, ty = .array t)
    (body : ∀ (p : Program) (e : Env) (s : State) (m : MethodId) (args : Array Value) (below : List Frame) (meth : Method) (c : Code) (Q : State → Prop), p.tables.exec = Jvm.exec → c.code = cc → c.maxLocals = maxL → s.vm.findClass y.cls = some m.cls → (∀ x ∈ w, x.before args s = true) → (∀ q, s.heap.size ≤ q → A q) → va_P D vwCl ws s.heap → aE D cO dz mi A s s.heap → va_S A s.heap s.heap [] →
      (∀ (r : Option Nat) (ws' : va_W) (H : Heap) (locs : List Loc) (pc cells slots : Nat) (ls : Array Slot), decode cc pc = .ok (.areturn, 1) → va_P D vwCl ws' H → va_D A ws' → va_S A s.heap H locs → cells ≤ mc → slots ≤ ms → post r ws' → W p l e rm s m args below meth c H locs cells slots Q (F0 m pc ls [va_rf r])) →
      ∀ ls : Array Slot, lv_has ls maxL (lv_args 0 av) → W p l e rm s m args below meth c s.heap [] 0 0 Q (F0 m 0 ls [])) : aRf l y w rm D cO dz mi A av ws post mc ms := by
  refine Met.ofW (cc := cc) (maxL := maxL) (ret := some ty) hy hw ?_
  intro p e s m args below meth c s₁ B hml hv
  obtain ⟨rfl, hA, hP, hE⟩ := hv
  have hl := lv_entry av (n := maxL) hlen
  rw [lg_entry_eq]
  refine body p e s m av.toArray below meth c _ B.exec B.bytes hml (findClass_of_methodNamed B.named) (atoms_spec (ws := w) B.pre) hA hP hE va_S.rf ?_ _ hl
  intro r ws' H locs pc cells slots ls hdg hP1 hD1 hS1 hc hs hp
  refine W.widen hc hs ?_
  exact W.aret B.exec B.bytes B.returns hty (va_rf_or r) (fun t ht hW => ⟨⟨r, ws', rfl, hp, by rw [ht]; exact hP1, hD1⟩, hS1.F ht⟩) hS1.2.2 hdg B.notSynchronized
end ARows
