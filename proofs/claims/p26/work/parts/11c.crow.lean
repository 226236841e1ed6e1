/-! ROWS OVER THE SYSTEM'S CELLS -/
theorem cFs_offF (w : CW) (id a : Nat) (v : Int) {b : Nat} (h : b ≠ a) (k : Nat) : cFs (wF w id a v) b k = cFs w b k := by
  have e : ∀ id', (wF w id a v).2.1 id' b = w.2.1 id' b := fun id' => by rw [wF_F, if_neg (fun q => h q.2)]
  unfold cFs
  split <;> simp only [e] <;> rfl
theorem cFs_offR (w : CW) (id a : Nat) (r : Option Nat) {b : Nat} (h : b ≠ a) (k : Nat) : cFs (wR w id a r) b k = cFs w b k := by
  have e : ∀ id', (wR w id a r).2.2.1 id' b = w.2.2.1 id' b := fun id' => by rw [wR_R, if_neg (fun q => h q.2)]
  unfold cFs
  split <;> simp only [e] <;> rfl
theorem cs_11 (w : CW) (a : Nat) (v : Int) : cFs (wF w 11 a v) a 1 = (cFs w a 1).set 1 (.int (iI v)) := by
  show [_, Value.int (iI ((wF w 11 a v).2.1 11 a))] = _
  rw [wF_F, if_pos ⟨rfl, rfl⟩]; rfl
theorem cs_20 (w : CW) (a : Nat) (v : Int) : cFs (wF w 20 a v) a 2 = (cFs w a 2).set 0 (.int (iI v)) := by
  show [Value.int (iI ((wF w 20 a v).2.1 20 a)), _, Value.int (iI ((wF w 20 a v).2.1 22 a)), Value.int (iI ((wF w 20 a v).2.1 23 a))] = _
  rw [wF_F, wF_F, wF_F, if_pos ⟨rfl, rfl⟩, if_neg (by omega), if_neg (by omega)]; rfl
theorem cs_22 (w : CW) (a : Nat) (v : Int) : cFs (wF w 22 a v) a 2 = (cFs w a 2).set 2 (.int (iI v)) := by
  show [Value.int (iI ((wF w 22 a v).2.1 20 a)), _, Value.int (iI ((wF w 22 a v).2.1 22 a)), Value.int (iI ((wF w 22 a v).2.1 23 a))] = _
  rw [wF_F, wF_F, wF_F, if_neg (by omega), if_pos ⟨rfl, rfl⟩, if_neg (by omega)]; rfl
theorem cs_23 (w : CW) (a : Nat) (v : Int) : cFs (wF w 23 a v) a 2 = (cFs w a 2).set 3 (.int (iI v)) := by
  show [Value.int (iI ((wF w 23 a v).2.1 20 a)), _, Value.int (iI ((wF w 23 a v).2.1 22 a)), Value.int (iI ((wF w 23 a v).2.1 23 a))] = _
  rw [wF_F, wF_F, wF_F, if_neg (by omega), if_neg (by omega), if_pos ⟨rfl, rfl⟩]; rfl
theorem cs_32 (w : CW) (a : Nat) (v : Int) : cFs (wF w 32 a v) a 3 = (cFs w a 3).set 2 (.int (iI v)) := by
  show [_, _, Value.int (iI ((wF w 32 a v).2.1 32 a)), Value.int (iI ((wF w 32 a v).2.1 33 a)), Value.int (iI ((wF w 32 a v).2.1 34 a)), Value.int (iI ((wF w 32 a v).2.1 35 a))] = _
  rw [wF_F, wF_F, wF_F, wF_F, if_pos ⟨rfl, rfl⟩, if_neg (by omega), if_neg (by omega), if_neg (by omega)]; rfl
theorem cs_33 (w : CW) (a : Nat) (v : Int) : cFs (wF w 33 a v) a 3 = (cFs w a 3).set 3 (.int (iI v)) := by
  show [_, _, Value.int (iI ((wF w 33 a v).2.1 32 a)), Value.int (iI ((wF w 33 a v).2.1 33 a)), Value.int (iI ((wF w 33 a v).2.1 34 a)), Value.int (iI ((wF w 33 a v).2.1 35 a))] = _
  rw [wF_F, wF_F, wF_F, wF_F, if_neg (by omega), if_pos ⟨rfl, rfl⟩, if_neg (by omega), if_neg (by omega)]; rfl
theorem cs_34 (w : CW) (a : Nat) (v : Int) : cFs (wF w 34 a v) a 3 = (cFs w a 3).set 4 (.int (iI v)) := by
  show [_, _, Value.int (iI ((wF w 34 a v).2.1 32 a)), Value.int (iI ((wF w 34 a v).2.1 33 a)), Value.int (iI ((wF w 34 a v).2.1 34 a)), Value.int (iI ((wF w 34 a v).2.1 35 a))] = _
  rw [wF_F, wF_F, wF_F, wF_F, if_neg (by omega), if_neg (by omega), if_pos ⟨rfl, rfl⟩, if_neg (by omega)]; rfl
theorem cs_35 (w : CW) (a : Nat) (v : Int) : cFs (wF w 35 a v) a 3 = (cFs w a 3).set 5 (.int (iI v)) := by
  show [_, _, Value.int (iI ((wF w 35 a v).2.1 32 a)), Value.int (iI ((wF w 35 a v).2.1 33 a)), Value.int (iI ((wF w 35 a v).2.1 34 a)), Value.int (iI ((wF w 35 a v).2.1 35 a))] = _
  rw [wF_F, wF_F, wF_F, wF_F, if_neg (by omega), if_neg (by omega), if_neg (by omega), if_pos ⟨rfl, rfl⟩]; rfl
theorem cs_43 (w : CW) (a : Nat) (v : Int) : cFs (wF w 43 a v) a 4 = (cFs w a 4).set 3 (.int (iI v)) := by
  show [_, _, _, Value.int (iI ((wF w 43 a v).2.1 43 a))] = _
  rw [wF_F, if_pos ⟨rfl, rfl⟩]; rfl
section CRows2
variable {p : Program} {l : Launch} {e : Env} {R : Room} {s : State} {m : MethodId} {args : Array Value} {below : List Frame} {meth : Method} {c : Code} {H : Heap} {locs : List Loc} {cells slots : Nat} {Q : State → Prop}
variable {cc : ByteArray} {pc : Nat} {ls : Array Slot} {rest st0 : List Value} {D : va_G} {cO : ClassId} {dz mi mc ms : Nat} {A : Nat → Prop} {w : CW} {b : Nat}
theorem c_get (hexec : p.tables.exec = Jvm.exec) (hb : c.code = cc) {own ref C : String} {T : u_T} {N ci index : Nat} {Ts : List Cond} (hts : ∀ z ∈ Ts, z.before args s = true) (hin : ∀ z ∈ u_ws C T N, z ∈ Ts) (hown : s.vm.findClass own = some m.cls) (hE : aE D cO dz mi A s s.heap) (hC : cH D cO dz A w H) (hk : w.1 b = ci) (h1 : 1 ≤ ci) (h4 : ci ≤ 4) (hc : vwCl[ci]? = some (C, T, N)) (k : Nat) (hkN : k < N) (hlink : (Cond.fieldLink own index ref (T k).2.1 (T k).2.2.1).before args s = true) (hr : (T k).1 = ref) {v : Value} (hv : (cFs w b ci)[k]? = some v) (hdg : decode cc pc = .ok (.getfield index, 3))
    (kk : W p l e R s m args below meth c H locs cells slots Q (F0 m (pc + 3) ls (v :: rest))) : W p l e R s m args below meth c H locs cells slots Q (F0 m pc ls (.ref b :: rest)) := by
  subst hk
  obtain ⟨ws, hP, hD, hR⟩ := hC
  obtain ⟨j, hj⟩ := hR.2.2.1 b h1 h4
  exact va_get hexec hb hts hin hown hE.1 hP j hj hc k hkN hlink (fun x h => by rw [hr] at h; exact h) hv hdg kk
theorem c_putI (hexec : p.tables.exec = Jvm.exec) (hb : c.code = cc) {own ref C : String} {T : u_T} {N ci index : Nat} {Ts : List Cond} (hts : ∀ z ∈ Ts, z.before args s = true) (hin : ∀ z ∈ u_ws C T N, z ∈ Ts) (ty0 : Nat → FieldType) (hty : ∀ k, k < N → parseFieldDescriptor (T k).2.2.1 = some (ty0 k)) (hnm : ∀ a, a < N → ∀ b, b < N → a ≠ b → (T a).2.1 ≠ (T b).2.1) (hown : s.vm.findClass own = some m.cls) (hE : aE D cO dz mi A s s.heap) (hC : cH D cO dz A w H) (hS : va_S A s.heap H locs) (hk : w.1 b = ci) (h1 : 1 ≤ ci) (h4 : ci ≤ 4) (hc : vwCl[ci]? = some (C, T, N)) (k : Nat) (hkN : k < N) (hlink : (Cond.fieldLink own index ref (T k).2.1 (T k).2.2.1).before args s = true) (hr : (T k).1 = ref) (hfin : (T k).2.2.2 = false) (hd : parseFieldDescriptor (T k).2.2.1 = some .int) {z : Int} (id : Nat) (hl : k < (cFs w b ci).length) (hset : cFs (wF w id b z) b ci = (cFs w b ci).set k (.int (iI z))) (hdg : decode cc pc = .ok (.putfield index, 3))
    (kk : ∀ (H1 : Heap) (locs1 : List Loc), cH D cO dz A (wF w id b z) H1 → va_S A s.heap H1 locs1 → W p l e R s m args below meth c H1 locs1 cells slots Q (F0 m (pc + 3) ls rest)) : W p l e R s m args below meth c H locs cells slots Q (F0 m pc ls (.int (iI z) :: .ref b :: rest)) := by
  subst hk
  obtain ⟨ws, hP, hD, hR⟩ := hC
  obtain ⟨j, hj⟩ := hR.2.2.1 b h1 h4
  refine va_put hexec hb hts hin ty0 hty hnm hown hE.1 hP hD hS j hj hc k hkN hlink (fun x h => by rw [hr] at h; exact h) hfin hd rfl rfl hl hdg fun H1 locs1 hP1 hD1 hS1 => ?_
  have h9 := hR.put (w' := wF w id b z) h1 h4 hj rfl rfl (fun q hq k' => cFs_offF w id b z hq k')
  rw [hset] at h9
  exact kk H1 locs1 ⟨_, hP1, hD1, h9⟩ hS1
/-- a checkcast to the thing's own class -/
theorem c_cast (hexec : p.tables.exec = Jvm.exec) (hb : c.code = cc) {own : String} {r : vw_C} {k index : Nat} (hown : s.vm.findClass own = some m.cls) (hlink : (Cond.classLink own index r.1).before args s = true) (hE : aE D cO dz mi A s s.heap) (hC : cH D cO dz A w H) (hk : w.1 b = k) (h1 : 1 ≤ k) (h4 : k ≤ 4) (hc : vwCl[k]? = some r) {cC : ClassId} (hcl : ClassAt s r.1 cC) (hdg : decode cc pc = .ok (.checkcast index, 3))
    (kk : W p l e R s m args below meth c H locs cells slots Q (F0 m (pc + 3) ls (.ref b :: rest))) : W p l e R s m args below meth c H locs cells slots Q (F0 m pc ls (.ref b :: rest)) := by
  subst hk
  obtain ⟨ws, hP, hD, hR⟩ := hC
  obtain ⟨j, hj⟩ := hR.2.2.1 b h1 h4
  exact va_castS hexec hb hown hlink hcl (va_recv hE.1 hP hc hj) hdg kk
end CRows2
section CEntries
variable {l : Launch} {D : va_G} {cO : ClassId} {dz mi mc ms : Nat} {A : Nat → Prop} {w : CW} {cc : ByteArray}
theorem cI_of {y : MethodName} {wl wl' : List Cond} {rm : Room} {maxL : Nat} {ty : FieldType} {av : List Value} {post : Int32 → CW → Prop} (hy : plainName y.cls = true) (hw : wl = Cond.code y cc maxL (some ty) :: wl') (hlen : (lg_sl av).length ≤ maxL)
    (body : ∀ (p : Program) (e : Env) (s : State) (m : MethodId) (args : Array Value) (below : List Frame) (meth : Method) (c : Code) (Q : State → Prop), p.tables.exec = Jvm.exec → c.code = cc → c.maxLocals = maxL → s.vm.findClass y.cls = some m.cls → (∀ x ∈ wl, x.before args s = true) → (∀ q, s.heap.size ≤ q → A q) → cH D cO dz A w s.heap → aE D cO dz mi A s s.heap → xE A s s.heap → va_S A s.heap s.heap [] →
      (∀ (v : Int) (w' : CW) (H : Heap) (locs : List Loc) (pc cells slots : Nat) (ls : Array Slot), decode cc pc = .ok (.ireturn, 1) → narrow ty (.int (iI v)) = .int (iI v) → cH D cO dz A w' H → va_S A s.heap H locs → cells ≤ mc → slots ≤ ms → post (iI v) w' → W p l e rm s m args below meth c H locs cells slots Q (F0 m pc ls [.int (iI v)])) →
      ∀ ls : Array Slot, lv_has ls maxL (lv_args 0 av) → W p l e rm s m args below meth c s.heap [] 0 0 Q (F0 m 0 ls [])) : cI l y wl rm D cO dz mi A av w post mc ms := by
  refine Met.ofW (cc := cc) (maxL := maxL) (ret := some ty) hy hw ?_
  intro p e s m args below meth c s₁ B hml hv
  obtain ⟨rfl, hA, hC, hE, hX⟩ := hv
  have hl := lv_entry av (n := maxL) hlen
  rw [lg_entry_eq]
  refine body p e s m av.toArray below meth c _ B.exec B.bytes hml (findClass_of_methodNamed B.named) (atoms_spec (ws := wl) B.pre) hA hC hE hX va_S.rf ?_ _ hl
  intro v w' H locs pc cells slots ls hdg hn hC1 hS1 hc hs hp
  refine W.widen hc hs ?_
  exact W.zret B.exec B.bytes B.returns hn (fun t ht hW => ⟨⟨iI v, w', rfl, hp, by show cH _ _ _ _ _ t.heap; rw [ht]; exact hC1⟩, hS1.F ht⟩) hS1.2.2 hdg B.notSynchronized
theorem cV_of {y : MethodName} {wl wl' : List Cond} {rm : Room} {maxL : Nat} {av : List Value} {post : CW → Prop} (hy : plainName y.cls = true) (hw : wl = Cond.code y cc maxL none :: wl') (hlen : (lg_sl av).length ≤ maxL)
    (body : ∀ (p : Program) (e : Env) (s : State) (m : MethodId) (args : Array Value) (below : List Frame) (meth : Method) (c : Code) (Q : State → Prop), p.tables.exec = Jvm.exec → c.code = cc → c.maxLocals = maxL → s.vm.findClass y.cls = some m.cls → (∀ x ∈ wl, x.before args s = true) → (∀ q, s.heap.size ≤ q → A q) → cH D cO dz A w s.heap → aE D cO dz mi A s s.heap → xE A s s.heap → va_S A s.heap s.heap [] → (y.name = "<init>" → meth.name = "<init>") →
      (∀ (w' : CW) (H : Heap) (locs : List Loc) (pc cells slots : Nat) (ls : Array Slot), decode cc pc = .ok (.return_, 1) → cH D cO dz A w' H → va_S A s.heap H locs → cells ≤ mc → slots ≤ ms → post w' → W p l e rm s m args below meth c H locs cells slots Q (F0 m pc ls [])) →
      ∀ ls : Array Slot, lv_has ls maxL (lv_args 0 av) → W p l e rm s m args below meth c s.heap [] 0 0 Q (F0 m 0 ls [])) : cV l y wl rm D cO dz mi A av w post mc ms := by
  refine Met.ofW (cc := cc) (maxL := maxL) (ret := none) hy hw ?_
  intro p e s m args below meth c s₁ B hml hv
  obtain ⟨rfl, hA, hC, hE, hX⟩ := hv
  have hl := lv_entry av (n := maxL) hlen
  rw [lg_entry_eq]
  refine body p e s m av.toArray below meth c _ B.exec B.bytes hml (findClass_of_methodNamed B.named) (atoms_spec (ws := wl) B.pre) hA hC hE hX va_S.rf (fun h => (name_of_methodNamed B.named B.method).1.trans h) ?_ _ hl
  intro w' H locs pc cells slots ls hdg hC1 hS1 hc hs hp
  refine W.widen hc hs ?_
  exact W.vret B.exec B.bytes B.returns (fun t ht hW => ⟨⟨w', rfl, hp, by show cH _ _ _ _ _ t.heap; rw [ht]; exact hC1⟩, hS1.F ht⟩) hS1.2.2 hdg B.notSynchronized
theorem cQ_of {y : MethodName} {wl wl' : List Cond} {rm : Room} {maxL : Nat} {ty : FieldType} {av : List Value} {post : Option Nat → CW → Prop} (hy : plainName y.cls = true) (hw : wl = Cond.code y cc maxL (some ty) :: wl') (hlen : (lg_sl av).length ≤ maxL) (hty : (∃ n, ty = .object n) ∨ ∃ t, ty = .array t)
    (body : ∀ (p : Program) (e : Env) (s : State) (m : MethodId) (args : Array Value) (below : List Frame) (meth : Method) (c : Code) (Q : State → Prop), p.tables.exec = Jvm.exec → c.code = cc → c.maxLocals = maxL → s.vm.findClass y.cls = some m.cls → (∀ x ∈ wl, x.before args s = true) → (∀ q, s.heap.size ≤ q → A q) → cH D cO dz A w s.heap → aE D cO dz mi A s s.heap → xE A s s.heap → va_S A s.heap s.heap [] →
      (∀ (r : Option Nat) (w' : CW) (H : Heap) (locs : List Loc) (pc cells slots : Nat) (ls : Array Slot), decode cc pc = .ok (.areturn, 1) → cH D cO dz A w' H → va_S A s.heap H locs → cells ≤ mc → slots ≤ ms → post r w' → W p l e rm s m args below meth c H locs cells slots Q (F0 m pc ls [va_rf r])) →
      ∀ ls : Array Slot, lv_has ls maxL (lv_args 0 av) → W p l e rm s m args below meth c s.heap [] 0 0 Q (F0 m 0 ls [])) : cQ l y wl rm D cO dz mi A av w post mc ms := by
  refine Met.ofW (cc := cc) (maxL := maxL) (ret := some ty) hy hw ?_
  intro p e s m args below meth c s₁ B hml hv
  obtain ⟨rfl, hA, hC, hE, hX⟩ := hv
  have hl := lv_entry av (n := maxL) hlen
  rw [lg_entry_eq]
  refine body p e s m av.toArray below meth c _ B.exec B.bytes hml (findClass_of_methodNamed B.named) (atoms_spec (ws := wl) B.pre) hA hC hE hX va_S.rf ?_ _ hl
  intro r w' H locs pc cells slots ls hdg hC1 hS1 hc hs hp
  refine W.widen hc hs ?_
  exact W.aret B.exec B.bytes B.returns hty (va_rf_or r) (fun t ht hW => ⟨⟨r, w', rfl, hp, by show cH _ _ _ _ _ t.heap; rw [ht]; exact hC1⟩, hS1.F ht⟩) hS1.2.2 hdg B.notSynchronized
/-! .. of methods that may throw -/
theorem cIX_of {y : MethodName} {wl wl' : List Cond} {rm : Room} {maxL : Nat} {ty : FieldType} {av : List Value} {post : Int32 → CW → Prop} {pX : String → Prop} (hy : plainName y.cls = true) (hw : wl = Cond.code y cc maxL (some ty) :: wl') (hlen : (lg_sl av).length ≤ maxL)
    (body : ∀ (p : Program) (e : Env) (s : State) (m : MethodId) (args : Array Value) (below : List Frame) (meth : Method) (c : Code) (Q : State → Prop), p.tables.exec = Jvm.exec → c.code = cc → c.maxLocals = maxL → s.vm.findClass y.cls = some m.cls → (∀ x ∈ wl, x.before args s = true) → (∀ q, s.heap.size ≤ q → A q) → cH D cO dz A w s.heap → aE D cO dz mi A s s.heap → xE A s s.heap → va_S A s.heap s.heap [] → (∀ x ∈ c.exceptionTable.toList, False) → meth.locks = false → Q = vx_MQ below (va_Qi post (cBh D cO dz A) A) (cXh D cO dz A w pX) args s mc ms A →
      (∀ (v : Int) (w' : CW) (H : Heap) (locs : List Loc) (pc cells slots : Nat) (ls : Array Slot), decode cc pc = .ok (.ireturn, 1) → narrow ty (.int (iI v)) = .int (iI v) → cH D cO dz A w' H → va_S A s.heap H locs → cells ≤ mc → slots ≤ ms → post (iI v) w' → W p l e rm s m args below meth c H locs cells slots Q (F0 m pc ls [.int (iI v)])) →
      ∀ ls : Array Slot, lv_has ls maxL (lv_args 0 av) → W p l e rm s m args below meth c s.heap [] 0 0 Q (F0 m 0 ls [])) : cIX l y wl rm D cO dz mi A av w post pX mc ms := by
  refine vx_ofW (cc := cc) (maxL := maxL) (ret := some ty) hy hw ?_
  intro p e s m args below meth c s₁ B hml hto hv
  obtain ⟨rfl, hA, hC, hE, hX⟩ := hv
  have hl := lv_entry av (n := maxL) hlen
  rw [lg_entry_eq]
  refine body p e s m av.toArray below meth c _ B.exec B.bytes hml (findClass_of_methodNamed B.named) (atoms_spec (ws := wl) B.pre) hA hC hE hX va_S.rf hto B.notSynchronized rfl ?_ _ hl
  intro v w' H locs pc cells slots ls hdg hn hC1 hS1 hc hs hp
  refine W.widen hc hs ?_
  exact vx_ret (W.zret B.exec B.bytes B.returns hn (fun t ht hW => ⟨⟨iI v, w', rfl, hp, by show cH _ _ _ _ _ t.heap; rw [ht]; exact hC1⟩, hS1.F ht⟩) hS1.2.2 hdg B.notSynchronized)
theorem cVX_of {y : MethodName} {wl wl' : List Cond} {rm : Room} {maxL : Nat} {av : List Value} {post : CW → Prop} {pX : String → Prop} (hy : plainName y.cls = true) (hw : wl = Cond.code y cc maxL none :: wl') (hlen : (lg_sl av).length ≤ maxL)
    (body : ∀ (p : Program) (e : Env) (s : State) (m : MethodId) (args : Array Value) (below : List Frame) (meth : Method) (c : Code) (Q : State → Prop), p.tables.exec = Jvm.exec → c.code = cc → c.maxLocals = maxL → s.vm.findClass y.cls = some m.cls → (∀ x ∈ wl, x.before args s = true) → (∀ q, s.heap.size ≤ q → A q) → cH D cO dz A w s.heap → aE D cO dz mi A s s.heap → xE A s s.heap → va_S A s.heap s.heap [] → (∀ x ∈ c.exceptionTable.toList, False) → meth.locks = false → Q = vx_MQ below (va_Qv post (cBh D cO dz A) A) (cXh D cO dz A w pX) args s mc ms A →
      (∀ (w' : CW) (H : Heap) (locs : List Loc) (pc cells slots : Nat) (ls : Array Slot), decode cc pc = .ok (.return_, 1) → cH D cO dz A w' H → va_S A s.heap H locs → cells ≤ mc → slots ≤ ms → post w' → W p l e rm s m args below meth c H locs cells slots Q (F0 m pc ls [])) →
      ∀ ls : Array Slot, lv_has ls maxL (lv_args 0 av) → W p l e rm s m args below meth c s.heap [] 0 0 Q (F0 m 0 ls [])) : cVX l y wl rm D cO dz mi A av w post pX mc ms := by
  refine vx_ofW (cc := cc) (maxL := maxL) (ret := none) hy hw ?_
  intro p e s m args below meth c s₁ B hml hto hv
  obtain ⟨rfl, hA, hC, hE, hX⟩ := hv
  have hl := lv_entry av (n := maxL) hlen
  rw [lg_entry_eq]
  refine body p e s m av.toArray below meth c _ B.exec B.bytes hml (findClass_of_methodNamed B.named) (atoms_spec (ws := wl) B.pre) hA hC hE hX va_S.rf hto B.notSynchronized rfl ?_ _ hl
  intro w' H locs pc cells slots ls hdg hC1 hS1 hc hs hp
  refine W.widen hc hs ?_
  exact vx_ret (W.vret B.exec B.bytes B.returns (fun t ht hW => ⟨⟨w', rfl, hp, by show cH _ _ _ _ _ t.heap; rw [ht]; exact hC1⟩, hS1.F ht⟩) hS1.2.2 hdg B.notSynchronized)
theorem cQX_of {y : MethodName} {wl wl' : List Cond} {rm : Room} {maxL : Nat} {ty : FieldType} {av : List Value} {post : Option Nat → CW → Prop} {pX : String → Prop} (hy : plainName y.cls = true) (hw : wl = Cond.code y cc maxL (some ty) :: wl') (hlen : (lg_sl av).length ≤ maxL) (hty : (∃ n, ty = .object n) ∨ ∃ t, ty = .array t)
    (body : ∀ (p : Program) (e : Env) (s : State) (m : MethodId) (args : Array Value) (below : List Frame) (meth : Method) (c : Code) (Q : State → Prop), p.tables.exec = Jvm.exec → c.code = cc → c.maxLocals = maxL → s.vm.findClass y.cls = some m.cls → (∀ x ∈ wl, x.before args s = true) → (∀ q, s.heap.size ≤ q → A q) → cH D cO dz A w s.heap → aE D cO dz mi A s s.heap → xE A s s.heap → va_S A s.heap s.heap [] → (∀ x ∈ c.exceptionTable.toList, False) → meth.locks = false → Q = vx_MQ below (va_Qq post (cBh D cO dz A) A) (cXh D cO dz A w pX) args s mc ms A →
      (∀ (r : Option Nat) (w' : CW) (H : Heap) (locs : List Loc) (pc cells slots : Nat) (ls : Array Slot), decode cc pc = .ok (.areturn, 1) → cH D cO dz A w' H → va_S A s.heap H locs → cells ≤ mc → slots ≤ ms → post r w' → W p l e rm s m args below meth c H locs cells slots Q (F0 m pc ls [va_rf r])) →
      ∀ ls : Array Slot, lv_has ls maxL (lv_args 0 av) → W p l e rm s m args below meth c s.heap [] 0 0 Q (F0 m 0 ls [])) : cQX l y wl rm D cO dz mi A av w post pX mc ms := by
  refine vx_ofW (cc := cc) (maxL := maxL) (ret := some ty) hy hw ?_
  intro p e s m args below meth c s₁ B hml hto hv
  obtain ⟨rfl, hA, hC, hE, hX⟩ := hv
  have hl := lv_entry av (n := maxL) hlen
  rw [lg_entry_eq]
  refine body p e s m av.toArray below meth c _ B.exec B.bytes hml (findClass_of_methodNamed B.named) (atoms_spec (ws := wl) B.pre) hA hC hE hX va_S.rf hto B.notSynchronized rfl ?_ _ hl
  intro r w' H locs pc cells slots ls hdg hC1 hS1 hc hs hp
  refine W.widen hc hs ?_
  exact vx_ret (W.aret B.exec B.bytes B.returns hty (va_rf_or r) (fun t ht hW => ⟨⟨r, w', rfl, hp, by show cH _ _ _ _ _ t.heap; rw [ht]; exact hC1⟩, hS1.F ht⟩) hS1.2.2 hdg B.notSynchronized)
end CEntries
