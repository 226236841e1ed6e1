/-! THE LAW'S WRAPPERS: a call of the system; the number of its exception, and its answer in a row of one long -/
abbrev oC (cJ : ClassId) (f : Nat → Int64) : va_E := .inl (cJ, 1, .inr (.inl f))
def lNc (U : State) : Prop := va_Nc xIAE xIOB U ∧ va_Nc xISE xIOB U ∧ va_Nc xISE xIAE U
theorem lNc.moved {u U : State} (hvm : u.vm.Alike U.vm) (h : lNc u) : lNc U := ⟨h.1.moved hvm, h.2.1.moved hvm, h.2.2.moved hvm⟩
def lPre (D : va_G) (cO : ClassId) (dz mi : Nat) (A : Nat → Prop) (w : CW) (cJ : ClassId) (ob : Nat) (f : Nat → Int64) (U : State) : Prop := cPre D cO dz mi A w U ∧ ¬ A ob ∧ va_P D vwCl [(ob, oC cJ f)] U.heap ∧ va_K D vwCl [(cJ, .long)] U ∧ lNc U
def lFr (A : Nat → Prop) (ob : Nat) : Nat → Prop := fun q => A q ∨ q = ob
def lBh (D : va_G) (cO : ClassId) (dz : Nat) (A : Nat → Prop) (cJ : ClassId) (ob : Nat) (x : CW × (Nat → Int64)) (t : State) : Prop := cH D cO dz A x.1 t.heap ∧ va_P D vwCl [(ob, oC cJ x.2)] t.heap
def lPost (a0 : Nat) (q : SR) (k : Int32) (x : CW × (Nat → Int64)) : Prop := k = iI q.1 ∧ (∃ (g : Nat → Int → Nat) (T : Nat → Nat × Int), g 0 0 = a0 ∧ RelC q.2.2 x.1 g T (usg q.2.2)) ∧ (q.1 = 0 → x.2 0 = (iI q.2.1).toInt64)
def lI (l : Launch) (y : MethodName) (wl : List Cond) (rm : Room) (D : va_G) (cO : ClassId) (dz mi : Nat) (A : Nat → Prop) (w : CW) (cJ : ClassId) (ob : Nat) (f : Nat → Int64) (av : List Value) (a0 : Nat) (q : SR) (mc ms : Nat) : Prop :=
  Met l y wl rm (va_Pc av (lPre D cO dz mi A w cJ ob f)) (va_Qi (lPost a0 q) (lBh D cO dz A cJ ob) (lFr A ob)) mc ms (lFr A ob)
theorem l_blind {D : va_G} {cO : ClassId} {dz mi : Nat} {A : Nat → Prop} {w : CW} {cJ : ClassId} {ob : Nat} {f : Nat → Int64} {av : List Value} : FrameBlind (va_Pc av (lPre D cO dz mi A w cJ ob f)) := fun a U g mk q => by
  obtain ⟨q0, q1, q2, q3, q4, q5⟩ := q
  have h9 := c_blind (av := av) a U g mk ⟨q0, q1⟩
  exact ⟨q0, h9.2, q2, q3, va_K.moved (u := U) (U := U.calling g mk a) (Vm.Alike.refl U.vm) q4, q5.moved (Vm.Alike.refl U.vm)⟩
/-- what a throwing call says, said as a public one -/
theorem cIX_as {l : Launch} {y : MethodName} {wl : List Cond} {rm : Room} {D : va_G} {cO : ClassId} {dz mi mc ms : Nat} {A : Nat → Prop} {av : List Value} {w : CW} {post post' : Int32 → CW → Prop} {pX pX' : String → Prop} (h : cIX l y wl rm D cO dz mi A av w post pX mc ms) (hp : ∀ r w9, post r w9 → post' r w9) (hx : ∀ E, pX E → pX' E) : cIX l y wl rm D cO dz mi A av w post' pX' mc ms := by
  intro p e ha hcs hk s m args below hfr happ hP hK
  obtain ⟨n, o, h1, h2, h3, hq⟩ := h p e ha hcs hk s m args below hfr happ hP hK
  refine ⟨n, o, h1, h2, h3, ?_⟩
  rcases hq with ⟨⟨⟨r, u, ho, hp9, hB⟩, hF⟩, hL⟩ | ⟨q, ho, E, ce, L, ⟨u, hu, ⟨hE, hB⟩, hF⟩, hrest⟩
  · exact Or.inl ⟨⟨⟨r, u, ho, hp r u hp9, hB⟩, hF⟩, hL⟩
  · exact Or.inr ⟨q, ho, E, ce, L, ⟨u, hu, ⟨hx E hE, hB⟩, hF⟩, hrest⟩
theorem cIX_get {l : Launch} {y : MethodName} {wl : List Cond} {rm : Room} {D : va_G} {cO : ClassId} {dz mi mc ms : Nat} {A : Nat → Prop} {av : List Value} {w : CW} {P : Prop} {v : Int} {S : HdS} {g : Nat → Int → Nat} {T : Nat → Nat × Int} {q : SR} (hR : RelC S w g T (usg S)) (hq0 : P → q = (0, v, S)) (hq1 : ¬ P → q = (1, 0, S)) (h : cIX l y wl rm D cO dz mi A av w (fun r w9 => w = w9 ∧ P ∧ r = iI v) (fun E => E = xIOB ∧ ¬ P) mc ms) : cIX l y wl rm D cO dz mi A av w (fun r w9 => spC (g 0 0) q r w9) (spE tb2 q) mc ms :=
  cIX_as h (fun r w9 hp => by obtain ⟨rfl, hP, rfl⟩ := hp; exact spC_of (hq0 hP) hR) (fun E hx => by obtain ⟨rfl, hP⟩ := hx; exact spE_of (hq1 hP) (by decide))
section LRows
variable {p : Program} {l : Launch} {e : Env} {R : Room} {s : State} {m : MethodId} {args : Array Value} {below : List Frame} {meth : Method} {c : Code} {H H0 : Heap} {locs : List Loc} {cells slots : Nat} {Q : State → Prop}
variable {cc : ByteArray} {pc : Nat} {ls : Array Slot} {rest : List Value} {D : va_G} {cO : ClassId} {dz mi : Nat} {A : Nat → Prop} {w : CW} {cJ : ClassId} {ob : Nat} {f : Nat → Int64}
theorem oC_kept {A1 : Nat → Prop} {H1 : Heap} (hO : va_P D vwCl [(ob, oC cJ f)] H) (hk : ∀ q : Nat, q < H.size → ¬ A1 q → H1[q]? = H[q]?) (hob : ¬ A1 ob) : va_P D vwCl [(ob, oC cJ f)] H1 := hO.kept fun k q hq => by
  have hz : k < 1 := (List.getElem?_eq_some_iff.mp hq).1
  have hk0 : k = 0 := by omega
  subst hk0
  cases hq
  exact hk ob (hO 0 _ rfl).lt hob
theorem l_put (hexec : p.tables.exec = Jvm.exec) (hb : c.code = cc) {A1 : Nat → Prop} (hJ : va_K D vwCl [(cJ, .long)] s) (hC : cH D cO dz A w H) (hO : va_P D vwCl [(ob, oC cJ f)] H) (hob : ¬ A ob) (h1 : ∀ q, A q → A1 q) (h2 : A1 ob) (hS : va_S A1 H0 H locs) {v : Int64} (hdg : decode cc pc = .ok (.lastore, 1))
    (kk : ∀ (f' : Nat → Int64) (H1 : Heap) (locs1 : List Loc), f' 0 = v → cH D cO dz A w H1 → va_P D vwCl [(ob, oC cJ f')] H1 → va_S A1 H0 H1 locs1 → W p l e R s m args below meth c H1 locs1 cells slots Q (F0 m (pc + 1) ls rest)) : W p l e R s m args below meth c H locs cells slots Q (F0 m pc ls (.long v :: .int (iI 0) :: .ref ob :: rest)) := by
  obtain ⟨ws, hP, hD, hR⟩ := hC
  have hP2 : va_P D vwCl (ws ++ [(ob, oC cJ f)]) H := hP.app hO
  have hD2 : va_D A1 (ws ++ [(ob, oC cJ f)]) := by
    refine va_D.app (hD.weaken fun k q _ hq => h1 _ hq) ⟨fun i j x y hx hy _ => ?_, fun k q hq => ?_⟩ (fun i j x y hx hy e => ?_)
    · have := (List.getElem?_eq_some_iff.mp hx).1
      have := (List.getElem?_eq_some_iff.mp hy).1
      simp only [List.length_cons, List.length_nil] at *
      omega
    · have hz : k < 1 := (List.getElem?_eq_some_iff.mp hq).1
      have hk0 : k = 0 := by omega
      subst hk0
      cases hq
      exact h2
    · have hz : j < 1 := (List.getElem?_eq_some_iff.mp hy).1
      have hj0 : j = 0 := by omega
      subst hj0
      cases hy
      have e : x.1 = ob := e
      exact hob (e ▸ hD.2 i x hx)
  refine va_last hexec hb hJ hP2 hD2 hS ws.length 0 (app_last _ _) rfl (iI_in (by omega) (by omega) (by omega)) hdg fun H1 locs1 hP1 hD1 hS1 => ?_
  rw [set_last, iI_clamp (by omega) (by omega)] at hP1
  refine kk (vp_updL f (0 : Int).toNat v) H1 locs1 ?_ ⟨ws, fun k q hk => hP1 k q (app_at hk), hD, hR⟩ (fun k q hk => ?_) hS1
  · first | rfl | simp [vp_updL]
  · have hz : k < 1 := (List.getElem?_eq_some_iff.mp hk).1
    have hk0 : k = 0 := by omega
    subst hk0
    cases hk
    exact hP1 ws.length _ (app_last _ _)
theorem lI_of {wl wl' : List Cond} {y : MethodName} {rm : Room} {maxL : Nat} {hh : List (Nat × Nat × Nat × Nat)} {av : List Value} {a0 mc ms : Nat} {q : SR} (hy : plainName y.cls = true) (hw : wl = Cond.codeWith y cc maxL (some .int) hh :: wl') (hlen : (lg_sl av).length ≤ maxL)
    (body : ∀ (p : Program) (e : Env) (s : State) (m : MethodId) (args : Array Value) (below : List Frame) (meth : Method) (c : Code) (Q : State → Prop), p.tables.exec = Jvm.exec → c.code = cc → c.maxLocals = maxL → s.vm.findClass y.cls = some m.cls → (∀ x ∈ wl, x.before args s = true) → (∀ q, s.heap.size ≤ q → A q) → cH D cO dz A w s.heap → aE D cO dz mi A s s.heap → xE A s s.heap → ¬ A ob → va_P D vwCl [(ob, oC cJ f)] s.heap → va_K D vwCl [(cJ, .long)] s → lNc s → c.exceptionTable.toList = tableOf hh →
      (∀ (v : Int) (x : CW × (Nat → Int64)) (H : Heap) (locs : List Loc) (pc cells slots : Nat) (ls : Array Slot), decode cc pc = .ok (.ireturn, 1) → cH D cO dz A x.1 H → va_P D vwCl [(ob, oC cJ x.2)] H → va_S (lFr A ob) s.heap H locs → cells ≤ mc → slots ≤ ms → lPost a0 q (iI v) x → W p l e rm s m args below meth c H locs cells slots Q (F0 m pc ls [.int (iI v)])) →
      ∀ ls : Array Slot, lv_has ls maxL (lv_args 0 av) → W p l e rm s m args below meth c s.heap [] 0 0 Q (F0 m 0 ls [])) : lI l y wl rm D cO dz mi A w cJ ob f av a0 q mc ms := by
  refine va_MetW (cc := cc) (maxL := maxL) (ret := some .int) hy hw ?_
  intro p e s m args below meth c s₁ B hml hv
  obtain ⟨rfl, ⟨hA, hC, hE, hX⟩, hob, hO, hJ, hN⟩ := hv
  have hl := lv_entry av (n := maxL) hlen
  rw [lg_entry_eq]
  have hts := atoms_spec (ws := wl) B.pre
  refine body p e s m av.toArray below meth c _ B.exec B.bytes hml (findClass_of_methodNamed B.named) hts hA hC hE hX hob hO hJ hN (vx_table (x := y) B (hts _ (by rw [hw]; exact List.mem_cons_self))) ?_ _ hl
  intro v x H locs pc cells slots ls hdg hC1 hO1 hS1 hc hs hp
  refine W.widen hc hs ?_
  exact W.zret B.exec B.bytes B.returns rfl (fun t ht hW => ⟨⟨iI v, x, rfl, hp, by show cH _ _ _ _ _ t.heap ∧ va_P _ _ _ t.heap; rw [ht]; exact ⟨hC1, hO1⟩⟩, hS1.F ht⟩) hS1.2.2 hdg B.notSynchronized
end LRows
/-- the numbers of exceptions; where one is thrown, the state stays -/
def spN (S : HdS) (q : SR) (n : Int) : Prop := q.1 = 0 ∨ (1 ≤ q.1 ∧ q.1 ≤ n ∧ q.2.2 = S)
section SpN
variable {S : HdS}
theorem spN_ite {P : Prop} {a b : SR} {n : Int} (ha : spN S a n) (hb : spN S b n) : spN S (iteC P a b) n := by
  by_cases h : P
  · rw [iteC_pos h]; exact ha
  · rw [iteC_neg h]; exact hb
theorem spN_0 {v n : Int} {S' : HdS} : spN S (0, v, S') n := Or.inl rfl
theorem spN_k {k v n : Int} (h1 : 1 ≤ k) (h2 : k ≤ n) : spN S (k, v, S) n := Or.inr ⟨h1, h2, rfl⟩
theorem spn_addDirectory (p q : Int) : spN S (sp_addDirectory S p q) 3 := by
  unfold sp_addDirectory
  repeat (first | exact spN_0 | exact spN_k (by decide) (by decide) | apply spN_ite)
theorem spn_setQuota (p q : Int) : spN S (sp_setQuota S p q) 2 := by
  unfold sp_setQuota
  repeat (first | exact spN_0 | exact spN_k (by decide) (by decide) | apply spN_ite)
theorem spn_make (p d z : Int) : spN S (sp_make S p d z) 3 := by
  unfold sp_make
  repeat (first | exact spN_0 | exact spN_k (by decide) (by decide) | apply spN_ite)
theorem spn_link (p q : Int) : spN S (sp_link S p q) 2 := by
  unfold sp_link
  repeat (first | exact spN_0 | exact spN_k (by decide) (by decide) | apply spN_ite)
theorem spn_unlink (p q : Int) : spN S (sp_unlink S p q) 2 := by
  unfold sp_unlink
  repeat (first | exact spN_0 | exact spN_k (by decide) (by decide) | apply spN_ite)
theorem spn_write (p q : Int) : spN S (sp_write S p q) 3 := by
  unfold sp_write
  repeat (first | exact spN_0 | exact spN_k (by decide) (by decide) | apply spN_ite)
theorem spn_read (p : Int) : spN S (sp_read S p) 2 := by
  unfold sp_read
  repeat (first | exact spN_0 | exact spN_k (by decide) (by decide) | apply spN_ite)
theorem spn_hold (p q : Int) : spN S (sp_hold S p q) 2 := by
  unfold sp_hold
  repeat (first | exact spN_0 | exact spN_k (by decide) (by decide) | apply spN_ite)
theorem spn_release (p : Int) : spN S (sp_release S p) 1 := by
  unfold sp_release
  repeat (first | exact spN_0 | exact spN_k (by decide) (by decide) | apply spN_ite)
theorem spn_fund (p q : Int) : spN S (sp_fund S p q) 3 := by
  unfold sp_fund
  repeat (first | exact spN_0 | exact spN_k (by decide) (by decide) | apply spN_ite)
theorem spn_pass (p : Int) : spN S (sp_pass S p) 2 := by
  unfold sp_pass
  repeat (first | exact spN_0 | exact spN_k (by decide) (by decide) | apply spN_ite)
theorem spn_dir (p r : Int) : spN S (sp_dir S p r) 1 := by
  unfold sp_dir
  repeat (first | exact spN_0 | exact spN_k (by decide) (by decide) | apply spN_ite)
theorem spn_fil (p r : Int) : spN S (sp_fil S p r) 1 := by
  unfold sp_fil
  repeat (first | exact spN_0 | exact spN_k (by decide) (by decide) | apply spN_ite)
theorem spn_dpt (p r : Int) : spN S (sp_dpt S p r) 1 := by
  unfold sp_dpt
  repeat (first | exact spN_0 | exact spN_k (by decide) (by decide) | apply spN_ite)
end SpN
