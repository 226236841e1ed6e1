section
-- ===== PART A: goes FIRST, ahead of the names: the tables' words, and 'selects' of the private methods out of them =====
/-- a private method of a class that the tables say can be made, by its rows of tables_1 -/
def lw_okq (q : MethodName × Nat) : Prop := (q.1.cls ≠ "java/lang/invoke/MethodHandle" ∧ q.1.cls ≠ "java/lang/invoke/VarHandle") ∧ Cond.instantiable q.1.cls q.2 ∈ tables_1 ∧ Cond.privateMethod q.1 ∈ tables_1 ∧ Cond.instanceMethod q.1 ∈ tables_1
theorem lw_p0 : lw_okq (⟨"java/util/ArrayList", "add", "(Ljava/lang/Object;[Ljava/lang/Object;I)V"⟩, 3) := ⟨⟨by decide +kernel, by decide +kernel⟩, List.mem_of_getElem? (i := 31) (by decide +kernel), List.mem_of_getElem? (i := 83) (by decide +kernel), List.mem_of_getElem? (i := 84) (by decide +kernel)⟩
theorem lw_p1 : lw_okq (⟨"java/util/ArrayList", "grow", "()[Ljava/lang/Object;"⟩, 3) := ⟨⟨by decide +kernel, by decide +kernel⟩, List.mem_of_getElem? (i := 31) (by decide +kernel), List.mem_of_getElem? (i := 87) (by decide +kernel), List.mem_of_getElem? (i := 88) (by decide +kernel)⟩
theorem lw_p2 : lw_okq (⟨"java/util/ArrayList", "grow", "(I)[Ljava/lang/Object;"⟩, 3) := ⟨⟨by decide +kernel, by decide +kernel⟩, List.mem_of_getElem? (i := 31) (by decide +kernel), List.mem_of_getElem? (i := 91) (by decide +kernel), List.mem_of_getElem? (i := 92) (by decide +kernel)⟩
theorem lw_p3 : lw_okq (⟨"HoldServer", "directoryNumbered", "(I)LHoldServer$Directory;"⟩, 4) := ⟨⟨by decide +kernel, by decide +kernel⟩, List.mem_of_getElem? (i := 23) (by decide +kernel), List.mem_of_getElem? (i := 191) (by decide +kernel), List.mem_of_getElem? (i := 192) (by decide +kernel)⟩
theorem lw_p4 : lw_okq (⟨"java/lang/Throwable", "fillInStackTrace", "(I)Ljava/lang/Throwable;"⟩, 6) := ⟨⟨by decide +kernel, by decide +kernel⟩, List.mem_of_getElem? (i := 233) (by decide +kernel), List.mem_of_getElem? (i := 231) (by decide +kernel), List.mem_of_getElem? (i := 232) (by decide +kernel)⟩
theorem lw_p5 : lw_okq (⟨"HoldServer", "departmentNumbered", "(I)LHoldServer$Department;"⟩, 4) := ⟨⟨by decide +kernel, by decide +kernel⟩, List.mem_of_getElem? (i := 23) (by decide +kernel), List.mem_of_getElem? (i := 327) (by decide +kernel), List.mem_of_getElem? (i := 328) (by decide +kernel)⟩
theorem lw_p6 : lw_okq (⟨"HoldServer", "fileNumbered", "(I)LHoldServer$StoredFile;"⟩, 4) := ⟨⟨by decide +kernel, by decide +kernel⟩, List.mem_of_getElem? (i := 23) (by decide +kernel), List.mem_of_getElem? (i := 385) (by decide +kernel), List.mem_of_getElem? (i := 386) (by decide +kernel)⟩
theorem lw_p7 : lw_okq (⟨"java/util/ArrayList", "fastRemove", "([Ljava/lang/Object;I)V"⟩, 3) := ⟨⟨by decide +kernel, by decide +kernel⟩, List.mem_of_getElem? (i := 31) (by decide +kernel), List.mem_of_getElem? (i := 430) (by decide +kernel), List.mem_of_getElem? (i := 431) (by decide +kernel)⟩
theorem lw_p8 : lw_okq (⟨"HoldServer", "startBringingBack", "(LHoldServer$StoredFile;)V"⟩, 4) := ⟨⟨by decide +kernel, by decide +kernel⟩, List.mem_of_getElem? (i := 23) (by decide +kernel), List.mem_of_getElem? (i := 465) (by decide +kernel), List.mem_of_getElem? (i := 466) (by decide +kernel)⟩
theorem lw_p9 : lw_okq (⟨"HoldServer", "payBills", "()I"⟩, 4) := ⟨⟨by decide +kernel, by decide +kernel⟩, List.mem_of_getElem? (i := 23) (by decide +kernel), List.mem_of_getElem? (i := 519) (by decide +kernel), List.mem_of_getElem? (i := 520) (by decide +kernel)⟩
theorem lw_p10 : lw_okq (⟨"HoldServerModel", "isDirectory", "(I)Z"⟩, 15) := ⟨⟨by decide +kernel, by decide +kernel⟩, List.mem_of_getElem? (i := 603) (by decide +kernel), List.mem_of_getElem? (i := 664) (by decide +kernel), List.mem_of_getElem? (i := 665) (by decide +kernel)⟩
theorem lw_p11 : lw_okq (⟨"HoldServerModel", "isFine", "(I)Z"⟩, 15) := ⟨⟨by decide +kernel, by decide +kernel⟩, List.mem_of_getElem? (i := 603) (by decide +kernel), List.mem_of_getElem? (i := 672) (by decide +kernel), List.mem_of_getElem? (i := 673) (by decide +kernel)⟩
theorem lw_p12 : lw_okq (⟨"HoldServerModel", "canGrow", "(III)Z"⟩, 15) := ⟨⟨by decide +kernel, by decide +kernel⟩, List.mem_of_getElem? (i := 603) (by decide +kernel), List.mem_of_getElem? (i := 687) (by decide +kernel), List.mem_of_getElem? (i := 688) (by decide +kernel)⟩
theorem lw_p13 : lw_okq (⟨"HoldServerModel", "usageOf", "(I)I"⟩, 15) := ⟨⟨by decide +kernel, by decide +kernel⟩, List.mem_of_getElem? (i := 603) (by decide +kernel), List.mem_of_getElem? (i := 691) (by decide +kernel), List.mem_of_getElem? (i := 692) (by decide +kernel)⟩
theorem lw_p14 : lw_okq (⟨"HoldServerModel", "homeOf", "(I)I"⟩, 15) := ⟨⟨by decide +kernel, by decide +kernel⟩, List.mem_of_getElem? (i := 603) (by decide +kernel), List.mem_of_getElem? (i := 695) (by decide +kernel), List.mem_of_getElem? (i := 696) (by decide +kernel)⟩
theorem lw_p15 : lw_okq (⟨"HoldServerModel", "isOver", "(II)Z"⟩, 15) := ⟨⟨by decide +kernel, by decide +kernel⟩, List.mem_of_getElem? (i := 603) (by decide +kernel), List.mem_of_getElem? (i := 699) (by decide +kernel), List.mem_of_getElem? (i := 700) (by decide +kernel)⟩
def lw_privs_1 : List (MethodName × Nat) := [(⟨"java/util/ArrayList", "add", "(Ljava/lang/Object;[Ljava/lang/Object;I)V"⟩, 3), (⟨"java/util/ArrayList", "grow", "()[Ljava/lang/Object;"⟩, 3), (⟨"java/util/ArrayList", "grow", "(I)[Ljava/lang/Object;"⟩, 3), (⟨"HoldServer", "directoryNumbered", "(I)LHoldServer$Directory;"⟩, 4), (⟨"java/lang/Throwable", "fillInStackTrace", "(I)Ljava/lang/Throwable;"⟩, 6), (⟨"HoldServer", "departmentNumbered", "(I)LHoldServer$Department;"⟩, 4), (⟨"HoldServer", "fileNumbered", "(I)LHoldServer$StoredFile;"⟩, 4), (⟨"java/util/ArrayList", "fastRemove", "([Ljava/lang/Object;I)V"⟩, 3), (⟨"HoldServer", "startBringingBack", "(LHoldServer$StoredFile;)V"⟩, 4), (⟨"HoldServer", "payBills", "()I"⟩, 4), (⟨"HoldServerModel", "isDirectory", "(I)Z"⟩, 15), (⟨"HoldServerModel", "isFine", "(I)Z"⟩, 15), (⟨"HoldServerModel", "canGrow", "(III)Z"⟩, 15), (⟨"HoldServerModel", "usageOf", "(I)I"⟩, 15), (⟨"HoldServerModel", "homeOf", "(I)I"⟩, 15), (⟨"HoldServerModel", "isOver", "(II)Z"⟩, 15)]
theorem lw_r1 : ∀ q ∈ lw_privs_1, lw_okq q := List.forall_mem_cons.mpr ⟨lw_p0, List.forall_mem_cons.mpr ⟨lw_p1, List.forall_mem_cons.mpr ⟨lw_p2, List.forall_mem_cons.mpr ⟨lw_p3, List.forall_mem_cons.mpr ⟨lw_p4, List.forall_mem_cons.mpr ⟨lw_p5, List.forall_mem_cons.mpr ⟨lw_p6, List.forall_mem_cons.mpr ⟨lw_p7, List.forall_mem_cons.mpr ⟨lw_p8, List.forall_mem_cons.mpr ⟨lw_p9, List.forall_mem_cons.mpr ⟨lw_p10, List.forall_mem_cons.mpr ⟨lw_p11, List.forall_mem_cons.mpr ⟨lw_p12, List.forall_mem_cons.mpr ⟨lw_p13, List.forall_mem_cons.mpr ⟨lw_p14, List.forall_mem_cons.mpr ⟨lw_p15, fun _ h => absurd h List.not_mem_nil⟩⟩⟩⟩⟩⟩⟩⟩⟩⟩⟩⟩⟩⟩⟩⟩
theorem lw_p16 : lw_okq (⟨"HoldServerModel", "isFile", "(I)Z"⟩, 15) := ⟨⟨by decide +kernel, by decide +kernel⟩, List.mem_of_getElem? (i := 603) (by decide +kernel), List.mem_of_getElem? (i := 707) (by decide +kernel), List.mem_of_getElem? (i := 708) (by decide +kernel)⟩
theorem lw_p17 : lw_okq (⟨"HoldServerModel", "linkTo", "(II)I"⟩, 15) := ⟨⟨by decide +kernel, by decide +kernel⟩, List.mem_of_getElem? (i := 603) (by decide +kernel), List.mem_of_getElem? (i := 711) (by decide +kernel), List.mem_of_getElem? (i := 712) (by decide +kernel)⟩
theorem lw_p18 : lw_okq (⟨"HoldServerModel", "tierOf", "(I)I"⟩, 15) := ⟨⟨by decide +kernel, by decide +kernel⟩, List.mem_of_getElem? (i := 603) (by decide +kernel), List.mem_of_getElem? (i := 723) (by decide +kernel), List.mem_of_getElem? (i := 724) (by decide +kernel)⟩
theorem lw_p19 : lw_okq (⟨"HoldServerModel", "goesDay", "()I"⟩, 15) := ⟨⟨by decide +kernel, by decide +kernel⟩, List.mem_of_getElem? (i := 603) (by decide +kernel), List.mem_of_getElem? (i := 751) (by decide +kernel), List.mem_of_getElem? (i := 752) (by decide +kernel)⟩
theorem lw_p20 : lw_okq (⟨"HoldServerModel", "billOf", "(I)I"⟩, 15) := ⟨⟨by decide +kernel, by decide +kernel⟩, List.mem_of_getElem? (i := 603) (by decide +kernel), List.mem_of_getElem? (i := 755) (by decide +kernel), List.mem_of_getElem? (i := 756) (by decide +kernel)⟩
def lw_privs_2 : List (MethodName × Nat) := [(⟨"HoldServerModel", "isFile", "(I)Z"⟩, 15), (⟨"HoldServerModel", "linkTo", "(II)I"⟩, 15), (⟨"HoldServerModel", "tierOf", "(I)I"⟩, 15), (⟨"HoldServerModel", "goesDay", "()I"⟩, 15), (⟨"HoldServerModel", "billOf", "(I)I"⟩, 15)]
theorem lw_r2 : ∀ q ∈ lw_privs_2, lw_okq q := List.forall_mem_cons.mpr ⟨lw_p16, List.forall_mem_cons.mpr ⟨lw_p17, List.forall_mem_cons.mpr ⟨lw_p18, List.forall_mem_cons.mpr ⟨lw_p19, List.forall_mem_cons.mpr ⟨lw_p20, fun _ h => absurd h List.not_mem_nil⟩⟩⟩⟩⟩
def lw_privs : List (MethodName × Nat) := lw_privs_1 ++ (lw_privs_2)
def lw_tbl : List Cond := k2_sels lw_privs ++ tables_1
theorem lw_privs_ok : ∀ q ∈ lw_privs, lw_okq q := by
  show ∀ q ∈ lw_privs_1 ++ (lw_privs_2), lw_okq q
  exact List.forall_mem_append.mpr ⟨lw_r1, lw_r2⟩
end
section
/-! ===== BEGIN words of one list among another's, by their places ===== -/
theorem goodIn_r {big : List Cond} (ws : List Cond) (ps : List Nat) (hp : ws = ps.filterMap (fun i => big[i]?)) (h : ws.all goodWord = true) : GoodIn big ws := by
  intro w hw
  have h1 := List.all_eq_true.mp h w hw
  rw [hp] at hw
  obtain ⟨i, -, hi⟩ := List.mem_filterMap.mp hw
  have hm : w ∈ big := by first | exact List.mem_of_getElem? hi | exact List.getElem?_mem hi
  exact ⟨hm, good_of_word h1⟩
theorem goodIn_app {big a b : List Cond} (ha : GoodIn big a) (hb : GoodIn big b) : GoodIn big (a ++ b) := fun w h => (List.mem_append.mp h).elim (ha w) (hb w)
theorem goodIn_ca {big a b : List Cond} {c : Cond} (ha : GoodIn big (c :: a)) (hb : GoodIn big b) : GoodIn big (c :: (a ++ b)) := fun w h => (List.mem_cons.mp h).elim (fun e => ha w (List.mem_cons.mpr (Or.inl e))) (fun h => (List.mem_append.mp h).elim (fun h => ha w (List.mem_cons.mpr (Or.inr h))) (hb w))
theorem goodIn_sub {big ws : List Cond} (hm : ∀ w ∈ ws, w ∈ big) (h : ws.all goodWord = true) : GoodIn big ws := fun w hw => ⟨hm w hw, good_of_word (List.all_eq_true.mp h w hw)⟩
/-! ===== END ===== -/

/-! ===== BEGIN exceptions that leave a method, and their catching by the caller (launches without stack traces) ===== -/
section VXA
/-! The laws vx_back, vx_callV, vx_callS, vx_callSW, vx_throw0, vx_throwS follow proofs of the library, with one case more: JvmDerived/Free/Laws.lean (Back.of_free), Shelf42/LK1.lean (callV, callS), Shelf/KitTraced.lean (throwNew0V, throwNewS). -/
/-- where a method has thrown q: the class by its name, the cell, what was written, the world -/
def vx_T (XC : String → State → State → Prop) (st : State) (q : Addr) (t : State) (mc ms : Nat) (free : Addr → Prop) : Prop :=
  ∃ (E : String) (ce : Cell) (L : List Loc), XC E st t ∧ t.heap[q]? = some ce ∧ ce.vm = .none ∧ st.vm.findClass E = some ce.cls ∧ st.WarmedH t.vm ∧ st.sameButNew ({ t with vm := st.vm } : State) L mc ms ∧ ∀ z ∈ L, free z.base
def vx_Q (Qc : Array Value → State → Outcome → State → Prop) (XC : String → State → State → Prop) (mc ms : Nat) (free : Addr → Prop) : Array Value → State → Outcome → State → Prop := fun a st o t =>
  (Qc a st o t ∧ ∃ L, FrameEnd st o t L mc ms ∧ ∀ q ∈ L, free q.base) ∨ ∃ q, o = .threw q ∧ vx_T XC st q t mc ms free
/-- a callee that returns or throws -/
def vx_Met (l : Launch) (y : MethodName) (ws : List Cond) (rm : Room) (Pc : Array Value → State → Prop) (Qc : Array Value → State → Outcome → State → Prop) (XC : String → State → State → Prop) (mc ms : Nat) (free : Addr → Prop) : Prop :=
  MetFree l y (headSpec ws rm) Pc (fun _ _ _ _ _ => True) (vx_Q Qc XC mc ms free)
def vx_Post (XC : String → State → State → Prop) (mc ms : Nat) (free : Addr → Prop) : Pt → Array Value → Addr → Pt → Prop := fun A a q B =>
  ∃ (g : JFrame) (mk : MethodId) (t : State) (L : List Loc) (E : String) (ce : Cell), B.U.heap = t.heap ∧ B.U.vm = t.vm ∧ XC E (A.U.calling g mk a) t ∧ t.heap[q]? = some ce ∧ ce.vm = .none ∧ A.U.vm.findClass E = some ce.cls ∧ B.locs = A.locs ++ L ∧ (∀ z ∈ L, free z.base) ∧ B.cells = A.cells + mc ∧ B.slots = A.slots + ms
def vx_Back (l : Launch) (R : Room) (p : Program) (e : Env) (below : List Frame) (s : State) (sargs : Array Value) (y : MethodName) (len W9 : Nat)
    (Pre : Pt → Array Value → Prop) (Post : Pt → Array Value → Option Value → Pt → Prop) (PostX : Pt → Array Value → Addr → Pt → Prop) : Prop :=
  ∀ (m : MethodId) (meth : Method) (c : Code) (A : Pt) (g : JFrame) (ig : Instr) (mk : MethodId) (a : Array Value),
    Stand p l e R s m sargs below meth c A.U A.locs A.cells A.slots → g.method = m → g.locals.size = c.maxLocals → decode c.code g.pc = .ok (ig, len) →
    2 * g.monitorRoom + (g.stack.map fun v => v.category).sum ≤ W9 → A.U.methodNamed? y = some mk → Pre A a →
    (∃ (v : Option Value) (B : Pt), Stand p l e R s m sargs below meth c B.U B.locs B.cells B.slots ∧ Post A a v B ∧
      Steps p.tables e below (doInvoke e (A.U.setTop g) [] mk a).1 (B.U.setTop { g with pc := g.pc + len, stack := v.toList ++ g.stack })) ∨
    (∃ (q : Addr) (B : Pt), Stand p l e R s m sargs below meth c B.U B.locs B.cells B.slots ∧ PostX A a q B ∧
      Steps p.tables e below (doInvoke e (A.U.setTop g) [] mk a).1 ((B.U.setTop g).pushFrame (.throwing q)))
section Payer
variable {l : Launch} {R : Room} {p : Program} {e : Env} {below : List Frame} {s : State} {sargs : Array Value} {y : MethodName} {len W9 : Nat}
theorem vx_back {ws : List Cond} {rm : Room} {Pc : Array Value → State → Prop} {Qc : Array Value → State → Outcome → State → Prop} {XC : String → State → State → Prop} {mc ms : Nat} {free : Addr → Prop} {bytes : ByteArray} {maxL : Nat} {ret : Option FieldType}
    (hM : vx_Met l y ws rm Pc Qc XC mc ms free) (hblind : FrameBlind Pc) (hrc : rm.cells = mc) (hrs : rm.slots = ms)
    (hframes : rm.frames + 1 ≤ R.frames) (hlocals : W9 + (maxL + 11) + rm.locals ≤ R.locals)
    (hws : ∀ w ∈ ws, ∀ a' U, s.WarmedH U.vm → w.before a' U = true) (hcode : Cond.code y bytes maxL ret ∈ ws) (hinit : ∀ a' U, s.WarmedH U.vm → (Cond.initialized y.cls).before a' U = true) :
    vx_Back l R p e below s sargs y len W9 (PreOf R mc ms Pc) (PostOf Qc mc ms free) (vx_Post XC mc ms free) := by
  intro m meth c A g ig mk a X hg hsize hdg hW hn hp
  have h1 : (headSpec ws rm).pre.before a A.U = true := atoms_intro fun w hw => hws w hw _ _ X.warmed
  have h2 : (Cond.code y bytes maxL ret).before a A.U = true := hws _ hcode _ _ X.warmed
  have h3 : (Cond.initialized y.cls).before a A.U = true := hinit _ _ X.warmed
  have h4 : A.cells + (headSpec ws rm).room.cells ≤ R.cells := by rw [show (headSpec ws rm).room.cells = mc from hrc]; exact hp.1
  have h5 : A.slots + (headSpec ws rm).room.slots ≤ R.slots := by rw [show (headSpec ws rm).room.slots = ms from hrs]; exact hp.2.1
  have hPc : Pc a (A.U.calling g mk a) := hblind _ _ _ _ hp.2.2
  obtain ⟨U, Ls, c0, s0⟩ := A
  dsimp only [Pt.U, Pt.locs, Pt.cells, Pt.slots] at h1 h2 h3 h4 h5 X hn hPc ⊢
  obtain ⟨methY, cY, hmY, hcY, -, hlY, -, -, -, -⟩ := Cond.code_spec hn h2
  obtain ⟨kY, hkY, -⟩ := className_of_methodNamed hn
  have hinitY : kY.init = .initialized := Cond.initialized_spec (findClass_of_methodNamed hn) hkY h3
  have h : At U g.method c below := by rw [hg]; exact X.here
  have hlocals9 : W9 + (maxL + 11) + (headSpec ws rm).room.locals ≤ R.locals := hlocals
  have happ : (headSpec ws rm).appliesLoose y e.platform (U.calling g mk a) = true :=
    Spec.appliesLoose_calling (g := g) h hdg hn hkY hinitY
      (X.room_calling (g := g) (R' := (headSpec ws rm).room) hsize hmY hcY hframes (by rw [hlY]; omega) h4 h5) h1
  obtain ⟨mid, hmid⟩ := h.above
  have hfr : (U.setTop g).frames = (.java g :: mid) ++ below := by rw [State.frames_setTop' g h.top, hmid]; rfl
  obtain ⟨o, s₂, hsteps, -, hend, hq⟩ := Steps.callFree hM p X.admits X.cas X.clock (acts := []) hfr happ hPc trivial
  have hq' : vx_Q Qc XC mc ms free a (U.calling g mk a) o s₂ := hq
  rw [State.frames_setTop' g h.top] at hend
  obtain ⟨g₀, hg0⟩ := Option.isSome_iff_exists.mp h.top
  obtain ⟨r, hr⟩ := State.topJava?_eq_some.mp hg0
  have hr' : (({ U with heap := s₂.heap, slotsUsed := s₂.slotsUsed } : State).setVm s₂.vm).frames = .java g₀ :: r := hr
  rcases hq' with ⟨hqc, L, hfe, hL⟩ | ⟨q, rfl, E, ce, L, hx, hce, hcv, hcl, hW₂, hsm, hL⟩
  · obtain ⟨⟨v, rfl⟩, hW₂, e2, q2, q3, q4, q5, q6⟩ := id hfe
    have e3 : s₂ = ({ (U.calling g mk a).setFrames s₂.frames with heap := s₂.heap, slotsUsed := s₂.slotsUsed } : State).setVm s₂.vm := by
      have : s₂ = ({ s₂ with vm := (U.calling g mk a).vm } : State).setVm s₂.vm := rfl
      rw [e2] at this
      exact this
    obtain ⟨c₂, i₂, len₂, hc₂, hd₂, hf₂⟩ := hend
    have hW' : U.WarmedH s₂.vm := hW₂
    have hcc : c₂ = c := by
      have h1 : s₂.code? g.method = U.code? g.method := by
        rw [State.code?_eq, State.code?_eq, hW'.alike.method?]
      exact Option.some.inj (hc₂.symm.trans (h1.trans h.code))
    subst hcc
    have hlen : len₂ = len := by rw [hdg] at hd₂; cases hd₂; rfl
    subst hlen
    have hs₂ : s₂ = (({ U with heap := s₂.heap, slotsUsed := s₂.slotsUsed } : State).setVm s₂.vm).setTop { g with pc := g.pc + len₂, stack := v.toList ++ g.stack } := by
      refine e3.trans ?_
      rw [hf₂, State.calling_eq h.top, State.setFrames_setFrames, State.setTop_of_frames _ hr', hr]
      rfl
    have hsame : U.sameButNew ({ U with heap := s₂.heap, slotsUsed := s₂.slotsUsed } : State) L mc ms := by
      refine ⟨?_, q2, q3, q4, q5, q6⟩
      obtain ⟨t, ht, -⟩ := State.frames_cons hr
      show ({ U with heap := s₂.heap, slotsUsed := s₂.slotsUsed } : State) = { U.setFrames U.frames with heap := s₂.heap, slotsUsed := s₂.slotsUsed }
      rw [State.setFrames_self ht]
    subst hg
    refine Or.inl ⟨v, ⟨(({ U with heap := s₂.heap, slotsUsed := s₂.slotsUsed } : State).setVm s₂.vm), Ls ++ L, c0 + mc, s0 + ms⟩,
      ⟨X.admits, X.cas, X.clock, X.frames, X.room, X.hears, X.method, X.code, (X.here.setHeapUsed s₂.heap s₂.slotsUsed).setVm hW'.alike, X.tail, State.WarmedH.trans X.warmed hW', X.limits, X.bytes, X.same.trans (hsame.setVm s.vm)⟩,
      ⟨g, mk, s₂, L, rfl, rfl, hqc, rfl, hL, rfl, rfl⟩, ?_⟩
    show Steps p.tables e below _ ((({ U with heap := s₂.heap, slotsUsed := s₂.slotsUsed } : State).setVm s₂.vm).setTop { g with pc := g.pc + len₂, stack := v.toList ++ g.stack })
    rw [← hs₂]
    exact hsteps
  · obtain ⟨e2, q2, q3, q4, q5, q6⟩ := id hsm
    have e3 : s₂ = ({ (U.calling g mk a).setFrames s₂.frames with heap := s₂.heap, slotsUsed := s₂.slotsUsed } : State).setVm s₂.vm := by
      have : s₂ = ({ s₂ with vm := (U.calling g mk a).vm } : State).setVm s₂.vm := rfl
      rw [e2] at this
      exact this
    have hf₂ : s₂.frames = .throwing q :: .java g :: U.frames.tail := hend
    have hW' : U.WarmedH s₂.vm := hW₂
    have hs₂ : s₂ = ((({ U with heap := s₂.heap, slotsUsed := s₂.slotsUsed } : State).setVm s₂.vm).setTop g).pushFrame (.throwing q) := by
      refine e3.trans ?_
      rw [hf₂, State.calling_eq h.top, State.setFrames_setFrames, State.pushFrame, State.frames_setTop _ hr', State.setTop_of_frames _ hr', State.setFrames_setFrames, hr]
      rfl
    have hsame : U.sameButNew ({ U with heap := s₂.heap, slotsUsed := s₂.slotsUsed } : State) L mc ms := by
      refine ⟨?_, q2, q3, q4, q5, q6⟩
      obtain ⟨t, ht, -⟩ := State.frames_cons hr
      show ({ U with heap := s₂.heap, slotsUsed := s₂.slotsUsed } : State) = { U.setFrames U.frames with heap := s₂.heap, slotsUsed := s₂.slotsUsed }
      rw [State.setFrames_self ht]
    subst hg
    refine Or.inr ⟨q, ⟨(({ U with heap := s₂.heap, slotsUsed := s₂.slotsUsed } : State).setVm s₂.vm), Ls ++ L, c0 + mc, s0 + ms⟩,
      ⟨X.admits, X.cas, X.clock, X.frames, X.room, X.hears, X.method, X.code, (X.here.setHeapUsed s₂.heap s₂.slotsUsed).setVm hW'.alike, X.tail, State.WarmedH.trans X.warmed hW', X.limits, X.bytes, X.same.trans (hsame.setVm s.vm)⟩,
      ⟨g, mk, s₂, L, E, ce, rfl, rfl, hx, hce, hcv, hcl, rfl, hL, rfl, rfl⟩, ?_⟩
    show Steps p.tables e below _ (((({ U with heap := s₂.heap, slotsUsed := s₂.slotsUsed } : State).setVm s₂.vm).setTop g).pushFrame (.throwing q))
    rw [← hs₂]
    exact hsteps
end Payer
section Calls
variable {p : Program} {l : Launch} {e : Env} {R : Room} {s : State} {m : MethodId} {args : Array Value} {below : List Frame} {meth : Method} {c : Code} {T : State} {locs : List Loc} {cells slots : Nat}
theorem vx_callV (X : Stand p l e R s m args below meth c T locs cells slots) (hexec : p.tables.exec = Jvm.exec) {own C : String} {index : Nat} {y : MethodName} {bytes : ByteArray} {maxL : Nat} {ret : Option FieldType}
    (hown : s.vm.findClass own = some m.cls) (hlink : (Cond.methodLink own index y).before args s = true) (hinst : (Cond.instanceMethod y).before args s = true) (hsel : (Cond.selects C y y).before args s = true)
    (hcode : (Cond.code y bytes maxL ret).before args s = true) (hy : y.cls ≠ "java/lang/invoke/MethodHandle" ∧ y.cls ≠ "java/lang/invoke/VarHandle")
    {W9 : Nat} {Pre : Pt → Array Value → Prop} {Post : Pt → Array Value → Option Value → Pt → Prop} {PostX : Pt → Array Value → Addr → Pt → Prop} (hK : vx_Back l R p e below s args y 3 W9 Pre Post PostX)
    {b : Addr} {cellB : Cell} (hcell : T.heap[b]? = some cellB) (hobj : cellB.vm.isStatics = false) (hcls : s.vm.findClass C = some cellB.cls)
    {g : JFrame} (hg : g.method = m) (hsize : g.locals.size = c.maxLocals) {argsL rest : List Value} (hlen : ∀ sig, parseMethodDescriptor y.desc = some sig → argsL.length = sig.parameters.length)
    (hstack : g.stack = argsL.reverse ++ .ref b :: rest) (hW : 2 * g.monitorRoom + (rest.map fun v => v.category).sum ≤ W9) (hdg : decode c.code g.pc = .ok (.invokevirtual index, 3))
    (hpre : ∀ vm₁, s.WarmedH vm₁ → Pre ⟨T.setVm vm₁, locs, cells, slots⟩ (Value.ref b :: argsL).toArray) :
    (∃ (v : Option Value) (vm₁ : Vm) (B : Pt), s.WarmedH vm₁ ∧ Stand p l e R s m args below meth c B.U B.locs B.cells B.slots ∧ Post ⟨T.setVm vm₁, locs, cells, slots⟩ (Value.ref b :: argsL).toArray v B ∧
      ∀ target, Steps p.tables e below (B.U.setTop { g with pc := g.pc + 3, stack := v.toList ++ rest }) target → Steps p.tables e below (T.setTop g) target) ∨
    (∃ (q : Addr) (vm₁ : Vm) (B : Pt), s.WarmedH vm₁ ∧ Stand p l e R s m args below meth c B.U B.locs B.cells B.slots ∧ PostX ⟨T.setVm vm₁, locs, cells, slots⟩ (Value.ref b :: argsL).toArray q B ∧
      Steps p.tables e below (T.setTop g) ((B.U.setTop { g with stack := rest }).pushFrame (.throwing q))) := by
  obtain ⟨mk, methM, hnamed, hmethM, hstM, habM⟩ := Cond.instanceMethod_spec hinst
  obtain ⟨methM', cM, hmethM', -, -, -, -, -, -, hsigM⟩ := Cond.code_spec hnamed hcode
  cases hmethM.symm.trans hmethM'
  obtain ⟨c2, r2, m2, q1, q2, q3, q4, kP, hkP, hkPi⟩ := Cond.selects_spec hsel
  cases hcls.symm.trans q1
  cases (State.methodFound?_of_named hnamed hy).symm.trans q2
  cases hnamed.symm.trans q3
  have hselP : selectMethod e.platform s.vm cellB.cls mk = .method mk := by rw [Launch.admits_selectMethod X.admits]; exact q4
  obtain ⟨vm₁, X₁, hstep₁⟩ := X.invokevirtual hexec hown hlink hnamed hmethM hstM hkP hkPi hy (a := b) (cell := cellB) hcell
    (fun z h => by rw [h] at hobj; cases hobj) hselP hmethM habM hkP hkPi (g := g) hg (argsL := argsL) (rest := rest) (hlen _ hsigM) hstack hdg
  rcases hK m meth c ⟨T.setVm vm₁, locs, cells, slots⟩ { g with stack := rest } (.invokevirtual index) mk (Value.ref b :: argsL).toArray X₁ hg hsize hdg hW (X₁.named hnamed) (hpre vm₁ X₁.warmed) with ⟨v, B, X', hpost, hsteps⟩ | ⟨q, B, X', hpost, hsteps⟩
  · exact Or.inl ⟨v, vm₁, B, X₁.warmed, X', hpost, fun target h => hstep₁ _ fun acts => by rw [doInvoke_state]; exact hsteps.trans h⟩
  · exact Or.inr ⟨q, vm₁, B, X₁.warmed, X', hpost, hstep₁ _ fun acts => by rw [doInvoke_state]; exact hsteps⟩
theorem vx_callS (X : Stand p l e R s m args below meth c T locs cells slots) (hexec : p.tables.exec = Jvm.exec) {own : String} {index : Nat} {y : MethodName} {bytes : ByteArray} {maxL : Nat} {ret : Option FieldType}
    (hown : s.vm.findClass own = some m.cls) (hlink : (Cond.methodLink own index y).before args s = true) (hstat : (Cond.static y).before args s = true) (hinit : (Cond.initialized y.cls).before args s = true)
    (hcode : (Cond.code y bytes maxL ret).before args s = true) (hy : y.cls ≠ "java/lang/invoke/MethodHandle" ∧ y.cls ≠ "java/lang/invoke/VarHandle")
    {W9 : Nat} {Pre : Pt → Array Value → Prop} {Post : Pt → Array Value → Option Value → Pt → Prop} {PostX : Pt → Array Value → Addr → Pt → Prop} (hK : vx_Back l R p e below s args y 3 W9 Pre Post PostX)
    {g : JFrame} (hg : g.method = m) (hsize : g.locals.size = c.maxLocals) {argsL rest : List Value} (hlen : ∀ sig, parseMethodDescriptor y.desc = some sig → argsL.length = sig.parameters.length)
    (hstack : g.stack = argsL.reverse ++ rest) (hW : 2 * g.monitorRoom + (rest.map fun v => v.category).sum ≤ W9) (hdg : decode c.code g.pc = .ok (.invokestatic index, 3))
    (hpre : ∀ vm₁, s.WarmedH vm₁ → Pre ⟨T.setVm vm₁, locs, cells, slots⟩ argsL.toArray) :
    (∃ (v : Option Value) (vm₁ : Vm) (B : Pt), s.WarmedH vm₁ ∧ Stand p l e R s m args below meth c B.U B.locs B.cells B.slots ∧ Post ⟨T.setVm vm₁, locs, cells, slots⟩ argsL.toArray v B ∧
      ∀ target, Steps p.tables e below (B.U.setTop { g with pc := g.pc + 3, stack := v.toList ++ rest }) target → Steps p.tables e below (T.setTop g) target) ∨
    (∃ (q : Addr) (vm₁ : Vm) (B : Pt), s.WarmedH vm₁ ∧ Stand p l e R s m args below meth c B.U B.locs B.cells B.slots ∧ PostX ⟨T.setVm vm₁, locs, cells, slots⟩ argsL.toArray q B ∧
      Steps p.tables e below (T.setTop g) ((B.U.setTop { g with stack := rest }).pushFrame (.throwing q))) := by
  obtain ⟨mk, hnamed⟩ := Cond.code_named hcode
  obtain ⟨methM, cM, hmethM, -, -, -, -, -, -, hsigM⟩ := Cond.code_spec hnamed hcode
  have hstatic : methM.isStatic = true := Cond.static_spec hnamed hmethM hstat
  obtain ⟨kP, hkP, -⟩ := className_of_methodNamed hnamed
  have hinitP : kP.init = .initialized := Cond.initialized_spec (findClass_of_methodNamed hnamed) hkP hinit
  obtain ⟨vm₁, X₁, hstep₁⟩ := X.invokestatic hexec hown hlink hnamed hmethM hstatic hkP hinitP hy (g := g) hg (argsL := argsL) (rest := rest) (hlen _ hsigM) hstack hdg
  rcases hK m meth c ⟨T.setVm vm₁, locs, cells, slots⟩ { g with stack := rest } (.invokestatic index) mk argsL.toArray X₁ hg hsize hdg hW (X₁.named hnamed) (hpre vm₁ X₁.warmed) with ⟨v, B, X', hpost, hsteps⟩ | ⟨q, B, X', hpost, hsteps⟩
  · exact Or.inl ⟨v, vm₁, B, X₁.warmed, X', hpost, fun target h => hstep₁ _ fun acts => by rw [doInvoke_state]; exact hsteps.trans h⟩
  · exact Or.inr ⟨q, vm₁, B, X₁.warmed, X', hpost, hstep₁ _ fun acts => by rw [doInvoke_state]; exact hsteps⟩
end Calls
theorem vx_cls {s : State} {T : State} {vm₁ : Vm} {E : String} {k : ClassId} (hW : s.WarmedH vm₁) (h : (T.setVm vm₁).vm.findClass E = some k) : s.vm.findClass E = some k := by
  have h1 : vm₁.findClass E = some k := h
  rw [hW.alike.findClass] at h1
  exact h1
/-- the method's frame g, with q thrown over it -/
def vx_W (p : Program) (l : Launch) (e : Env) (R : Room) (s : State) (m : MethodId) (args : Array Value) (below : List Frame) (meth : Method) (c : Code) (H : Heap) (locs : List Loc) (cells slots : Nat) (Q : State → Prop) (g : JFrame) (q : Addr) : Prop :=
  ∀ T : State, T.heap = H → Stand p l e R s m args below meth c T locs cells slots → ∃ t, Steps p.tables e below ((T.setTop g).pushFrame (.throwing q)) t ∧ Q t
def vx_Run (p : Program) (l : Launch) (e : Env) (R : Room) (s : State) (m : MethodId) (args : Array Value) (below : List Frame) (meth : Method) (c : Code) (H : Heap) (locs : List Loc) (cells slots mc ms : Nat) (g : JFrame) (rest : List Value) (Qa : State → Outcome → State → Prop) (XC : String → State → State → Prop) (free : Addr → Prop) : Prop :=
  ∀ T : State, T.heap = H → Stand p l e R s m args below meth c T locs cells slots →
    (∃ (v : Option Value) (st₀ t T' : State) (L : List Loc), st₀.heap = H ∧ Stand p l e R s m args below meth c T' (locs ++ L) (cells + mc) (slots + ms) ∧ (∀ q ∈ L, free q.base) ∧ T'.heap = t.heap ∧ T'.vm = t.vm ∧ Qa st₀ (.returned v) t ∧
      Goes p e below T g T' { g with pc := g.pc + 3, stack := v.toList ++ rest }) ∨
    (∃ (q : Addr) (st₀ t T' : State) (L : List Loc) (E : String) (ce : Cell), st₀.heap = H ∧ Stand p l e R s m args below meth c T' (locs ++ L) (cells + mc) (slots + ms) ∧ (∀ z ∈ L, free z.base) ∧ T'.heap = t.heap ∧ T'.vm = t.vm ∧ XC E st₀ t ∧ t.heap[q]? = some ce ∧ ce.vm = .none ∧ s.vm.findClass E = some ce.cls ∧
      Steps p.tables e below (T.setTop g) ((T'.setTop { g with stack := rest }).pushFrame (.throwing q)))
def vx_X {S : Type} (px : S → Prop) (B : String → S → State → Prop) (A : Nat → Prop) : String → State → State → Prop := fun E st t => ∃ u : S, px u ∧ B E u t ∧ va_F A st t
section Runs
variable {p : Program} {l : Launch} {e : Env} {R : Room} {s : State} {m : MethodId} {args : Array Value} {below : List Frame} {meth : Method} {c : Code} {H : Heap} {locs : List Loc} {cells slots : Nat}
variable {y : MethodName} {bytes cc : ByteArray} {maxL nL mc ms n index : Nat} {ret : Option FieldType} {ws : List Cond} {rm : Room} {Pc : Array Value → State → Prop} {Qc : Array Value → State → Outcome → State → Prop} {XC : String → State → State → Prop} {free : Addr → Prop} {Ts : List Cond} {own C : String} {b : Addr} {As rest : List Value} {g : JFrame}
theorem vx_callBack (cb : CallB R s args own index y bytes maxL ret ws rm mc ms n) (hM : vx_Met l y ws rm Pc Qc XC mc ms free) (hbl : FrameBlind Pc) : vx_Back l R p e below s args y 3 8 (PreOf R mc ms Pc) (PostOf Qc mc ms free) (vx_Post XC mc ms free) := by
  obtain ⟨hrc, hrs, hfr, hlo, hws, hcw, -, hini, -⟩ := cb
  exact vx_back (bytes := bytes) (maxL := maxL) (ret := ret) hM hbl hrc hrs hfr hlo hws hcw (fun a' U hW => word_at hW (Or.inl (by first | rfl | simp [Cond.onTables, Cond.keeps, Cond.steady])) hini)
theorem vx_runV (S : CallFix p m c cc nL s args Ts own) (hM : vx_Met l y ws rm Pc Qc XC mc ms free) (cw : CallW R s args own C index y bytes maxL ret ws rm mc ms n) (hp : PreV s H C b Pc As)
    (hg : g.method = m) (hn : As.length = n) (hsize : g.locals.size = nL) (hstack : g.stack = As.reverse ++ .ref b :: rest) (hW : 2 * g.monitorRoom + (rest.map fun v => v.category).sum ≤ 8) (hdg : decode cc g.pc = .ok (.invokevirtual index, 3)) (hf : cells + mc ≤ R.cells ∧ slots + ms ≤ R.slots) :
    vx_Run p l e R s m args below meth c H locs cells slots mc ms g rest (Qc (Value.ref b :: As).toArray) XC free := by
  have hK : vx_Back l R p e below s args y 3 8 (PreOf R mc ms Pc) (PostOf Qc mc ms free) (vx_Post XC mc ms free) := vx_callBack cw.1 hM hp.1
  obtain ⟨⟨-, -, -, -, -, -, hcode, -, hy, hlen, hl⟩, hin, hse⟩ := cw
  obtain ⟨hx, hb, hml, ho, -⟩ := S
  obtain ⟨-, ⟨cellB, hcB, hoB, hclB⟩, hPc⟩ := hp
  intro T hT X
  rcases vx_callV X hx (C := C) (bytes := bytes) (maxL := maxL) (ret := ret) ho hl hin hse hcode hy hK (by rw [hT]; exact hcB) hoB hclB hg (hsize.trans hml.symm) (argsL := As) (rest := rest) (fun sig h => hn.trans (hlen sig h)) hstack hW (by rw [hb]; exact hdg)
    (fun vm₁ hW₁ => ⟨hf.1, hf.2, hPc (T.setVm vm₁) hT hW₁⟩) with ⟨v, vm₁, ⟨U', l2, c2, s2⟩, hW₁, X', ⟨g', mk, t, L, e1, e2, hq, h1, hL, h2, h3⟩, st⟩ | ⟨q, vm₁, ⟨U', l2, c2, s2⟩, hW₁, X', ⟨g', mk, t, L, E, ce, e1, e2, hq, hce, hcv, hcl, h1, hL, h2, h3⟩, st⟩
  · dsimp only [Pt.U, Pt.locs, Pt.cells, Pt.slots] at X' e1 e2 h1 h2 h3 st
    subst h1; subst h2; subst h3
    exact Or.inl ⟨v, (T.setVm vm₁).calling g' mk (Value.ref b :: As).toArray, t, U', L, hT, X', hL, e1, e2, hq, st⟩
  · dsimp only [Pt.U, Pt.locs, Pt.cells, Pt.slots] at X' e1 e2 h1 h2 h3 st hcl
    subst h1; subst h2; subst h3
    exact Or.inr ⟨q, (T.setVm vm₁).calling g' mk (Value.ref b :: As).toArray, t, U', L, E, ce, hT, X', hL, e1, e2, hq, hce, hcv, vx_cls hW₁ hcl, st⟩
theorem vx_runS (S : CallFix p m c cc nL s args Ts own) (hM : vx_Met l y ws rm Pc Qc XC mc ms free) (cw : CallB R s args own index y bytes maxL ret ws rm mc ms n ∧ (Cond.static y).before args s = true) (hp : PreS s H Pc As)
    (hg : g.method = m) (hn : As.length = n) (hsize : g.locals.size = nL) (hstack : g.stack = As.reverse ++ rest) (hW : 2 * g.monitorRoom + (rest.map fun v => v.category).sum ≤ 8) (hdg : decode cc g.pc = .ok (.invokestatic index, 3)) (hf : cells + mc ≤ R.cells ∧ slots + ms ≤ R.slots) :
    vx_Run p l e R s m args below meth c H locs cells slots mc ms g rest (Qc As.toArray) XC free := by
  have hK : vx_Back l R p e below s args y 3 8 (PreOf R mc ms Pc) (PostOf Qc mc ms free) (vx_Post XC mc ms free) := vx_callBack cw.1 hM hp.1
  obtain ⟨⟨-, -, -, -, -, -, hcode, hini, hy, hlen, hl⟩, hstt⟩ := cw
  obtain ⟨hx, hb, hml, ho, -⟩ := S
  intro T hT X
  rcases vx_callS X hx (bytes := bytes) (maxL := maxL) (ret := ret) ho hl hstt hini hcode hy hK hg (hsize.trans hml.symm) (argsL := As) (rest := rest) (fun sig h => hn.trans (hlen sig h)) hstack hW (by rw [hb]; exact hdg)
    (fun vm₁ hW₁ => ⟨hf.1, hf.2, hp.2 (T.setVm vm₁) hT hW₁⟩) with ⟨v, vm₁, ⟨U', l2, c2, s2⟩, hW₁, X', ⟨g', mk, t, L, e1, e2, hq, h1, hL, h2, h3⟩, st⟩ | ⟨q, vm₁, ⟨U', l2, c2, s2⟩, hW₁, X', ⟨g', mk, t, L, E, ce, e1, e2, hq, hce, hcv, hcl, h1, hL, h2, h3⟩, st⟩
  · dsimp only [Pt.U, Pt.locs, Pt.cells, Pt.slots] at X' e1 e2 h1 h2 h3 st
    subst h1; subst h2; subst h3
    exact Or.inl ⟨v, (T.setVm vm₁).calling g' mk As.toArray, t, U', L, hT, X', hL, e1, e2, hq, st⟩
  · dsimp only [Pt.U, Pt.locs, Pt.cells, Pt.slots] at X' e1 e2 h1 h2 h3 st hcl
    subst h1; subst h2; subst h3
    exact Or.inr ⟨q, (T.setVm vm₁).calling g' mk As.toArray, t, U', L, E, ce, hT, X', hL, e1, e2, hq, hce, hcv, vx_cls hW₁ hcl, st⟩
end Runs
section Rows
variable {p : Program} {l : Launch} {e : Env} {R : Room} {s : State} {m : MethodId} {args : Array Value} {below : List Frame} {meth : Method} {c : Code} {H : Heap} {locs : List Loc} {cells slots : Nat} {Q : State → Prop}
variable {mc ms : Nat} {free : Addr → Prop} {A0 A1 : Nat → Prop} {H0 : Heap} {a : Array Value} {pc : Nat} {ls : Array Slot} {st0 rest : List Value}
theorem vx_keep {st₀ t T' : State} {L : List Loc} (h0 : st₀.heap = H) (e1 : T'.heap = t.heap) (hS : va_S A0 H0 H locs) (hA : ∀ q, q < H.size → A1 q → A0 q) (hf : ∀ q, free q → A0 q) (hL : ∀ q ∈ L, free q.base) (hF : va_F A1 st₀ t) :
    H.size ≤ T'.heap.size ∧ (∀ q : Nat, q < H.size → ¬ A1 q → T'.heap[q]? = H[q]?) ∧ va_S A0 H0 T'.heap (locs ++ L) := by
  obtain ⟨hz, hk⟩ := hF
  rw [h0] at hz hk
  exact ⟨by rw [e1]; exact hz, fun q h1 h2 => by rw [e1]; exact hk q h1 h2,
    ⟨Nat.le_trans hS.1 (by rw [e1]; exact hz), fun q h1 h2 => by rw [e1, hk q (Nat.lt_of_lt_of_le h1 hS.1) (fun z => h2 (hA q (Nat.lt_of_lt_of_le h1 hS.1) z))]; exact hS.2.1 q h1 h2, fun q hq => by
      rcases List.mem_append.mp hq with h | h
      · exact hS.2.2 q h
      · exact hf _ (hL q h)⟩⟩
theorem vx_calli {S SX : Type} {post : Int32 → S → Prop} {px : SX → Prop} {B : S → State → Prop} {BX : String → SX → State → Prop} {AX : Nat → Prop} (hr : vx_Run p l e R s m args below meth c H locs cells slots mc ms (F0 m pc ls st0) rest (va_Qi post B A1 a) (vx_X px BX AX) free) (hS : va_S A0 H0 H locs) (hA : ∀ q, q < H.size → A1 q → A0 q) (hf : ∀ q, free q → A0 q) (hAX : ∀ q, q < H.size → AX q → A0 q)
    (kx : ∀ (E : String) (ce : Cell) (q9 : Addr) (u : SX) (t : State) (H1 : Heap) (locs1 : List Loc), t.heap = H1 → s.vm.Alike t.vm → px u → BX E u t → H.size ≤ H1.size → (∀ q : Nat, q < H.size → ¬ AX q → H1[q]? = H[q]?) → va_S A0 H0 H1 locs1 → H1[q9]? = some ce → ce.vm = .none → s.vm.findClass E = some ce.cls → vx_W p l e R s m args below meth c H1 locs1 (cells + mc) (slots + ms) Q (F0 m pc ls rest) q9)
    (kk : ∀ (r : Int32) (u : S) (t : State) (H1 : Heap) (locs1 : List Loc), t.heap = H1 → s.vm.Alike t.vm → post r u → B u t → H.size ≤ H1.size → (∀ q : Nat, q < H.size → ¬ A1 q → H1[q]? = H[q]?) → va_S A0 H0 H1 locs1 → W p l e R s m args below meth c H1 locs1 (cells + mc) (slots + ms) Q (F0 m (pc + 3) ls (.int r :: rest))) : W p l e R s m args below meth c H locs cells slots Q (F0 m pc ls st0) := by
  intro T hT X
  rcases hr T hT X with ⟨v, st₀, t, T', L, h0, X', hL, e1, e2, ⟨⟨r, u, hv, hp, hb⟩, hF⟩, st⟩ | ⟨q, st₀, t, T', L, E, ce, h0, X', hL, e1, e2, ⟨u, hp, hb, hF⟩, hce, hcv, hcl, st⟩
  · cases hv
    obtain ⟨k1, k2, k3⟩ := vx_keep h0 e1 hS hA hf hL hF
    obtain ⟨t2, a1, b1⟩ := kk r u t T'.heap (locs ++ L) e1.symm (by rw [← e2]; exact X'.warmed.alike) hp hb k1 k2 k3 T' rfl X'
    exact ⟨t2, st t2 a1, b1⟩
  · obtain ⟨k1, k2, k3⟩ := vx_keep h0 e1 hS hAX hf hL hF
    obtain ⟨t2, a1, b1⟩ := kx E ce q u t T'.heap (locs ++ L) e1.symm (by rw [← e2]; exact X'.warmed.alike) hp hb k1 k2 k3 (by rw [e1]; exact hce) hcv hcl T' rfl X'
    exact ⟨t2, st.trans a1, b1⟩
theorem vx_calll {S SX : Type} {post : Int64 → S → Prop} {px : SX → Prop} {B : S → State → Prop} {BX : String → SX → State → Prop} {AX : Nat → Prop} (hr : vx_Run p l e R s m args below meth c H locs cells slots mc ms (F0 m pc ls st0) rest (va_Ql post B A1 a) (vx_X px BX AX) free) (hS : va_S A0 H0 H locs) (hA : ∀ q, q < H.size → A1 q → A0 q) (hf : ∀ q, free q → A0 q) (hAX : ∀ q, q < H.size → AX q → A0 q)
    (kx : ∀ (E : String) (ce : Cell) (q9 : Addr) (u : SX) (t : State) (H1 : Heap) (locs1 : List Loc), t.heap = H1 → s.vm.Alike t.vm → px u → BX E u t → H.size ≤ H1.size → (∀ q : Nat, q < H.size → ¬ AX q → H1[q]? = H[q]?) → va_S A0 H0 H1 locs1 → H1[q9]? = some ce → ce.vm = .none → s.vm.findClass E = some ce.cls → vx_W p l e R s m args below meth c H1 locs1 (cells + mc) (slots + ms) Q (F0 m pc ls rest) q9)
    (kk : ∀ (r : Int64) (u : S) (t : State) (H1 : Heap) (locs1 : List Loc), t.heap = H1 → s.vm.Alike t.vm → post r u → B u t → H.size ≤ H1.size → (∀ q : Nat, q < H.size → ¬ A1 q → H1[q]? = H[q]?) → va_S A0 H0 H1 locs1 → W p l e R s m args below meth c H1 locs1 (cells + mc) (slots + ms) Q (F0 m (pc + 3) ls (.long r :: rest))) : W p l e R s m args below meth c H locs cells slots Q (F0 m pc ls st0) := by
  intro T hT X
  rcases hr T hT X with ⟨v, st₀, t, T', L, h0, X', hL, e1, e2, ⟨⟨r, u, hv, hp, hb⟩, hF⟩, st⟩ | ⟨q, st₀, t, T', L, E, ce, h0, X', hL, e1, e2, ⟨u, hp, hb, hF⟩, hce, hcv, hcl, st⟩
  · cases hv
    obtain ⟨k1, k2, k3⟩ := vx_keep h0 e1 hS hA hf hL hF
    obtain ⟨t2, a1, b1⟩ := kk r u t T'.heap (locs ++ L) e1.symm (by rw [← e2]; exact X'.warmed.alike) hp hb k1 k2 k3 T' rfl X'
    exact ⟨t2, st t2 a1, b1⟩
  · obtain ⟨k1, k2, k3⟩ := vx_keep h0 e1 hS hAX hf hL hF
    obtain ⟨t2, a1, b1⟩ := kx E ce q u t T'.heap (locs ++ L) e1.symm (by rw [← e2]; exact X'.warmed.alike) hp hb k1 k2 k3 (by rw [e1]; exact hce) hcv hcl T' rfl X'
    exact ⟨t2, st.trans a1, b1⟩
theorem vx_callf {S SX : Type} {post : UInt32 → S → Prop} {px : SX → Prop} {B : S → State → Prop} {BX : String → SX → State → Prop} {AX : Nat → Prop} (hr : vx_Run p l e R s m args below meth c H locs cells slots mc ms (F0 m pc ls st0) rest (va_Qf post B A1 a) (vx_X px BX AX) free) (hS : va_S A0 H0 H locs) (hA : ∀ q, q < H.size → A1 q → A0 q) (hf : ∀ q, free q → A0 q) (hAX : ∀ q, q < H.size → AX q → A0 q)
    (kx : ∀ (E : String) (ce : Cell) (q9 : Addr) (u : SX) (t : State) (H1 : Heap) (locs1 : List Loc), t.heap = H1 → s.vm.Alike t.vm → px u → BX E u t → H.size ≤ H1.size → (∀ q : Nat, q < H.size → ¬ AX q → H1[q]? = H[q]?) → va_S A0 H0 H1 locs1 → H1[q9]? = some ce → ce.vm = .none → s.vm.findClass E = some ce.cls → vx_W p l e R s m args below meth c H1 locs1 (cells + mc) (slots + ms) Q (F0 m pc ls rest) q9)
    (kk : ∀ (r : UInt32) (u : S) (t : State) (H1 : Heap) (locs1 : List Loc), t.heap = H1 → s.vm.Alike t.vm → post r u → B u t → H.size ≤ H1.size → (∀ q : Nat, q < H.size → ¬ A1 q → H1[q]? = H[q]?) → va_S A0 H0 H1 locs1 → W p l e R s m args below meth c H1 locs1 (cells + mc) (slots + ms) Q (F0 m (pc + 3) ls (.float r :: rest))) : W p l e R s m args below meth c H locs cells slots Q (F0 m pc ls st0) := by
  intro T hT X
  rcases hr T hT X with ⟨v, st₀, t, T', L, h0, X', hL, e1, e2, ⟨⟨r, u, hv, hp, hb⟩, hF⟩, st⟩ | ⟨q, st₀, t, T', L, E, ce, h0, X', hL, e1, e2, ⟨u, hp, hb, hF⟩, hce, hcv, hcl, st⟩
  · cases hv
    obtain ⟨k1, k2, k3⟩ := vx_keep h0 e1 hS hA hf hL hF
    obtain ⟨t2, a1, b1⟩ := kk r u t T'.heap (locs ++ L) e1.symm (by rw [← e2]; exact X'.warmed.alike) hp hb k1 k2 k3 T' rfl X'
    exact ⟨t2, st t2 a1, b1⟩
  · obtain ⟨k1, k2, k3⟩ := vx_keep h0 e1 hS hAX hf hL hF
    obtain ⟨t2, a1, b1⟩ := kx E ce q u t T'.heap (locs ++ L) e1.symm (by rw [← e2]; exact X'.warmed.alike) hp hb k1 k2 k3 (by rw [e1]; exact hce) hcv hcl T' rfl X'
    exact ⟨t2, st.trans a1, b1⟩
theorem vx_calld {S SX : Type} {post : UInt64 → S → Prop} {px : SX → Prop} {B : S → State → Prop} {BX : String → SX → State → Prop} {AX : Nat → Prop} (hr : vx_Run p l e R s m args below meth c H locs cells slots mc ms (F0 m pc ls st0) rest (va_Qd post B A1 a) (vx_X px BX AX) free) (hS : va_S A0 H0 H locs) (hA : ∀ q, q < H.size → A1 q → A0 q) (hf : ∀ q, free q → A0 q) (hAX : ∀ q, q < H.size → AX q → A0 q)
    (kx : ∀ (E : String) (ce : Cell) (q9 : Addr) (u : SX) (t : State) (H1 : Heap) (locs1 : List Loc), t.heap = H1 → s.vm.Alike t.vm → px u → BX E u t → H.size ≤ H1.size → (∀ q : Nat, q < H.size → ¬ AX q → H1[q]? = H[q]?) → va_S A0 H0 H1 locs1 → H1[q9]? = some ce → ce.vm = .none → s.vm.findClass E = some ce.cls → vx_W p l e R s m args below meth c H1 locs1 (cells + mc) (slots + ms) Q (F0 m pc ls rest) q9)
    (kk : ∀ (r : UInt64) (u : S) (t : State) (H1 : Heap) (locs1 : List Loc), t.heap = H1 → s.vm.Alike t.vm → post r u → B u t → H.size ≤ H1.size → (∀ q : Nat, q < H.size → ¬ A1 q → H1[q]? = H[q]?) → va_S A0 H0 H1 locs1 → W p l e R s m args below meth c H1 locs1 (cells + mc) (slots + ms) Q (F0 m (pc + 3) ls (.double r :: rest))) : W p l e R s m args below meth c H locs cells slots Q (F0 m pc ls st0) := by
  intro T hT X
  rcases hr T hT X with ⟨v, st₀, t, T', L, h0, X', hL, e1, e2, ⟨⟨r, u, hv, hp, hb⟩, hF⟩, st⟩ | ⟨q, st₀, t, T', L, E, ce, h0, X', hL, e1, e2, ⟨u, hp, hb, hF⟩, hce, hcv, hcl, st⟩
  · cases hv
    obtain ⟨k1, k2, k3⟩ := vx_keep h0 e1 hS hA hf hL hF
    obtain ⟨t2, a1, b1⟩ := kk r u t T'.heap (locs ++ L) e1.symm (by rw [← e2]; exact X'.warmed.alike) hp hb k1 k2 k3 T' rfl X'
    exact ⟨t2, st t2 a1, b1⟩
  · obtain ⟨k1, k2, k3⟩ := vx_keep h0 e1 hS hAX hf hL hF
    obtain ⟨t2, a1, b1⟩ := kx E ce q u t T'.heap (locs ++ L) e1.symm (by rw [← e2]; exact X'.warmed.alike) hp hb k1 k2 k3 (by rw [e1]; exact hce) hcv hcl T' rfl X'
    exact ⟨t2, st.trans a1, b1⟩
theorem vx_callv {S SX : Type} {post : S → Prop} {px : SX → Prop} {B : S → State → Prop} {BX : String → SX → State → Prop} {AX : Nat → Prop} (hr : vx_Run p l e R s m args below meth c H locs cells slots mc ms (F0 m pc ls st0) rest (va_Qv post B A1 a) (vx_X px BX AX) free) (hS : va_S A0 H0 H locs) (hA : ∀ q, q < H.size → A1 q → A0 q) (hf : ∀ q, free q → A0 q) (hAX : ∀ q, q < H.size → AX q → A0 q)
    (kx : ∀ (E : String) (ce : Cell) (q9 : Addr) (u : SX) (t : State) (H1 : Heap) (locs1 : List Loc), t.heap = H1 → s.vm.Alike t.vm → px u → BX E u t → H.size ≤ H1.size → (∀ q : Nat, q < H.size → ¬ AX q → H1[q]? = H[q]?) → va_S A0 H0 H1 locs1 → H1[q9]? = some ce → ce.vm = .none → s.vm.findClass E = some ce.cls → vx_W p l e R s m args below meth c H1 locs1 (cells + mc) (slots + ms) Q (F0 m pc ls rest) q9)
    (kk : ∀ (u : S) (t : State) (H1 : Heap) (locs1 : List Loc), t.heap = H1 → s.vm.Alike t.vm → post u → B u t → H.size ≤ H1.size → (∀ q : Nat, q < H.size → ¬ A1 q → H1[q]? = H[q]?) → va_S A0 H0 H1 locs1 → W p l e R s m args below meth c H1 locs1 (cells + mc) (slots + ms) Q (F0 m (pc + 3) ls (rest))) : W p l e R s m args below meth c H locs cells slots Q (F0 m pc ls st0) := by
  intro T hT X
  rcases hr T hT X with ⟨v, st₀, t, T', L, h0, X', hL, e1, e2, ⟨⟨u, hv, hp, hb⟩, hF⟩, st⟩ | ⟨q, st₀, t, T', L, E, ce, h0, X', hL, e1, e2, ⟨u, hp, hb, hF⟩, hce, hcv, hcl, st⟩
  · cases hv
    obtain ⟨k1, k2, k3⟩ := vx_keep h0 e1 hS hA hf hL hF
    obtain ⟨t2, a1, b1⟩ := kk u t T'.heap (locs ++ L) e1.symm (by rw [← e2]; exact X'.warmed.alike) hp hb k1 k2 k3 T' rfl X'
    exact ⟨t2, st t2 a1, b1⟩
  · obtain ⟨k1, k2, k3⟩ := vx_keep h0 e1 hS hAX hf hL hF
    obtain ⟨t2, a1, b1⟩ := kx E ce q u t T'.heap (locs ++ L) e1.symm (by rw [← e2]; exact X'.warmed.alike) hp hb k1 k2 k3 (by rw [e1]; exact hce) hcv hcl T' rfl X'
    exact ⟨t2, st.trans a1, b1⟩
/-- caught by the row x of this method's table; the rows ahead don't take it -/
theorem vx_catch {own name : String} {E : String} {ce : Cell} {q : Addr} (hown : s.vm.findClass own = some m.cls) (pre : List ExceptionTableEntry) (x : ExceptionTableEntry) (suf : List ExceptionTableEntry) (hsplit : c.exceptionTable.toList = pre ++ x :: suf)
    (hpass : ∀ z ∈ pre, covers z pc = false ∨ (z.catchType ≠ 0 ∧ ∃ nm : String, (Cond.classLink own z.catchType nm).before args s = true ∧ va_Nc E nm s)) (hx : covers x pc = true) (h0 : x.catchType ≠ 0)
    (hlink : (Cond.classLink own x.catchType name).before args s = true) (hcast : (Cond.castable E name).before args s = true) (hcell : H[q]? = some ce) (hv : ce.vm = .none) (hcl : s.vm.findClass E = some ce.cls)
    (kk : W p l e R s m args below meth c H locs cells slots Q (F0 m x.handlerPc ls [.ref q])) : vx_W p l e R s m args below meth c H locs cells slots Q (F0 m pc ls rest) q := by
  intro T hT X
  have hpl : e.platform.magicAccessors = ({} : Platform).magicAccessors := by rw [X.admits.platform]
  obtain ⟨c3, c4, hc3, hc4, hasg⟩ := Cond.castable_spec hcast
  cases Option.some.inj (hc3.symm.trans hcl)
  obtain ⟨c5, hc5, hcl5⟩ := Cond.classLink_spec hown hlink e.platform hpl
  cases Option.some.inj (hc4.symm.trans hc5)
  obtain ⟨vm', X', st⟩ := X.thenCaughtThrough q (g := F0 m pc ls rest) rfl (Steps.refl _) (by rw [hT]; exact hcell) (by rw [hv]; rfl) (by obtain ⟨k9, h9, -⟩ := Vm.findClass_spec hcl; exact ⟨k9, h9⟩) pre x suf hsplit
    (fun z hz => by
      rcases hpass z hz with h | ⟨hz0, nm, hl1, hn1⟩
      · exact Or.inl h
      · obtain ⟨c6, hc6, hcl6⟩ := Cond.classLink_spec hown hl1 e.platform hpl
        obtain ⟨a8, b8, h1, h2, h3⟩ := hn1
        cases Option.some.inj (h1.symm.trans hcl)
        cases Option.some.inj (h2.symm.trans hc6)
        exact Or.inr ⟨hz0, _, hcl6, h3⟩) hx (Or.inr ⟨h0, c4, hcl5, hasg⟩)
  obtain ⟨t, a1, b1⟩ := kk (T.setVm vm') hT X'
  exact ⟨t, st.trans a1, b1⟩
end Rows
section Ends
variable {p : Program} {l : Launch} {e : Env} {R : Room} {s : State} {m : MethodId} {args : Array Value} {below : List Frame} {meth : Method} {c : Code} {H : Heap} {locs : List Loc} {cells slots : Nat} {Q : State → Prop}
variable {mc ms : Nat} {free : Addr → Prop} {A0 A1 : Nat → Prop} {H0 : Heap} {a : Array Value} {ls : Array Slot} {st0 rest : List Value}
variable {Qc : Array Value → State → Outcome → State → Prop} {XC : String → State → State → Prop}
/-- what a body that may throw owes at its end -/
def vx_MQ (below : List Frame) (Qc : Array Value → State → Outcome → State → Prop) (XC : String → State → State → Prop) (a : Array Value) (s : State) (mc ms : Nat) (free : Addr → Prop) : State → Prop := fun t =>
  ∃ o, t.status = .running ∧ Ended t below o ∧ vx_Q Qc XC mc ms free a s o t
theorem vx_ret {g : JFrame} {mc ms : Nat} (k : W p l e R s m args below meth c H locs cells slots (MQ below Qc args s mc ms free) g) : W p l e R s m args below meth c H locs cells slots (vx_MQ below Qc XC args s mc ms free) g := by
  intro T hT X
  obtain ⟨t, a1, o, b1, b2, b3, b4⟩ := k T hT X
  exact ⟨t, a1, o, b1, b2, Or.inl ⟨b3, b4⟩⟩
/-- not caught here: it goes on to the caller -/
theorem vx_widen {g : JFrame} {q : Addr} {k n : Nat} (h1 : cells ≤ k) (h2 : slots ≤ n) (kk : vx_W p l e R s m args below meth c H locs k n Q g q) : vx_W p l e R s m args below meth c H locs cells slots Q g q := fun T hT X => kk T hT (stand_widen X h1 h2)
theorem vx_out {pc : Nat} {E : String} {ce : Cell} {q : Addr} {mc ms : Nat} (hout : ∀ x ∈ c.exceptionTable.toList, covers x pc = false) (hlocks : meth.locks = false) (hcell : H[q]? = some ce) (hv : ce.vm = .none) (hcl : s.vm.findClass E = some ce.cls)
    (hx : ∀ t : State, t.heap = H → s.vm.Alike t.vm → XC E s t) (hf : ∀ z ∈ locs, free z.base) (hc : cells ≤ mc) (hs : slots ≤ ms) :
    vx_W p l e R s m args below meth c H locs cells slots (vx_MQ below Qc XC args s mc ms free) (F0 m pc ls rest) q := by
  intro T hT X
  obtain ⟨st1, hrun, hend, hW, hsm⟩ := X.leaveThrown q (g := F0 m pc ls rest) rfl rfl rfl hout hlocks
  have hcell9 : (T.setFrames (.throwing q :: below)).heap[q]? = some ce := by
    show T.heap[q]? = some ce
    rw [hT]; exact hcell
  exact ⟨_, st1, .threw q, hrun, hend, Or.inr ⟨q, rfl, E, ce, locs, hx _ hT hW.alike, hcell9, hv, hcl, hW, hsm.mono hc hs, hf⟩⟩
theorem vx_frame {U : State} {k n : Nat} (h : s.sameButNew ({ U with vm := s.vm } : State) locs k n) : s.heap.size ≤ U.heap.size ∧ ∀ q : Nat, q < s.heap.size → (∀ z ∈ locs, z.base ≠ q) → U.heap[q]? = s.heap[q]? := by
  obtain ⟨-, h2, -, -, -, h6⟩ := h
  refine ⟨h2, fun q hq hz => ?_⟩
  obtain ⟨c9, e1, e2, e3, e4⟩ := h6 q _ (Array.getElem?_eq_getElem hq)
  have hs : c9.slots = (s.heap[q]).slots := Array.ext_getElem? fun i => e4 i fun hm => hz _ hm rfl
  have h9 : c9 = s.heap[q] := by
    rw [hs] at e2
    exact e2
  have e5 : U.heap[q]? = some c9 := e1
  rw [e5, h9, Array.getElem?_eq_getElem hq]
/-- the words of a throw but the four that speak of the heap -/
def vx_no (w : Cond) : Bool := decide (w ≠ .isRef (.static Bundle.tN "UNASSIGNED_STACK" Bundle.steD)) && decide (w ≠ .isRef (.static Bundle.tN "SUPPRESSED_SENTINEL" Bundle.listD)) && decide (w ≠ .laysStatic Bundle.tN "UNASSIGNED_STACK" Bundle.steD) && decide (w ≠ .laysStatic Bundle.tN "SUPPRESSED_SENTINEL" Bundle.listD)
def vx_at0 (own : String) (ic : Nat) (X : String) (names : List String) : List Cond := (Bundle.ownAtoms0 own ic X names).filter vx_no
def vx_atS (own : String) (ic : Nat) (X : String) (names : List String) : List Cond := (Bundle.ownAtoms own ic X names).filter vx_no
/-- a word that the tables alone decide, or a good one -/
def vx_ot (w : Cond) : Bool := w.onTables || goodWord w
theorem vx_ot_at {args a' : Array Value} {s U : State} {w : Cond} (hW : s.WarmedH U.vm) (hvm : s.vm = U.vm) (hg : vx_ot w = true) (h : w.before args s = true) : w.before a' U = true := by
  simp only [vx_ot, Bool.or_eq_true] at hg
  rcases hg with hg | hg
  · exact va_tabs hg hvm h
  · exact word_at hW (good_of_word hg) h
/-- a list's words: the good ones out of the method's own list, the others by premises of their own -/
theorem vx_hat {args : Array Value} {s : State} {L B : List Cond} (h1 : ∀ w ∈ L.filter goodWord, w.before args s = true) (h2 : ∀ w ∈ L.filter (fun w => !goodWord w), w ∈ B) (h3 : ∀ w ∈ B, w.before args s = true) : ∀ w ∈ L, w.before args s = true := by
  intro w hw
  by_cases g : goodWord w = true
  · exact h1 w (List.mem_filter.mpr ⟨hw, g⟩)
  · refine h3 w (h2 w (List.mem_filter.mpr ⟨hw, ?_⟩))
    show (!goodWord w) = true
    cases hgw : goodWord w
    · rfl
    · exact absurd hgw g
theorem vx_c {args : Array Value} {s : State} {w : Cond} {B : List Cond} (h : w.before args s = true) (t : ∀ w ∈ B, w.before args s = true) : ∀ w' ∈ w :: B, w'.before args s = true := fun w' h' => (List.mem_cons.mp h').elim (fun e => by rw [e]; exact h) (t w')
theorem vx_n {args : Array Value} {s : State} : ∀ w ∈ ([] : List Cond), w.before args s = true := fun _ h => nomatch h
theorem vx_own {args : Array Value} {s : State} {L : List Cond} (h1 : ∀ w ∈ L.filter vx_no, w.before args s = true)
    (hU : (Cond.isRef (.static Bundle.tN "UNASSIGNED_STACK" Bundle.steD)).before args s = true) (hN : (Cond.isRef (.static Bundle.tN "SUPPRESSED_SENTINEL" Bundle.listD)).before args s = true)
    (lU : (Cond.laysStatic Bundle.tN "UNASSIGNED_STACK" Bundle.steD).before args s = true) (lN : (Cond.laysStatic Bundle.tN "SUPPRESSED_SENTINEL" Bundle.listD).before args s = true) : ∀ w ∈ L, w.before args s = true := by
  intro w hw
  by_cases e1 : w = .isRef (.static Bundle.tN "UNASSIGNED_STACK" Bundle.steD)
  · rw [e1]; exact hU
  · by_cases e2 : w = .isRef (.static Bundle.tN "SUPPRESSED_SENTINEL" Bundle.listD)
    · rw [e2]; exact hN
    · by_cases e3 : w = .laysStatic Bundle.tN "UNASSIGNED_STACK" Bundle.steD
      · rw [e3]; exact lU
      · by_cases e4 : w = .laysStatic Bundle.tN "SUPPRESSED_SENTINEL" Bundle.listD
        · rw [e4]; exact lN
        · exact h1 w (List.mem_filter.mpr ⟨hw, by unfold vx_no; rw [decide_eq_true e1, decide_eq_true e2, decide_eq_true e3, decide_eq_true e4]; rfl⟩)
/-- where a static field lies, its class's statics cell in H -/
def vx_L (C n d : String) (A : Nat → Prop) (U : State) (H : Heap) : Prop := ∃ (c : ClassId) (k : Class) (i : Nat) (f : Field) (a : Nat) (cell : Cell), U.vm.findClass C = some c ∧ U.fieldFound? C n d = some (c, k, i, f) ∧ f.isStatic = true ∧ k.statics = some a ∧ H[a]? = some cell ∧ cell.vm.isStatics = true ∧ cell.cls = c ∧ f.slot < cell.slots.size ∧ k.staticTypes[f.slot]? = some f.type ∧ ¬ A a
theorem vx_L.moved {C n d : String} {A : Nat → Prop} {u U : State} {H : Heap} (hvm : u.vm.Alike U.vm) (h : vx_L C n d A u H) : vx_L C n d A U H := by
  obtain ⟨c, k, i, f, a, cell, h1, h2, h3, h4, h5, h6, h7, h8, h9, h10⟩ := h
  obtain ⟨k', hi', he⟩ := State.fieldFound?_setVm hvm h2
  exact ⟨c, k', i, f, a, cell, by rw [hvm.findClass]; exact h1, hi', h3, by rw [he]; exact h4, h5, h6, h7, h8, by rw [he]; exact h9, h10⟩
theorem vx_L.kept {C n d : String} {A : Nat → Prop} {U : State} {H H1 : Heap} (h : vx_L C n d A U H) (hq : ∀ a : Nat, a < H.size → ¬ A a → H1[a]? = H[a]?) : vx_L C n d A U H1 := by
  obtain ⟨c, k, i, f, a, cell, h1, h2, h3, h4, h5, h6, h7, h8, h9, h10⟩ := h
  exact ⟨c, k, i, f, a, cell, h1, h2, h3, h4, by rw [hq a (Array.getElem?_eq_some_iff.mp h5).1 h10]; exact h5, h6, h7, h8, h9, h10⟩
theorem vx_L.narrow {C n d : String} {A B : Nat → Prop} {U : State} {H : Heap} (h : vx_L C n d A U H) (hAB : ∀ q, B q → A q) : vx_L C n d B U H := by
  obtain ⟨c, k, i, f, a, cell, h1, h2, h3, h4, h5, h6, h7, h8, h9, h10⟩ := h
  exact ⟨c, k, i, f, a, cell, h1, h2, h3, h4, h5, h6, h7, h8, h9, fun z => h10 (hAB _ z)⟩
theorem vx_L.word {C n d : String} {A : Nat → Prop} {s : State} {args : Array Value} (h : vx_L C n d A s s.heap) : (Cond.laysStatic C n d).before args s = true := by
  obtain ⟨c, k, i, f, a, cell, h1, h2, h3, h4, h5, h6, h7, h8, h9, -⟩ := h
  show (Cond.laysStatic C n d).holds args s none s [] = true
  exact Cond.laysStatic_of h1 h2 h3 h4 h5 h6 h7 h8 h9
/-- .. and what it holds: null or some reference -/
def vx_Zq (C n d : String) (A : Nat → Prop) (U : State) (H : Heap) : Prop := va_Zq C n d A U H ∧ vx_L C n d A U H
theorem vx_Zq.moved {C n d : String} {A : Nat → Prop} {u U : State} {H : Heap} (hvm : u.vm.Alike U.vm) (h : vx_Zq C n d A u H) : vx_Zq C n d A U H := ⟨va_Zq.moved hvm h.1, vx_L.moved hvm h.2⟩
theorem vx_Zq.kept {C n d : String} {A : Nat → Prop} {U : State} {H H1 : Heap} (h : vx_Zq C n d A U H) (hq : ∀ a : Nat, a < H.size → ¬ A a → H1[a]? = H[a]?) : vx_Zq C n d A U H1 := ⟨va_Zq.kept h.1 hq, vx_L.kept h.2 hq⟩
theorem vx_Zq.narrow {C n d : String} {A B : Nat → Prop} {U : State} {H : Heap} (h : vx_Zq C n d A U H) (hAB : ∀ q, B q → A q) : vx_Zq C n d B U H := ⟨va_Zq.narrow h.1 hAB, vx_L.narrow h.2 hAB⟩
theorem vx_Zqof {args : Array Value} {s : State} {C n d : String} {A : Nat → Prop} (hl : (Cond.laysStatic C n d).before args s = true) (hini : (Cond.initialized C).before args s = true) (h : (Cond.isRef (.static C n d)).before args s = true) (hA : ∀ a : Nat, a < s.heap.size → ¬ A a) : vx_Zq C n d A s s.heap := by
  refine ⟨va_Zqof hl hini h hA, ?_⟩
  obtain ⟨c, k, i, f, a, cell, h1, h2, h3, h4, h5, h6, h7, h8, h9⟩ := Cond.laysStatic_spec hl
  exact ⟨c, k, i, f, a, cell, h1, h2, h3, h4, h5, h6, h7, h8, h9, hA a (Array.getElem?_eq_some_iff.mp h5).1⟩
theorem vx_isRef {C n d : String} {v : Value} {A : Nat → Prop} {s : State} {args : Array Value} (h : va_Z C n d v A s s.heap) (hv : v.isRef = true) : (Cond.isRef (.static C n d)).before args s = true := by
  obtain ⟨cf, kf, fi, f, a, cell, h1, h2, h3, h4, h5, h6, h7, -⟩ := h
  have he : (Term.static C n d).eval args s none [] s = some v := by
    simp [Term.eval, State.fieldNamed?, h1, h2, h4, h5, h6, h7]
  simp only [Cond.before, Cond.holds, Cond.value, he]
  cases v <;> simp_all [Value.isRef]
theorem vx_isRefq {C n d : String} {A : Nat → Prop} {s : State} {args : Array Value} (h : va_Zq C n d A s s.heap) : (Cond.isRef (.static C n d)).before args s = true := by
  rcases h with h | ⟨t, h⟩
  · exact vx_isRef h rfl
  · exact vx_isRef h rfl
/-- the same frame, seen from here: as if the method were called anew in this heap -/
theorem vx_rebase {T : State} (X : Stand p l e R s m args below meth c T locs cells slots) {R' : Room} (hf : R'.frames ≤ R.frames) (hl : R'.locals ≤ R.locals) (hc : cells + R'.cells ≤ R.cells) (hs : slots + R'.slots ≤ R.slots) :
    Stand p l e R' ((T.setVm s.vm).setFrames (.invoking m args :: below)) m args below meth c T [] 0 0 := by
  have htop : (T.setVm s.vm).topJava?.isSome := X.here.top
  have hF : ((T.setVm s.vm).setFrames (.invoking m args :: below)).frames = .invoking m args :: below := State.frames_setFrames _ (State.cur_lt_of_top htop)
  obtain ⟨g₀, hg0⟩ := Option.isSome_iff_exists.mp htop
  obtain ⟨r, hr⟩ := State.topJava?_eq_some.mp hg0
  have hl9 : e.platform.stackLimits (T.setVm s.vm).me = e.platform.stackLimits s.me := X.limits
  have hb9 : (T.setVm s.vm).me.stackBytes = s.me.stackBytes := X.bytes
  refine ⟨X.admits, X.cas, X.clock, hF, ?_, X.hears, X.method, X.code, X.here, X.tail, X.warmed, ?_, ?_, ?_⟩
  · have h := X.room
    have hU : ((T.setVm s.vm).setFrames (.invoking m args :: below)).localsInUse = s.localsInUse := by
      rw [State.localsInUse_invoking hF (meth := meth) (c := c) X.method X.code, State.localsInUse_invoking X.frames X.method X.code]
    simp only [State.hasRoom, Bool.and_eq_true, decide_eq_true_eq] at h ⊢
    obtain ⟨⟨⟨⟨h1, h2, h3, h4, h5, h6⟩, h7⟩, h8⟩, h9⟩ := h
    rw [X.frames, List.length_cons] at h2 h3
    have q1 := X.heapSize
    have q2 := X.used
    simp only [hF, hU, List.length_cons, State.stackLimits_setFrames, State.stackBytes_setFrames, hl9, hb9]
    refine ⟨⟨⟨⟨by omega, by omega, by omega, by omega, by omega, h6⟩, ?_⟩, ?_⟩, X.book⟩
    · show T.heap.size + R'.cells ≤ e.platform.maxCells
      omega
    · show T.slotsUsed + R'.slots ≤ e.platform.maxSlots
      omega
  · rw [State.stackLimits_setFrames]; rfl
  · rw [State.stackBytes_setFrames]; rfl
  · refine ⟨?_, Nat.le_refl _, Nat.le_refl _, ?_, ?_, fun a c9 h9 => ⟨c9, h9, rfl, rfl, fun _ _ => rfl⟩⟩
    · obtain ⟨t, ht, -⟩ := State.frames_cons hr
      show T.setVm s.vm = { ((T.setVm s.vm).setFrames (.invoking m args :: below)).setFrames (T.setVm s.vm).frames with heap := T.heap, slotsUsed := T.slotsUsed }
      rw [State.setFrames_setFrames, State.setFrames_self ht]
      rfl
    · show T.slotsUsed = T.slotsUsed + ((T.heap.toList.drop T.heap.size).map (·.slots.size)).sum
      rw [List.drop_eq_nil_of_le (Nat.le_of_eq Array.length_toList)]
      rfl
    · show ((T.heap.toList.drop T.heap.size).map (·.slots.size)).sum ≤ 0
      rw [List.drop_eq_nil_of_le (Nat.le_of_eq Array.length_toList)]
      exact Nat.le_refl _
/-- 'throw new E()': new; dup; invokespecial; athrow -/
theorem vx_throw0 {cc : ByteArray} {pc : Nat} (hexec : p.tables.exec = Jvm.exec) (hb : c.code = cc) (hl : l.stackTraces = false) {own cls : String} {names : List String} {ik ic mc ms : Nat} {A : Nat → Prop}
    (hown : s.vm.findClass own = some m.cls) (hcls : Bundle.fit cls = true) (hnames : ∀ n ∈ names, Bundle.fit n = true)
    (hk : (Cond.classLink own ik cls).before args s = true) (hini : (Cond.initialized cls).before args s = true) (hat : ∀ w ∈ vx_at0 own ic cls names, w.before args s = true)
    (hgood : ∀ w ∈ Cond.classLink own ik cls :: Cond.initialized cls :: vx_at0 own ic cls names, vx_ot w = true)
    (hU : vx_Zq Bundle.tN "UNASSIGNED_STACK" Bundle.steD A s s.heap) (hN : vx_Zq Bundle.tN "SUPPRESSED_SENTINEL" Bundle.listD A s s.heap) (hS : va_S A s.heap H locs) (hsize : ls.size = c.maxLocals)
    (d0 : decode cc pc = .ok (.new ik, 3)) (d3 : decode cc (pc + 3) = .ok (.dup, 1)) (d4 : decode cc (pc + 4) = .ok (.invokespecial ic, 3)) (d7 : decode cc (pc + 7) = .ok (.athrow, 1))
    (hout : ∀ x ∈ c.exceptionTable.toList, covers x (pc + 7) = false)
    (hRframes : names.length + 3 < R.frames) (hRlocals : (rest.map fun v => v.category).sum + (13 * (names.length + 1) + 42) ≤ R.locals) (hRcells : cells + 1 ≤ R.cells) (hRslots : slots + 6 ≤ R.slots) (hlocks : meth.locks = false)
    (hx : ∀ t : State, s.vm.Alike t.vm → H.size ≤ t.heap.size → (∀ q : Nat, q < H.size → t.heap[q]? = H[q]?) → XC cls s t)
    (hf : ∀ z ∈ locs, free z.base) (hc : cells + 1 ≤ mc) (hs : slots + 6 ≤ ms) :
    W p l e R s m args below meth c H locs cells slots (vx_MQ below Qc XC args s mc ms free) (F0 m pc ls rest) := by
  intro T hT X
  have htr : e.platform.stackTraces = false := (show e.platform.stackTraces = l.stackTraces by rw [X.admits.platform]).trans hl
  have Y := vx_rebase X (R' := { frames := R.frames, locals := R.locals, cells := 1, slots := 6 }) (Nat.le_refl _) (Nat.le_refl _) hRcells hRslots
  obtain ⟨s', hA⟩ : ∃ z, z = (T.setVm s.vm).setFrames (.invoking m args :: below) := ⟨_, rfl⟩
  rw [← hA] at Y
  have hvm : s'.vm = s.vm := by rw [hA]; rfl
  have hhp : s'.heap = H := by rw [hA]; exact hT
  have hW0 : s.WarmedH s'.vm := by rw [hvm]; exact State.WarmedH.refl s
  have hat' : ∀ w ∈ vx_at0 own ic cls names, w.before args s' = true := fun w hw => vx_ot_at hW0 hvm.symm (hgood w (List.mem_cons_of_mem _ (List.mem_cons_of_mem _ hw))) (hat w hw)
  have hk' : (Cond.classLink own ik cls).before args s' = true := vx_ot_at hW0 hvm.symm (hgood _ List.mem_cons_self) hk
  have hini' : (Cond.initialized cls).before args s' = true := vx_ot_at hW0 hvm.symm (hgood _ (List.mem_cons_of_mem _ List.mem_cons_self)) hini
  have hU' : vx_Zq Bundle.tN "UNASSIGNED_STACK" Bundle.steD A s' s'.heap := by rw [hhp]; exact vx_Zq.moved hW0.alike (hU.kept hS.2.1)
  have hN' : vx_Zq Bundle.tN "SUPPRESSED_SENTINEL" Bundle.listD A s' s'.heap := by rw [hhp]; exact vx_Zq.moved hW0.alike (hN.kept hS.2.1)
  have h : ∀ w ∈ Bundle.ownAtoms0 own ic cls names, w.before args s' = true := vx_own hat' (vx_isRefq hU'.1) (vx_isRefq hN'.1) hU'.2.word hN'.2.word
  have hown' : s'.vm.findClass own = some m.cls := by rw [hvm]; exact hown
  have hins : (Cond.instantiable cls 6).before args s' = true := h _ (by simp [Bundle.ownAtoms0])
  obtain ⟨vm₁, cX, kX, hfX, hkX, -, -, X₁, st1⟩ := Y.newCold hexec (own := own) (C := cls) (index := ik) (n := 6) hown' hk' hins hini'
    (g := F0 m pc ls rest) rfl (by rw [hb]; exact d0) (Nat.le_refl _) (Nat.le_refl _)
  generalize hT1 : (T.setVm vm₁).pushCell { cls := cX, slots := kX.instanceTypes.map defaultValue, vm := .none } = T1 at X₁ st1
  have hcat : (Value.ref T.heap.size).category = 1 := rfl
  have hcellA : T1.heap[T.heap.size]? = some (freshCell cX kX) := by rw [← hT1]; exact State.heap_pushCell_size _ _
  have d3' : decode c.code (pc + 3) = .ok (.dup, 1) := by rw [hb]; exact d3
  obtain ⟨U, hsteps, hrun, hend, hW, hsame, ce, hce, hO⟩ := X₁.ctorThrow0 hexec htr (own := own) (cls := cls) (names := names) (ic := ic) hown' hcls hnames h (fun x hx => nomatch hx) hfX hkX hcellA (by rw [hhp, hT]; exact Nat.le_refl _)
    (g := { method := m, pc := pc + 4, locals := ls, stack := .ref T.heap.size :: .ref T.heap.size :: rest, locked := none }) rfl hsize rfl rfl (rest := rest) rfl
    (by rw [hb]; exact d4) (by rw [hb]; exact d7) hout hRframes (by simp only [List.map_cons, List.sum_cons, hcat]; omega) hlocks
  obtain ⟨f1, f2⟩ := vx_frame hsame
  rw [hhp] at f1 f2
  have hWs : s.WarmedH U.vm := State.WarmedH.trans hW0 hW
  have hcl : s.vm.findClass cls = some ce.cls := by
    have h9 := hO.cls
    rw [hvm] at h9
    exact h9
  have hall : s.sameButNew ({ U with vm := s.vm } : State) locs mc ms := by
    subst hA
    obtain ⟨e1, e2⟩ := hsame
    rw [State.setFrames_setFrames] at e1
    have h2 : (T.setVm s.vm).sameButNew ({ U with vm := s.vm } : State) [] (0 + 1) (0 + 6) := ⟨e1, e2⟩
    have h3 := X.same.trans h2
    rw [List.append_nil] at h3
    exact h3.mono hc hs
  refine ⟨U, ?_, .threw T.heap.size, hrun, hend, Or.inr ⟨T.heap.size, rfl, cls, ce, locs, hx U hWs.alike f1 (fun q hq => f2 q hq (fun z hz => nomatch hz)), hce, hO.vm, hcl, hWs, hall, hf⟩⟩
  refine st1 _ ?_
  show Steps p.tables e below (T1.setTop { method := m, pc := pc + 3, locals := ls, stack := .ref T.heap.size :: rest, locked := none }) _
  jvm_step X₁.here [X₁.here.top, hexec, d3', Value.category]
  exact hsteps
/-- 'throw new E("text")': new; dup; ldc; invokespecial; athrow -/
theorem vx_throwS {cc : ByteArray} {pc : Nat} (hexec : p.tables.exec = Jvm.exec) (hb : c.code = cc) (hl : l.stackTraces = false) {own cls text : String} {names : List String} {ik is ic mc ms sa : Nat} {A : Nat → Prop}
    (hown : s.vm.findClass own = some m.cls) (hcls : Bundle.fit cls = true) (hnames : ∀ n ∈ names, Bundle.fit n = true)
    (hk : (Cond.classLink own ik cls).before args s = true) (hini : (Cond.initialized cls).before args s = true) (hstr : vk_R own is text sa s) (hat : ∀ w ∈ vx_atS own ic cls names, w.before args s = true)
    (hgood : ∀ w ∈ Cond.classLink own ik cls :: Cond.initialized cls :: vx_atS own ic cls names, vx_ot w = true)
    (hU : vx_Zq Bundle.tN "UNASSIGNED_STACK" Bundle.steD A s s.heap) (hN : vx_Zq Bundle.tN "SUPPRESSED_SENTINEL" Bundle.listD A s s.heap) (hS : va_S A s.heap H locs) (hsize : ls.size = c.maxLocals)
    (d0 : decode cc pc = .ok (.new ik, 3)) (d3 : decode cc (pc + 3) = .ok (.dup, 1)) (d4 : decode cc (pc + 4) = .ok (.ldc is, 2)) (d6 : decode cc (pc + 6) = .ok (.invokespecial ic, 3)) (d9 : decode cc (pc + 9) = .ok (.athrow, 1))
    (hout : ∀ x ∈ c.exceptionTable.toList, covers x (pc + 9) = false)
    (hRframes : names.length + 3 < R.frames) (hRlocals : (rest.map fun v => v.category).sum + (13 * (names.length + 1) + 43) ≤ R.locals) (hRcells : cells + 1 ≤ R.cells) (hRslots : slots + 6 ≤ R.slots) (hlocks : meth.locks = false)
    (hx : ∀ t : State, s.vm.Alike t.vm → H.size ≤ t.heap.size → (∀ q : Nat, q < H.size → t.heap[q]? = H[q]?) → XC cls s t)
    (hf : ∀ z ∈ locs, free z.base) (hc : cells + 1 ≤ mc) (hs : slots + 6 ≤ ms) :
    W p l e R s m args below meth c H locs cells slots (vx_MQ below Qc XC args s mc ms free) (F0 m pc ls rest) := by
  intro T hT X
  have htr : e.platform.stackTraces = false := (show e.platform.stackTraces = l.stackTraces by rw [X.admits.platform]).trans hl
  have Y := vx_rebase X (R' := { frames := R.frames, locals := R.locals, cells := 1, slots := 6 }) (Nat.le_refl _) (Nat.le_refl _) hRcells hRslots
  obtain ⟨s', hA⟩ : ∃ z, z = (T.setVm s.vm).setFrames (.invoking m args :: below) := ⟨_, rfl⟩
  rw [← hA] at Y
  have hvm : s'.vm = s.vm := by rw [hA]; rfl
  have hhp : s'.heap = H := by rw [hA]; exact hT
  have hW0 : s.WarmedH s'.vm := by rw [hvm]; exact State.WarmedH.refl s
  have hat' : ∀ w ∈ vx_atS own ic cls names, w.before args s' = true := fun w hw => vx_ot_at hW0 hvm.symm (hgood w (List.mem_cons_of_mem _ (List.mem_cons_of_mem _ hw))) (hat w hw)
  have hk' : (Cond.classLink own ik cls).before args s' = true := vx_ot_at hW0 hvm.symm (hgood _ List.mem_cons_self) hk
  have hini' : (Cond.initialized cls).before args s' = true := vx_ot_at hW0 hvm.symm (hgood _ (List.mem_cons_of_mem _ List.mem_cons_self)) hini
  have hU' : vx_Zq Bundle.tN "UNASSIGNED_STACK" Bundle.steD A s' s'.heap := by rw [hhp]; exact vx_Zq.moved hW0.alike (hU.kept hS.2.1)
  have hN' : vx_Zq Bundle.tN "SUPPRESSED_SENTINEL" Bundle.listD A s' s'.heap := by rw [hhp]; exact vx_Zq.moved hW0.alike (hN.kept hS.2.1)
  have h : ∀ w ∈ Bundle.ownAtoms own ic cls names, w.before args s' = true := vx_own hat' (vx_isRefq hU'.1) (vx_isRefq hN'.1) hU'.2.word hN'.2.word
  have hown' : s'.vm.findClass own = some m.cls := by rw [hvm]; exact hown
  have hins : (Cond.instantiable cls 6).before args s' = true := h _ (by simp [Bundle.ownAtoms])
  obtain ⟨vm₁, cX, kX, hfX, hkX, -, -, X₁, st1⟩ := Y.newCold hexec (own := own) (C := cls) (index := ik) (n := 6) hown' hk' hins hini'
    (g := F0 m pc ls rest) rfl (by rw [hb]; exact d0) (Nat.le_refl _) (Nat.le_refl _)
  generalize hT1 : (T.setVm vm₁).pushCell { cls := cX, slots := kX.instanceTypes.map defaultValue, vm := .none } = T1 at X₁ st1
  have hcat : (Value.ref T.heap.size).category = 1 := rfl
  have hcellA : T1.heap[T.heap.size]? = some (freshCell cX kX) := by rw [← hT1]; exact State.heap_pushCell_size _ _
  have d3' : decode c.code (pc + 3) = .ok (.dup, 1) := by rw [hb]; exact d3
  have d4' : decode c.code (pc + 4) = .ok (.ldc is, 2) := by rw [hb]; exact d4
  have hstr' : vk_R own is text sa s' := vk_R.warm hW0 hstr
  obtain ⟨U, hsteps, hrun, hend, hW, hsame, ce, hce, hO⟩ := X₁.ctorThrowS hexec htr (own := own) (cls := cls) (names := names) (ic := ic) hown' hcls hnames h (fun x hx => nomatch hx) hfX hkX hcellA (by rw [hhp, hT]; exact Nat.le_refl _) (msg := .ref sa) rfl
    (g := { method := m, pc := pc + 6, locals := ls, stack := .ref sa :: .ref T.heap.size :: .ref T.heap.size :: rest, locked := none }) rfl hsize rfl rfl (rest := rest) rfl
    (by rw [hb]; exact d6) (by rw [hb]; exact d9) hout hRframes (by simp only [List.map_cons, List.sum_cons, hcat]; omega) hlocks
  obtain ⟨f1, f2⟩ := vx_frame hsame
  rw [hhp] at f1 f2
  have hWs : s.WarmedH U.vm := State.WarmedH.trans hW0 hW
  have hcl : s.vm.findClass cls = some ce.cls := by
    have h9 := hO.cls
    rw [hvm] at h9
    exact h9
  have hall : s.sameButNew ({ U with vm := s.vm } : State) locs mc ms := by
    subst hA
    obtain ⟨e1, e2⟩ := hsame
    rw [State.setFrames_setFrames] at e1
    have h2 : (T.setVm s.vm).sameButNew ({ U with vm := s.vm } : State) [] (0 + 1) (0 + 6) := ⟨e1, e2⟩
    have h3 := X.same.trans h2
    rw [List.append_nil] at h3
    exact h3.mono hc hs
  refine ⟨U, ?_, .threw T.heap.size, hrun, hend, Or.inr ⟨T.heap.size, rfl, cls, ce, locs, hx U hWs.alike f1 (fun q hq => f2 q hq (fun z hz => nomatch hz)), hce, hO.vm, hcl, hWs, hall, hf⟩⟩
  refine st1 _ ?_
  show Steps p.tables e below (T1.setTop { method := m, pc := pc + 3, locals := ls, stack := .ref T.heap.size :: rest, locked := none }) _
  jvm_step X₁.here [X₁.here.top, hexec, d3', Value.category]
  exact X₁.ldcString hexec (own := own) (text := text) (index := is) (a := sa) hown' hstr'.1 hstr'.2
    (g := { method := m, pc := pc + 4, locals := ls, stack := .ref T.heap.size :: .ref T.heap.size :: rest, locked := none }) rfl d4' _ hsteps
/-- 'throw new E("text")', the text by a wide index -/
theorem vx_throwSW {cc : ByteArray} {pc : Nat} (hexec : p.tables.exec = Jvm.exec) (hb : c.code = cc) (hl : l.stackTraces = false) {own cls text : String} {names : List String} {ik is ic mc ms sa : Nat} {A : Nat → Prop}
    (hown : s.vm.findClass own = some m.cls) (hcls : Bundle.fit cls = true) (hnames : ∀ n ∈ names, Bundle.fit n = true)
    (hk : (Cond.classLink own ik cls).before args s = true) (hini : (Cond.initialized cls).before args s = true) (hstr : vk_R own is text sa s) (hat : ∀ w ∈ vx_atS own ic cls names, w.before args s = true)
    (hgood : ∀ w ∈ Cond.classLink own ik cls :: Cond.initialized cls :: vx_atS own ic cls names, vx_ot w = true)
    (hU : vx_Zq Bundle.tN "UNASSIGNED_STACK" Bundle.steD A s s.heap) (hN : vx_Zq Bundle.tN "SUPPRESSED_SENTINEL" Bundle.listD A s s.heap) (hS : va_S A s.heap H locs) (hsize : ls.size = c.maxLocals)
    (d0 : decode cc pc = .ok (.new ik, 3)) (d3 : decode cc (pc + 3) = .ok (.dup, 1)) (d4 : decode cc (pc + 4) = .ok (.ldc_w is, 3)) (d7 : decode cc (pc + 7) = .ok (.invokespecial ic, 3)) (d10 : decode cc (pc + 10) = .ok (.athrow, 1))
    (hout : ∀ x ∈ c.exceptionTable.toList, covers x (pc + 10) = false)
    (hRframes : names.length + 3 < R.frames) (hRlocals : (rest.map fun v => v.category).sum + (13 * (names.length + 1) + 43) ≤ R.locals) (hRcells : cells + 1 ≤ R.cells) (hRslots : slots + 6 ≤ R.slots) (hlocks : meth.locks = false)
    (hx : ∀ t : State, s.vm.Alike t.vm → H.size ≤ t.heap.size → (∀ q : Nat, q < H.size → t.heap[q]? = H[q]?) → XC cls s t)
    (hf : ∀ z ∈ locs, free z.base) (hc : cells + 1 ≤ mc) (hs : slots + 6 ≤ ms) :
    W p l e R s m args below meth c H locs cells slots (vx_MQ below Qc XC args s mc ms free) (F0 m pc ls rest) := by
  intro T hT X
  have htr : e.platform.stackTraces = false := (show e.platform.stackTraces = l.stackTraces by rw [X.admits.platform]).trans hl
  have Y := vx_rebase X (R' := { frames := R.frames, locals := R.locals, cells := 1, slots := 6 }) (Nat.le_refl _) (Nat.le_refl _) hRcells hRslots
  obtain ⟨s', hA⟩ : ∃ z, z = (T.setVm s.vm).setFrames (.invoking m args :: below) := ⟨_, rfl⟩
  rw [← hA] at Y
  have hvm : s'.vm = s.vm := by rw [hA]; rfl
  have hhp : s'.heap = H := by rw [hA]; exact hT
  have hW0 : s.WarmedH s'.vm := by rw [hvm]; exact State.WarmedH.refl s
  have hat' : ∀ w ∈ vx_atS own ic cls names, w.before args s' = true := fun w hw => vx_ot_at hW0 hvm.symm (hgood w (List.mem_cons_of_mem _ (List.mem_cons_of_mem _ hw))) (hat w hw)
  have hk' : (Cond.classLink own ik cls).before args s' = true := vx_ot_at hW0 hvm.symm (hgood _ List.mem_cons_self) hk
  have hini' : (Cond.initialized cls).before args s' = true := vx_ot_at hW0 hvm.symm (hgood _ (List.mem_cons_of_mem _ List.mem_cons_self)) hini
  have hU' : vx_Zq Bundle.tN "UNASSIGNED_STACK" Bundle.steD A s' s'.heap := by rw [hhp]; exact vx_Zq.moved hW0.alike (hU.kept hS.2.1)
  have hN' : vx_Zq Bundle.tN "SUPPRESSED_SENTINEL" Bundle.listD A s' s'.heap := by rw [hhp]; exact vx_Zq.moved hW0.alike (hN.kept hS.2.1)
  have h : ∀ w ∈ Bundle.ownAtoms own ic cls names, w.before args s' = true := vx_own hat' (vx_isRefq hU'.1) (vx_isRefq hN'.1) hU'.2.word hN'.2.word
  have hown' : s'.vm.findClass own = some m.cls := by rw [hvm]; exact hown
  have hins : (Cond.instantiable cls 6).before args s' = true := h _ (by simp [Bundle.ownAtoms])
  obtain ⟨vm₁, cX, kX, hfX, hkX, -, -, X₁, st1⟩ := Y.newCold hexec (own := own) (C := cls) (index := ik) (n := 6) hown' hk' hins hini'
    (g := F0 m pc ls rest) rfl (by rw [hb]; exact d0) (Nat.le_refl _) (Nat.le_refl _)
  generalize hT1 : (T.setVm vm₁).pushCell { cls := cX, slots := kX.instanceTypes.map defaultValue, vm := .none } = T1 at X₁ st1
  have hcat : (Value.ref T.heap.size).category = 1 := rfl
  have hcellA : T1.heap[T.heap.size]? = some (freshCell cX kX) := by rw [← hT1]; exact State.heap_pushCell_size _ _
  have d3' : decode c.code (pc + 3) = .ok (.dup, 1) := by rw [hb]; exact d3
  have d4' : decode c.code (pc + 4) = .ok (.ldc_w is, 3) := by rw [hb]; exact d4
  have hstr' : vk_R own is text sa s' := vk_R.warm hW0 hstr
  obtain ⟨U, hsteps, hrun, hend, hW, hsame, ce, hce, hO⟩ := X₁.ctorThrowS hexec htr (own := own) (cls := cls) (names := names) (ic := ic) hown' hcls hnames h (fun x hx => nomatch hx) hfX hkX hcellA (by rw [hhp, hT]; exact Nat.le_refl _) (msg := .ref sa) rfl
    (g := { method := m, pc := pc + 7, locals := ls, stack := .ref sa :: .ref T.heap.size :: .ref T.heap.size :: rest, locked := none }) rfl hsize rfl rfl (rest := rest) rfl
    (by rw [hb]; exact d7) (by rw [hb]; exact d10) hout hRframes (by simp only [List.map_cons, List.sum_cons, hcat]; omega) hlocks
  obtain ⟨f1, f2⟩ := vx_frame hsame
  rw [hhp] at f1 f2
  have hWs : s.WarmedH U.vm := State.WarmedH.trans hW0 hW
  have hcl : s.vm.findClass cls = some ce.cls := by
    have h9 := hO.cls
    rw [hvm] at h9
    exact h9
  have hall : s.sameButNew ({ U with vm := s.vm } : State) locs mc ms := by
    subst hA
    obtain ⟨e1, e2⟩ := hsame
    rw [State.setFrames_setFrames] at e1
    have h2 : (T.setVm s.vm).sameButNew ({ U with vm := s.vm } : State) [] (0 + 1) (0 + 6) := ⟨e1, e2⟩
    have h3 := X.same.trans h2
    rw [List.append_nil] at h3
    exact h3.mono hc hs
  refine ⟨U, ?_, .threw T.heap.size, hrun, hend, Or.inr ⟨T.heap.size, rfl, cls, ce, locs, hx U hWs.alike f1 (fun q hq => f2 q hq (fun z hz => nomatch hz)), hce, hO.vm, hcl, hWs, hall, hf⟩⟩
  refine st1 _ ?_
  show Steps p.tables e below (T1.setTop { method := m, pc := pc + 3, locals := ls, stack := .ref T.heap.size :: rest, locked := none }) _
  jvm_step X₁.here [X₁.here.top, hexec, d3', Value.category]
  exact X₁.ldcStringW hexec (own := own) (text := text) (index := is) (a := sa) hown' hstr'.1 hstr'.2
    (g := { method := m, pc := pc + 4, locals := ls, stack := .ref T.heap.size :: .ref T.heap.size :: rest, locked := none }) rfl d4' _ hsteps
end Ends
section Bodies
variable {l : Launch}
theorem vx_ofW {y : MethodName} {ws ws' : List Cond} {rm : Room} {Pc : Array Value → State → Prop} {Qc : Array Value → State → Outcome → State → Prop} {XC : String → State → State → Prop} {mc ms : Nat} {free : Addr → Prop} {cc : ByteArray} {maxL : Nat} {ret : Option FieldType}
    (hy : plainName y.cls = true) (hw : ws = Cond.code y cc maxL ret :: ws')
    (body : ∀ p e s m args below meth c s₁, BodyLoose p l y (headSpec ws rm) cc maxL ret e s m args below meth c s₁ → c.maxLocals = maxL → (∀ x ∈ c.exceptionTable.toList, False) → Pc args s →
      W p l e (headSpec ws rm).room s m args below meth c s.heap [] 0 0 (vx_MQ below Qc XC args s mc ms free) (entryFrame m args maxL)) : vx_Met l y ws rm Pc Qc XC mc ms free := by
  refine MetFree.of_bodyS (code := cc) (maxLocals := maxL) (ret := ret) hy ?_ ?_
  · intro args s m h hn
    obtain ⟨meth, c, h1, h2, h3, h4, h5, h6, -, -⟩ := Cond.code_spec hn (atoms_spec (ws := ws) h _ (by rw [hw]; exact List.mem_cons_self))
    exact ⟨meth, c, h1, h2, h3, h4, h5, h6⟩
  · intro p e s m args below meth c s₁ B hml hP _
    have hh0 : s₁.heap = s.heap := by rw [B.state]; rfl
    have ht : ∀ x ∈ c.exceptionTable.toList, False := by
      obtain ⟨meth9, c9, h1, h2, -, -, -, -, h7, -⟩ := Cond.code_spec B.named (atoms_spec (ws := ws) B.pre _ (by rw [hw]; exact List.mem_cons_self))
      cases Option.some.inj (h1.symm.trans B.method)
      cases Option.some.inj (h2.symm.trans (Stand.of_body B).code)
      intro x hx
      rw [Array.isEmpty_iff.mp h7] at hx
      cases hx
    obtain ⟨t, a1, o, b1, b2, b3⟩ := body p e s m args below meth c s₁ B hml ht hP s₁ hh0 (Stand.of_body B)
    exact ⟨t, o, a1, b1, b2, b3⟩
/-- the table of a body with handlers -/
theorem vx_table {p : Program} {x y : MethodName} {S : Spec} {cc bytes : ByteArray} {maxL maxL' : Nat} {ret ret' : Option FieldType} {e : Env} {s s₁ : State} {m : MethodId} {args : Array Value} {below : List Frame} {meth : Method} {c : Code} {hh : List (Nat × Nat × Nat × Nat)}
    (B : BodyLoose p l y S cc maxL ret e s m args below meth c s₁) (h : (Cond.codeWith y bytes maxL' ret' hh).before args s = true) : c.exceptionTable.toList = tableOf hh := by
  obtain ⟨m9, meth9, c9, hn9, h1, h2, -, -, h6, -⟩ := Cond.codeWith_spec h
  cases Option.some.inj (hn9.symm.trans B.named)
  cases Option.some.inj (h1.symm.trans B.method)
  cases Option.some.inj (h2.symm.trans (Stand.of_body B).code)
  rw [← h6, table_eq]
end Bodies
end VXA
/-! ===== END ===== -/
/-! ===== BEGIN a static call of a method with an exception table ===== -/
section VXS
variable {p : Program} {l : Launch} {e : Env} {R : Room} {s : State} {m : MethodId} {args : Array Value} {below : List Frame} {meth : Method} {c : Code} {T : State} {H : Heap} {locs : List Loc} {cells slots : Nat}
abbrev vx_CSW (R : Room) (s : State) (args : Array Value) (own : String) (index : Nat) (y : MethodName) (bytes : ByteArray) (maxL : Nat) (ret : Option FieldType) (hh : List (Nat × Nat × Nat × Nat)) (ws : List Cond) (rm : Room) (mc ms n : Nat) : Prop :=
  (rm.cells = mc ∧ rm.slots = ms ∧ rm.frames + 1 ≤ R.frames ∧ 8 + (maxL + 11) + rm.locals ≤ R.locals ∧ (∀ w ∈ ws, ∀ (a' : Array Value) (U : State), s.WarmedH U.vm → w.before a' U = true) ∧ Cond.codeWith y bytes maxL ret hh ∈ ws) ∧
  (Cond.codeWith y bytes maxL ret hh).before args s = true ∧ (Cond.initialized y.cls).before args s = true ∧ (y.cls ≠ "java/lang/invoke/MethodHandle" ∧ y.cls ≠ "java/lang/invoke/VarHandle") ∧
  (∀ sig, parseMethodDescriptor y.desc = some sig → n = sig.parameters.length) ∧ (Cond.methodLink own index y).before args s = true ∧ (Cond.static y).before args s = true
theorem vx_cwSW {own : String} {index maxL mc ms : Nat} {y : MethodName} {bytes : ByteArray} {ret : Option FieldType} {hh : List (Nat × Nat × Nat × Nat)} {Ts ws ws' : List Cond} {rm : Room} (n : Nat) (ht : ∀ w ∈ Ts, w.before args s = true) (hT : GoodIn Ts (va_wsS own index y ws)) (hw : ws = Cond.codeWith y bytes maxL ret hh :: ws') (hrc : rm.cells = mc) (hrs : rm.slots = ms)
    (hd : y.cls ≠ "java/lang/invoke/MethodHandle" ∧ y.cls ≠ "java/lang/invoke/VarHandle" ∧ (parseMethodDescriptor y.desc).map (fun d => d.parameters.length) = some n) (hR : rm.frames + 1 ≤ R.frames ∧ 8 + (maxL + 11) + rm.locals ≤ R.locals) :
    vx_CSW R s args own index y bytes maxL ret hh ws rm mc ms n := by
  have ok : ∀ w ∈ va_wsS own index y ws, w.before args s = true := fun w h => ht w (hT w h).1
  have hG : GoodIn Ts ws := fun w h => hT w (by unfold va_wsS; exact List.mem_append_right _ h)
  have hc : Cond.codeWith y bytes maxL ret hh ∈ ws := by rw [hw]; exact List.mem_cons_self
  refine ⟨⟨hrc, hrs, hR.1, hR.2, pay_in ht hG, hc⟩, ht _ (hG _ hc).1, ok _ (by simp [va_wsS]), ⟨hd.1, hd.2.1⟩, fun sig h => ?_, ok _ (by simp [va_wsS]), ok _ (by simp [va_wsS])⟩
  have h2 := hd.2.2
  rw [h] at h2
  exact (Option.some.inj h2).symm
theorem vx_callSW (X : Stand p l e R s m args below meth c T locs cells slots) (hexec : p.tables.exec = Jvm.exec) {own : String} {index : Nat} {y : MethodName} {bytes : ByteArray} {maxL : Nat} {ret : Option FieldType} {hh : List (Nat × Nat × Nat × Nat)}
    (hown : s.vm.findClass own = some m.cls) (hlink : (Cond.methodLink own index y).before args s = true) (hstat : (Cond.static y).before args s = true) (hinit : (Cond.initialized y.cls).before args s = true)
    (hcode : (Cond.codeWith y bytes maxL ret hh).before args s = true) (hy : y.cls ≠ "java/lang/invoke/MethodHandle" ∧ y.cls ≠ "java/lang/invoke/VarHandle")
    {W9 : Nat} {Pre : Pt → Array Value → Prop} {Post : Pt → Array Value → Option Value → Pt → Prop} (hK : Back l R p e below s args y 3 W9 Pre Post)
    {g : JFrame} (hg : g.method = m) (hsize : g.locals.size = c.maxLocals) {argsL rest : List Value} (hlen : ∀ sig, parseMethodDescriptor y.desc = some sig → argsL.length = sig.parameters.length)
    (hstack : g.stack = argsL.reverse ++ rest) (hW : 2 * g.monitorRoom + (rest.map fun v => v.category).sum ≤ W9) (hdg : decode c.code g.pc = .ok (.invokestatic index, 3))
    (hpre : ∀ vm₁, s.WarmedH vm₁ → Pre ⟨T.setVm vm₁, locs, cells, slots⟩ argsL.toArray) :
    ∃ (v : Option Value) (vm₁ : Vm) (B : Pt), s.WarmedH vm₁ ∧ Stand p l e R s m args below meth c B.U B.locs B.cells B.slots ∧ Post ⟨T.setVm vm₁, locs, cells, slots⟩ argsL.toArray v B ∧
      ∀ target, Steps p.tables e below (B.U.setTop { g with pc := g.pc + 3, stack := v.toList ++ rest }) target → Steps p.tables e below (T.setTop g) target := by
  obtain ⟨mk, methM, cM, hnamed, hmethM, -, -, -, -, -, -, hsigM⟩ := Cond.codeWith_spec hcode
  have hstatic : methM.isStatic = true := Cond.static_spec hnamed hmethM hstat
  obtain ⟨kP, hkP, -⟩ := className_of_methodNamed hnamed
  have hinitP : kP.init = .initialized := Cond.initialized_spec (findClass_of_methodNamed hnamed) hkP hinit
  obtain ⟨vm₁, X₁, hstep₁⟩ := X.invokestatic hexec hown hlink hnamed hmethM hstatic hkP hinitP hy (g := g) hg (argsL := argsL) (rest := rest) (hlen _ hsigM) hstack hdg
  obtain ⟨v, B, X', hpost, hsteps⟩ := hK m meth c ⟨T.setVm vm₁, locs, cells, slots⟩ { g with stack := rest } (.invokestatic index) mk argsL.toArray X₁ hg hsize hdg hW (X₁.named hnamed) (hpre vm₁ X₁.warmed)
  exact ⟨v, vm₁, B, X₁.warmed, X', hpost, fun target h => hstep₁ _ fun acts => by rw [doInvoke_state]; exact hsteps.trans h⟩
theorem vx_runSW {y : MethodName} {bytes cc : ByteArray} {maxL nL mc ms n index : Nat} {ret : Option FieldType} {hh : List (Nat × Nat × Nat × Nat)} {ws : List Cond} {rm : Room} {Pc : Array Value → State → Prop} {Qc : Array Value → State → Outcome → State → Prop} {free : Addr → Prop} {Ts : List Cond} {own : String} {As rest : List Value} {g : JFrame}
    (S : CallFix p m c cc nL s args Ts own) (hM : Met l y ws rm Pc Qc mc ms free) (cw : vx_CSW R s args own index y bytes maxL ret hh ws rm mc ms n) (hp : PreS s H Pc As)
    (hg : g.method = m) (hn : As.length = n) (hsize : g.locals.size = nL) (hstack : g.stack = As.reverse ++ rest) (hW : 2 * g.monitorRoom + (rest.map fun v => v.category).sum ≤ 8) (hdg : decode cc g.pc = .ok (.invokestatic index, 3)) (hf : cells + mc ≤ R.cells ∧ slots + ms ≤ R.slots) :
    va_Run p l e R s m args below meth c H locs cells slots mc ms g rest (Qc As.toArray) (free) := by
  obtain ⟨⟨hrc, hrs, hfr, hlo, hws, hcw⟩, hcode, hini, hy, hlen, hl, hstt⟩ := cw
  have hK : Back l R p e below s args y 3 8 (PreOf R mc ms Pc) (PostOf Qc mc ms free) := va_backW (hh := hh) (bytes := bytes) (maxL := maxL) (ret := ret) hM hp.1 hrc hrs hfr hlo hws hcw (fun a' U hW => word_at hW (Or.inl (by first | rfl | simp [Cond.onTables, Cond.keeps, Cond.steady])) hini)
  obtain ⟨hx, hb, hml, ho, -⟩ := S
  intro T hT X
  obtain ⟨v, vm₁, ⟨U', l2, c2, s2⟩, hW₁, X', ⟨g', mk, t, L, e1, e2, hq, h1, hL, h2, h3⟩, st⟩ := vx_callSW X hx (hh := hh) (bytes := bytes) (maxL := maxL) (ret := ret) ho hl hstt hini hcode hy hK hg (hsize.trans hml.symm) (argsL := As) (rest := rest) (fun sig h => hn.trans (hlen sig h)) hstack hW (by rw [hb]; exact hdg)
    (fun vm₁ hW₁ => ⟨hf.1, hf.2, hp.2 (T.setVm vm₁) hT hW₁⟩)
  dsimp only [Pt.U, Pt.locs, Pt.cells, Pt.slots] at X' e1 e2 h1 h2 h3 st
  subst h1; subst h2; subst h3
  exact ⟨v, (T.setVm vm₁).calling g' mk As.toArray, t, U', L, hT, X', hL, e1, e2, hq, st⟩
/-- not caught here, past rows that name other classes: it goes on to the caller -/
theorem vx_outP {p : Program} {l : Launch} {e : Env} {R : Room} {s : State} {m : MethodId} {args : Array Value} {below : List Frame} {meth : Method} {c : Code} {H : Heap} {locs : List Loc} {cells slots : Nat} {free : Addr → Prop} {ls : Array Slot} {rest : List Value} {Qc : Array Value → State → Outcome → State → Prop} {XC : String → State → State → Prop}
    {pc : Nat} {own E : String} {ce : Cell} {q : Addr} {mc ms : Nat} (hown : s.vm.findClass own = some m.cls) (hlocks : meth.locks = false)
    (hpass : ∀ z ∈ c.exceptionTable.toList, covers z pc = false ∨ (z.catchType ≠ 0 ∧ ∃ nm : String, (Cond.classLink own z.catchType nm).before args s = true ∧ va_Nc E nm s)) (hcell : H[q]? = some ce) (hv : ce.vm = .none) (hcl : s.vm.findClass E = some ce.cls)
    (hx : ∀ t : State, t.heap = H → s.vm.Alike t.vm → XC E s t) (hf : ∀ z ∈ locs, free z.base) (hc : cells ≤ mc) (hs : slots ≤ ms) :
    vx_W p l e R s m args below meth c H locs cells slots (vx_MQ below Qc XC args s mc ms free) (F0 m pc ls rest) q := by
  intro T hT X
  have hpl : e.platform.magicAccessors = ({} : Platform).magicAccessors := by rw [X.admits.platform]
  obtain ⟨vm', hW', X', st⟩ := X.outThrough hlocks q (g := F0 m pc ls rest) rfl rfl rfl (cell := ce) (by rw [hT]; exact hcell) (by rw [hv]; rfl)
    (by obtain ⟨k9, h9, -⟩ := Vm.findClass_spec hcl; exact ⟨k9, h9⟩) (fun z hz => by
      rcases hpass z hz with h | ⟨hz0, nm, hl1, hn1⟩
      · exact Or.inl h
      · obtain ⟨c6, hc6, hcl6⟩ := Cond.classLink_spec hown hl1 e.platform hpl
        obtain ⟨a8, b8, h1, h2, h3⟩ := hn1
        cases Option.some.inj (h1.symm.trans hcl)
        cases Option.some.inj (h2.symm.trans hc6)
        exact Or.inr ⟨hz0, _, hcl6, h3⟩)
  obtain ⟨g₀, hfr⟩ := X'.frames_eq
  have hcell9 : ((T.setVm vm').setFrames (.throwing q :: below)).heap[q]? = some ce := by
    show T.heap[q]? = some ce
    rw [hT]; exact hcell
  have hend : Ended ((T.setVm vm').setFrames (.throwing q :: below)) below (.threw q) := State.frames_setFrames _ (State.cur_lt_of_frames hfr)
  refine ⟨(T.setVm vm').setFrames (.throwing q :: below), ?_, .threw q, X'.here.running, hend, Or.inr ⟨q, rfl, E, ce, locs, hx _ hT (X'.ends _).1.alike, hcell9, hv, hcl, (X'.ends _).1, (X'.ends _).2.mono hc hs, hf⟩⟩
  rw [X.pushThrowing_eq]
  exact st
/-- a thing of a world lies in the heap -/
theorem vx_lt {D : va_G} {cl : List vw_C} {ws : va_W} {H1 : Heap} (h : va_P D cl ws H1) {k : Nat} {q : Nat × va_E} (hk : ws[k]? = some q) : q.1 < H1.size := (h k q hk).lt
end VXS
/-! ===== END ===== -/
/-! ===== BEGIN methods with a table of their own: called by a name, returning or throwing ===== -/
section VXH
/-! vx_backW, vx_callVX, vx_callSX, vx_callVW, vx_runVW, vx_runVX, vx_runSX, vx_ofWH follow the same proofs as their sisters above (Free/Laws.lean, Shelf42/LK1.lean); vx_outP calls Shelf42/NT130.lean (outThrough). -/
section
variable {l : Launch} {R : Room} {p : Program} {e : Env} {below : List Frame} {s : State} {sargs : Array Value} {y : MethodName} {len W9 : Nat}
theorem vx_backW {ws : List Cond} {rm : Room} {Pc : Array Value → State → Prop} {Qc : Array Value → State → Outcome → State → Prop} {XC : String → State → State → Prop} {mc ms : Nat} {free : Addr → Prop} {bytes : ByteArray} {maxL : Nat} {ret : Option FieldType} {hh : List (Nat × Nat × Nat × Nat)}
    (hM : vx_Met l y ws rm Pc Qc XC mc ms free) (hblind : FrameBlind Pc) (hrc : rm.cells = mc) (hrs : rm.slots = ms)
    (hframes : rm.frames + 1 ≤ R.frames) (hlocals : W9 + (maxL + 11) + rm.locals ≤ R.locals)
    (hws : ∀ w ∈ ws, ∀ a' U, s.WarmedH U.vm → w.before a' U = true) (hcode : Cond.codeWith y bytes maxL ret hh ∈ ws) (hinit : ∀ a' U, s.WarmedH U.vm → (Cond.initialized y.cls).before a' U = true) :
    vx_Back l R p e below s sargs y len W9 (PreOf R mc ms Pc) (PostOf Qc mc ms free) (vx_Post XC mc ms free) := by
  intro m meth c A g ig mk a X hg hsize hdg hW hn hp
  have h1 : (headSpec ws rm).pre.before a A.U = true := atoms_intro fun w hw => hws w hw _ _ X.warmed
  have h2 : (Cond.codeWith y bytes maxL ret hh).before a A.U = true := hws _ hcode _ _ X.warmed
  have h3 : (Cond.initialized y.cls).before a A.U = true := hinit _ _ X.warmed
  have h4 : A.cells + (headSpec ws rm).room.cells ≤ R.cells := by rw [show (headSpec ws rm).room.cells = mc from hrc]; exact hp.1
  have h5 : A.slots + (headSpec ws rm).room.slots ≤ R.slots := by rw [show (headSpec ws rm).room.slots = ms from hrs]; exact hp.2.1
  have hPc : Pc a (A.U.calling g mk a) := hblind _ _ _ _ hp.2.2
  obtain ⟨U, Ls, c0, s0⟩ := A
  dsimp only [Pt.U, Pt.locs, Pt.cells, Pt.slots] at h1 h2 h3 h4 h5 X hn hPc ⊢
  obtain ⟨m9, methY, cY, hn9, hmY, hcY, -, hlY, -⟩ := Cond.codeWith_spec h2
  cases Option.some.inj (hn9.symm.trans hn)
  obtain ⟨kY, hkY, -⟩ := className_of_methodNamed hn
  have hinitY : kY.init = .initialized := Cond.initialized_spec (findClass_of_methodNamed hn) hkY h3
  have h : At U g.method c below := by rw [hg]; exact X.here
  have hlocals9 : W9 + (maxL + 11) + (headSpec ws rm).room.locals ≤ R.locals := hlocals
  have happ : (headSpec ws rm).appliesLoose y e.platform (U.calling g mk a) = true :=
    Spec.appliesLoose_calling (g := g) h hdg hn hkY hinitY
      (X.room_calling (g := g) (R' := (headSpec ws rm).room) hsize hmY hcY hframes (by rw [hlY]; omega) h4 h5) h1
  obtain ⟨mid, hmid⟩ := h.above
  have hfr : (U.setTop g).frames = (.java g :: mid) ++ below := by rw [State.frames_setTop' g h.top, hmid]; rfl
  obtain ⟨o, s₂, hsteps, -, hend, hq⟩ := Steps.callFree hM p X.admits X.cas X.clock (acts := []) hfr happ hPc trivial
  have hq' : vx_Q Qc XC mc ms free a (U.calling g mk a) o s₂ := hq
  rw [State.frames_setTop' g h.top] at hend
  obtain ⟨g₀, hg0⟩ := Option.isSome_iff_exists.mp h.top
  obtain ⟨r, hr⟩ := State.topJava?_eq_some.mp hg0
  have hr' : (({ U with heap := s₂.heap, slotsUsed := s₂.slotsUsed } : State).setVm s₂.vm).frames = .java g₀ :: r := hr
  rcases hq' with ⟨hqc, L, hfe, hL⟩ | ⟨q, rfl, E, ce, L, hx, hce, hcv, hcl, hW₂, hsm, hL⟩
  · obtain ⟨⟨v, rfl⟩, hW₂, e2, q2, q3, q4, q5, q6⟩ := id hfe
    have e3 : s₂ = ({ (U.calling g mk a).setFrames s₂.frames with heap := s₂.heap, slotsUsed := s₂.slotsUsed } : State).setVm s₂.vm := by
      have : s₂ = ({ s₂ with vm := (U.calling g mk a).vm } : State).setVm s₂.vm := rfl
      rw [e2] at this
      exact this
    obtain ⟨c₂, i₂, len₂, hc₂, hd₂, hf₂⟩ := hend
    have hW' : U.WarmedH s₂.vm := hW₂
    have hcc : c₂ = c := by
      have h1 : s₂.code? g.method = U.code? g.method := by
        rw [State.code?_eq, State.code?_eq, hW'.alike.method?]
      exact Option.some.inj (hc₂.symm.trans (h1.trans h.code))
    subst hcc
    have hlen : len₂ = len := by rw [hdg] at hd₂; cases hd₂; rfl
    subst hlen
    have hs₂ : s₂ = (({ U with heap := s₂.heap, slotsUsed := s₂.slotsUsed } : State).setVm s₂.vm).setTop { g with pc := g.pc + len₂, stack := v.toList ++ g.stack } := by
      refine e3.trans ?_
      rw [hf₂, State.calling_eq h.top, State.setFrames_setFrames, State.setTop_of_frames _ hr', hr]
      rfl
    have hsame : U.sameButNew ({ U with heap := s₂.heap, slotsUsed := s₂.slotsUsed } : State) L mc ms := by
      refine ⟨?_, q2, q3, q4, q5, q6⟩
      obtain ⟨t, ht, -⟩ := State.frames_cons hr
      show ({ U with heap := s₂.heap, slotsUsed := s₂.slotsUsed } : State) = { U.setFrames U.frames with heap := s₂.heap, slotsUsed := s₂.slotsUsed }
      rw [State.setFrames_self ht]
    subst hg
    refine Or.inl ⟨v, ⟨(({ U with heap := s₂.heap, slotsUsed := s₂.slotsUsed } : State).setVm s₂.vm), Ls ++ L, c0 + mc, s0 + ms⟩,
      ⟨X.admits, X.cas, X.clock, X.frames, X.room, X.hears, X.method, X.code, (X.here.setHeapUsed s₂.heap s₂.slotsUsed).setVm hW'.alike, X.tail, State.WarmedH.trans X.warmed hW', X.limits, X.bytes, X.same.trans (hsame.setVm s.vm)⟩,
      ⟨g, mk, s₂, L, rfl, rfl, hqc, rfl, hL, rfl, rfl⟩, ?_⟩
    show Steps p.tables e below _ ((({ U with heap := s₂.heap, slotsUsed := s₂.slotsUsed } : State).setVm s₂.vm).setTop { g with pc := g.pc + len₂, stack := v.toList ++ g.stack })
    rw [← hs₂]
    exact hsteps
  · obtain ⟨e2, q2, q3, q4, q5, q6⟩ := id hsm
    have e3 : s₂ = ({ (U.calling g mk a).setFrames s₂.frames with heap := s₂.heap, slotsUsed := s₂.slotsUsed } : State).setVm s₂.vm := by
      have : s₂ = ({ s₂ with vm := (U.calling g mk a).vm } : State).setVm s₂.vm := rfl
      rw [e2] at this
      exact this
    have hf₂ : s₂.frames = .throwing q :: .java g :: U.frames.tail := hend
    have hW' : U.WarmedH s₂.vm := hW₂
    have hs₂ : s₂ = ((({ U with heap := s₂.heap, slotsUsed := s₂.slotsUsed } : State).setVm s₂.vm).setTop g).pushFrame (.throwing q) := by
      refine e3.trans ?_
      rw [hf₂, State.calling_eq h.top, State.setFrames_setFrames, State.pushFrame, State.frames_setTop _ hr', State.setTop_of_frames _ hr', State.setFrames_setFrames, hr]
      rfl
    have hsame : U.sameButNew ({ U with heap := s₂.heap, slotsUsed := s₂.slotsUsed } : State) L mc ms := by
      refine ⟨?_, q2, q3, q4, q5, q6⟩
      obtain ⟨t, ht, -⟩ := State.frames_cons hr
      show ({ U with heap := s₂.heap, slotsUsed := s₂.slotsUsed } : State) = { U.setFrames U.frames with heap := s₂.heap, slotsUsed := s₂.slotsUsed }
      rw [State.setFrames_self ht]
    subst hg
    refine Or.inr ⟨q, ⟨(({ U with heap := s₂.heap, slotsUsed := s₂.slotsUsed } : State).setVm s₂.vm), Ls ++ L, c0 + mc, s0 + ms⟩,
      ⟨X.admits, X.cas, X.clock, X.frames, X.room, X.hears, X.method, X.code, (X.here.setHeapUsed s₂.heap s₂.slotsUsed).setVm hW'.alike, X.tail, State.WarmedH.trans X.warmed hW', X.limits, X.bytes, X.same.trans (hsame.setVm s.vm)⟩,
      ⟨g, mk, s₂, L, E, ce, rfl, rfl, hx, hce, hcv, hcl, rfl, hL, rfl, rfl⟩, ?_⟩
    show Steps p.tables e below _ (((({ U with heap := s₂.heap, slotsUsed := s₂.slotsUsed } : State).setVm s₂.vm).setTop g).pushFrame (.throwing q))
    rw [← hs₂]
    exact hsteps
end
variable {p : Program} {l : Launch} {e : Env} {R : Room} {s : State} {m : MethodId} {args : Array Value} {below : List Frame} {meth : Method} {c : Code} {T : State} {H : Heap} {locs : List Loc} {cells slots : Nat}
theorem vx_callVX (X : Stand p l e R s m args below meth c T locs cells slots) (hexec : p.tables.exec = Jvm.exec) {own C : String} {index : Nat} {y : MethodName} {bytes : ByteArray} {maxL : Nat} {ret : Option FieldType} {hh : List (Nat × Nat × Nat × Nat)}
    (hown : s.vm.findClass own = some m.cls) (hlink : (Cond.methodLink own index y).before args s = true) (hinst : (Cond.instanceMethod y).before args s = true) (hsel : (Cond.selects C y y).before args s = true)
    (hcode : (Cond.codeWith y bytes maxL ret hh).before args s = true) (hy : y.cls ≠ "java/lang/invoke/MethodHandle" ∧ y.cls ≠ "java/lang/invoke/VarHandle")
    {W9 : Nat} {Pre : Pt → Array Value → Prop} {Post : Pt → Array Value → Option Value → Pt → Prop} {PostX : Pt → Array Value → Addr → Pt → Prop} (hK : vx_Back l R p e below s args y 3 W9 Pre Post PostX)
    {b : Addr} {cellB : Cell} (hcell : T.heap[b]? = some cellB) (hobj : cellB.vm.isStatics = false) (hcls : s.vm.findClass C = some cellB.cls)
    {g : JFrame} (hg : g.method = m) (hsize : g.locals.size = c.maxLocals) {argsL rest : List Value} (hlen : ∀ sig, parseMethodDescriptor y.desc = some sig → argsL.length = sig.parameters.length)
    (hstack : g.stack = argsL.reverse ++ .ref b :: rest) (hW : 2 * g.monitorRoom + (rest.map fun v => v.category).sum ≤ W9) (hdg : decode c.code g.pc = .ok (.invokevirtual index, 3))
    (hpre : ∀ vm₁, s.WarmedH vm₁ → Pre ⟨T.setVm vm₁, locs, cells, slots⟩ (Value.ref b :: argsL).toArray) :
    (∃ (v : Option Value) (vm₁ : Vm) (B : Pt), s.WarmedH vm₁ ∧ Stand p l e R s m args below meth c B.U B.locs B.cells B.slots ∧ Post ⟨T.setVm vm₁, locs, cells, slots⟩ (Value.ref b :: argsL).toArray v B ∧
      ∀ target, Steps p.tables e below (B.U.setTop { g with pc := g.pc + 3, stack := v.toList ++ rest }) target → Steps p.tables e below (T.setTop g) target) ∨
    (∃ (q : Addr) (vm₁ : Vm) (B : Pt), s.WarmedH vm₁ ∧ Stand p l e R s m args below meth c B.U B.locs B.cells B.slots ∧ PostX ⟨T.setVm vm₁, locs, cells, slots⟩ (Value.ref b :: argsL).toArray q B ∧
      Steps p.tables e below (T.setTop g) ((B.U.setTop { g with stack := rest }).pushFrame (.throwing q))) := by
  obtain ⟨mk, methM, hnamed, hmethM, hstM, habM⟩ := Cond.instanceMethod_spec hinst
  obtain ⟨m8, methM', cM, hn8, hmethM', -, -, -, -, -, -, hsigM⟩ := Cond.codeWith_spec hcode
  cases Option.some.inj (hn8.symm.trans hnamed)
  cases hmethM.symm.trans hmethM'
  obtain ⟨c2, r2, m2, q1, q2, q3, q4, kP, hkP, hkPi⟩ := Cond.selects_spec hsel
  cases hcls.symm.trans q1
  cases (State.methodFound?_of_named hnamed hy).symm.trans q2
  cases hnamed.symm.trans q3
  have hselP : selectMethod e.platform s.vm cellB.cls mk = .method mk := by rw [Launch.admits_selectMethod X.admits]; exact q4
  obtain ⟨vm₁, X₁, hstep₁⟩ := X.invokevirtual hexec hown hlink hnamed hmethM hstM hkP hkPi hy (a := b) (cell := cellB) hcell
    (fun z h => by rw [h] at hobj; cases hobj) hselP hmethM habM hkP hkPi (g := g) hg (argsL := argsL) (rest := rest) (hlen _ hsigM) hstack hdg
  rcases hK m meth c ⟨T.setVm vm₁, locs, cells, slots⟩ { g with stack := rest } (.invokevirtual index) mk (Value.ref b :: argsL).toArray X₁ hg hsize hdg hW (X₁.named hnamed) (hpre vm₁ X₁.warmed) with ⟨v, B, X', hpost, hsteps⟩ | ⟨q, B, X', hpost, hsteps⟩
  · exact Or.inl ⟨v, vm₁, B, X₁.warmed, X', hpost, fun target h => hstep₁ _ fun acts => by rw [doInvoke_state]; exact hsteps.trans h⟩
  · exact Or.inr ⟨q, vm₁, B, X₁.warmed, X', hpost, hstep₁ _ fun acts => by rw [doInvoke_state]; exact hsteps⟩
theorem vx_callSX (X : Stand p l e R s m args below meth c T locs cells slots) (hexec : p.tables.exec = Jvm.exec) {own : String} {index : Nat} {y : MethodName} {bytes : ByteArray} {maxL : Nat} {ret : Option FieldType} {hh : List (Nat × Nat × Nat × Nat)}
    (hown : s.vm.findClass own = some m.cls) (hlink : (Cond.methodLink own index y).before args s = true) (hstat : (Cond.static y).before args s = true) (hinit : (Cond.initialized y.cls).before args s = true)
    (hcode : (Cond.codeWith y bytes maxL ret hh).before args s = true) (hy : y.cls ≠ "java/lang/invoke/MethodHandle" ∧ y.cls ≠ "java/lang/invoke/VarHandle")
    {W9 : Nat} {Pre : Pt → Array Value → Prop} {Post : Pt → Array Value → Option Value → Pt → Prop} {PostX : Pt → Array Value → Addr → Pt → Prop} (hK : vx_Back l R p e below s args y 3 W9 Pre Post PostX)
    {g : JFrame} (hg : g.method = m) (hsize : g.locals.size = c.maxLocals) {argsL rest : List Value} (hlen : ∀ sig, parseMethodDescriptor y.desc = some sig → argsL.length = sig.parameters.length)
    (hstack : g.stack = argsL.reverse ++ rest) (hW : 2 * g.monitorRoom + (rest.map fun v => v.category).sum ≤ W9) (hdg : decode c.code g.pc = .ok (.invokestatic index, 3))
    (hpre : ∀ vm₁, s.WarmedH vm₁ → Pre ⟨T.setVm vm₁, locs, cells, slots⟩ argsL.toArray) :
    (∃ (v : Option Value) (vm₁ : Vm) (B : Pt), s.WarmedH vm₁ ∧ Stand p l e R s m args below meth c B.U B.locs B.cells B.slots ∧ Post ⟨T.setVm vm₁, locs, cells, slots⟩ argsL.toArray v B ∧
      ∀ target, Steps p.tables e below (B.U.setTop { g with pc := g.pc + 3, stack := v.toList ++ rest }) target → Steps p.tables e below (T.setTop g) target) ∨
    (∃ (q : Addr) (vm₁ : Vm) (B : Pt), s.WarmedH vm₁ ∧ Stand p l e R s m args below meth c B.U B.locs B.cells B.slots ∧ PostX ⟨T.setVm vm₁, locs, cells, slots⟩ argsL.toArray q B ∧
      Steps p.tables e below (T.setTop g) ((B.U.setTop { g with stack := rest }).pushFrame (.throwing q))) := by
  obtain ⟨mk, methM, cM, hnamed, hmethM, -, -, -, -, -, -, hsigM⟩ := Cond.codeWith_spec hcode
  have hstatic : methM.isStatic = true := Cond.static_spec hnamed hmethM hstat
  obtain ⟨kP, hkP, -⟩ := className_of_methodNamed hnamed
  have hinitP : kP.init = .initialized := Cond.initialized_spec (findClass_of_methodNamed hnamed) hkP hinit
  obtain ⟨vm₁, X₁, hstep₁⟩ := X.invokestatic hexec hown hlink hnamed hmethM hstatic hkP hinitP hy (g := g) hg (argsL := argsL) (rest := rest) (hlen _ hsigM) hstack hdg
  rcases hK m meth c ⟨T.setVm vm₁, locs, cells, slots⟩ { g with stack := rest } (.invokestatic index) mk argsL.toArray X₁ hg hsize hdg hW (X₁.named hnamed) (hpre vm₁ X₁.warmed) with ⟨v, B, X', hpost, hsteps⟩ | ⟨q, B, X', hpost, hsteps⟩
  · exact Or.inl ⟨v, vm₁, B, X₁.warmed, X', hpost, fun target h => hstep₁ _ fun acts => by rw [doInvoke_state]; exact hsteps.trans h⟩
  · exact Or.inr ⟨q, vm₁, B, X₁.warmed, X', hpost, hstep₁ _ fun acts => by rw [doInvoke_state]; exact hsteps⟩
theorem vx_callVW (X : Stand p l e R s m args below meth c T locs cells slots) (hexec : p.tables.exec = Jvm.exec) {own C : String} {index : Nat} {y : MethodName} {bytes : ByteArray} {maxL : Nat} {ret : Option FieldType} {hh : List (Nat × Nat × Nat × Nat)}
    (hown : s.vm.findClass own = some m.cls) (hlink : (Cond.methodLink own index y).before args s = true) (hinst : (Cond.instanceMethod y).before args s = true) (hsel : (Cond.selects C y y).before args s = true)
    (hcode : (Cond.codeWith y bytes maxL ret hh).before args s = true) (hy : y.cls ≠ "java/lang/invoke/MethodHandle" ∧ y.cls ≠ "java/lang/invoke/VarHandle")
    {W9 : Nat} {Pre : Pt → Array Value → Prop} {Post : Pt → Array Value → Option Value → Pt → Prop} (hK : Back l R p e below s args y 3 W9 Pre Post)
    {b : Addr} {cellB : Cell} (hcell : T.heap[b]? = some cellB) (hobj : cellB.vm.isStatics = false) (hcls : s.vm.findClass C = some cellB.cls)
    {g : JFrame} (hg : g.method = m) (hsize : g.locals.size = c.maxLocals) {argsL rest : List Value} (hlen : ∀ sig, parseMethodDescriptor y.desc = some sig → argsL.length = sig.parameters.length)
    (hstack : g.stack = argsL.reverse ++ .ref b :: rest) (hW : 2 * g.monitorRoom + (rest.map fun v => v.category).sum ≤ W9) (hdg : decode c.code g.pc = .ok (.invokevirtual index, 3))
    (hpre : ∀ vm₁, s.WarmedH vm₁ → Pre ⟨T.setVm vm₁, locs, cells, slots⟩ (Value.ref b :: argsL).toArray) :
    ∃ (v : Option Value) (vm₁ : Vm) (B : Pt), s.WarmedH vm₁ ∧ Stand p l e R s m args below meth c B.U B.locs B.cells B.slots ∧ Post ⟨T.setVm vm₁, locs, cells, slots⟩ (Value.ref b :: argsL).toArray v B ∧
      ∀ target, Steps p.tables e below (B.U.setTop { g with pc := g.pc + 3, stack := v.toList ++ rest }) target → Steps p.tables e below (T.setTop g) target := by
  obtain ⟨mk, methM, hnamed, hmethM, hstM, habM⟩ := Cond.instanceMethod_spec hinst
  obtain ⟨m8, methM', cM, hn8, hmethM', -, -, -, -, -, -, hsigM⟩ := Cond.codeWith_spec hcode
  cases Option.some.inj (hn8.symm.trans hnamed)
  cases hmethM.symm.trans hmethM'
  obtain ⟨c2, r2, m2, q1, q2, q3, q4, kP, hkP, hkPi⟩ := Cond.selects_spec hsel
  cases hcls.symm.trans q1
  cases (State.methodFound?_of_named hnamed hy).symm.trans q2
  cases hnamed.symm.trans q3
  have hselP : selectMethod e.platform s.vm cellB.cls mk = .method mk := by rw [Launch.admits_selectMethod X.admits]; exact q4
  obtain ⟨vm₁, X₁, hstep₁⟩ := X.invokevirtual hexec hown hlink hnamed hmethM hstM hkP hkPi hy (a := b) (cell := cellB) hcell
    (fun z h => by rw [h] at hobj; cases hobj) hselP hmethM habM hkP hkPi (g := g) hg (argsL := argsL) (rest := rest) (hlen _ hsigM) hstack hdg
  obtain ⟨v, B, X', hpost, hsteps⟩ := hK m meth c ⟨T.setVm vm₁, locs, cells, slots⟩ { g with stack := rest } (.invokevirtual index) mk (Value.ref b :: argsL).toArray X₁ hg hsize hdg hW (X₁.named hnamed) (hpre vm₁ X₁.warmed)
  exact ⟨v, vm₁, B, X₁.warmed, X', hpost, fun target h => hstep₁ _ fun acts => by rw [doInvoke_state]; exact hsteps.trans h⟩
abbrev vx_CVW (R : Room) (s : State) (args : Array Value) (own C : String) (index : Nat) (y : MethodName) (bytes : ByteArray) (maxL : Nat) (ret : Option FieldType) (hh : List (Nat × Nat × Nat × Nat)) (ws : List Cond) (rm : Room) (mc ms n : Nat) : Prop :=
  (rm.cells = mc ∧ rm.slots = ms ∧ rm.frames + 1 ≤ R.frames ∧ 8 + (maxL + 11) + rm.locals ≤ R.locals ∧ (∀ w ∈ ws, ∀ (a' : Array Value) (U : State), s.WarmedH U.vm → w.before a' U = true) ∧ Cond.codeWith y bytes maxL ret hh ∈ ws) ∧
  (Cond.codeWith y bytes maxL ret hh).before args s = true ∧ (Cond.initialized y.cls).before args s = true ∧ (y.cls ≠ "java/lang/invoke/MethodHandle" ∧ y.cls ≠ "java/lang/invoke/VarHandle") ∧
  (∀ sig, parseMethodDescriptor y.desc = some sig → n = sig.parameters.length) ∧ (Cond.methodLink own index y).before args s = true ∧ (Cond.instanceMethod y).before args s = true ∧ (Cond.selects C y y).before args s = true
theorem vx_cwVW {own C : String} {index maxL mc ms : Nat} {y : MethodName} {bytes : ByteArray} {ret : Option FieldType} {hh : List (Nat × Nat × Nat × Nat)} {Ts ws ws' : List Cond} {rm : Room} (n : Nat) (ht : ∀ w ∈ Ts, w.before args s = true) (hT : GoodIn Ts (wsV own index C y ws)) (hw : ws = Cond.codeWith y bytes maxL ret hh :: ws') (hrc : rm.cells = mc) (hrs : rm.slots = ms)
    (hd : y.cls = C ∧ y.cls ≠ "java/lang/invoke/MethodHandle" ∧ y.cls ≠ "java/lang/invoke/VarHandle" ∧ (parseMethodDescriptor y.desc).map (fun d => d.parameters.length) = some n) (hR : rm.frames + 1 ≤ R.frames ∧ 8 + (maxL + 11) + rm.locals ≤ R.locals) :
    vx_CVW R s args own C index y bytes maxL ret hh ws rm mc ms n := by
  obtain ⟨hC, hd⟩ := hd
  subst hC
  have ok : ∀ w ∈ wsV own index y.cls y ws, w.before args s = true := fun w h => ht w (hT w h).1
  have hG : GoodIn Ts ws := fun w h => hT w (by unfold wsV; exact List.mem_append_right _ h)
  have hc : Cond.codeWith y bytes maxL ret hh ∈ ws := by rw [hw]; exact List.mem_cons_self
  refine ⟨⟨hrc, hrs, hR.1, hR.2, pay_in ht hG, hc⟩, ht _ (hG _ hc).1, ok _ (by simp [wsV]), ⟨hd.1, hd.2.1⟩, fun sig h => ?_, ok _ (by simp [wsV]), ok _ (by simp [wsV]), ok _ (by simp [wsV])⟩
  have h2 := hd.2.2
  rw [h] at h2
  exact (Option.some.inj h2).symm
theorem vx_runVW {y : MethodName} {bytes cc : ByteArray} {maxL nL mc ms n index : Nat} {ret : Option FieldType} {hh : List (Nat × Nat × Nat × Nat)} {ws : List Cond} {rm : Room} {Pc : Array Value → State → Prop} {Qc : Array Value → State → Outcome → State → Prop} {free : Addr → Prop} {Ts : List Cond} {own C : String} {b : Addr} {As rest : List Value} {g : JFrame}
    (S : CallFix p m c cc nL s args Ts own) (hM : Met l y ws rm Pc Qc mc ms free) (cw : vx_CVW R s args own C index y bytes maxL ret hh ws rm mc ms n) (hp : PreV s H C b Pc As)
    (hg : g.method = m) (hn : As.length = n) (hsize : g.locals.size = nL) (hstack : g.stack = As.reverse ++ .ref b :: rest) (hW : 2 * g.monitorRoom + (rest.map fun v => v.category).sum ≤ 8) (hdg : decode cc g.pc = .ok (.invokevirtual index, 3)) (hf : cells + mc ≤ R.cells ∧ slots + ms ≤ R.slots) :
    va_Run p l e R s m args below meth c H locs cells slots mc ms g rest (Qc (Value.ref b :: As).toArray) free := by
  obtain ⟨⟨hrc, hrs, hfr, hlo, hws, hcw⟩, hcode, hini, hy, hlen, hl, hin, hse⟩ := cw
  have hK : Back l R p e below s args y 3 8 (PreOf R mc ms Pc) (PostOf Qc mc ms free) := va_backW (hh := hh) (bytes := bytes) (maxL := maxL) (ret := ret) hM hp.1 hrc hrs hfr hlo hws hcw (fun a' U hW => word_at hW (Or.inl (by first | rfl | simp [Cond.onTables, Cond.keeps, Cond.steady])) hini)
  obtain ⟨hx, hb, hml, ho, -⟩ := S
  obtain ⟨-, ⟨cellB, hcB, hoB, hclB⟩, hPc⟩ := hp
  intro T hT X
  obtain ⟨v, vm₁, ⟨U', l2, c2, s2⟩, hW₁, X', ⟨g', mk, t, L, e1, e2, hq, h1, hL, h2, h3⟩, st⟩ := vx_callVW X hx (C := C) (hh := hh) (bytes := bytes) (maxL := maxL) (ret := ret) ho hl hin hse hcode hy hK (by rw [hT]; exact hcB) hoB hclB hg (hsize.trans hml.symm) (argsL := As) (rest := rest) (fun sig h => hn.trans (hlen sig h)) hstack hW (by rw [hb]; exact hdg)
    (fun vm₁ hW₁ => ⟨hf.1, hf.2, hPc (T.setVm vm₁) hT hW₁⟩)
  dsimp only [Pt.U, Pt.locs, Pt.cells, Pt.slots] at X' e1 e2 h1 h2 h3 st
  subst h1; subst h2; subst h3
  exact ⟨v, (T.setVm vm₁).calling g' mk (Value.ref b :: As).toArray, t, U', L, hT, X', hL, e1, e2, hq, st⟩
section
variable {y : MethodName} {bytes cc : ByteArray} {maxL nL mc ms n index : Nat} {ret : Option FieldType} {ws : List Cond} {rm : Room} {Pc : Array Value → State → Prop} {Qc : Array Value → State → Outcome → State → Prop} {XC : String → State → State → Prop} {free : Addr → Prop} {Ts : List Cond} {own C : String} {b : Addr} {As rest : List Value} {g : JFrame}
theorem vx_runVX {hh : List (Nat × Nat × Nat × Nat)} (S : CallFix p m c cc nL s args Ts own) (hM : vx_Met l y ws rm Pc Qc XC mc ms free) (cw : vx_CVW R s args own C index y bytes maxL ret hh ws rm mc ms n) (hp : PreV s H C b Pc As)
    (hg : g.method = m) (hn : As.length = n) (hsize : g.locals.size = nL) (hstack : g.stack = As.reverse ++ .ref b :: rest) (hW : 2 * g.monitorRoom + (rest.map fun v => v.category).sum ≤ 8) (hdg : decode cc g.pc = .ok (.invokevirtual index, 3)) (hf : cells + mc ≤ R.cells ∧ slots + ms ≤ R.slots) :
    vx_Run p l e R s m args below meth c H locs cells slots mc ms g rest (Qc (Value.ref b :: As).toArray) XC free := by
  obtain ⟨⟨hrc, hrs, hfr, hlo, hws, hcw⟩, hcode, hini, hy, hlen, hl, hin, hse⟩ := cw
  have hK : vx_Back l R p e below s args y 3 8 (PreOf R mc ms Pc) (PostOf Qc mc ms free) (vx_Post XC mc ms free) := vx_backW (hh := hh) (bytes := bytes) (maxL := maxL) (ret := ret) hM hp.1 hrc hrs hfr hlo hws hcw (fun a' U hW => word_at hW (Or.inl (by first | rfl | simp [Cond.onTables, Cond.keeps, Cond.steady])) hini)
  obtain ⟨hx, hb, hml, ho, -⟩ := S
  obtain ⟨-, ⟨cellB, hcB, hoB, hclB⟩, hPc⟩ := hp
  intro T hT X
  rcases vx_callVX X hx (C := C) (hh := hh) (bytes := bytes) (maxL := maxL) (ret := ret) ho hl hin hse hcode hy hK (by rw [hT]; exact hcB) hoB hclB hg (hsize.trans hml.symm) (argsL := As) (rest := rest) (fun sig h => hn.trans (hlen sig h)) hstack hW (by rw [hb]; exact hdg)
    (fun vm₁ hW₁ => ⟨hf.1, hf.2, hPc (T.setVm vm₁) hT hW₁⟩) with ⟨v, vm₁, ⟨U', l2, c2, s2⟩, hW₁, X', ⟨g', mk, t, L, e1, e2, hq, h1, hL, h2, h3⟩, st⟩ | ⟨q, vm₁, ⟨U', l2, c2, s2⟩, hW₁, X', ⟨g', mk, t, L, E, ce, e1, e2, hq, hce, hcv, hcl, h1, hL, h2, h3⟩, st⟩
  · dsimp only [Pt.U, Pt.locs, Pt.cells, Pt.slots] at X' e1 e2 h1 h2 h3 st
    subst h1; subst h2; subst h3
    exact Or.inl ⟨v, (T.setVm vm₁).calling g' mk (Value.ref b :: As).toArray, t, U', L, hT, X', hL, e1, e2, hq, st⟩
  · dsimp only [Pt.U, Pt.locs, Pt.cells, Pt.slots] at X' e1 e2 h1 h2 h3 st hcl
    subst h1; subst h2; subst h3
    exact Or.inr ⟨q, (T.setVm vm₁).calling g' mk (Value.ref b :: As).toArray, t, U', L, E, ce, hT, X', hL, e1, e2, hq, hce, hcv, vx_cls hW₁ hcl, st⟩
theorem vx_runSX {hh : List (Nat × Nat × Nat × Nat)} (S : CallFix p m c cc nL s args Ts own) (hM : vx_Met l y ws rm Pc Qc XC mc ms free) (cw : vx_CSW R s args own index y bytes maxL ret hh ws rm mc ms n) (hp : PreS s H Pc As)
    (hg : g.method = m) (hn : As.length = n) (hsize : g.locals.size = nL) (hstack : g.stack = As.reverse ++ rest) (hW : 2 * g.monitorRoom + (rest.map fun v => v.category).sum ≤ 8) (hdg : decode cc g.pc = .ok (.invokestatic index, 3)) (hf : cells + mc ≤ R.cells ∧ slots + ms ≤ R.slots) :
    vx_Run p l e R s m args below meth c H locs cells slots mc ms g rest (Qc As.toArray) XC free := by
  obtain ⟨⟨hrc, hrs, hfr, hlo, hws, hcw⟩, hcode, hini, hy, hlen, hl, hstt⟩ := cw
  have hK : vx_Back l R p e below s args y 3 8 (PreOf R mc ms Pc) (PostOf Qc mc ms free) (vx_Post XC mc ms free) := vx_backW (hh := hh) (bytes := bytes) (maxL := maxL) (ret := ret) hM hp.1 hrc hrs hfr hlo hws hcw (fun a' U hW => word_at hW (Or.inl (by first | rfl | simp [Cond.onTables, Cond.keeps, Cond.steady])) hini)
  obtain ⟨hx, hb, hml, ho, -⟩ := S
  intro T hT X
  rcases vx_callSX X hx (hh := hh) (bytes := bytes) (maxL := maxL) (ret := ret) ho hl hstt hini hcode hy hK hg (hsize.trans hml.symm) (argsL := As) (rest := rest) (fun sig h => hn.trans (hlen sig h)) hstack hW (by rw [hb]; exact hdg)
    (fun vm₁ hW₁ => ⟨hf.1, hf.2, hp.2 (T.setVm vm₁) hT hW₁⟩) with ⟨v, vm₁, ⟨U', l2, c2, s2⟩, hW₁, X', ⟨g', mk, t, L, e1, e2, hq, h1, hL, h2, h3⟩, st⟩ | ⟨q, vm₁, ⟨U', l2, c2, s2⟩, hW₁, X', ⟨g', mk, t, L, E, ce, e1, e2, hq, hce, hcv, hcl, h1, hL, h2, h3⟩, st⟩
  · dsimp only [Pt.U, Pt.locs, Pt.cells, Pt.slots] at X' e1 e2 h1 h2 h3 st
    subst h1; subst h2; subst h3
    exact Or.inl ⟨v, (T.setVm vm₁).calling g' mk As.toArray, t, U', L, hT, X', hL, e1, e2, hq, st⟩
  · dsimp only [Pt.U, Pt.locs, Pt.cells, Pt.slots] at X' e1 e2 h1 h2 h3 st hcl
    subst h1; subst h2; subst h3
    exact Or.inr ⟨q, (T.setVm vm₁).calling g' mk As.toArray, t, U', L, E, ce, hT, X', hL, e1, e2, hq, hce, hcv, vx_cls hW₁ hcl, st⟩
end
end VXH
theorem vx_ofWH {l : Launch} {y : MethodName} {ws ws' : List Cond} {rm : Room} {Pc : Array Value → State → Prop} {Qc : Array Value → State → Outcome → State → Prop} {XC : String → State → State → Prop} {mc ms : Nat} {free : Addr → Prop} {cc : ByteArray} {maxL : Nat} {ret : Option FieldType} {hh : List (Nat × Nat × Nat × Nat)}
    (hy : plainName y.cls = true) (hw : ws = Cond.codeWith y cc maxL ret hh :: ws')
    (body : ∀ p e s m args below meth c s₁, BodyLoose p l y (headSpec ws rm) cc maxL ret e s m args below meth c s₁ → c.maxLocals = maxL → Pc args s →
      W p l e (headSpec ws rm).room s m args below meth c s.heap [] 0 0 (vx_MQ below Qc XC args s mc ms free) (entryFrame m args maxL)) : vx_Met l y ws rm Pc Qc XC mc ms free := by
  refine MetFree.of_bodyS (code := cc) (maxLocals := maxL) (ret := ret) hy ?_ ?_
  · intro args s m h hn
    obtain ⟨m9, meth, c, hn9, h1, h2, h3, h4, -, h5, h6, -⟩ := Cond.codeWith_spec (atoms_spec (ws := ws) h _ (by rw [hw]; exact List.mem_cons_self))
    cases hn.symm.trans hn9
    exact ⟨meth, c, h1, h2, h3, h4, h5, h6⟩
  · intro p e s m args below meth c s₁ B hml hP _
    have hh0 : s₁.heap = s.heap := by rw [B.state]; rfl
    obtain ⟨t, a1, o, b1, b2, b3⟩ := body p e s m args below meth c s₁ B hml hP s₁ hh0 (Stand.of_body B)
    exact ⟨t, o, a1, b1, b2, b3⟩
/-! ===== END ===== -/
end
section
/-! ===== BEGIN printed: names, fields, word lists, decode rows ===== -/
def RX0 : String := "HoldServer$Department"
def TX0 : u_T := fun k => match k with
  | 0 => ("HoldServer$Department", "ownFiles", "Ljava/util/ArrayList;", true)
  | _ => ("HoldServer$Department", "coins", "I", false)
def tyX0 : Nat → FieldType := fun k => match k with
  | 0 => .object "java/util/ArrayList"
  | _ => .int
abbrev wsX00 : List Cond := u_ws RX0 TX0 2
theorem nmX0 : ∀ a, a < 2 → ∀ b, b < 2 → a ≠ b → (TX0 a).2.1 ≠ (TX0 b).2.1 := by decide +kernel
theorem tyX0_ok : ∀ k, k < 2 → parseFieldDescriptor (TX0 k).2.2.1 = some (tyX0 k) := by decide +kernel
abbrev cX0_init : ByteArray := prog_2_method_1_code
def yX0_init : MethodName := ⟨RX0, "<init>", "()V"⟩
abbrev cX0_billOn : ByteArray := prog_2_method_2_code
def yX0_billOn : MethodName := ⟨RX0, "billOn", "(I)I"⟩
def RX1 : String := "HoldServer$Directory"
def TX1 : u_T := fun k => match k with
  | 0 => ("HoldServer$Directory", "number", "I", true)
  | 1 => ("HoldServer$Directory", "parent", "LHoldServer$Directory;", true)
  | 2 => ("HoldServer$Directory", "quota", "I", false)
  | _ => ("HoldServer$Directory", "usage", "I", false)
def tyX1 : Nat → FieldType := fun k => match k with
  | 0 => .int
  | 1 => .object "HoldServer$Directory"
  | 2 => .int
  | _ => .int
abbrev wsX10 : List Cond := u_ws RX1 TX1 4
theorem nmX1 : ∀ a, a < 4 → ∀ b, b < 4 → a ≠ b → (TX1 a).2.1 ≠ (TX1 b).2.1 := by decide +kernel
theorem tyX1_ok : ∀ k, k < 4 → parseFieldDescriptor (TX1 k).2.2.1 = some (tyX1 k) := by decide +kernel
abbrev cX1_init : ByteArray := prog_3_method_1_code
def yX1_init : MethodName := ⟨RX1, "<init>", "(ILHoldServer$Directory;I)V"⟩
abbrev cX1_hasRoomFor : ByteArray := prog_3_method_2_code
def yX1_hasRoomFor : MethodName := ⟨RX1, "hasRoomFor", "(I)Z"⟩
abbrev cX1_addUsage : ByteArray := prog_3_method_3_code
def yX1_addUsage : MethodName := ⟨RX1, "addUsage", "(I)V"⟩
abbrev cX1_hasOnItsWay : ByteArray := prog_3_method_4_code
def yX1_hasOnItsWay : MethodName := ⟨RX1, "hasOnItsWay", "(LHoldServer$Directory;)Z"⟩
def RX2 : String := "HoldServer$StoredFile"
def TX2 : u_T := fun k => match k with
  | 0 => ("HoldServer$StoredFile", "owner", "LHoldServer$Department;", true)
  | 1 => ("HoldServer$StoredFile", "links", "Ljava/util/ArrayList;", true)
  | 2 => ("HoldServer$StoredFile", "size", "I", false)
  | 3 => ("HoldServer$StoredFile", "holders", "I", false)
  | 4 => ("HoldServer$StoredFile", "kept", "I", false)
  | _ => ("HoldServer$StoredFile", "usedOn", "I", false)
def tyX2 : Nat → FieldType := fun k => match k with
  | 0 => .object "HoldServer$Department"
  | 1 => .object "java/util/ArrayList"
  | 2 => .int
  | 3 => .int
  | 4 => .int
  | _ => .int
abbrev wsX20 : List Cond := u_ws RX2 TX2 6
theorem nmX2 : ∀ a, a < 6 → ∀ b, b < 6 → a ≠ b → (TX2 a).2.1 ≠ (TX2 b).2.1 := by decide +kernel
theorem tyX2_ok : ∀ k, k < 6 → parseFieldDescriptor (TX2 k).2.2.1 = some (tyX2 k) := by decide +kernel
abbrev cX2_init : ByteArray := prog_4_method_1_code
def yX2_init : MethodName := ⟨RX2, "<init>", "(LHoldServer$Department;II)V"⟩
abbrev cX2_isGone : ByteArray := prog_4_method_2_code
def yX2_isGone : MethodName := ⟨RX2, "isGone", "()Z"⟩
abbrev cX2_firstLink : ByteArray := prog_4_method_3_code
def yX2_firstLink : MethodName := ⟨RX2, "firstLink", "()LHoldServer$Directory;"⟩
abbrev cX2_placeOfLinkTo : ByteArray := prog_4_method_4_code
def yX2_placeOfLinkTo : MethodName := ⟨RX2, "placeOfLinkTo", "(LHoldServer$Directory;)I"⟩
abbrev cX2_removeLinkTo : ByteArray := prog_4_method_5_code
def yX2_removeLinkTo : MethodName := ⟨RX2, "removeLinkTo", "(LHoldServer$Directory;)Z"⟩
abbrev cX2_replaceSize : ByteArray := prog_4_method_6_code
def yX2_replaceSize : MethodName := ⟨RX2, "replaceSize", "(I)V"⟩
abbrev cX2_releaseFrom : ByteArray := prog_4_method_7_code
def yX2_releaseFrom : MethodName := ⟨RX2, "releaseFrom", "(I)I"⟩
abbrev cX2_isComingBackOn : ByteArray := prog_4_method_8_code
def yX2_isComingBackOn : MethodName := ⟨RX2, "isComingBackOn", "(I)Z"⟩
abbrev cX2_costToBringBack : ByteArray := prog_4_method_9_code
def yX2_costToBringBack : MethodName := ⟨RX2, "costToBringBack", "()I"⟩
abbrev cX2_tierOn : ByteArray := prog_4_method_10_code
def yX2_tierOn : MethodName := ⟨RX2, "tierOn", "(I)I"⟩
abbrev cX2_billedOn : ByteArray := prog_4_method_11_code
def yX2_billedOn : MethodName := ⟨RX2, "billedOn", "(I)I"⟩
def RX3 : String := "HoldServer"
def TX3 : u_T := fun k => match k with
  | 0 => ("HoldServer", "directories", "Ljava/util/ArrayList;", true)
  | 1 => ("HoldServer", "files", "Ljava/util/ArrayList;", true)
  | 2 => ("HoldServer", "departments", "Ljava/util/ArrayList;", true)
  | _ => ("HoldServer", "day", "I", false)
def tyX3 : Nat → FieldType := fun k => match k with
  | 0 => .object "java/util/ArrayList"
  | 1 => .object "java/util/ArrayList"
  | 2 => .object "java/util/ArrayList"
  | _ => .int
abbrev wsX30 : List Cond := u_ws RX3 TX3 4
theorem nmX3 : ∀ a, a < 4 → ∀ b, b < 4 → a ≠ b → (TX3 a).2.1 ≠ (TX3 b).2.1 := by decide +kernel
theorem tyX3_ok : ∀ k, k < 4 → parseFieldDescriptor (TX3 k).2.2.1 = some (tyX3 k) := by decide +kernel
abbrev cX3_init : ByteArray := prog_1_method_1_code
def yX3_init : MethodName := ⟨RX3, "<init>", "()V"⟩
abbrev cX3_addDirectory : ByteArray := prog_1_method_2_code
def yX3_addDirectory : MethodName := ⟨RX3, "addDirectory", "(II)I"⟩
abbrev cX3_setQuota : ByteArray := prog_1_method_3_code
def yX3_setQuota : MethodName := ⟨RX3, "setQuota", "(II)I"⟩
abbrev cX3_make : ByteArray := prog_1_method_4_code
def yX3_make : MethodName := ⟨RX3, "make", "(III)I"⟩
abbrev cX3_link : ByteArray := prog_1_method_5_code
def yX3_link : MethodName := ⟨RX3, "link", "(II)I"⟩
abbrev cX3_unlink : ByteArray := prog_1_method_6_code
def yX3_unlink : MethodName := ⟨RX3, "unlink", "(II)I"⟩
abbrev cX3_write : ByteArray := prog_1_method_7_code
def yX3_write : MethodName := ⟨RX3, "write", "(II)I"⟩
abbrev cX3_read : ByteArray := prog_1_method_8_code
def yX3_read : MethodName := ⟨RX3, "read", "(I)I"⟩
abbrev cX3_hold : ByteArray := prog_1_method_9_code
def yX3_hold : MethodName := ⟨RX3, "hold", "(II)I"⟩
abbrev cX3_release : ByteArray := prog_1_method_10_code
def yX3_release : MethodName := ⟨RX3, "release", "(I)I"⟩
abbrev cX3_fund : ByteArray := prog_1_method_11_code
def yX3_fund : MethodName := ⟨RX3, "fund", "(II)I"⟩
abbrev cX3_pass : ByteArray := prog_1_method_12_code
def yX3_pass : MethodName := ⟨RX3, "pass", "(I)I"⟩
abbrev cX3_day : ByteArray := prog_1_method_13_code
def yX3_day : MethodName := ⟨RX3, "day", "()I"⟩
abbrev cX3_directories : ByteArray := prog_1_method_14_code
def yX3_directories : MethodName := ⟨RX3, "directories", "()I"⟩
abbrev cX3_files : ByteArray := prog_1_method_15_code
def yX3_files : MethodName := ⟨RX3, "files", "()I"⟩
abbrev cX3_usage : ByteArray := prog_1_method_16_code
def yX3_usage : MethodName := ⟨RX3, "usage", "(I)I"⟩
abbrev cX3_usageByWalking : ByteArray := prog_1_method_17_code
def yX3_usageByWalking : MethodName := ⟨RX3, "usageByWalking", "(I)I"⟩
abbrev cX3_size : ByteArray := prog_1_method_18_code
def yX3_size : MethodName := ⟨RX3, "size", "(I)I"⟩
abbrev cX3_home : ByteArray := prog_1_method_19_code
def yX3_home : MethodName := ⟨RX3, "home", "(I)I"⟩
abbrev cX3_kept : ByteArray := prog_1_method_20_code
def yX3_kept : MethodName := ⟨RX3, "kept", "(I)I"⟩
abbrev cX3_holders : ByteArray := prog_1_method_21_code
def yX3_holders : MethodName := ⟨RX3, "holders", "(I)I"⟩
abbrev cX3_tier : ByteArray := prog_1_method_22_code
def yX3_tier : MethodName := ⟨RX3, "tier", "(I)I"⟩
abbrev cX3_coins : ByteArray := prog_1_method_23_code
def yX3_coins : MethodName := ⟨RX3, "coins", "(I)I"⟩
abbrev cX3_bill : ByteArray := prog_1_method_24_code
def yX3_bill : MethodName := ⟨RX3, "bill", "(I)I"⟩
abbrev cX3_directoryNumbered : ByteArray := prog_1_method_25_code
def yX3_directoryNumbered : MethodName := ⟨RX3, "directoryNumbered", "(I)LHoldServer$Directory;"⟩
abbrev cX3_fileNumbered : ByteArray := prog_1_method_26_code
def yX3_fileNumbered : MethodName := ⟨RX3, "fileNumbered", "(I)LHoldServer$StoredFile;"⟩
abbrev cX3_departmentNumbered : ByteArray := prog_1_method_27_code
def yX3_departmentNumbered : MethodName := ⟨RX3, "departmentNumbered", "(I)LHoldServer$Department;"⟩
abbrev cX3_bitOfMatter : ByteArray := prog_1_method_28_code
def yX3_bitOfMatter : MethodName := ⟨RX3, "bitOfMatter", "(I)I"⟩
abbrev cX3_requireBetween : ByteArray := prog_1_method_29_code
def yX3_requireBetween : MethodName := ⟨RX3, "requireBetween", "(III)V"⟩
abbrev cX3_requireNotGone : ByteArray := prog_1_method_30_code
def yX3_requireNotGone : MethodName := ⟨RX3, "requireNotGone", "(LHoldServer$StoredFile;)V"⟩
abbrev cX3_requireGrowthPossible : ByteArray := prog_1_method_31_code
def yX3_requireGrowthPossible : MethodName := ⟨RX3, "requireGrowthPossible", "(LHoldServer$Department;LHoldServer$Directory;I)V"⟩
abbrev cX3_startBringingBack : ByteArray := prog_1_method_32_code
def yX3_startBringingBack : MethodName := ⟨RX3, "startBringingBack", "(LHoldServer$StoredFile;)V"⟩
abbrev cX3_payBills : ByteArray := prog_1_method_33_code
def yX3_payBills : MethodName := ⟨RX3, "payBills", "()I"⟩
def RX4 : String := "HoldServerModel"
def TX4 : u_T := fun k => match k with
  | 0 => ("HoldServerModel", "parent", "[I", true)
  | 1 => ("HoldServerModel", "quota", "[I", true)
  | 2 => ("HoldServerModel", "directories", "I", false)
  | 3 => ("HoldServerModel", "department", "[I", true)
  | 4 => ("HoldServerModel", "size", "[I", true)
  | 5 => ("HoldServerModel", "link", "[I", true)
  | 6 => ("HoldServerModel", "links", "[I", true)
  | 7 => ("HoldServerModel", "kept", "[I", true)
  | 8 => ("HoldServerModel", "holders", "[I", true)
  | 9 => ("HoldServerModel", "used", "[I", true)
  | 10 => ("HoldServerModel", "back", "[I", true)
  | 11 => ("HoldServerModel", "files", "I", false)
  | 12 => ("HoldServerModel", "coins", "[I", true)
  | 13 => ("HoldServerModel", "day", "I", false)
  | _ => ("HoldServerModel", "thrown", "I", false)
def tyX4 : Nat → FieldType := fun k => match k with
  | 0 => .array .int
  | 1 => .array .int
  | 2 => .int
  | 3 => .array .int
  | 4 => .array .int
  | 5 => .array .int
  | 6 => .array .int
  | 7 => .array .int
  | 8 => .array .int
  | 9 => .array .int
  | 10 => .array .int
  | 11 => .int
  | 12 => .array .int
  | 13 => .int
  | _ => .int
abbrev wsX40 : List Cond := u_ws RX4 TX4 15
theorem nmX4 : ∀ a, a < 15 → ∀ b, b < 15 → a ≠ b → (TX4 a).2.1 ≠ (TX4 b).2.1 := by decide +kernel
theorem tyX4_ok : ∀ k, k < 15 → parseFieldDescriptor (TX4 k).2.2.1 = some (tyX4 k) := by decide +kernel
abbrev cX4_init : ByteArray := prog_6_method_1_code
def yX4_init : MethodName := ⟨RX4, "<init>", "()V"⟩
abbrev cX4_thrown : ByteArray := prog_6_method_2_code
def yX4_thrown : MethodName := ⟨RX4, "thrown", "()I"⟩
abbrev cX4_in : ByteArray := prog_6_method_3_code
def yX4_in : MethodName := ⟨RX4, "in", "(III)Z"⟩
abbrev cX4_isFine : ByteArray := prog_6_method_4_code
def yX4_isFine : MethodName := ⟨RX4, "isFine", "(I)Z"⟩
abbrev cX4_isDirectory : ByteArray := prog_6_method_5_code
def yX4_isDirectory : MethodName := ⟨RX4, "isDirectory", "(I)Z"⟩
abbrev cX4_isFile : ByteArray := prog_6_method_6_code
def yX4_isFile : MethodName := ⟨RX4, "isFile", "(I)Z"⟩
abbrev cX4_isDepartment : ByteArray := prog_6_method_7_code
def yX4_isDepartment : MethodName := ⟨RX4, "isDepartment", "(I)Z"⟩
abbrev cX4_addDirectory : ByteArray := prog_6_method_8_code
def yX4_addDirectory : MethodName := ⟨RX4, "addDirectory", "(II)I"⟩
abbrev cX4_setQuota : ByteArray := prog_6_method_9_code
def yX4_setQuota : MethodName := ⟨RX4, "setQuota", "(II)I"⟩
abbrev cX4_homeOf : ByteArray := prog_6_method_10_code
def yX4_homeOf : MethodName := ⟨RX4, "homeOf", "(I)I"⟩
abbrev cX4_isOver : ByteArray := prog_6_method_11_code
def yX4_isOver : MethodName := ⟨RX4, "isOver", "(II)Z"⟩
abbrev cX4_usageOf : ByteArray := prog_6_method_12_code
def yX4_usageOf : MethodName := ⟨RX4, "usageOf", "(I)I"⟩
abbrev cX4_canGrow : ByteArray := prog_6_method_13_code
def yX4_canGrow : MethodName := ⟨RX4, "canGrow", "(III)Z"⟩
abbrev cX4_make : ByteArray := prog_6_method_14_code
def yX4_make : MethodName := ⟨RX4, "make", "(III)I"⟩
abbrev cX4_linkTo : ByteArray := prog_6_method_15_code
def yX4_linkTo : MethodName := ⟨RX4, "linkTo", "(II)I"⟩
abbrev cX4_link : ByteArray := prog_6_method_16_code
def yX4_link : MethodName := ⟨RX4, "link", "(II)I"⟩
abbrev cX4_unlink : ByteArray := prog_6_method_17_code
def yX4_unlink : MethodName := ⟨RX4, "unlink", "(II)I"⟩
abbrev cX4_tierOf : ByteArray := prog_6_method_18_code
def yX4_tierOf : MethodName := ⟨RX4, "tierOf", "(I)I"⟩
abbrev cX4_write : ByteArray := prog_6_method_19_code
def yX4_write : MethodName := ⟨RX4, "write", "(II)I"⟩
abbrev cX4_read : ByteArray := prog_6_method_20_code
def yX4_read : MethodName := ⟨RX4, "read", "(I)I"⟩
abbrev cX4_many : ByteArray := prog_6_method_21_code
def yX4_many : MethodName := ⟨RX4, "many", "(I)I"⟩
abbrev cX4_hold : ByteArray := prog_6_method_22_code
def yX4_hold : MethodName := ⟨RX4, "hold", "(II)I"⟩
abbrev cX4_release : ByteArray := prog_6_method_23_code
def yX4_release : MethodName := ⟨RX4, "release", "(I)I"⟩
abbrev cX4_fund : ByteArray := prog_6_method_24_code
def yX4_fund : MethodName := ⟨RX4, "fund", "(II)I"⟩
abbrev cX4_billOf : ByteArray := prog_6_method_25_code
def yX4_billOf : MethodName := ⟨RX4, "billOf", "(I)I"⟩
abbrev cX4_goesDay : ByteArray := prog_6_method_26_code
def yX4_goesDay : MethodName := ⟨RX4, "goesDay", "()I"⟩
abbrev cX4_pass : ByteArray := prog_6_method_27_code
def yX4_pass : MethodName := ⟨RX4, "pass", "(I)I"⟩
abbrev cX4_day : ByteArray := prog_6_method_28_code
def yX4_day : MethodName := ⟨RX4, "day", "()I"⟩
abbrev cX4_directories : ByteArray := prog_6_method_29_code
def yX4_directories : MethodName := ⟨RX4, "directories", "()I"⟩
abbrev cX4_files : ByteArray := prog_6_method_30_code
def yX4_files : MethodName := ⟨RX4, "files", "()I"⟩
abbrev cX4_usage : ByteArray := prog_6_method_31_code
def yX4_usage : MethodName := ⟨RX4, "usage", "(I)I"⟩
abbrev cX4_usageByWalking : ByteArray := prog_6_method_32_code
def yX4_usageByWalking : MethodName := ⟨RX4, "usageByWalking", "(I)I"⟩
abbrev cX4_size : ByteArray := prog_6_method_33_code
def yX4_size : MethodName := ⟨RX4, "size", "(I)I"⟩
abbrev cX4_home : ByteArray := prog_6_method_34_code
def yX4_home : MethodName := ⟨RX4, "home", "(I)I"⟩
abbrev cX4_kept : ByteArray := prog_6_method_35_code
def yX4_kept : MethodName := ⟨RX4, "kept", "(I)I"⟩
abbrev cX4_holders : ByteArray := prog_6_method_36_code
def yX4_holders : MethodName := ⟨RX4, "holders", "(I)I"⟩
abbrev cX4_tier : ByteArray := prog_6_method_37_code
def yX4_tier : MethodName := ⟨RX4, "tier", "(I)I"⟩
abbrev cX4_coins : ByteArray := prog_6_method_38_code
def yX4_coins : MethodName := ⟨RX4, "coins", "(I)I"⟩
abbrev cX4_bill : ByteArray := prog_6_method_39_code
def yX4_bill : MethodName := ⟨RX4, "bill", "(I)I"⟩
def RJx145de : String := "java/io/Serializable"
def TJx145de : u_T := fun k => match k with
  | _ => ("", "", "", false)
def tyJx145de : Nat → FieldType := fun k => match k with
  | _ => .int
abbrev wsJx145de0 : List Cond := u_ws RJx145de TJx145de 0
theorem nmJx145de : ∀ a, a < 0 → ∀ b, b < 0 → a ≠ b → (TJx145de a).2.1 ≠ (TJx145de b).2.1 := by decide +kernel
theorem tyJx145de_ok : ∀ k, k < 0 → parseFieldDescriptor (TJx145de k).2.2.1 = some (tyJx145de k) := by decide +kernel
def RJx8e188 : String := "java/lang/Cloneable"
def TJx8e188 : u_T := fun k => match k with
  | _ => ("", "", "", false)
def tyJx8e188 : Nat → FieldType := fun k => match k with
  | _ => .int
abbrev wsJx8e1880 : List Cond := u_ws RJx8e188 TJx8e188 0
theorem nmJx8e188 : ∀ a, a < 0 → ∀ b, b < 0 → a ≠ b → (TJx8e188 a).2.1 ≠ (TJx8e188 b).2.1 := by decide +kernel
theorem tyJx8e188_ok : ∀ k, k < 0 → parseFieldDescriptor (TJx8e188 k).2.2.1 = some (tyJx8e188 k) := by decide +kernel
def RJ6 : String := "java/lang/Integer"
def TJ6 : u_T := fun k => match k with
  | _ => ("", "", "", false)
def tyJ6 : Nat → FieldType := fun k => match k with
  | _ => .int
abbrev wsJ60 : List Cond := u_ws RJ6 TJ6 0
theorem nmJ6 : ∀ a, a < 0 → ∀ b, b < 0 → a ≠ b → (TJ6 a).2.1 ≠ (TJ6 b).2.1 := by decide +kernel
theorem tyJ6_ok : ∀ k, k < 0 → parseFieldDescriptor (TJ6 k).2.2.1 = some (tyJ6 k) := by decide +kernel
abbrev cJ6_bitCount_0f7a4 : ByteArray := prog_13_method_49_code
def yJ6_bitCount_0f7a4 : MethodName := ⟨RJ6, "bitCount", "(I)I"⟩
def RJxab1ab : String := "java/lang/Iterable"
def TJxab1ab : u_T := fun k => match k with
  | _ => ("", "", "", false)
def tyJxab1ab : Nat → FieldType := fun k => match k with
  | _ => .int
abbrev wsJxab1ab0 : List Cond := u_ws RJxab1ab TJxab1ab 0
theorem nmJxab1ab : ∀ a, a < 0 → ∀ b, b < 0 → a ≠ b → (TJxab1ab a).2.1 ≠ (TJxab1ab b).2.1 := by decide +kernel
theorem tyJxab1ab_ok : ∀ k, k < 0 → parseFieldDescriptor (TJxab1ab k).2.2.1 = some (tyJxab1ab k) := by decide +kernel
def RJ9 : String := "java/lang/Math"
def TJ9 : u_T := fun k => match k with
  | _ => ("", "", "", false)
def tyJ9 : Nat → FieldType := fun k => match k with
  | _ => .int
abbrev wsJ90 : List Cond := u_ws RJ9 TJ9 0
theorem nmJ9 : ∀ a, a < 0 → ∀ b, b < 0 → a ≠ b → (TJ9 a).2.1 ≠ (TJ9 b).2.1 := by decide +kernel
theorem tyJ9_ok : ∀ k, k < 0 → parseFieldDescriptor (TJ9 k).2.2.1 = some (tyJ9 k) := by decide +kernel
abbrev cJ9_max_7cf53 : ByteArray := prog_15_method_65_code
def yJ9_max_7cf53 : MethodName := ⟨RJ9, "max", "(II)I"⟩
abbrev cJ9_min_7cf53 : ByteArray := prog_15_method_69_code
def yJ9_min_7cf53 : MethodName := ⟨RJ9, "min", "(II)I"⟩
def RJ0 : String := "java/lang/String"
def TJ0 : u_T := fun k => match k with
  | _ => ("", "", "", false)
def tyJ0 : Nat → FieldType := fun k => match k with
  | _ => .int
abbrev wsJ00 : List Cond := u_ws RJ0 TJ0 0
theorem nmJ0 : ∀ a, a < 0 → ∀ b, b < 0 → a ≠ b → (TJ0 a).2.1 ≠ (TJ0 b).2.1 := by decide +kernel
theorem tyJ0_ok : ∀ k, k < 0 → parseFieldDescriptor (TJ0 k).2.2.1 = some (tyJ0 k) := by decide +kernel
def RJ10 : String := "java/lang/System"
def TJ10 : u_T := fun k => match k with
  | _ => ("", "", "", false)
def tyJ10 : Nat → FieldType := fun k => match k with
  | _ => .int
abbrev wsJ100 : List Cond := u_ws RJ10 TJ10 0
theorem nmJ10 : ∀ a, a < 0 → ∀ b, b < 0 → a ≠ b → (TJ10 a).2.1 ≠ (TJ10 b).2.1 := by decide +kernel
theorem tyJ10_ok : ∀ k, k < 0 → parseFieldDescriptor (TJ10 k).2.2.1 = some (tyJ10 k) := by decide +kernel
def RJxa1e45 : String := "java/util/AbstractCollection"
def TJxa1e45 : u_T := fun k => match k with
  | _ => ("", "", "", false)
def tyJxa1e45 : Nat → FieldType := fun k => match k with
  | _ => .int
abbrev wsJxa1e450 : List Cond := u_ws RJxa1e45 TJxa1e45 0
theorem nmJxa1e45 : ∀ a, a < 0 → ∀ b, b < 0 → a ≠ b → (TJxa1e45 a).2.1 ≠ (TJxa1e45 b).2.1 := by decide +kernel
theorem tyJxa1e45_ok : ∀ k, k < 0 → parseFieldDescriptor (TJxa1e45 k).2.2.1 = some (tyJxa1e45 k) := by decide +kernel
abbrev cJxa1e45_init_da8c8 : ByteArray := prog_20_method_1_code
def yJxa1e45_init_da8c8 : MethodName := ⟨RJxa1e45, "<init>", "()V"⟩
def RJxc12de : String := "java/util/AbstractList"
def TJxc12de : u_T := fun k => match k with
  | _ => ("", "", "", false)
def tyJxc12de : Nat → FieldType := fun k => match k with
  | _ => .int
abbrev wsJxc12de0 : List Cond := u_ws RJxc12de TJxc12de 0
theorem nmJxc12de : ∀ a, a < 0 → ∀ b, b < 0 → a ≠ b → (TJxc12de a).2.1 ≠ (TJxc12de b).2.1 := by decide +kernel
theorem tyJxc12de_ok : ∀ k, k < 0 → parseFieldDescriptor (TJxc12de k).2.2.1 = some (tyJxc12de k) := by decide +kernel
abbrev cJxc12de_init_da8c8 : ByteArray := prog_21_method_1_code
def yJxc12de_init_da8c8 : MethodName := ⟨RJxc12de, "<init>", "()V"⟩
def RJx4a65c : String := "java/util/ArrayList"
def TJx4a65c : u_T := fun k => match k with
  | 0 => ("java/util/AbstractList", "modCount", "I", false)
  | 1 => ("java/util/ArrayList", "elementData", "[Ljava/lang/Object;", false)
  | _ => ("java/util/ArrayList", "size", "I", false)
def tyJx4a65c : Nat → FieldType := fun k => match k with
  | 0 => .int
  | 1 => .array (.object "java/lang/Object")
  | _ => .int
abbrev wsJx4a65c0 : List Cond := u_ws RJx4a65c TJx4a65c 3
theorem nmJx4a65c : ∀ a, a < 3 → ∀ b, b < 3 → a ≠ b → (TJx4a65c a).2.1 ≠ (TJx4a65c b).2.1 := by decide +kernel
theorem tyJx4a65c_ok : ∀ k, k < 3 → parseFieldDescriptor (TJx4a65c k).2.2.1 = some (tyJx4a65c k) := by decide +kernel
abbrev cJx4a65c_init_da8c8 : ByteArray := prog_22_method_2_code
def yJx4a65c_init_da8c8 : MethodName := ⟨RJx4a65c, "<init>", "()V"⟩
abbrev cJx4a65c_grow_92f84 : ByteArray := prog_22_method_6_code
def yJx4a65c_grow_92f84 : MethodName := ⟨RJx4a65c, "grow", "(I)[Ljava/lang/Object;"⟩
abbrev cJx4a65c_grow_d5877 : ByteArray := prog_22_method_7_code
def yJx4a65c_grow_d5877 : MethodName := ⟨RJx4a65c, "grow", "()[Ljava/lang/Object;"⟩
abbrev cJx4a65c_size_8abf5 : ByteArray := prog_22_method_8_code
def yJx4a65c_size_8abf5 : MethodName := ⟨RJx4a65c, "size", "()I"⟩
abbrev cJx4a65c_isEmpty_aae02 : ByteArray := prog_22_method_9_code
def yJx4a65c_isEmpty_aae02 : MethodName := ⟨RJx4a65c, "isEmpty", "()Z"⟩
abbrev cJx4a65c_elementData_915e3 : ByteArray := prog_22_method_18_code
def yJx4a65c_elementData_915e3 : MethodName := ⟨RJx4a65c, "elementData", "(I)Ljava/lang/Object;"⟩
abbrev cJx4a65c_get_915e3 : ByteArray := prog_22_method_20_code
def yJx4a65c_get_915e3 : MethodName := ⟨RJx4a65c, "get", "(I)Ljava/lang/Object;"⟩
abbrev cJx4a65c_add_72be8 : ByteArray := prog_22_method_24_code
def yJx4a65c_add_72be8 : MethodName := ⟨RJx4a65c, "add", "(Ljava/lang/Object;[Ljava/lang/Object;I)V"⟩
abbrev cJx4a65c_add_9ea2d : ByteArray := prog_22_method_25_code
def yJx4a65c_add_9ea2d : MethodName := ⟨RJx4a65c, "add", "(Ljava/lang/Object;)Z"⟩
abbrev cJx4a65c_remove_915e3 : ByteArray := prog_22_method_29_code
def yJx4a65c_remove_915e3 : MethodName := ⟨RJx4a65c, "remove", "(I)Ljava/lang/Object;"⟩
abbrev cJx4a65c_fastRemove_b59b0 : ByteArray := prog_22_method_39_code
def yJx4a65c_fastRemove_b59b0 : MethodName := ⟨RJx4a65c, "fastRemove", "([Ljava/lang/Object;I)V"⟩
def RJ7 : String := "java/util/Arrays"
def TJ7 : u_T := fun k => match k with
  | _ => ("", "", "", false)
def tyJ7 : Nat → FieldType := fun k => match k with
  | _ => .int
abbrev wsJ70 : List Cond := u_ws RJ7 TJ7 0
theorem nmJ7 : ∀ a, a < 0 → ∀ b, b < 0 → a ≠ b → (TJ7 a).2.1 ≠ (TJ7 b).2.1 := by decide +kernel
theorem tyJ7_ok : ∀ k, k < 0 → parseFieldDescriptor (TJ7 k).2.2.1 = some (tyJ7 k) := by decide +kernel
abbrev cJ7_copyOf_1904c : ByteArray := prog_23_method_119_code
def yJ7_copyOf_1904c : MethodName := ⟨RJ7, "copyOf", "([Ljava/lang/Object;I)[Ljava/lang/Object;"⟩
abbrev cJ7_copyOf_6403c : ByteArray := prog_23_method_120_code
def yJ7_copyOf_6403c : MethodName := ⟨RJ7, "copyOf", "([Ljava/lang/Object;ILjava/lang/Class;)[Ljava/lang/Object;"⟩
def RJx5ef63 : String := "java/util/Collection"
def TJx5ef63 : u_T := fun k => match k with
  | _ => ("", "", "", false)
def tyJx5ef63 : Nat → FieldType := fun k => match k with
  | _ => .int
abbrev wsJx5ef630 : List Cond := u_ws RJx5ef63 TJx5ef63 0
theorem nmJx5ef63 : ∀ a, a < 0 → ∀ b, b < 0 → a ≠ b → (TJx5ef63 a).2.1 ≠ (TJx5ef63 b).2.1 := by decide +kernel
theorem tyJx5ef63_ok : ∀ k, k < 0 → parseFieldDescriptor (TJx5ef63 k).2.2.1 = some (tyJx5ef63 k) := by decide +kernel
def RJxbd725 : String := "java/util/List"
def TJxbd725 : u_T := fun k => match k with
  | _ => ("", "", "", false)
def tyJxbd725 : Nat → FieldType := fun k => match k with
  | _ => .int
abbrev wsJxbd7250 : List Cond := u_ws RJxbd725 TJxbd725 0
theorem nmJxbd725 : ∀ a, a < 0 → ∀ b, b < 0 → a ≠ b → (TJxbd725 a).2.1 ≠ (TJxbd725 b).2.1 := by decide +kernel
theorem tyJxbd725_ok : ∀ k, k < 0 → parseFieldDescriptor (TJxbd725 k).2.2.1 = some (tyJxbd725 k) := by decide +kernel
def RJ15 : String := "java/util/Objects"
def TJ15 : u_T := fun k => match k with
  | _ => ("", "", "", false)
def tyJ15 : Nat → FieldType := fun k => match k with
  | _ => .int
abbrev wsJ150 : List Cond := u_ws RJ15 TJ15 0
theorem nmJ15 : ∀ a, a < 0 → ∀ b, b < 0 → a ≠ b → (TJ15 a).2.1 ≠ (TJ15 b).2.1 := by decide +kernel
theorem tyJ15_ok : ∀ k, k < 0 → parseFieldDescriptor (TJ15 k).2.2.1 = some (tyJ15 k) := by decide +kernel
abbrev cJ15_checkIndex_7cf53 : ByteArray := prog_26_method_17_code
def yJ15_checkIndex_7cf53 : MethodName := ⟨RJ15, "checkIndex", "(II)I"⟩
def RJxf0a74 : String := "java/util/RandomAccess"
def TJxf0a74 : u_T := fun k => match k with
  | _ => ("", "", "", false)
def tyJxf0a74 : Nat → FieldType := fun k => match k with
  | _ => .int
abbrev wsJxf0a740 : List Cond := u_ws RJxf0a74 TJxf0a74 0
theorem nmJxf0a74 : ∀ a, a < 0 → ∀ b, b < 0 → a ≠ b → (TJxf0a74 a).2.1 ≠ (TJxf0a74 b).2.1 := by decide +kernel
theorem tyJxf0a74_ok : ∀ k, k < 0 → parseFieldDescriptor (TJxf0a74 k).2.2.1 = some (tyJxf0a74 k) := by decide +kernel
def RJxa66e6 : String := "java/util/SequencedCollection"
def TJxa66e6 : u_T := fun k => match k with
  | _ => ("", "", "", false)
def tyJxa66e6 : Nat → FieldType := fun k => match k with
  | _ => .int
abbrev wsJxa66e60 : List Cond := u_ws RJxa66e6 TJxa66e6 0
theorem nmJxa66e6 : ∀ a, a < 0 → ∀ b, b < 0 → a ≠ b → (TJxa66e6 a).2.1 ≠ (TJxa66e6 b).2.1 := by decide +kernel
theorem tyJxa66e6_ok : ∀ k, k < 0 → parseFieldDescriptor (TJxa66e6 k).2.2.1 = some (tyJxa66e6 k) := by decide +kernel
def RJ8 : String := "jdk/internal/util/ArraysSupport"
def TJ8 : u_T := fun k => match k with
  | _ => ("", "", "", false)
def tyJ8 : Nat → FieldType := fun k => match k with
  | _ => .int
abbrev wsJ80 : List Cond := u_ws RJ8 TJ8 0
theorem nmJ8 : ∀ a, a < 0 → ∀ b, b < 0 → a ≠ b → (TJ8 a).2.1 ≠ (TJ8 b).2.1 := by decide +kernel
theorem tyJ8_ok : ∀ k, k < 0 → parseFieldDescriptor (TJ8 k).2.2.1 = some (tyJ8 k) := by decide +kernel
abbrev cJ8_newLength_cabcc : ByteArray := prog_29_method_27_code
def yJ8_newLength_cabcc : MethodName := ⟨RJ8, "newLength", "(III)I"⟩
abbrev cJ8_hugeLength_7cf53 : ByteArray := prog_29_method_28_code
def yJ8_hugeLength_7cf53 : MethodName := ⟨RJ8, "hugeLength", "(II)I"⟩
def RJ3 : String := "jdk/internal/util/Preconditions"
def TJ3 : u_T := fun k => match k with
  | _ => ("", "", "", false)
def tyJ3 : Nat → FieldType := fun k => match k with
  | _ => .int
abbrev wsJ30 : List Cond := u_ws RJ3 TJ3 0
theorem nmJ3 : ∀ a, a < 0 → ∀ b, b < 0 → a ≠ b → (TJ3 a).2.1 ≠ (TJ3 b).2.1 := by decide +kernel
theorem tyJ3_ok : ∀ k, k < 0 → parseFieldDescriptor (TJ3 k).2.2.1 = some (tyJ3 k) := by decide +kernel
abbrev cJ3_checkIndex_8e157 : ByteArray := prog_30_method_11_code
def yJ3_checkIndex_8e157 : MethodName := ⟨RJ3, "checkIndex", "(IILjava/util/function/BiFunction;)I"⟩
def RL : String := "HoldServerLaw"
abbrev cL_addDirectory : ByteArray := method_3_code
def yL_addDirectory : MethodName := ⟨RL, "addDirectory", "(LHoldServer;II[J)I"⟩
abbrev cL_setQuota : ByteArray := method_4_code
def yL_setQuota : MethodName := ⟨RL, "setQuota", "(LHoldServer;II[J)I"⟩
abbrev cL_make : ByteArray := method_5_code
def yL_make : MethodName := ⟨RL, "make", "(LHoldServer;III[J)I"⟩
abbrev cL_link : ByteArray := method_6_code
def yL_link : MethodName := ⟨RL, "link", "(LHoldServer;II[J)I"⟩
abbrev cL_unlink : ByteArray := method_7_code
def yL_unlink : MethodName := ⟨RL, "unlink", "(LHoldServer;II[J)I"⟩
abbrev cL_write : ByteArray := method_8_code
def yL_write : MethodName := ⟨RL, "write", "(LHoldServer;II[J)I"⟩
abbrev cL_read : ByteArray := method_9_code
def yL_read : MethodName := ⟨RL, "read", "(LHoldServer;I[J)I"⟩
abbrev cL_hold : ByteArray := method_10_code
def yL_hold : MethodName := ⟨RL, "hold", "(LHoldServer;II[J)I"⟩
abbrev cL_release : ByteArray := method_11_code
def yL_release : MethodName := ⟨RL, "release", "(LHoldServer;I[J)I"⟩
abbrev cL_fund : ByteArray := method_12_code
def yL_fund : MethodName := ⟨RL, "fund", "(LHoldServer;II[J)I"⟩
abbrev cL_pass : ByteArray := method_13_code
def yL_pass : MethodName := ⟨RL, "pass", "(LHoldServer;I[J)I"⟩
abbrev cL_usage : ByteArray := method_14_code
def yL_usage : MethodName := ⟨RL, "usage", "(LHoldServer;I[J)I"⟩
abbrev cL_usageByWalking : ByteArray := method_15_code
def yL_usageByWalking : MethodName := ⟨RL, "usageByWalking", "(LHoldServer;I[J)I"⟩
abbrev cL_size : ByteArray := method_16_code
def yL_size : MethodName := ⟨RL, "size", "(LHoldServer;I[J)I"⟩
abbrev cL_home : ByteArray := method_17_code
def yL_home : MethodName := ⟨RL, "home", "(LHoldServer;I[J)I"⟩
abbrev cL_kept : ByteArray := method_18_code
def yL_kept : MethodName := ⟨RL, "kept", "(LHoldServer;I[J)I"⟩
abbrev cL_holders : ByteArray := method_19_code
def yL_holders : MethodName := ⟨RL, "holders", "(LHoldServer;I[J)I"⟩
abbrev cL_tier : ByteArray := method_20_code
def yL_tier : MethodName := ⟨RL, "tier", "(LHoldServer;I[J)I"⟩
abbrev cL_coins : ByteArray := method_21_code
def yL_coins : MethodName := ⟨RL, "coins", "(LHoldServer;I[J)I"⟩
abbrev cL_bill : ByteArray := method_22_code
def yL_bill : MethodName := ⟨RL, "bill", "(LHoldServer;I[J)I"⟩
abbrev cL_law : ByteArray := code
def yL_law : MethodName := ⟨RL, "law", "([I)Z"⟩
def wsJxa1e45_init_da8c8 : List Cond := .code yJxa1e45_init_da8c8 cJxa1e45_init_da8c8 1 none :: ([.methodLink RJxa1e45 1 objectInit, .instanceMethod objectInit, .code objectInit ⟨#[0xb1]⟩ 1 none])
def wsJxc12de_init_da8c8 : List Cond := .code yJxc12de_init_da8c8 cJxc12de_init_da8c8 1 none :: ([.fieldLink RJxc12de 7 "java/util/AbstractList" "modCount" "I", .methodLink RJxc12de 1 yJxa1e45_init_da8c8, .instanceMethod yJxa1e45_init_da8c8, .initialized RJxa1e45, .code yJxa1e45_init_da8c8 cJxa1e45_init_da8c8 1 none, .methodLink RJxa1e45 1 objectInit, .instanceMethod objectInit, .code objectInit ⟨#[0xb1]⟩ 1 none] ++ wsJx4a65c0)
def wsJx4a65c_init_da8c8 : List Cond := .code yJx4a65c_init_da8c8 cJx4a65c_init_da8c8 1 none :: ([.fieldLink RJx4a65c 39 "java/util/ArrayList" "DEFAULTCAPACITY_EMPTY_ELEMENTDATA" "[Ljava/lang/Object;", .fieldLink RJx4a65c 9 "java/util/ArrayList" "elementData" "[Ljava/lang/Object;", .methodLink RJx4a65c 1 yJxc12de_init_da8c8, .instanceMethod yJxc12de_init_da8c8, .initialized RJxc12de, .code yJxc12de_init_da8c8 cJxc12de_init_da8c8 1 none, .fieldLink RJxc12de 7 "java/util/AbstractList" "modCount" "I", .methodLink RJxc12de 1 yJxa1e45_init_da8c8, .instanceMethod yJxa1e45_init_da8c8, .initialized RJxa1e45, .code yJxa1e45_init_da8c8 cJxa1e45_init_da8c8 1 none, .methodLink RJxa1e45 1 objectInit, .instanceMethod objectInit, .code objectInit ⟨#[0xb1]⟩ 1 none] ++ wsJx4a65c0)
def wsX0_init : List Cond := .code yX0_init cX0_init 1 none :: ([.methodLink RX0 3 objectInit, .instanceMethod objectInit, .code objectInit ⟨#[0xb1]⟩ 1 none, .classLink RX0 9 RJx4a65c, .instantiable RJx4a65c 3, .initialized RJx4a65c, .fieldLink RX0 12 "HoldServer$Department" "ownFiles" "Ljava/util/ArrayList;", .fieldLink RX0 18 "HoldServer$Department" "coins" "I", .methodLink RX0 11 yJx4a65c_init_da8c8, .instanceMethod yJx4a65c_init_da8c8, .code yJx4a65c_init_da8c8 cJx4a65c_init_da8c8 1 none, .fieldLink RJx4a65c 39 "java/util/ArrayList" "DEFAULTCAPACITY_EMPTY_ELEMENTDATA" "[Ljava/lang/Object;", .fieldLink RJx4a65c 9 "java/util/ArrayList" "elementData" "[Ljava/lang/Object;", .methodLink RJx4a65c 1 yJxc12de_init_da8c8, .instanceMethod yJxc12de_init_da8c8, .initialized RJxc12de, .code yJxc12de_init_da8c8 cJxc12de_init_da8c8 1 none, .fieldLink RJxc12de 7 "java/util/AbstractList" "modCount" "I", .methodLink RJxc12de 1 yJxa1e45_init_da8c8, .instanceMethod yJxa1e45_init_da8c8, .initialized RJxa1e45, .code yJxa1e45_init_da8c8 cJxa1e45_init_da8c8 1 none, .methodLink RJxa1e45 1 objectInit] ++ wsJx4a65c0 ++ wsX00)
def wsJx4a65c_size_8abf5 : List Cond := .code yJx4a65c_size_8abf5 cJx4a65c_size_8abf5 1 (some .int) :: ([.fieldLink RJx4a65c 48 "java/util/ArrayList" "size" "I"] ++ wsJx4a65c0)
def wsJ3_checkIndex_8e157 : List Cond := .code yJ3_checkIndex_8e157 cJ3_checkIndex_8e157 3 (some .int) :: ([])
def wsJ15_checkIndex_7cf53 : List Cond := .code yJ15_checkIndex_7cf53 cJ15_checkIndex_7cf53 2 (some .int) :: ([.methodLink RJ15 105 yJ3_checkIndex_8e157, .static yJ3_checkIndex_8e157, .initialized RJ3, .code yJ3_checkIndex_8e157 cJ3_checkIndex_8e157 3 (some .int)])
def wsJx4a65c_elementData_915e3 : List Cond := .code yJx4a65c_elementData_915e3 cJx4a65c_elementData_915e3 2 (some (.object "java/lang/Object")) :: ([.fieldLink RJx4a65c 9 "java/util/ArrayList" "elementData" "[Ljava/lang/Object;"] ++ wsJx4a65c0)
def wsJx4a65c_get_915e3 : List Cond := .code yJx4a65c_get_915e3 cJx4a65c_get_915e3 2 (some (.object "java/lang/Object")) :: ([.fieldLink RJx4a65c 48 "java/util/ArrayList" "size" "I", .methodLink RJx4a65c 118 yJ15_checkIndex_7cf53, .static yJ15_checkIndex_7cf53, .initialized RJ15, .code yJ15_checkIndex_7cf53 cJ15_checkIndex_7cf53 2 (some .int), .methodLink RJ15 105 yJ3_checkIndex_8e157, .static yJ3_checkIndex_8e157, .initialized RJ3, .code yJ3_checkIndex_8e157 cJ3_checkIndex_8e157 3 (some .int), .methodLink RJx4a65c 123 yJx4a65c_elementData_915e3, .instanceMethod yJx4a65c_elementData_915e3, .selects RJx4a65c yJx4a65c_elementData_915e3 yJx4a65c_elementData_915e3, .initialized RJx4a65c, .code yJx4a65c_elementData_915e3 cJx4a65c_elementData_915e3 2 (some (.object "java/lang/Object")), .fieldLink RJx4a65c 9 "java/util/ArrayList" "elementData" "[Ljava/lang/Object;"] ++ wsJx4a65c0)
def wsJx4a65c_isEmpty_aae02 : List Cond := .code yJx4a65c_isEmpty_aae02 cJx4a65c_isEmpty_aae02 1 (some .boolean) :: ([.fieldLink RJx4a65c 48 "java/util/ArrayList" "size" "I"] ++ wsJx4a65c0)
def wsX2_isGone : List Cond := .code yX2_isGone cX2_isGone 1 (some .boolean) :: ([.fieldLink RX2 12 "HoldServer$StoredFile" "links" "Ljava/util/ArrayList;", .methodLink RX2 29 yJx4a65c_isEmpty_aae02, .instanceMethod yJx4a65c_isEmpty_aae02, .selects RJx4a65c yJx4a65c_isEmpty_aae02 yJx4a65c_isEmpty_aae02, .initialized RJx4a65c, .code yJx4a65c_isEmpty_aae02 cJx4a65c_isEmpty_aae02 1 (some .boolean), .fieldLink RJx4a65c 48 "java/util/ArrayList" "size" "I"] ++ wsX20 ++ wsJx4a65c0)
def wsX2_isComingBackOn : List Cond := .code yX2_isComingBackOn cX2_isComingBackOn 2 (some .boolean) :: ([.fieldLink RX2 26 "HoldServer$StoredFile" "usedOn" "I"] ++ wsX20)
def wsX2_tierOn : List Cond := .code yX2_tierOn cX2_tierOn 3 (some .int) :: ([.fieldLink RX2 26 "HoldServer$StoredFile" "usedOn" "I", .methodLink RX2 55 yX2_isGone, .instanceMethod yX2_isGone, .selects RX2 yX2_isGone yX2_isGone, .initialized RX2, .code yX2_isGone cX2_isGone 1 (some .boolean), .fieldLink RX2 12 "HoldServer$StoredFile" "links" "Ljava/util/ArrayList;", .methodLink RX2 29 yJx4a65c_isEmpty_aae02, .instanceMethod yJx4a65c_isEmpty_aae02, .selects RJx4a65c yJx4a65c_isEmpty_aae02 yJx4a65c_isEmpty_aae02, .initialized RJx4a65c, .code yJx4a65c_isEmpty_aae02 cJx4a65c_isEmpty_aae02 1 (some .boolean), .fieldLink RJx4a65c 48 "java/util/ArrayList" "size" "I", .methodLink RX2 58 yX2_isComingBackOn, .instanceMethod yX2_isComingBackOn, .selects RX2 yX2_isComingBackOn yX2_isComingBackOn, .code yX2_isComingBackOn cX2_isComingBackOn 2 (some .boolean)] ++ wsX20 ++ wsJx4a65c0)
def wsX2_billedOn : List Cond := .code yX2_billedOn cX2_billedOn 3 (some .int) :: ([.fieldLink RX2 22 "HoldServer$StoredFile" "size" "I", .fieldLink RX2 52 "HoldServer$StoredFile" "kept" "I", .methodLink RX2 55 yX2_isGone, .instanceMethod yX2_isGone, .selects RX2 yX2_isGone yX2_isGone, .initialized RX2, .code yX2_isGone cX2_isGone 1 (some .boolean), .fieldLink RX2 12 "HoldServer$StoredFile" "links" "Ljava/util/ArrayList;", .methodLink RX2 29 yJx4a65c_isEmpty_aae02, .instanceMethod yJx4a65c_isEmpty_aae02, .selects RJx4a65c yJx4a65c_isEmpty_aae02 yJx4a65c_isEmpty_aae02, .initialized RJx4a65c, .code yJx4a65c_isEmpty_aae02 cJx4a65c_isEmpty_aae02 1 (some .boolean), .fieldLink RJx4a65c 48 "java/util/ArrayList" "size" "I", .methodLink RX2 62 yX2_tierOn, .instanceMethod yX2_tierOn, .selects RX2 yX2_tierOn yX2_tierOn, .code yX2_tierOn cX2_tierOn 3 (some .int), .fieldLink RX2 26 "HoldServer$StoredFile" "usedOn" "I", .methodLink RX2 58 yX2_isComingBackOn, .instanceMethod yX2_isComingBackOn, .selects RX2 yX2_isComingBackOn yX2_isComingBackOn, .code yX2_isComingBackOn cX2_isComingBackOn 2 (some .boolean)] ++ wsX20 ++ wsJx4a65c0)
def wsX0_billOn_r1 : List Cond := [Cond.fieldLink RX0 12 "HoldServer$Department" "ownFiles" "Ljava/util/ArrayList;", Cond.classLink RX0 30 "HoldServer$StoredFile", Cond.methodLink RX0 22 yJx4a65c_size_8abf5, Cond.instanceMethod yJx4a65c_size_8abf5, Cond.selects RJx4a65c yJx4a65c_size_8abf5 yJx4a65c_size_8abf5, Cond.initialized RJx4a65c, Cond.code yJx4a65c_size_8abf5 cJx4a65c_size_8abf5 1 (some .int), Cond.fieldLink RJx4a65c 48 "java/util/ArrayList" "size" "I", Cond.methodLink RX0 26 yJx4a65c_get_915e3, Cond.instanceMethod yJx4a65c_get_915e3, Cond.selects RJx4a65c yJx4a65c_get_915e3 yJx4a65c_get_915e3, Cond.code yJx4a65c_get_915e3 cJx4a65c_get_915e3 2 (some (.object "java/lang/Object")), Cond.methodLink RJx4a65c 118 yJ15_checkIndex_7cf53, Cond.static yJ15_checkIndex_7cf53, Cond.initialized RJ15, Cond.code yJ15_checkIndex_7cf53 cJ15_checkIndex_7cf53 2 (some .int), Cond.methodLink RJ15 105 yJ3_checkIndex_8e157, Cond.static yJ3_checkIndex_8e157, Cond.initialized RJ3, Cond.code yJ3_checkIndex_8e157 cJ3_checkIndex_8e157 3 (some .int), Cond.methodLink RJx4a65c 123 yJx4a65c_elementData_915e3, Cond.instanceMethod yJx4a65c_elementData_915e3, Cond.selects RJx4a65c yJx4a65c_elementData_915e3 yJx4a65c_elementData_915e3, Cond.code yJx4a65c_elementData_915e3 cJx4a65c_elementData_915e3 2 (some (.object "java/lang/Object"))]
def wsX0_billOn_r2 : List Cond := [Cond.fieldLink RJx4a65c 9 "java/util/ArrayList" "elementData" "[Ljava/lang/Object;", Cond.methodLink RX0 32 yX2_billedOn, Cond.instanceMethod yX2_billedOn, Cond.selects RX2 yX2_billedOn yX2_billedOn, Cond.initialized RX2, Cond.code yX2_billedOn cX2_billedOn 3 (some .int), Cond.fieldLink RX2 22 "HoldServer$StoredFile" "size" "I", Cond.fieldLink RX2 52 "HoldServer$StoredFile" "kept" "I", Cond.methodLink RX2 55 yX2_isGone, Cond.instanceMethod yX2_isGone, Cond.selects RX2 yX2_isGone yX2_isGone, Cond.code yX2_isGone cX2_isGone 1 (some .boolean), Cond.fieldLink RX2 12 "HoldServer$StoredFile" "links" "Ljava/util/ArrayList;", Cond.methodLink RX2 29 yJx4a65c_isEmpty_aae02, Cond.instanceMethod yJx4a65c_isEmpty_aae02, Cond.selects RJx4a65c yJx4a65c_isEmpty_aae02 yJx4a65c_isEmpty_aae02, Cond.code yJx4a65c_isEmpty_aae02 cJx4a65c_isEmpty_aae02 1 (some .boolean), Cond.methodLink RX2 62 yX2_tierOn, Cond.instanceMethod yX2_tierOn, Cond.selects RX2 yX2_tierOn yX2_tierOn, Cond.code yX2_tierOn cX2_tierOn 3 (some .int), Cond.fieldLink RX2 26 "HoldServer$StoredFile" "usedOn" "I", Cond.methodLink RX2 58 yX2_isComingBackOn, Cond.instanceMethod yX2_isComingBackOn]
def wsX0_billOn_r3 : List Cond := [Cond.selects RX2 yX2_isComingBackOn yX2_isComingBackOn, Cond.code yX2_isComingBackOn cX2_isComingBackOn 2 (some .boolean)]
def wsX0_billOn : List Cond := .code yX0_billOn cX0_billOn 4 (some .int) :: ((wsX0_billOn_r1 ++ (wsX0_billOn_r2 ++ wsX0_billOn_r3)) ++ wsX00 ++ wsJx4a65c0 ++ wsX20)
def wsX1_init : List Cond := .code yX1_init cX1_init 4 none :: ([.methodLink RX1 3 objectInit, .instanceMethod objectInit, .code objectInit ⟨#[0xb1]⟩ 1 none, .fieldLink RX1 9 "HoldServer$Directory" "number" "I", .fieldLink RX1 15 "HoldServer$Directory" "parent" "LHoldServer$Directory;", .fieldLink RX1 19 "HoldServer$Directory" "quota" "I"] ++ wsX10)
def wsX1_hasRoomFor : List Cond := .code yX1_hasRoomFor cX1_hasRoomFor 3 (some .boolean) :: ([.fieldLink RX1 19 "HoldServer$Directory" "quota" "I", .fieldLink RX1 22 "HoldServer$Directory" "usage" "I", .fieldLink RX1 15 "HoldServer$Directory" "parent" "LHoldServer$Directory;"] ++ wsX10)
def wsX1_addUsage : List Cond := .code yX1_addUsage cX1_addUsage 3 none :: ([.fieldLink RX1 22 "HoldServer$Directory" "usage" "I", .fieldLink RX1 15 "HoldServer$Directory" "parent" "LHoldServer$Directory;"] ++ wsX10)
def wsX1_hasOnItsWay : List Cond := .code yX1_hasOnItsWay cX1_hasOnItsWay 3 (some .boolean) :: ([.fieldLink RX1 15 "HoldServer$Directory" "parent" "LHoldServer$Directory;"] ++ wsX10)
def wsX2_init_r1 : List Cond := [Cond.methodLink RX2 3 objectInit, Cond.instanceMethod objectInit, Cond.code objectInit ⟨#[0xb1]⟩ 1 none, Cond.classLink RX2 9 RJx4a65c, Cond.instantiable RJx4a65c 3, Cond.initialized RJx4a65c, Cond.fieldLink RX2 12 "HoldServer$StoredFile" "links" "Ljava/util/ArrayList;", Cond.fieldLink RX2 18 "HoldServer$StoredFile" "owner" "LHoldServer$Department;", Cond.fieldLink RX2 22 "HoldServer$StoredFile" "size" "I", Cond.fieldLink RX2 26 "HoldServer$StoredFile" "usedOn" "I", Cond.methodLink RX2 11 yJx4a65c_init_da8c8, Cond.instanceMethod yJx4a65c_init_da8c8, Cond.code yJx4a65c_init_da8c8 cJx4a65c_init_da8c8 1 none, Cond.fieldLink RJx4a65c 39 "java/util/ArrayList" "DEFAULTCAPACITY_EMPTY_ELEMENTDATA" "[Ljava/lang/Object;", Cond.fieldLink RJx4a65c 9 "java/util/ArrayList" "elementData" "[Ljava/lang/Object;", Cond.methodLink RJx4a65c 1 yJxc12de_init_da8c8, Cond.instanceMethod yJxc12de_init_da8c8, Cond.initialized RJxc12de, Cond.code yJxc12de_init_da8c8 cJxc12de_init_da8c8 1 none, Cond.fieldLink RJxc12de 7 "java/util/AbstractList" "modCount" "I", Cond.methodLink RJxc12de 1 yJxa1e45_init_da8c8, Cond.instanceMethod yJxa1e45_init_da8c8, Cond.initialized RJxa1e45, Cond.code yJxa1e45_init_da8c8 cJxa1e45_init_da8c8 1 none]
def wsX2_init_r2 : List Cond := [Cond.methodLink RJxa1e45 1 objectInit]
def wsX2_init : List Cond := .code yX2_init cX2_init 4 none :: ((wsX2_init_r1 ++ wsX2_init_r2) ++ wsJx4a65c0 ++ wsX20)
def wsX2_firstLink_r1 : List Cond := [Cond.fieldLink RX2 12 "HoldServer$StoredFile" "links" "Ljava/util/ArrayList;", Cond.classLink RX2 37 "HoldServer$Directory", Cond.methodLink RX2 29 yJx4a65c_isEmpty_aae02, Cond.instanceMethod yJx4a65c_isEmpty_aae02, Cond.selects RJx4a65c yJx4a65c_isEmpty_aae02 yJx4a65c_isEmpty_aae02, Cond.initialized RJx4a65c, Cond.code yJx4a65c_isEmpty_aae02 cJx4a65c_isEmpty_aae02 1 (some .boolean), Cond.fieldLink RJx4a65c 48 "java/util/ArrayList" "size" "I", Cond.methodLink RX2 33 yJx4a65c_get_915e3, Cond.instanceMethod yJx4a65c_get_915e3, Cond.selects RJx4a65c yJx4a65c_get_915e3 yJx4a65c_get_915e3, Cond.code yJx4a65c_get_915e3 cJx4a65c_get_915e3 2 (some (.object "java/lang/Object")), Cond.methodLink RJx4a65c 118 yJ15_checkIndex_7cf53, Cond.static yJ15_checkIndex_7cf53, Cond.initialized RJ15, Cond.code yJ15_checkIndex_7cf53 cJ15_checkIndex_7cf53 2 (some .int), Cond.methodLink RJ15 105 yJ3_checkIndex_8e157, Cond.static yJ3_checkIndex_8e157, Cond.initialized RJ3, Cond.code yJ3_checkIndex_8e157 cJ3_checkIndex_8e157 3 (some .int), Cond.methodLink RJx4a65c 123 yJx4a65c_elementData_915e3, Cond.instanceMethod yJx4a65c_elementData_915e3, Cond.selects RJx4a65c yJx4a65c_elementData_915e3 yJx4a65c_elementData_915e3, Cond.code yJx4a65c_elementData_915e3 cJx4a65c_elementData_915e3 2 (some (.object "java/lang/Object"))]
def wsX2_firstLink_r2 : List Cond := [Cond.fieldLink RJx4a65c 9 "java/util/ArrayList" "elementData" "[Ljava/lang/Object;"]
def wsX2_firstLink : List Cond := .code yX2_firstLink cX2_firstLink 1 (some (.object "HoldServer$Directory")) :: ((wsX2_firstLink_r1 ++ wsX2_firstLink_r2) ++ wsX20 ++ wsJx4a65c0)
def wsX2_placeOfLinkTo : List Cond := .code yX2_placeOfLinkTo cX2_placeOfLinkTo 3 (some .int) :: ([.fieldLink RX2 12 "HoldServer$StoredFile" "links" "Ljava/util/ArrayList;", .methodLink RX2 39 yJx4a65c_size_8abf5, .instanceMethod yJx4a65c_size_8abf5, .selects RJx4a65c yJx4a65c_size_8abf5 yJx4a65c_size_8abf5, .initialized RJx4a65c, .code yJx4a65c_size_8abf5 cJx4a65c_size_8abf5 1 (some .int), .fieldLink RJx4a65c 48 "java/util/ArrayList" "size" "I", .methodLink RX2 33 yJx4a65c_get_915e3, .instanceMethod yJx4a65c_get_915e3, .selects RJx4a65c yJx4a65c_get_915e3 yJx4a65c_get_915e3, .code yJx4a65c_get_915e3 cJx4a65c_get_915e3 2 (some (.object "java/lang/Object")), .methodLink RJx4a65c 118 yJ15_checkIndex_7cf53, .static yJ15_checkIndex_7cf53, .initialized RJ15, .code yJ15_checkIndex_7cf53 cJ15_checkIndex_7cf53 2 (some .int), .methodLink RJ15 105 yJ3_checkIndex_8e157, .static yJ3_checkIndex_8e157, .initialized RJ3, .code yJ3_checkIndex_8e157 cJ3_checkIndex_8e157 3 (some .int), .methodLink RJx4a65c 123 yJx4a65c_elementData_915e3, .instanceMethod yJx4a65c_elementData_915e3, .selects RJx4a65c yJx4a65c_elementData_915e3 yJx4a65c_elementData_915e3, .code yJx4a65c_elementData_915e3 cJx4a65c_elementData_915e3 2 (some (.object "java/lang/Object")), .fieldLink RJx4a65c 9 "java/util/ArrayList" "elementData" "[Ljava/lang/Object;"] ++ wsX20 ++ wsJx4a65c0)
def wsJx4a65c_fastRemove_b59b0 : List Cond := .code yJx4a65c_fastRemove_b59b0 cJx4a65c_fastRemove_b59b0 4 none :: ([.fieldLink RJx4a65c 63 "java/util/ArrayList" "modCount" "I", .sameField "java/util/ArrayList" "java/util/AbstractList" "modCount" "I", .fieldLink RJx4a65c 48 "java/util/ArrayList" "size" "I", .methodLink RJx4a65c 112 arraycopyName, .native arraycopyName, .static arraycopyName, .initialized "java/lang/System"] ++ wsJx4a65c0)
def wsJx4a65c_remove_915e3 : List Cond := .code yJx4a65c_remove_915e3 cJx4a65c_remove_915e3 4 (some (.object "java/lang/Object")) :: ([.fieldLink RJx4a65c 48 "java/util/ArrayList" "size" "I", .fieldLink RJx4a65c 9 "java/util/ArrayList" "elementData" "[Ljava/lang/Object;", .methodLink RJx4a65c 118 yJ15_checkIndex_7cf53, .static yJ15_checkIndex_7cf53, .initialized RJ15, .code yJ15_checkIndex_7cf53 cJ15_checkIndex_7cf53 2 (some .int), .methodLink RJ15 105 yJ3_checkIndex_8e157, .static yJ3_checkIndex_8e157, .initialized RJ3, .code yJ3_checkIndex_8e157 cJ3_checkIndex_8e157 3 (some .int), .methodLink RJx4a65c 144 yJx4a65c_fastRemove_b59b0, .instanceMethod yJx4a65c_fastRemove_b59b0, .selects RJx4a65c yJx4a65c_fastRemove_b59b0 yJx4a65c_fastRemove_b59b0, .initialized RJx4a65c, .code yJx4a65c_fastRemove_b59b0 cJx4a65c_fastRemove_b59b0 4 none, .fieldLink RJx4a65c 63 "java/util/ArrayList" "modCount" "I", .sameField "java/util/ArrayList" "java/util/AbstractList" "modCount" "I", .methodLink RJx4a65c 112 arraycopyName, .native arraycopyName, .static arraycopyName, .initialized "java/lang/System"] ++ wsJx4a65c0)
def wsX2_removeLinkTo_r1 : List Cond := [Cond.fieldLink RX2 12 "HoldServer$StoredFile" "links" "Ljava/util/ArrayList;", Cond.methodLink RX2 42 yX2_placeOfLinkTo, Cond.instanceMethod yX2_placeOfLinkTo, Cond.selects RX2 yX2_placeOfLinkTo yX2_placeOfLinkTo, Cond.initialized RX2, Cond.code yX2_placeOfLinkTo cX2_placeOfLinkTo 3 (some .int), Cond.methodLink RX2 39 yJx4a65c_size_8abf5, Cond.instanceMethod yJx4a65c_size_8abf5, Cond.selects RJx4a65c yJx4a65c_size_8abf5 yJx4a65c_size_8abf5, Cond.initialized RJx4a65c, Cond.code yJx4a65c_size_8abf5 cJx4a65c_size_8abf5 1 (some .int), Cond.fieldLink RJx4a65c 48 "java/util/ArrayList" "size" "I", Cond.methodLink RX2 33 yJx4a65c_get_915e3, Cond.instanceMethod yJx4a65c_get_915e3, Cond.selects RJx4a65c yJx4a65c_get_915e3 yJx4a65c_get_915e3, Cond.code yJx4a65c_get_915e3 cJx4a65c_get_915e3 2 (some (.object "java/lang/Object")), Cond.methodLink RJx4a65c 118 yJ15_checkIndex_7cf53, Cond.static yJ15_checkIndex_7cf53, Cond.initialized RJ15, Cond.code yJ15_checkIndex_7cf53 cJ15_checkIndex_7cf53 2 (some .int), Cond.methodLink RJ15 105 yJ3_checkIndex_8e157, Cond.static yJ3_checkIndex_8e157, Cond.initialized RJ3, Cond.code yJ3_checkIndex_8e157 cJ3_checkIndex_8e157 3 (some .int)]
def wsX2_removeLinkTo_r2 : List Cond := [Cond.methodLink RJx4a65c 123 yJx4a65c_elementData_915e3, Cond.instanceMethod yJx4a65c_elementData_915e3, Cond.selects RJx4a65c yJx4a65c_elementData_915e3 yJx4a65c_elementData_915e3, Cond.code yJx4a65c_elementData_915e3 cJx4a65c_elementData_915e3 2 (some (.object "java/lang/Object")), Cond.fieldLink RJx4a65c 9 "java/util/ArrayList" "elementData" "[Ljava/lang/Object;", Cond.methodLink RX2 46 yJx4a65c_remove_915e3, Cond.instanceMethod yJx4a65c_remove_915e3, Cond.selects RJx4a65c yJx4a65c_remove_915e3 yJx4a65c_remove_915e3, Cond.code yJx4a65c_remove_915e3 cJx4a65c_remove_915e3 4 (some (.object "java/lang/Object")), Cond.methodLink RJx4a65c 144 yJx4a65c_fastRemove_b59b0, Cond.instanceMethod yJx4a65c_fastRemove_b59b0, Cond.selects RJx4a65c yJx4a65c_fastRemove_b59b0 yJx4a65c_fastRemove_b59b0, Cond.code yJx4a65c_fastRemove_b59b0 cJx4a65c_fastRemove_b59b0 4 none, Cond.fieldLink RJx4a65c 63 "java/util/ArrayList" "modCount" "I", Cond.sameField "java/util/ArrayList" "java/util/AbstractList" "modCount" "I", Cond.methodLink RJx4a65c 112 arraycopyName, Cond.native arraycopyName, Cond.static arraycopyName, Cond.initialized "java/lang/System"]
def wsX2_removeLinkTo : List Cond := .code yX2_removeLinkTo cX2_removeLinkTo 3 (some .boolean) :: ((wsX2_removeLinkTo_r1 ++ wsX2_removeLinkTo_r2) ++ wsX20 ++ wsJx4a65c0)
def wsX2_replaceSize : List Cond := .code yX2_replaceSize cX2_replaceSize 2 none :: ([.fieldLink RX2 49 "HoldServer$StoredFile" "holders" "I", .fieldLink RX2 52 "HoldServer$StoredFile" "kept" "I", .fieldLink RX2 22 "HoldServer$StoredFile" "size" "I"] ++ wsX20)
def wsX2_releaseFrom : List Cond := .code yX2_releaseFrom cX2_releaseFrom 3 (some .int) :: ([.fieldLink RX2 49 "HoldServer$StoredFile" "holders" "I", .fieldLink RX2 52 "HoldServer$StoredFile" "kept" "I"] ++ wsX20)
def wsX2_costToBringBack : List Cond := .code yX2_costToBringBack cX2_costToBringBack 1 (some .int) :: ([.fieldLink RX2 22 "HoldServer$StoredFile" "size" "I"] ++ wsX20)
def wsJ8_hugeLength_7cf53 : List Cond := .code yJ8_hugeLength_7cf53 cJ8_hugeLength_7cf53 3 (some .int) :: ([.constant RJ8 200 (2147483639)])
def wsJ8_newLength_cabcc : List Cond := .code yJ8_newLength_cabcc cJ8_newLength_cabcc 4 (some .int) :: ([.methodLink RJ8 194 Lib.Math.max.name, .static Lib.Math.max.name, .initialized "java/lang/Math", .code Lib.Math.max.name Lib.Math.max.code 2 (some .int), .constant RJ8 200 (2147483639), .methodLink RJ8 201 yJ8_hugeLength_7cf53, .static yJ8_hugeLength_7cf53, .initialized RJ8, .code yJ8_hugeLength_7cf53 cJ8_hugeLength_7cf53 3 (some .int)])
def wsJ7_copyOf_6403c : List Cond := .code yJ7_copyOf_6403c cJ7_copyOf_6403c 4 (some (.array (.object "java/lang/Object"))) :: ([.classLink RJ7 110 "[Ljava/lang/Object;", .classLink RJ7 2 "java/lang/Object", .methodLink RJ7 304 Lib.Math.min.name, .static Lib.Math.min.name, .initialized "java/lang/Math", .code Lib.Math.min.name Lib.Math.min.code 2 (some .int), .methodLink RJ7 150 arraycopyName, .native arraycopyName, .static arraycopyName, .initialized "java/lang/System"])
def wsJ7_copyOf_1904c : List Cond := .code yJ7_copyOf_1904c cJ7_copyOf_1904c 2 (some (.array (.object "java/lang/Object"))) :: ([.methodLink RJ7 86 ⟨"java/lang/Object", "getClass", "()Ljava/lang/Class;"⟩, .selects "[Ljava/lang/Object;" ⟨"java/lang/Object", "getClass", "()Ljava/lang/Class;"⟩ ⟨"java/lang/Object", "getClass", "()Ljava/lang/Class;"⟩, .instanceMethod ⟨"java/lang/Object", "getClass", "()Ljava/lang/Class;"⟩, .native ⟨"java/lang/Object", "getClass", "()Ljava/lang/Class;"⟩, .methodLink RJ7 300 yJ7_copyOf_6403c, .static yJ7_copyOf_6403c, .initialized RJ7, .code yJ7_copyOf_6403c cJ7_copyOf_6403c 4 (some (.array (.object "java/lang/Object"))), .classLink RJ7 110 "[Ljava/lang/Object;", .classLink RJ7 2 "java/lang/Object", .methodLink RJ7 304 Lib.Math.min.name, .static Lib.Math.min.name, .initialized "java/lang/Math", .code Lib.Math.min.name Lib.Math.min.code 2 (some .int), .methodLink RJ7 150 arraycopyName, .native arraycopyName, .static arraycopyName, .initialized "java/lang/System"])
def wsJx4a65c_grow_92f84_r1 : List Cond := [Cond.fieldLink RJx4a65c 9 "java/util/ArrayList" "elementData" "[Ljava/lang/Object;", Cond.fieldLink RJx4a65c 39 "java/util/ArrayList" "DEFAULTCAPACITY_EMPTY_ELEMENTDATA" "[Ljava/lang/Object;", Cond.methodLink RJx4a65c 79 Lib.Math.max.name, Cond.static Lib.Math.max.name, Cond.initialized "java/lang/Math", Cond.code Lib.Math.max.name Lib.Math.max.code 2 (some .int), Cond.classLink RJx4a65c 7 "java/lang/Object", Cond.methodLink RJx4a65c 73 yJ8_newLength_cabcc, Cond.static yJ8_newLength_cabcc, Cond.initialized RJ8, Cond.code yJ8_newLength_cabcc cJ8_newLength_cabcc 4 (some .int), Cond.methodLink RJ8 194 Lib.Math.max.name, Cond.constant RJ8 200 (2147483639), Cond.methodLink RJ8 201 yJ8_hugeLength_7cf53, Cond.static yJ8_hugeLength_7cf53, Cond.code yJ8_hugeLength_7cf53 cJ8_hugeLength_7cf53 3 (some .int), Cond.methodLink RJx4a65c 66 yJ7_copyOf_1904c, Cond.static yJ7_copyOf_1904c, Cond.initialized RJ7, Cond.code yJ7_copyOf_1904c cJ7_copyOf_1904c 2 (some (.array (.object "java/lang/Object"))), Cond.methodLink RJ7 86 ⟨"java/lang/Object", "getClass", "()Ljava/lang/Class;"⟩, Cond.selects "[Ljava/lang/Object;" ⟨"java/lang/Object", "getClass", "()Ljava/lang/Class;"⟩ ⟨"java/lang/Object", "getClass", "()Ljava/lang/Class;"⟩, Cond.instanceMethod ⟨"java/lang/Object", "getClass", "()Ljava/lang/Class;"⟩, Cond.native ⟨"java/lang/Object", "getClass", "()Ljava/lang/Class;"⟩]
def wsJx4a65c_grow_92f84_r2 : List Cond := [Cond.methodLink RJ7 300 yJ7_copyOf_6403c, Cond.static yJ7_copyOf_6403c, Cond.code yJ7_copyOf_6403c cJ7_copyOf_6403c 4 (some (.array (.object "java/lang/Object"))), Cond.classLink RJ7 110 "[Ljava/lang/Object;", Cond.classLink RJ7 2 "java/lang/Object", Cond.methodLink RJ7 304 Lib.Math.min.name, Cond.static Lib.Math.min.name, Cond.code Lib.Math.min.name Lib.Math.min.code 2 (some .int), Cond.methodLink RJ7 150 arraycopyName, Cond.native arraycopyName, Cond.static arraycopyName, Cond.initialized "java/lang/System"]
def wsJx4a65c_grow_92f84 : List Cond := .code yJx4a65c_grow_92f84 cJx4a65c_grow_92f84 4 (some (.array (.object "java/lang/Object"))) :: ((wsJx4a65c_grow_92f84_r1 ++ wsJx4a65c_grow_92f84_r2) ++ wsJx4a65c0)
end
section
def wsJx4a65c_grow_d5877_r1 : List Cond := [Cond.fieldLink RJx4a65c 48 "java/util/ArrayList" "size" "I", Cond.methodLink RJx4a65c 69 yJx4a65c_grow_92f84, Cond.instanceMethod yJx4a65c_grow_92f84, Cond.selects RJx4a65c yJx4a65c_grow_92f84 yJx4a65c_grow_92f84, Cond.initialized RJx4a65c, Cond.code yJx4a65c_grow_92f84 cJx4a65c_grow_92f84 4 (some (.array (.object "java/lang/Object"))), Cond.fieldLink RJx4a65c 9 "java/util/ArrayList" "elementData" "[Ljava/lang/Object;", Cond.fieldLink RJx4a65c 39 "java/util/ArrayList" "DEFAULTCAPACITY_EMPTY_ELEMENTDATA" "[Ljava/lang/Object;", Cond.methodLink RJx4a65c 79 Lib.Math.max.name, Cond.static Lib.Math.max.name, Cond.initialized "java/lang/Math", Cond.code Lib.Math.max.name Lib.Math.max.code 2 (some .int), Cond.classLink RJx4a65c 7 "java/lang/Object", Cond.methodLink RJx4a65c 73 yJ8_newLength_cabcc, Cond.static yJ8_newLength_cabcc, Cond.initialized RJ8, Cond.code yJ8_newLength_cabcc cJ8_newLength_cabcc 4 (some .int), Cond.methodLink RJ8 194 Lib.Math.max.name, Cond.constant RJ8 200 (2147483639), Cond.methodLink RJ8 201 yJ8_hugeLength_7cf53, Cond.static yJ8_hugeLength_7cf53, Cond.code yJ8_hugeLength_7cf53 cJ8_hugeLength_7cf53 3 (some .int), Cond.methodLink RJx4a65c 66 yJ7_copyOf_1904c, Cond.static yJ7_copyOf_1904c]
def wsJx4a65c_grow_d5877_r2 : List Cond := [Cond.initialized RJ7, Cond.code yJ7_copyOf_1904c cJ7_copyOf_1904c 2 (some (.array (.object "java/lang/Object"))), Cond.methodLink RJ7 86 ⟨"java/lang/Object", "getClass", "()Ljava/lang/Class;"⟩, Cond.selects "[Ljava/lang/Object;" ⟨"java/lang/Object", "getClass", "()Ljava/lang/Class;"⟩ ⟨"java/lang/Object", "getClass", "()Ljava/lang/Class;"⟩, Cond.instanceMethod ⟨"java/lang/Object", "getClass", "()Ljava/lang/Class;"⟩, Cond.native ⟨"java/lang/Object", "getClass", "()Ljava/lang/Class;"⟩, Cond.methodLink RJ7 300 yJ7_copyOf_6403c, Cond.static yJ7_copyOf_6403c, Cond.code yJ7_copyOf_6403c cJ7_copyOf_6403c 4 (some (.array (.object "java/lang/Object"))), Cond.classLink RJ7 110 "[Ljava/lang/Object;", Cond.classLink RJ7 2 "java/lang/Object", Cond.methodLink RJ7 304 Lib.Math.min.name, Cond.static Lib.Math.min.name, Cond.code Lib.Math.min.name Lib.Math.min.code 2 (some .int), Cond.methodLink RJ7 150 arraycopyName, Cond.native arraycopyName, Cond.static arraycopyName, Cond.initialized "java/lang/System"]
def wsJx4a65c_grow_d5877 : List Cond := .code yJx4a65c_grow_d5877 cJx4a65c_grow_d5877 1 (some (.array (.object "java/lang/Object"))) :: ((wsJx4a65c_grow_d5877_r1 ++ wsJx4a65c_grow_d5877_r2) ++ wsJx4a65c0)
def wsJx4a65c_add_72be8_r1 : List Cond := [Cond.fieldLink RJx4a65c 48 "java/util/ArrayList" "size" "I", Cond.methodLink RJx4a65c 129 yJx4a65c_grow_d5877, Cond.instanceMethod yJx4a65c_grow_d5877, Cond.selects RJx4a65c yJx4a65c_grow_d5877 yJx4a65c_grow_d5877, Cond.initialized RJx4a65c, Cond.code yJx4a65c_grow_d5877 cJx4a65c_grow_d5877 1 (some (.array (.object "java/lang/Object"))), Cond.methodLink RJx4a65c 69 yJx4a65c_grow_92f84, Cond.instanceMethod yJx4a65c_grow_92f84, Cond.selects RJx4a65c yJx4a65c_grow_92f84 yJx4a65c_grow_92f84, Cond.code yJx4a65c_grow_92f84 cJx4a65c_grow_92f84 4 (some (.array (.object "java/lang/Object"))), Cond.fieldLink RJx4a65c 9 "java/util/ArrayList" "elementData" "[Ljava/lang/Object;", Cond.fieldLink RJx4a65c 39 "java/util/ArrayList" "DEFAULTCAPACITY_EMPTY_ELEMENTDATA" "[Ljava/lang/Object;", Cond.methodLink RJx4a65c 79 Lib.Math.max.name, Cond.static Lib.Math.max.name, Cond.initialized "java/lang/Math", Cond.code Lib.Math.max.name Lib.Math.max.code 2 (some .int), Cond.classLink RJx4a65c 7 "java/lang/Object", Cond.methodLink RJx4a65c 73 yJ8_newLength_cabcc, Cond.static yJ8_newLength_cabcc, Cond.initialized RJ8, Cond.code yJ8_newLength_cabcc cJ8_newLength_cabcc 4 (some .int), Cond.methodLink RJ8 194 Lib.Math.max.name, Cond.constant RJ8 200 (2147483639), Cond.methodLink RJ8 201 yJ8_hugeLength_7cf53]
def wsJx4a65c_add_72be8_r2 : List Cond := [Cond.static yJ8_hugeLength_7cf53, Cond.code yJ8_hugeLength_7cf53 cJ8_hugeLength_7cf53 3 (some .int), Cond.methodLink RJx4a65c 66 yJ7_copyOf_1904c, Cond.static yJ7_copyOf_1904c, Cond.initialized RJ7, Cond.code yJ7_copyOf_1904c cJ7_copyOf_1904c 2 (some (.array (.object "java/lang/Object"))), Cond.methodLink RJ7 86 ⟨"java/lang/Object", "getClass", "()Ljava/lang/Class;"⟩, Cond.selects "[Ljava/lang/Object;" ⟨"java/lang/Object", "getClass", "()Ljava/lang/Class;"⟩ ⟨"java/lang/Object", "getClass", "()Ljava/lang/Class;"⟩, Cond.instanceMethod ⟨"java/lang/Object", "getClass", "()Ljava/lang/Class;"⟩, Cond.native ⟨"java/lang/Object", "getClass", "()Ljava/lang/Class;"⟩, Cond.methodLink RJ7 300 yJ7_copyOf_6403c, Cond.static yJ7_copyOf_6403c, Cond.code yJ7_copyOf_6403c cJ7_copyOf_6403c 4 (some (.array (.object "java/lang/Object"))), Cond.classLink RJ7 110 "[Ljava/lang/Object;", Cond.classLink RJ7 2 "java/lang/Object", Cond.methodLink RJ7 304 Lib.Math.min.name, Cond.static Lib.Math.min.name, Cond.code Lib.Math.min.name Lib.Math.min.code 2 (some .int), Cond.methodLink RJ7 150 arraycopyName, Cond.native arraycopyName, Cond.static arraycopyName, Cond.initialized "java/lang/System"]
def wsJx4a65c_add_72be8 : List Cond := .code yJx4a65c_add_72be8 cJx4a65c_add_72be8 4 none :: ((wsJx4a65c_add_72be8_r1 ++ wsJx4a65c_add_72be8_r2) ++ wsJx4a65c0)
def wsJx4a65c_add_9ea2d_r1 : List Cond := [Cond.fieldLink RJx4a65c 63 "java/util/ArrayList" "modCount" "I", Cond.sameField "java/util/ArrayList" "java/util/AbstractList" "modCount" "I", Cond.fieldLink RJx4a65c 9 "java/util/ArrayList" "elementData" "[Ljava/lang/Object;", Cond.fieldLink RJx4a65c 48 "java/util/ArrayList" "size" "I", Cond.methodLink RJx4a65c 131 yJx4a65c_add_72be8, Cond.instanceMethod yJx4a65c_add_72be8, Cond.selects RJx4a65c yJx4a65c_add_72be8 yJx4a65c_add_72be8, Cond.initialized RJx4a65c, Cond.code yJx4a65c_add_72be8 cJx4a65c_add_72be8 4 none, Cond.methodLink RJx4a65c 129 yJx4a65c_grow_d5877, Cond.instanceMethod yJx4a65c_grow_d5877, Cond.selects RJx4a65c yJx4a65c_grow_d5877 yJx4a65c_grow_d5877, Cond.code yJx4a65c_grow_d5877 cJx4a65c_grow_d5877 1 (some (.array (.object "java/lang/Object"))), Cond.methodLink RJx4a65c 69 yJx4a65c_grow_92f84, Cond.instanceMethod yJx4a65c_grow_92f84, Cond.selects RJx4a65c yJx4a65c_grow_92f84 yJx4a65c_grow_92f84, Cond.code yJx4a65c_grow_92f84 cJx4a65c_grow_92f84 4 (some (.array (.object "java/lang/Object"))), Cond.fieldLink RJx4a65c 39 "java/util/ArrayList" "DEFAULTCAPACITY_EMPTY_ELEMENTDATA" "[Ljava/lang/Object;", Cond.methodLink RJx4a65c 79 Lib.Math.max.name, Cond.static Lib.Math.max.name, Cond.initialized "java/lang/Math", Cond.code Lib.Math.max.name Lib.Math.max.code 2 (some .int), Cond.classLink RJx4a65c 7 "java/lang/Object", Cond.methodLink RJx4a65c 73 yJ8_newLength_cabcc]
def wsJx4a65c_add_9ea2d_r2 : List Cond := [Cond.static yJ8_newLength_cabcc, Cond.initialized RJ8, Cond.code yJ8_newLength_cabcc cJ8_newLength_cabcc 4 (some .int), Cond.methodLink RJ8 194 Lib.Math.max.name, Cond.constant RJ8 200 (2147483639), Cond.methodLink RJ8 201 yJ8_hugeLength_7cf53, Cond.static yJ8_hugeLength_7cf53, Cond.code yJ8_hugeLength_7cf53 cJ8_hugeLength_7cf53 3 (some .int), Cond.methodLink RJx4a65c 66 yJ7_copyOf_1904c, Cond.static yJ7_copyOf_1904c, Cond.initialized RJ7, Cond.code yJ7_copyOf_1904c cJ7_copyOf_1904c 2 (some (.array (.object "java/lang/Object"))), Cond.methodLink RJ7 86 ⟨"java/lang/Object", "getClass", "()Ljava/lang/Class;"⟩, Cond.selects "[Ljava/lang/Object;" ⟨"java/lang/Object", "getClass", "()Ljava/lang/Class;"⟩ ⟨"java/lang/Object", "getClass", "()Ljava/lang/Class;"⟩, Cond.instanceMethod ⟨"java/lang/Object", "getClass", "()Ljava/lang/Class;"⟩, Cond.native ⟨"java/lang/Object", "getClass", "()Ljava/lang/Class;"⟩, Cond.methodLink RJ7 300 yJ7_copyOf_6403c, Cond.static yJ7_copyOf_6403c, Cond.code yJ7_copyOf_6403c cJ7_copyOf_6403c 4 (some (.array (.object "java/lang/Object"))), Cond.classLink RJ7 110 "[Ljava/lang/Object;", Cond.classLink RJ7 2 "java/lang/Object", Cond.methodLink RJ7 304 Lib.Math.min.name, Cond.static Lib.Math.min.name, Cond.code Lib.Math.min.name Lib.Math.min.code 2 (some .int)]
def wsJx4a65c_add_9ea2d_r3 : List Cond := [Cond.methodLink RJ7 150 arraycopyName, Cond.native arraycopyName, Cond.static arraycopyName, Cond.initialized "java/lang/System"]
def wsJx4a65c_add_9ea2d : List Cond := .code yJx4a65c_add_9ea2d cJx4a65c_add_9ea2d 2 (some .boolean) :: ((wsJx4a65c_add_9ea2d_r1 ++ (wsJx4a65c_add_9ea2d_r2 ++ wsJx4a65c_add_9ea2d_r3)) ++ wsJx4a65c0)
def wsX3_init_r1 : List Cond := [Cond.methodLink RX3 1 objectInit, Cond.instanceMethod objectInit, Cond.code objectInit ⟨#[0xb1]⟩ 1 none, Cond.classLink RX3 7 RJx4a65c, Cond.instantiable RJx4a65c 3, Cond.initialized RJx4a65c, Cond.fieldLink RX3 10 "HoldServer" "directories" "Ljava/util/ArrayList;", Cond.fieldLink RX3 16 "HoldServer" "files" "Ljava/util/ArrayList;", Cond.fieldLink RX3 19 "HoldServer" "departments" "Ljava/util/ArrayList;", Cond.classLink RX3 22 RX1, Cond.instantiable RX1 4, Cond.initialized RX1, Cond.classLink RX3 31 RX0, Cond.instantiable RX0 2, Cond.initialized RX0, Cond.methodLink RX3 9 yJx4a65c_init_da8c8, Cond.instanceMethod yJx4a65c_init_da8c8, Cond.code yJx4a65c_init_da8c8 cJx4a65c_init_da8c8 1 none, Cond.fieldLink RJx4a65c 39 "java/util/ArrayList" "DEFAULTCAPACITY_EMPTY_ELEMENTDATA" "[Ljava/lang/Object;", Cond.fieldLink RJx4a65c 9 "java/util/ArrayList" "elementData" "[Ljava/lang/Object;", Cond.methodLink RJx4a65c 1 yJxc12de_init_da8c8, Cond.instanceMethod yJxc12de_init_da8c8, Cond.initialized RJxc12de, Cond.code yJxc12de_init_da8c8 cJxc12de_init_da8c8 1 none]
def wsX3_init_r2 : List Cond := [Cond.fieldLink RJxc12de 7 "java/util/AbstractList" "modCount" "I", Cond.methodLink RJxc12de 1 yJxa1e45_init_da8c8, Cond.instanceMethod yJxa1e45_init_da8c8, Cond.initialized RJxa1e45, Cond.code yJxa1e45_init_da8c8 cJxa1e45_init_da8c8 1 none, Cond.methodLink RJxa1e45 1 objectInit, Cond.methodLink RX3 24 yX1_init, Cond.instanceMethod yX1_init, Cond.code yX1_init cX1_init 4 none, Cond.methodLink RX1 3 objectInit, Cond.fieldLink RX1 9 "HoldServer$Directory" "number" "I", Cond.fieldLink RX1 15 "HoldServer$Directory" "parent" "LHoldServer$Directory;", Cond.fieldLink RX1 19 "HoldServer$Directory" "quota" "I", Cond.methodLink RX3 27 yJx4a65c_add_9ea2d, Cond.instanceMethod yJx4a65c_add_9ea2d, Cond.selects RJx4a65c yJx4a65c_add_9ea2d yJx4a65c_add_9ea2d, Cond.code yJx4a65c_add_9ea2d cJx4a65c_add_9ea2d 2 (some .boolean), Cond.fieldLink RJx4a65c 63 "java/util/ArrayList" "modCount" "I", Cond.sameField "java/util/ArrayList" "java/util/AbstractList" "modCount" "I", Cond.fieldLink RJx4a65c 48 "java/util/ArrayList" "size" "I", Cond.methodLink RJx4a65c 131 yJx4a65c_add_72be8, Cond.instanceMethod yJx4a65c_add_72be8, Cond.selects RJx4a65c yJx4a65c_add_72be8 yJx4a65c_add_72be8, Cond.code yJx4a65c_add_72be8 cJx4a65c_add_72be8 4 none]
def wsX3_init_r3 : List Cond := [Cond.methodLink RJx4a65c 129 yJx4a65c_grow_d5877, Cond.instanceMethod yJx4a65c_grow_d5877, Cond.selects RJx4a65c yJx4a65c_grow_d5877 yJx4a65c_grow_d5877, Cond.code yJx4a65c_grow_d5877 cJx4a65c_grow_d5877 1 (some (.array (.object "java/lang/Object"))), Cond.methodLink RJx4a65c 69 yJx4a65c_grow_92f84, Cond.instanceMethod yJx4a65c_grow_92f84, Cond.selects RJx4a65c yJx4a65c_grow_92f84 yJx4a65c_grow_92f84, Cond.code yJx4a65c_grow_92f84 cJx4a65c_grow_92f84 4 (some (.array (.object "java/lang/Object"))), Cond.methodLink RJx4a65c 79 Lib.Math.max.name, Cond.static Lib.Math.max.name, Cond.initialized "java/lang/Math", Cond.code Lib.Math.max.name Lib.Math.max.code 2 (some .int), Cond.classLink RJx4a65c 7 "java/lang/Object", Cond.methodLink RJx4a65c 73 yJ8_newLength_cabcc, Cond.static yJ8_newLength_cabcc, Cond.initialized RJ8, Cond.code yJ8_newLength_cabcc cJ8_newLength_cabcc 4 (some .int), Cond.methodLink RJ8 194 Lib.Math.max.name, Cond.constant RJ8 200 (2147483639), Cond.methodLink RJ8 201 yJ8_hugeLength_7cf53, Cond.static yJ8_hugeLength_7cf53, Cond.code yJ8_hugeLength_7cf53 cJ8_hugeLength_7cf53 3 (some .int), Cond.methodLink RJx4a65c 66 yJ7_copyOf_1904c, Cond.static yJ7_copyOf_1904c]
def wsX3_init_r4 : List Cond := [Cond.initialized RJ7, Cond.code yJ7_copyOf_1904c cJ7_copyOf_1904c 2 (some (.array (.object "java/lang/Object"))), Cond.methodLink RJ7 86 ⟨"java/lang/Object", "getClass", "()Ljava/lang/Class;"⟩, Cond.selects "[Ljava/lang/Object;" ⟨"java/lang/Object", "getClass", "()Ljava/lang/Class;"⟩ ⟨"java/lang/Object", "getClass", "()Ljava/lang/Class;"⟩, Cond.instanceMethod ⟨"java/lang/Object", "getClass", "()Ljava/lang/Class;"⟩, Cond.native ⟨"java/lang/Object", "getClass", "()Ljava/lang/Class;"⟩, Cond.methodLink RJ7 300 yJ7_copyOf_6403c, Cond.static yJ7_copyOf_6403c, Cond.code yJ7_copyOf_6403c cJ7_copyOf_6403c 4 (some (.array (.object "java/lang/Object"))), Cond.classLink RJ7 110 "[Ljava/lang/Object;", Cond.classLink RJ7 2 "java/lang/Object", Cond.methodLink RJ7 304 Lib.Math.min.name, Cond.static Lib.Math.min.name, Cond.code Lib.Math.min.name Lib.Math.min.code 2 (some .int), Cond.methodLink RJ7 150 arraycopyName, Cond.native arraycopyName, Cond.static arraycopyName, Cond.initialized "java/lang/System", Cond.instanceMethod yX0_init, Cond.code yX0_init cX0_init 1 none, Cond.methodLink RX0 3 objectInit, Cond.classLink RX0 9 RJx4a65c, Cond.fieldLink RX0 12 "HoldServer$Department" "ownFiles" "Ljava/util/ArrayList;", Cond.fieldLink RX0 18 "HoldServer$Department" "coins" "I"]
def wsX3_init_r5 : List Cond := [Cond.methodLink RX0 11 yJx4a65c_init_da8c8]
def wsX3_init : List Cond := .code yX3_init cX3_init 2 none :: ((wsX3_init_r1 ++ (wsX3_init_r2 ++ (wsX3_init_r3 ++ (wsX3_init_r4 ++ wsX3_init_r5)))) ++ wsJx4a65c0 ++ wsX30 ++ wsX10 ++ wsX00)
def wsX3_directoryNumbered_r1 : List Cond := [Cond.classLink RX3 179 "java/lang/IndexOutOfBoundsException", Cond.initialized "java/lang/IndexOutOfBoundsException", Cond.fieldLink RX3 10 "HoldServer" "directories" "Ljava/util/ArrayList;", Cond.classLink RX3 22 "HoldServer$Directory", Cond.methodLink RX3 43 yJx4a65c_size_8abf5, Cond.instanceMethod yJx4a65c_size_8abf5, Cond.selects RJx4a65c yJx4a65c_size_8abf5 yJx4a65c_size_8abf5, Cond.initialized RJx4a65c, Cond.code yJx4a65c_size_8abf5 cJx4a65c_size_8abf5 1 (some .int), Cond.fieldLink RJx4a65c 48 "java/util/ArrayList" "size" "I", Cond.methodLink RX3 149 yJx4a65c_get_915e3, Cond.instanceMethod yJx4a65c_get_915e3, Cond.selects RJx4a65c yJx4a65c_get_915e3 yJx4a65c_get_915e3, Cond.code yJx4a65c_get_915e3 cJx4a65c_get_915e3 2 (some (.object "java/lang/Object")), Cond.methodLink RJx4a65c 118 yJ15_checkIndex_7cf53, Cond.static yJ15_checkIndex_7cf53, Cond.initialized RJ15, Cond.code yJ15_checkIndex_7cf53 cJ15_checkIndex_7cf53 2 (some .int), Cond.methodLink RJ15 105 yJ3_checkIndex_8e157, Cond.static yJ3_checkIndex_8e157, Cond.initialized RJ3, Cond.code yJ3_checkIndex_8e157 cJ3_checkIndex_8e157 3 (some .int), Cond.methodLink RJx4a65c 123 yJx4a65c_elementData_915e3, Cond.instanceMethod yJx4a65c_elementData_915e3]
def wsX3_directoryNumbered_r2 : List Cond := [Cond.selects RJx4a65c yJx4a65c_elementData_915e3 yJx4a65c_elementData_915e3, Cond.code yJx4a65c_elementData_915e3 cJx4a65c_elementData_915e3 2 (some (.object "java/lang/Object")), Cond.fieldLink RJx4a65c 9 "java/util/ArrayList" "elementData" "[Ljava/lang/Object;"]
def wsX3_directoryNumbered : List Cond := .code yX3_directoryNumbered cX3_directoryNumbered 2 (some (.object "HoldServer$Directory")) :: ((wsX3_directoryNumbered_r1 ++ wsX3_directoryNumbered_r2) ++ wsX30 ++ wsJx4a65c0 ++ (vx_atS RX3 183 "java/lang/IndexOutOfBoundsException" ["java/lang/RuntimeException", "java/lang/Exception"]).filter goodWord)
def wsX3_requireBetween : List Cond := .code yX3_requireBetween cX3_requireBetween 3 none :: ([.classLink RX3 190 "java/lang/IllegalArgumentException", .initialized "java/lang/IllegalArgumentException"] ++ (vx_atS RX3 194 "java/lang/IllegalArgumentException" ["java/lang/RuntimeException", "java/lang/Exception"]).filter goodWord)
def wsX3_addDirectory_r1 : List Cond := [Cond.classLink RX3 47 "java/lang/IllegalStateException", Cond.initialized "java/lang/IllegalStateException", Cond.constant RX3 38 (100000), Cond.fieldLink RX3 10 "HoldServer" "directories" "Ljava/util/ArrayList;", Cond.classLink RX3 22 RX1, Cond.instantiable RX1 4, Cond.initialized RX1, Cond.methodLink RX3 34 yX3_directoryNumbered, Cond.instanceMethod yX3_directoryNumbered, Cond.selects RX3 yX3_directoryNumbered yX3_directoryNumbered, Cond.initialized RX3, Cond.code yX3_directoryNumbered cX3_directoryNumbered 2 (some (.object "HoldServer$Directory")), Cond.classLink RX3 179 "java/lang/IndexOutOfBoundsException", Cond.initialized "java/lang/IndexOutOfBoundsException", Cond.classLink RX3 22 "HoldServer$Directory", Cond.methodLink RX3 43 yJx4a65c_size_8abf5, Cond.instanceMethod yJx4a65c_size_8abf5, Cond.selects RJx4a65c yJx4a65c_size_8abf5 yJx4a65c_size_8abf5, Cond.initialized RJx4a65c, Cond.code yJx4a65c_size_8abf5 cJx4a65c_size_8abf5 1 (some .int), Cond.fieldLink RJx4a65c 48 "java/util/ArrayList" "size" "I", Cond.methodLink RX3 149 yJx4a65c_get_915e3, Cond.instanceMethod yJx4a65c_get_915e3, Cond.selects RJx4a65c yJx4a65c_get_915e3 yJx4a65c_get_915e3]
def wsX3_addDirectory_r2 : List Cond := [Cond.code yJx4a65c_get_915e3 cJx4a65c_get_915e3 2 (some (.object "java/lang/Object")), Cond.methodLink RJx4a65c 118 yJ15_checkIndex_7cf53, Cond.static yJ15_checkIndex_7cf53, Cond.initialized RJ15, Cond.code yJ15_checkIndex_7cf53 cJ15_checkIndex_7cf53 2 (some .int), Cond.methodLink RJ15 105 yJ3_checkIndex_8e157, Cond.static yJ3_checkIndex_8e157, Cond.initialized RJ3, Cond.code yJ3_checkIndex_8e157 cJ3_checkIndex_8e157 3 (some .int), Cond.methodLink RJx4a65c 123 yJx4a65c_elementData_915e3, Cond.instanceMethod yJx4a65c_elementData_915e3, Cond.selects RJx4a65c yJx4a65c_elementData_915e3 yJx4a65c_elementData_915e3, Cond.code yJx4a65c_elementData_915e3 cJx4a65c_elementData_915e3 2 (some (.object "java/lang/Object")), Cond.fieldLink RJx4a65c 9 "java/util/ArrayList" "elementData" "[Ljava/lang/Object;", Cond.methodLink RX3 39 yX3_requireBetween, Cond.static yX3_requireBetween, Cond.code yX3_requireBetween cX3_requireBetween 3 none, Cond.classLink RX3 190 "java/lang/IllegalArgumentException", Cond.initialized "java/lang/IllegalArgumentException", Cond.methodLink RX3 24 yX1_init, Cond.instanceMethod yX1_init, Cond.code yX1_init cX1_init 4 none, Cond.methodLink RX1 3 objectInit, Cond.instanceMethod objectInit]
def wsX3_addDirectory_r3 : List Cond := [Cond.code objectInit ⟨#[0xb1]⟩ 1 none, Cond.fieldLink RX1 9 "HoldServer$Directory" "number" "I", Cond.fieldLink RX1 15 "HoldServer$Directory" "parent" "LHoldServer$Directory;", Cond.fieldLink RX1 19 "HoldServer$Directory" "quota" "I", Cond.methodLink RX3 27 yJx4a65c_add_9ea2d, Cond.instanceMethod yJx4a65c_add_9ea2d, Cond.selects RJx4a65c yJx4a65c_add_9ea2d yJx4a65c_add_9ea2d, Cond.code yJx4a65c_add_9ea2d cJx4a65c_add_9ea2d 2 (some .boolean), Cond.fieldLink RJx4a65c 63 "java/util/ArrayList" "modCount" "I", Cond.sameField "java/util/ArrayList" "java/util/AbstractList" "modCount" "I", Cond.methodLink RJx4a65c 131 yJx4a65c_add_72be8, Cond.instanceMethod yJx4a65c_add_72be8, Cond.selects RJx4a65c yJx4a65c_add_72be8 yJx4a65c_add_72be8, Cond.code yJx4a65c_add_72be8 cJx4a65c_add_72be8 4 none, Cond.methodLink RJx4a65c 129 yJx4a65c_grow_d5877, Cond.instanceMethod yJx4a65c_grow_d5877, Cond.selects RJx4a65c yJx4a65c_grow_d5877 yJx4a65c_grow_d5877, Cond.code yJx4a65c_grow_d5877 cJx4a65c_grow_d5877 1 (some (.array (.object "java/lang/Object"))), Cond.methodLink RJx4a65c 69 yJx4a65c_grow_92f84, Cond.instanceMethod yJx4a65c_grow_92f84, Cond.selects RJx4a65c yJx4a65c_grow_92f84 yJx4a65c_grow_92f84, Cond.code yJx4a65c_grow_92f84 cJx4a65c_grow_92f84 4 (some (.array (.object "java/lang/Object"))), Cond.fieldLink RJx4a65c 39 "java/util/ArrayList" "DEFAULTCAPACITY_EMPTY_ELEMENTDATA" "[Ljava/lang/Object;", Cond.methodLink RJx4a65c 79 Lib.Math.max.name]
def wsX3_addDirectory_r4 : List Cond := [Cond.static Lib.Math.max.name, Cond.initialized "java/lang/Math", Cond.code Lib.Math.max.name Lib.Math.max.code 2 (some .int), Cond.classLink RJx4a65c 7 "java/lang/Object", Cond.methodLink RJx4a65c 73 yJ8_newLength_cabcc, Cond.static yJ8_newLength_cabcc, Cond.initialized RJ8, Cond.code yJ8_newLength_cabcc cJ8_newLength_cabcc 4 (some .int), Cond.methodLink RJ8 194 Lib.Math.max.name, Cond.constant RJ8 200 (2147483639), Cond.methodLink RJ8 201 yJ8_hugeLength_7cf53, Cond.static yJ8_hugeLength_7cf53, Cond.code yJ8_hugeLength_7cf53 cJ8_hugeLength_7cf53 3 (some .int), Cond.methodLink RJx4a65c 66 yJ7_copyOf_1904c, Cond.static yJ7_copyOf_1904c, Cond.initialized RJ7, Cond.code yJ7_copyOf_1904c cJ7_copyOf_1904c 2 (some (.array (.object "java/lang/Object"))), Cond.methodLink RJ7 86 ⟨"java/lang/Object", "getClass", "()Ljava/lang/Class;"⟩, Cond.selects "[Ljava/lang/Object;" ⟨"java/lang/Object", "getClass", "()Ljava/lang/Class;"⟩ ⟨"java/lang/Object", "getClass", "()Ljava/lang/Class;"⟩, Cond.instanceMethod ⟨"java/lang/Object", "getClass", "()Ljava/lang/Class;"⟩, Cond.native ⟨"java/lang/Object", "getClass", "()Ljava/lang/Class;"⟩, Cond.methodLink RJ7 300 yJ7_copyOf_6403c, Cond.static yJ7_copyOf_6403c, Cond.code yJ7_copyOf_6403c cJ7_copyOf_6403c 4 (some (.array (.object "java/lang/Object")))]
def wsX3_addDirectory_r5 : List Cond := [Cond.classLink RJ7 110 "[Ljava/lang/Object;", Cond.classLink RJ7 2 "java/lang/Object", Cond.methodLink RJ7 304 Lib.Math.min.name, Cond.static Lib.Math.min.name, Cond.code Lib.Math.min.name Lib.Math.min.code 2 (some .int), Cond.methodLink RJ7 150 arraycopyName, Cond.native arraycopyName, Cond.static arraycopyName, Cond.initialized "java/lang/System"]
def wsX3_addDirectory : List Cond := .code yX3_addDirectory cX3_addDirectory 5 (some .int) :: ((wsX3_addDirectory_r1 ++ (wsX3_addDirectory_r2 ++ (wsX3_addDirectory_r3 ++ (wsX3_addDirectory_r4 ++ wsX3_addDirectory_r5)))) ++ wsX30 ++ wsX10 ++ wsJx4a65c0 ++ (vx_atS RX3 51 "java/lang/IllegalStateException" ["java/lang/RuntimeException", "java/lang/Exception"]).filter goodWord ++ (vx_atS RX3 183 "java/lang/IndexOutOfBoundsException" ["java/lang/RuntimeException", "java/lang/Exception"]).filter goodWord ++ (vx_atS RX3 194 "java/lang/IllegalArgumentException" ["java/lang/RuntimeException", "java/lang/Exception"]).filter goodWord)
def wsX3_setQuota_r1 : List Cond := [Cond.constant RX3 38 (100000), Cond.fieldLink RX3 54 "HoldServer$Directory" "quota" "I", Cond.methodLink RX3 34 yX3_directoryNumbered, Cond.instanceMethod yX3_directoryNumbered, Cond.selects RX3 yX3_directoryNumbered yX3_directoryNumbered, Cond.initialized RX3, Cond.code yX3_directoryNumbered cX3_directoryNumbered 2 (some (.object "HoldServer$Directory")), Cond.classLink RX3 179 "java/lang/IndexOutOfBoundsException", Cond.initialized "java/lang/IndexOutOfBoundsException", Cond.fieldLink RX3 10 "HoldServer" "directories" "Ljava/util/ArrayList;", Cond.classLink RX3 22 "HoldServer$Directory", Cond.methodLink RX3 43 yJx4a65c_size_8abf5, Cond.instanceMethod yJx4a65c_size_8abf5, Cond.selects RJx4a65c yJx4a65c_size_8abf5 yJx4a65c_size_8abf5, Cond.initialized RJx4a65c, Cond.code yJx4a65c_size_8abf5 cJx4a65c_size_8abf5 1 (some .int), Cond.fieldLink RJx4a65c 48 "java/util/ArrayList" "size" "I", Cond.methodLink RX3 149 yJx4a65c_get_915e3, Cond.instanceMethod yJx4a65c_get_915e3, Cond.selects RJx4a65c yJx4a65c_get_915e3 yJx4a65c_get_915e3, Cond.code yJx4a65c_get_915e3 cJx4a65c_get_915e3 2 (some (.object "java/lang/Object")), Cond.methodLink RJx4a65c 118 yJ15_checkIndex_7cf53, Cond.static yJ15_checkIndex_7cf53, Cond.initialized RJ15]
def wsX3_setQuota_r2 : List Cond := [Cond.code yJ15_checkIndex_7cf53 cJ15_checkIndex_7cf53 2 (some .int), Cond.methodLink RJ15 105 yJ3_checkIndex_8e157, Cond.static yJ3_checkIndex_8e157, Cond.initialized RJ3, Cond.code yJ3_checkIndex_8e157 cJ3_checkIndex_8e157 3 (some .int), Cond.methodLink RJx4a65c 123 yJx4a65c_elementData_915e3, Cond.instanceMethod yJx4a65c_elementData_915e3, Cond.selects RJx4a65c yJx4a65c_elementData_915e3 yJx4a65c_elementData_915e3, Cond.code yJx4a65c_elementData_915e3 cJx4a65c_elementData_915e3 2 (some (.object "java/lang/Object")), Cond.fieldLink RJx4a65c 9 "java/util/ArrayList" "elementData" "[Ljava/lang/Object;", Cond.methodLink RX3 39 yX3_requireBetween, Cond.static yX3_requireBetween, Cond.code yX3_requireBetween cX3_requireBetween 3 none, Cond.classLink RX3 190 "java/lang/IllegalArgumentException", Cond.initialized "java/lang/IllegalArgumentException"]
def wsX3_setQuota : List Cond := .code yX3_setQuota cX3_setQuota 5 (some .int) :: ((wsX3_setQuota_r1 ++ wsX3_setQuota_r2) ++ wsX10 ++ wsX30 ++ wsJx4a65c0 ++ (vx_atS RX3 183 "java/lang/IndexOutOfBoundsException" ["java/lang/RuntimeException", "java/lang/Exception"]).filter goodWord ++ (vx_atS RX3 194 "java/lang/IllegalArgumentException" ["java/lang/RuntimeException", "java/lang/Exception"]).filter goodWord)
def wsX3_departmentNumbered_r1 : List Cond := [Cond.classLink RX3 179 "java/lang/IndexOutOfBoundsException", Cond.initialized "java/lang/IndexOutOfBoundsException", Cond.fieldLink RX3 19 "HoldServer" "departments" "Ljava/util/ArrayList;", Cond.classLink RX3 31 "HoldServer$Department", Cond.methodLink RX3 43 yJx4a65c_size_8abf5, Cond.instanceMethod yJx4a65c_size_8abf5, Cond.selects RJx4a65c yJx4a65c_size_8abf5 yJx4a65c_size_8abf5, Cond.initialized RJx4a65c, Cond.code yJx4a65c_size_8abf5 cJx4a65c_size_8abf5 1 (some .int), Cond.fieldLink RJx4a65c 48 "java/util/ArrayList" "size" "I", Cond.methodLink RX3 149 yJx4a65c_get_915e3, Cond.instanceMethod yJx4a65c_get_915e3, Cond.selects RJx4a65c yJx4a65c_get_915e3 yJx4a65c_get_915e3, Cond.code yJx4a65c_get_915e3 cJx4a65c_get_915e3 2 (some (.object "java/lang/Object")), Cond.methodLink RJx4a65c 118 yJ15_checkIndex_7cf53, Cond.static yJ15_checkIndex_7cf53, Cond.initialized RJ15, Cond.code yJ15_checkIndex_7cf53 cJ15_checkIndex_7cf53 2 (some .int), Cond.methodLink RJ15 105 yJ3_checkIndex_8e157, Cond.static yJ3_checkIndex_8e157, Cond.initialized RJ3, Cond.code yJ3_checkIndex_8e157 cJ3_checkIndex_8e157 3 (some .int), Cond.methodLink RJx4a65c 123 yJx4a65c_elementData_915e3, Cond.instanceMethod yJx4a65c_elementData_915e3]
def wsX3_departmentNumbered_r2 : List Cond := [Cond.selects RJx4a65c yJx4a65c_elementData_915e3 yJx4a65c_elementData_915e3, Cond.code yJx4a65c_elementData_915e3 cJx4a65c_elementData_915e3 2 (some (.object "java/lang/Object")), Cond.fieldLink RJx4a65c 9 "java/util/ArrayList" "elementData" "[Ljava/lang/Object;"]
def wsX3_departmentNumbered : List Cond := .code yX3_departmentNumbered cX3_departmentNumbered 2 (some (.object "HoldServer$Department")) :: ((wsX3_departmentNumbered_r1 ++ wsX3_departmentNumbered_r2) ++ wsX30 ++ wsJx4a65c0 ++ (vx_atS RX3 183 "java/lang/IndexOutOfBoundsException" ["java/lang/RuntimeException", "java/lang/Exception"]).filter goodWord)
def wsX3_requireGrowthPossible : List Cond := .code yX3_requireGrowthPossible cX3_requireGrowthPossible 3 none :: ([.classLink RX3 47 "java/lang/IllegalStateException", .initialized "java/lang/IllegalStateException", .fieldLink RX3 156 "HoldServer$Department" "coins" "I", .methodLink RX3 201 yX1_hasRoomFor, .instanceMethod yX1_hasRoomFor, .selects RX1 yX1_hasRoomFor yX1_hasRoomFor, .initialized RX1, .code yX1_hasRoomFor cX1_hasRoomFor 3 (some .boolean), .fieldLink RX1 19 "HoldServer$Directory" "quota" "I", .fieldLink RX1 22 "HoldServer$Directory" "usage" "I", .fieldLink RX1 15 "HoldServer$Directory" "parent" "LHoldServer$Directory;"] ++ wsX00 ++ wsX10 ++ (vx_atS RX3 51 "java/lang/IllegalStateException" ["java/lang/RuntimeException", "java/lang/Exception"]).filter goodWord)
def wsX3_make_r1 : List Cond := [Cond.classLink RX3 47 "java/lang/IllegalStateException", Cond.initialized "java/lang/IllegalStateException", Cond.fieldLink RX3 16 "HoldServer" "files" "Ljava/util/ArrayList;", Cond.classLink RX3 68 RX2, Cond.instantiable RX2 6, Cond.initialized RX2, Cond.fieldLink RX3 70 "HoldServer" "day" "I", Cond.fieldLink RX3 76 "HoldServer$StoredFile" "links" "Ljava/util/ArrayList;", Cond.fieldLink RX3 83 "HoldServer$Department" "ownFiles" "Ljava/util/ArrayList;", Cond.methodLink RX3 58 yX3_departmentNumbered, Cond.instanceMethod yX3_departmentNumbered, Cond.selects RX3 yX3_departmentNumbered yX3_departmentNumbered, Cond.initialized RX3, Cond.code yX3_departmentNumbered cX3_departmentNumbered 2 (some (.object "HoldServer$Department")), Cond.classLink RX3 179 "java/lang/IndexOutOfBoundsException", Cond.initialized "java/lang/IndexOutOfBoundsException", Cond.fieldLink RX3 19 "HoldServer" "departments" "Ljava/util/ArrayList;", Cond.classLink RX3 31 "HoldServer$Department", Cond.methodLink RX3 43 yJx4a65c_size_8abf5, Cond.instanceMethod yJx4a65c_size_8abf5, Cond.selects RJx4a65c yJx4a65c_size_8abf5 yJx4a65c_size_8abf5, Cond.initialized RJx4a65c, Cond.code yJx4a65c_size_8abf5 cJx4a65c_size_8abf5 1 (some .int), Cond.fieldLink RJx4a65c 48 "java/util/ArrayList" "size" "I"]
def wsX3_make_r2 : List Cond := [Cond.methodLink RX3 149 yJx4a65c_get_915e3, Cond.instanceMethod yJx4a65c_get_915e3, Cond.selects RJx4a65c yJx4a65c_get_915e3 yJx4a65c_get_915e3, Cond.code yJx4a65c_get_915e3 cJx4a65c_get_915e3 2 (some (.object "java/lang/Object")), Cond.methodLink RJx4a65c 118 yJ15_checkIndex_7cf53, Cond.static yJ15_checkIndex_7cf53, Cond.initialized RJ15, Cond.code yJ15_checkIndex_7cf53 cJ15_checkIndex_7cf53 2 (some .int), Cond.methodLink RJ15 105 yJ3_checkIndex_8e157, Cond.static yJ3_checkIndex_8e157, Cond.initialized RJ3, Cond.code yJ3_checkIndex_8e157 cJ3_checkIndex_8e157 3 (some .int), Cond.methodLink RJx4a65c 123 yJx4a65c_elementData_915e3, Cond.instanceMethod yJx4a65c_elementData_915e3, Cond.selects RJx4a65c yJx4a65c_elementData_915e3 yJx4a65c_elementData_915e3, Cond.code yJx4a65c_elementData_915e3 cJx4a65c_elementData_915e3 2 (some (.object "java/lang/Object")), Cond.fieldLink RJx4a65c 9 "java/util/ArrayList" "elementData" "[Ljava/lang/Object;", Cond.methodLink RX3 34 yX3_directoryNumbered, Cond.instanceMethod yX3_directoryNumbered, Cond.selects RX3 yX3_directoryNumbered yX3_directoryNumbered, Cond.code yX3_directoryNumbered cX3_directoryNumbered 2 (some (.object "HoldServer$Directory")), Cond.fieldLink RX3 10 "HoldServer" "directories" "Ljava/util/ArrayList;", Cond.classLink RX3 22 "HoldServer$Directory", Cond.methodLink RX3 39 yX3_requireBetween]
def wsX3_make_r3 : List Cond := [Cond.static yX3_requireBetween, Cond.code yX3_requireBetween cX3_requireBetween 3 none, Cond.classLink RX3 190 "java/lang/IllegalArgumentException", Cond.initialized "java/lang/IllegalArgumentException", Cond.methodLink RX3 64 yX3_requireGrowthPossible, Cond.static yX3_requireGrowthPossible, Cond.code yX3_requireGrowthPossible cX3_requireGrowthPossible 3 none, Cond.fieldLink RX3 156 "HoldServer$Department" "coins" "I", Cond.methodLink RX3 201 yX1_hasRoomFor, Cond.instanceMethod yX1_hasRoomFor, Cond.selects RX1 yX1_hasRoomFor yX1_hasRoomFor, Cond.initialized RX1, Cond.code yX1_hasRoomFor cX1_hasRoomFor 3 (some .boolean), Cond.fieldLink RX1 19 "HoldServer$Directory" "quota" "I", Cond.fieldLink RX1 22 "HoldServer$Directory" "usage" "I", Cond.fieldLink RX1 15 "HoldServer$Directory" "parent" "LHoldServer$Directory;", Cond.methodLink RX3 73 yX2_init, Cond.instanceMethod yX2_init, Cond.code yX2_init cX2_init 4 none, Cond.methodLink RX2 3 objectInit, Cond.instanceMethod objectInit, Cond.code objectInit ⟨#[0xb1]⟩ 1 none, Cond.classLink RX2 9 RJx4a65c, Cond.instantiable RJx4a65c 3]
def wsX3_make_r4 : List Cond := [Cond.fieldLink RX2 12 "HoldServer$StoredFile" "links" "Ljava/util/ArrayList;", Cond.fieldLink RX2 18 "HoldServer$StoredFile" "owner" "LHoldServer$Department;", Cond.fieldLink RX2 22 "HoldServer$StoredFile" "size" "I", Cond.fieldLink RX2 26 "HoldServer$StoredFile" "usedOn" "I", Cond.methodLink RX2 11 yJx4a65c_init_da8c8, Cond.instanceMethod yJx4a65c_init_da8c8, Cond.code yJx4a65c_init_da8c8 cJx4a65c_init_da8c8 1 none, Cond.fieldLink RJx4a65c 39 "java/util/ArrayList" "DEFAULTCAPACITY_EMPTY_ELEMENTDATA" "[Ljava/lang/Object;", Cond.methodLink RJx4a65c 1 yJxc12de_init_da8c8, Cond.instanceMethod yJxc12de_init_da8c8, Cond.initialized RJxc12de, Cond.code yJxc12de_init_da8c8 cJxc12de_init_da8c8 1 none, Cond.fieldLink RJxc12de 7 "java/util/AbstractList" "modCount" "I", Cond.methodLink RJxc12de 1 yJxa1e45_init_da8c8, Cond.instanceMethod yJxa1e45_init_da8c8, Cond.initialized RJxa1e45, Cond.code yJxa1e45_init_da8c8 cJxa1e45_init_da8c8 1 none, Cond.methodLink RJxa1e45 1 objectInit, Cond.methodLink RX3 27 yJx4a65c_add_9ea2d, Cond.instanceMethod yJx4a65c_add_9ea2d, Cond.selects RJx4a65c yJx4a65c_add_9ea2d yJx4a65c_add_9ea2d, Cond.code yJx4a65c_add_9ea2d cJx4a65c_add_9ea2d 2 (some .boolean), Cond.fieldLink RJx4a65c 63 "java/util/ArrayList" "modCount" "I", Cond.sameField "java/util/ArrayList" "java/util/AbstractList" "modCount" "I"]
def wsX3_make_r5 : List Cond := [Cond.methodLink RJx4a65c 131 yJx4a65c_add_72be8, Cond.instanceMethod yJx4a65c_add_72be8, Cond.selects RJx4a65c yJx4a65c_add_72be8 yJx4a65c_add_72be8, Cond.code yJx4a65c_add_72be8 cJx4a65c_add_72be8 4 none, Cond.methodLink RJx4a65c 129 yJx4a65c_grow_d5877, Cond.instanceMethod yJx4a65c_grow_d5877, Cond.selects RJx4a65c yJx4a65c_grow_d5877 yJx4a65c_grow_d5877, Cond.code yJx4a65c_grow_d5877 cJx4a65c_grow_d5877 1 (some (.array (.object "java/lang/Object"))), Cond.methodLink RJx4a65c 69 yJx4a65c_grow_92f84, Cond.instanceMethod yJx4a65c_grow_92f84, Cond.selects RJx4a65c yJx4a65c_grow_92f84 yJx4a65c_grow_92f84, Cond.code yJx4a65c_grow_92f84 cJx4a65c_grow_92f84 4 (some (.array (.object "java/lang/Object"))), Cond.methodLink RJx4a65c 79 Lib.Math.max.name, Cond.static Lib.Math.max.name, Cond.initialized "java/lang/Math", Cond.code Lib.Math.max.name Lib.Math.max.code 2 (some .int), Cond.classLink RJx4a65c 7 "java/lang/Object", Cond.methodLink RJx4a65c 73 yJ8_newLength_cabcc, Cond.static yJ8_newLength_cabcc, Cond.initialized RJ8, Cond.code yJ8_newLength_cabcc cJ8_newLength_cabcc 4 (some .int), Cond.methodLink RJ8 194 Lib.Math.max.name, Cond.constant RJ8 200 (2147483639), Cond.methodLink RJ8 201 yJ8_hugeLength_7cf53]
def wsX3_make_r6 : List Cond := [Cond.static yJ8_hugeLength_7cf53, Cond.code yJ8_hugeLength_7cf53 cJ8_hugeLength_7cf53 3 (some .int), Cond.methodLink RJx4a65c 66 yJ7_copyOf_1904c, Cond.static yJ7_copyOf_1904c, Cond.initialized RJ7, Cond.code yJ7_copyOf_1904c cJ7_copyOf_1904c 2 (some (.array (.object "java/lang/Object"))), Cond.methodLink RJ7 86 ⟨"java/lang/Object", "getClass", "()Ljava/lang/Class;"⟩, Cond.selects "[Ljava/lang/Object;" ⟨"java/lang/Object", "getClass", "()Ljava/lang/Class;"⟩ ⟨"java/lang/Object", "getClass", "()Ljava/lang/Class;"⟩, Cond.instanceMethod ⟨"java/lang/Object", "getClass", "()Ljava/lang/Class;"⟩, Cond.native ⟨"java/lang/Object", "getClass", "()Ljava/lang/Class;"⟩, Cond.methodLink RJ7 300 yJ7_copyOf_6403c, Cond.static yJ7_copyOf_6403c, Cond.code yJ7_copyOf_6403c cJ7_copyOf_6403c 4 (some (.array (.object "java/lang/Object"))), Cond.classLink RJ7 110 "[Ljava/lang/Object;", Cond.classLink RJ7 2 "java/lang/Object", Cond.methodLink RJ7 304 Lib.Math.min.name, Cond.static Lib.Math.min.name, Cond.code Lib.Math.min.name Lib.Math.min.code 2 (some .int), Cond.methodLink RJ7 150 arraycopyName, Cond.native arraycopyName, Cond.static arraycopyName, Cond.initialized "java/lang/System", Cond.methodLink RX3 79 yX1_addUsage, Cond.instanceMethod yX1_addUsage]
def wsX3_make_r7 : List Cond := [Cond.selects RX1 yX1_addUsage yX1_addUsage, Cond.code yX1_addUsage cX1_addUsage 3 none]
def wsX3_make : List Cond := .code yX3_make cX3_make 8 (some .int) :: ((wsX3_make_r1 ++ (wsX3_make_r2 ++ (wsX3_make_r3 ++ (wsX3_make_r4 ++ (wsX3_make_r5 ++ (wsX3_make_r6 ++ wsX3_make_r7)))))) ++ wsX30 ++ wsX20 ++ wsX00 ++ wsJx4a65c0 ++ wsX10 ++ (vx_atS RX3 51 "java/lang/IllegalStateException" ["java/lang/RuntimeException", "java/lang/Exception"]).filter goodWord ++ (vx_atS RX3 183 "java/lang/IndexOutOfBoundsException" ["java/lang/RuntimeException", "java/lang/Exception"]).filter goodWord ++ (vx_atS RX3 194 "java/lang/IllegalArgumentException" ["java/lang/RuntimeException", "java/lang/Exception"]).filter goodWord)
def wsX3_fileNumbered_r1 : List Cond := [Cond.classLink RX3 179 "java/lang/IndexOutOfBoundsException", Cond.initialized "java/lang/IndexOutOfBoundsException", Cond.fieldLink RX3 16 "HoldServer" "files" "Ljava/util/ArrayList;", Cond.classLink RX3 68 "HoldServer$StoredFile", Cond.methodLink RX3 43 yJx4a65c_size_8abf5, Cond.instanceMethod yJx4a65c_size_8abf5, Cond.selects RJx4a65c yJx4a65c_size_8abf5 yJx4a65c_size_8abf5, Cond.initialized RJx4a65c, Cond.code yJx4a65c_size_8abf5 cJx4a65c_size_8abf5 1 (some .int), Cond.fieldLink RJx4a65c 48 "java/util/ArrayList" "size" "I", Cond.methodLink RX3 149 yJx4a65c_get_915e3, Cond.instanceMethod yJx4a65c_get_915e3, Cond.selects RJx4a65c yJx4a65c_get_915e3 yJx4a65c_get_915e3, Cond.code yJx4a65c_get_915e3 cJx4a65c_get_915e3 2 (some (.object "java/lang/Object")), Cond.methodLink RJx4a65c 118 yJ15_checkIndex_7cf53, Cond.static yJ15_checkIndex_7cf53, Cond.initialized RJ15, Cond.code yJ15_checkIndex_7cf53 cJ15_checkIndex_7cf53 2 (some .int), Cond.methodLink RJ15 105 yJ3_checkIndex_8e157, Cond.static yJ3_checkIndex_8e157, Cond.initialized RJ3, Cond.code yJ3_checkIndex_8e157 cJ3_checkIndex_8e157 3 (some .int), Cond.methodLink RJx4a65c 123 yJx4a65c_elementData_915e3, Cond.instanceMethod yJx4a65c_elementData_915e3]
def wsX3_fileNumbered_r2 : List Cond := [Cond.selects RJx4a65c yJx4a65c_elementData_915e3 yJx4a65c_elementData_915e3, Cond.code yJx4a65c_elementData_915e3 cJx4a65c_elementData_915e3 2 (some (.object "java/lang/Object")), Cond.fieldLink RJx4a65c 9 "java/util/ArrayList" "elementData" "[Ljava/lang/Object;"]
def wsX3_fileNumbered : List Cond := .code yX3_fileNumbered cX3_fileNumbered 2 (some (.object "HoldServer$StoredFile")) :: ((wsX3_fileNumbered_r1 ++ wsX3_fileNumbered_r2) ++ wsX30 ++ wsJx4a65c0 ++ (vx_atS RX3 183 "java/lang/IndexOutOfBoundsException" ["java/lang/RuntimeException", "java/lang/Exception"]).filter goodWord)
def wsX3_requireNotGone : List Cond := .code yX3_requireNotGone cX3_requireNotGone 1 none :: ([.classLink RX3 47 "java/lang/IllegalStateException", .initialized "java/lang/IllegalStateException", .methodLink RX3 195 yX2_isGone, .instanceMethod yX2_isGone, .selects RX2 yX2_isGone yX2_isGone, .initialized RX2, .code yX2_isGone cX2_isGone 1 (some .boolean), .fieldLink RX2 12 "HoldServer$StoredFile" "links" "Ljava/util/ArrayList;", .methodLink RX2 29 yJx4a65c_isEmpty_aae02, .instanceMethod yJx4a65c_isEmpty_aae02, .selects RJx4a65c yJx4a65c_isEmpty_aae02 yJx4a65c_isEmpty_aae02, .initialized RJx4a65c, .code yJx4a65c_isEmpty_aae02 cJx4a65c_isEmpty_aae02 1 (some .boolean), .fieldLink RJx4a65c 48 "java/util/ArrayList" "size" "I"] ++ wsX20 ++ wsJx4a65c0 ++ (vx_atS RX3 51 "java/lang/IllegalStateException" ["java/lang/RuntimeException", "java/lang/Exception"]).filter goodWord)
def wsX3_link_r1 : List Cond := [Cond.classLink RX3 47 "java/lang/IllegalStateException", Cond.initialized "java/lang/IllegalStateException", Cond.fieldLink RX3 76 "HoldServer$StoredFile" "links" "Ljava/util/ArrayList;", Cond.methodLink RX3 86 yX3_fileNumbered, Cond.instanceMethod yX3_fileNumbered, Cond.selects RX3 yX3_fileNumbered yX3_fileNumbered, Cond.initialized RX3, Cond.code yX3_fileNumbered cX3_fileNumbered 2 (some (.object "HoldServer$StoredFile")), Cond.classLink RX3 179 "java/lang/IndexOutOfBoundsException", Cond.initialized "java/lang/IndexOutOfBoundsException", Cond.fieldLink RX3 16 "HoldServer" "files" "Ljava/util/ArrayList;", Cond.classLink RX3 68 "HoldServer$StoredFile", Cond.methodLink RX3 43 yJx4a65c_size_8abf5, Cond.instanceMethod yJx4a65c_size_8abf5, Cond.selects RJx4a65c yJx4a65c_size_8abf5 yJx4a65c_size_8abf5, Cond.initialized RJx4a65c, Cond.code yJx4a65c_size_8abf5 cJx4a65c_size_8abf5 1 (some .int), Cond.fieldLink RJx4a65c 48 "java/util/ArrayList" "size" "I", Cond.methodLink RX3 149 yJx4a65c_get_915e3, Cond.instanceMethod yJx4a65c_get_915e3, Cond.selects RJx4a65c yJx4a65c_get_915e3 yJx4a65c_get_915e3, Cond.code yJx4a65c_get_915e3 cJx4a65c_get_915e3 2 (some (.object "java/lang/Object")), Cond.methodLink RJx4a65c 118 yJ15_checkIndex_7cf53, Cond.static yJ15_checkIndex_7cf53]
def wsX3_link_r2 : List Cond := [Cond.initialized RJ15, Cond.code yJ15_checkIndex_7cf53 cJ15_checkIndex_7cf53 2 (some .int), Cond.methodLink RJ15 105 yJ3_checkIndex_8e157, Cond.static yJ3_checkIndex_8e157, Cond.initialized RJ3, Cond.code yJ3_checkIndex_8e157 cJ3_checkIndex_8e157 3 (some .int), Cond.methodLink RJx4a65c 123 yJx4a65c_elementData_915e3, Cond.instanceMethod yJx4a65c_elementData_915e3, Cond.selects RJx4a65c yJx4a65c_elementData_915e3 yJx4a65c_elementData_915e3, Cond.code yJx4a65c_elementData_915e3 cJx4a65c_elementData_915e3 2 (some (.object "java/lang/Object")), Cond.fieldLink RJx4a65c 9 "java/util/ArrayList" "elementData" "[Ljava/lang/Object;", Cond.methodLink RX3 34 yX3_directoryNumbered, Cond.instanceMethod yX3_directoryNumbered, Cond.selects RX3 yX3_directoryNumbered yX3_directoryNumbered, Cond.code yX3_directoryNumbered cX3_directoryNumbered 2 (some (.object "HoldServer$Directory")), Cond.fieldLink RX3 10 "HoldServer" "directories" "Ljava/util/ArrayList;", Cond.classLink RX3 22 "HoldServer$Directory", Cond.methodLink RX3 90 yX3_requireNotGone, Cond.static yX3_requireNotGone, Cond.code yX3_requireNotGone cX3_requireNotGone 1 none, Cond.methodLink RX3 195 yX2_isGone, Cond.instanceMethod yX2_isGone, Cond.selects RX2 yX2_isGone yX2_isGone, Cond.initialized RX2]
def wsX3_link_r3 : List Cond := [Cond.code yX2_isGone cX2_isGone 1 (some .boolean), Cond.fieldLink RX2 12 "HoldServer$StoredFile" "links" "Ljava/util/ArrayList;", Cond.methodLink RX2 29 yJx4a65c_isEmpty_aae02, Cond.instanceMethod yJx4a65c_isEmpty_aae02, Cond.selects RJx4a65c yJx4a65c_isEmpty_aae02 yJx4a65c_isEmpty_aae02, Cond.code yJx4a65c_isEmpty_aae02 cJx4a65c_isEmpty_aae02 1 (some .boolean), Cond.methodLink RX3 94 yX2_placeOfLinkTo, Cond.instanceMethod yX2_placeOfLinkTo, Cond.selects RX2 yX2_placeOfLinkTo yX2_placeOfLinkTo, Cond.code yX2_placeOfLinkTo cX2_placeOfLinkTo 3 (some .int), Cond.methodLink RX2 39 yJx4a65c_size_8abf5, Cond.methodLink RX2 33 yJx4a65c_get_915e3, Cond.methodLink RX3 27 yJx4a65c_add_9ea2d, Cond.instanceMethod yJx4a65c_add_9ea2d, Cond.selects RJx4a65c yJx4a65c_add_9ea2d yJx4a65c_add_9ea2d, Cond.code yJx4a65c_add_9ea2d cJx4a65c_add_9ea2d 2 (some .boolean), Cond.fieldLink RJx4a65c 63 "java/util/ArrayList" "modCount" "I", Cond.sameField "java/util/ArrayList" "java/util/AbstractList" "modCount" "I", Cond.methodLink RJx4a65c 131 yJx4a65c_add_72be8, Cond.instanceMethod yJx4a65c_add_72be8, Cond.selects RJx4a65c yJx4a65c_add_72be8 yJx4a65c_add_72be8, Cond.code yJx4a65c_add_72be8 cJx4a65c_add_72be8 4 none, Cond.methodLink RJx4a65c 129 yJx4a65c_grow_d5877, Cond.instanceMethod yJx4a65c_grow_d5877]
def wsX3_link_r4 : List Cond := [Cond.selects RJx4a65c yJx4a65c_grow_d5877 yJx4a65c_grow_d5877, Cond.code yJx4a65c_grow_d5877 cJx4a65c_grow_d5877 1 (some (.array (.object "java/lang/Object"))), Cond.methodLink RJx4a65c 69 yJx4a65c_grow_92f84, Cond.instanceMethod yJx4a65c_grow_92f84, Cond.selects RJx4a65c yJx4a65c_grow_92f84 yJx4a65c_grow_92f84, Cond.code yJx4a65c_grow_92f84 cJx4a65c_grow_92f84 4 (some (.array (.object "java/lang/Object"))), Cond.fieldLink RJx4a65c 39 "java/util/ArrayList" "DEFAULTCAPACITY_EMPTY_ELEMENTDATA" "[Ljava/lang/Object;", Cond.methodLink RJx4a65c 79 Lib.Math.max.name, Cond.static Lib.Math.max.name, Cond.initialized "java/lang/Math", Cond.code Lib.Math.max.name Lib.Math.max.code 2 (some .int), Cond.classLink RJx4a65c 7 "java/lang/Object", Cond.methodLink RJx4a65c 73 yJ8_newLength_cabcc, Cond.static yJ8_newLength_cabcc, Cond.initialized RJ8, Cond.code yJ8_newLength_cabcc cJ8_newLength_cabcc 4 (some .int), Cond.methodLink RJ8 194 Lib.Math.max.name, Cond.constant RJ8 200 (2147483639), Cond.methodLink RJ8 201 yJ8_hugeLength_7cf53, Cond.static yJ8_hugeLength_7cf53, Cond.code yJ8_hugeLength_7cf53 cJ8_hugeLength_7cf53 3 (some .int), Cond.methodLink RJx4a65c 66 yJ7_copyOf_1904c, Cond.static yJ7_copyOf_1904c, Cond.initialized RJ7]
def wsX3_link_r5 : List Cond := [Cond.code yJ7_copyOf_1904c cJ7_copyOf_1904c 2 (some (.array (.object "java/lang/Object"))), Cond.methodLink RJ7 86 ⟨"java/lang/Object", "getClass", "()Ljava/lang/Class;"⟩, Cond.selects "[Ljava/lang/Object;" ⟨"java/lang/Object", "getClass", "()Ljava/lang/Class;"⟩ ⟨"java/lang/Object", "getClass", "()Ljava/lang/Class;"⟩, Cond.instanceMethod ⟨"java/lang/Object", "getClass", "()Ljava/lang/Class;"⟩, Cond.native ⟨"java/lang/Object", "getClass", "()Ljava/lang/Class;"⟩, Cond.methodLink RJ7 300 yJ7_copyOf_6403c, Cond.static yJ7_copyOf_6403c, Cond.code yJ7_copyOf_6403c cJ7_copyOf_6403c 4 (some (.array (.object "java/lang/Object"))), Cond.classLink RJ7 110 "[Ljava/lang/Object;", Cond.classLink RJ7 2 "java/lang/Object", Cond.methodLink RJ7 304 Lib.Math.min.name, Cond.static Lib.Math.min.name, Cond.code Lib.Math.min.name Lib.Math.min.code 2 (some .int), Cond.methodLink RJ7 150 arraycopyName, Cond.native arraycopyName, Cond.static arraycopyName, Cond.initialized "java/lang/System"]
def wsX3_link : List Cond := .code yX3_link cX3_link 5 (some .int) :: ((wsX3_link_r1 ++ (wsX3_link_r2 ++ (wsX3_link_r3 ++ (wsX3_link_r4 ++ wsX3_link_r5)))) ++ wsX20 ++ wsX30 ++ wsJx4a65c0 ++ (vx_atS RX3 51 "java/lang/IllegalStateException" ["java/lang/RuntimeException", "java/lang/Exception"]).filter goodWord ++ (vx_atS RX3 183 "java/lang/IndexOutOfBoundsException" ["java/lang/RuntimeException", "java/lang/Exception"]).filter goodWord)
def wsX3_unlink_r1 : List Cond := [Cond.classLink RX3 47 "java/lang/IllegalStateException", Cond.initialized "java/lang/IllegalStateException", Cond.fieldLink RX3 110 "HoldServer$StoredFile" "size" "I", Cond.fieldLink RX3 76 "HoldServer$StoredFile" "links" "Ljava/util/ArrayList;", Cond.methodLink RX3 86 yX3_fileNumbered, Cond.instanceMethod yX3_fileNumbered, Cond.selects RX3 yX3_fileNumbered yX3_fileNumbered, Cond.initialized RX3, Cond.code yX3_fileNumbered cX3_fileNumbered 2 (some (.object "HoldServer$StoredFile")), Cond.classLink RX3 179 "java/lang/IndexOutOfBoundsException", Cond.initialized "java/lang/IndexOutOfBoundsException", Cond.fieldLink RX3 16 "HoldServer" "files" "Ljava/util/ArrayList;", Cond.classLink RX3 68 "HoldServer$StoredFile", Cond.methodLink RX3 43 yJx4a65c_size_8abf5, Cond.instanceMethod yJx4a65c_size_8abf5, Cond.selects RJx4a65c yJx4a65c_size_8abf5 yJx4a65c_size_8abf5, Cond.initialized RJx4a65c, Cond.code yJx4a65c_size_8abf5 cJx4a65c_size_8abf5 1 (some .int), Cond.fieldLink RJx4a65c 48 "java/util/ArrayList" "size" "I", Cond.methodLink RX3 149 yJx4a65c_get_915e3, Cond.instanceMethod yJx4a65c_get_915e3, Cond.selects RJx4a65c yJx4a65c_get_915e3 yJx4a65c_get_915e3, Cond.code yJx4a65c_get_915e3 cJx4a65c_get_915e3 2 (some (.object "java/lang/Object")), Cond.methodLink RJx4a65c 118 yJ15_checkIndex_7cf53]
def wsX3_unlink_r2 : List Cond := [Cond.static yJ15_checkIndex_7cf53, Cond.initialized RJ15, Cond.code yJ15_checkIndex_7cf53 cJ15_checkIndex_7cf53 2 (some .int), Cond.methodLink RJ15 105 yJ3_checkIndex_8e157, Cond.static yJ3_checkIndex_8e157, Cond.initialized RJ3, Cond.code yJ3_checkIndex_8e157 cJ3_checkIndex_8e157 3 (some .int), Cond.methodLink RJx4a65c 123 yJx4a65c_elementData_915e3, Cond.instanceMethod yJx4a65c_elementData_915e3, Cond.selects RJx4a65c yJx4a65c_elementData_915e3 yJx4a65c_elementData_915e3, Cond.code yJx4a65c_elementData_915e3 cJx4a65c_elementData_915e3 2 (some (.object "java/lang/Object")), Cond.fieldLink RJx4a65c 9 "java/util/ArrayList" "elementData" "[Ljava/lang/Object;", Cond.methodLink RX3 34 yX3_directoryNumbered, Cond.instanceMethod yX3_directoryNumbered, Cond.selects RX3 yX3_directoryNumbered yX3_directoryNumbered, Cond.code yX3_directoryNumbered cX3_directoryNumbered 2 (some (.object "HoldServer$Directory")), Cond.fieldLink RX3 10 "HoldServer" "directories" "Ljava/util/ArrayList;", Cond.classLink RX3 22 "HoldServer$Directory", Cond.methodLink RX3 100 yX2_firstLink, Cond.instanceMethod yX2_firstLink, Cond.selects RX2 yX2_firstLink yX2_firstLink, Cond.initialized RX2, Cond.code yX2_firstLink cX2_firstLink 1 (some (.object "HoldServer$Directory")), Cond.fieldLink RX2 12 "HoldServer$StoredFile" "links" "Ljava/util/ArrayList;"]
def wsX3_unlink_r3 : List Cond := [Cond.classLink RX2 37 "HoldServer$Directory", Cond.methodLink RX2 29 yJx4a65c_isEmpty_aae02, Cond.instanceMethod yJx4a65c_isEmpty_aae02, Cond.selects RJx4a65c yJx4a65c_isEmpty_aae02 yJx4a65c_isEmpty_aae02, Cond.code yJx4a65c_isEmpty_aae02 cJx4a65c_isEmpty_aae02 1 (some .boolean), Cond.methodLink RX2 33 yJx4a65c_get_915e3, Cond.methodLink RX3 104 yX2_removeLinkTo, Cond.instanceMethod yX2_removeLinkTo, Cond.selects RX2 yX2_removeLinkTo yX2_removeLinkTo, Cond.code yX2_removeLinkTo cX2_removeLinkTo 3 (some .boolean), Cond.methodLink RX2 42 yX2_placeOfLinkTo, Cond.instanceMethod yX2_placeOfLinkTo, Cond.selects RX2 yX2_placeOfLinkTo yX2_placeOfLinkTo, Cond.code yX2_placeOfLinkTo cX2_placeOfLinkTo 3 (some .int), Cond.methodLink RX2 39 yJx4a65c_size_8abf5, Cond.methodLink RX2 46 yJx4a65c_remove_915e3, Cond.instanceMethod yJx4a65c_remove_915e3, Cond.selects RJx4a65c yJx4a65c_remove_915e3 yJx4a65c_remove_915e3, Cond.code yJx4a65c_remove_915e3 cJx4a65c_remove_915e3 4 (some (.object "java/lang/Object")), Cond.methodLink RJx4a65c 144 yJx4a65c_fastRemove_b59b0, Cond.instanceMethod yJx4a65c_fastRemove_b59b0, Cond.selects RJx4a65c yJx4a65c_fastRemove_b59b0 yJx4a65c_fastRemove_b59b0, Cond.code yJx4a65c_fastRemove_b59b0 cJx4a65c_fastRemove_b59b0 4 none, Cond.fieldLink RJx4a65c 63 "java/util/ArrayList" "modCount" "I"]
def wsX3_unlink_r4 : List Cond := [Cond.sameField "java/util/ArrayList" "java/util/AbstractList" "modCount" "I", Cond.methodLink RJx4a65c 112 arraycopyName, Cond.native arraycopyName, Cond.static arraycopyName, Cond.initialized "java/lang/System", Cond.methodLink RX3 79 yX1_addUsage, Cond.instanceMethod yX1_addUsage, Cond.selects RX1 yX1_addUsage yX1_addUsage, Cond.initialized RX1, Cond.code yX1_addUsage cX1_addUsage 3 none, Cond.fieldLink RX1 22 "HoldServer$Directory" "usage" "I", Cond.fieldLink RX1 15 "HoldServer$Directory" "parent" "LHoldServer$Directory;", Cond.methodLink RX3 112 yX2_replaceSize, Cond.instanceMethod yX2_replaceSize, Cond.selects RX2 yX2_replaceSize yX2_replaceSize, Cond.code yX2_replaceSize cX2_replaceSize 2 none, Cond.fieldLink RX2 49 "HoldServer$StoredFile" "holders" "I", Cond.fieldLink RX2 52 "HoldServer$StoredFile" "kept" "I", Cond.fieldLink RX2 22 "HoldServer$StoredFile" "size" "I"]
def wsX3_unlink : List Cond := .code yX3_unlink cX3_unlink 7 (some .int) :: ((wsX3_unlink_r1 ++ (wsX3_unlink_r2 ++ (wsX3_unlink_r3 ++ wsX3_unlink_r4))) ++ wsX20 ++ wsX30 ++ wsJx4a65c0 ++ wsX10 ++ (vx_atS RX3 51 "java/lang/IllegalStateException" ["java/lang/RuntimeException", "java/lang/Exception"]).filter goodWord ++ (vx_atS RX3 183 "java/lang/IndexOutOfBoundsException" ["java/lang/RuntimeException", "java/lang/Exception"]).filter goodWord)
def wsX3_write_r1 : List Cond := [Cond.classLink RX3 47 "java/lang/IllegalStateException", Cond.initialized "java/lang/IllegalStateException", Cond.fieldLink RX3 70 "HoldServer" "day" "I", Cond.fieldLink RX3 110 "HoldServer$StoredFile" "size" "I", Cond.fieldLink RX3 121 "HoldServer$StoredFile" "owner" "LHoldServer$Department;", Cond.fieldLink RX3 125 "HoldServer$StoredFile" "usedOn" "I", Cond.fieldLink RX3 128 "HoldServer$StoredFile" "kept" "I", Cond.methodLink RX3 86 yX3_fileNumbered, Cond.instanceMethod yX3_fileNumbered, Cond.selects RX3 yX3_fileNumbered yX3_fileNumbered, Cond.initialized RX3, Cond.code yX3_fileNumbered cX3_fileNumbered 2 (some (.object "HoldServer$StoredFile")), Cond.classLink RX3 179 "java/lang/IndexOutOfBoundsException", Cond.initialized "java/lang/IndexOutOfBoundsException", Cond.fieldLink RX3 16 "HoldServer" "files" "Ljava/util/ArrayList;", Cond.classLink RX3 68 "HoldServer$StoredFile", Cond.methodLink RX3 43 yJx4a65c_size_8abf5, Cond.instanceMethod yJx4a65c_size_8abf5, Cond.selects RJx4a65c yJx4a65c_size_8abf5 yJx4a65c_size_8abf5, Cond.initialized RJx4a65c, Cond.code yJx4a65c_size_8abf5 cJx4a65c_size_8abf5 1 (some .int), Cond.fieldLink RJx4a65c 48 "java/util/ArrayList" "size" "I", Cond.methodLink RX3 149 yJx4a65c_get_915e3, Cond.instanceMethod yJx4a65c_get_915e3]
def wsX3_write_r2 : List Cond := [Cond.selects RJx4a65c yJx4a65c_get_915e3 yJx4a65c_get_915e3, Cond.code yJx4a65c_get_915e3 cJx4a65c_get_915e3 2 (some (.object "java/lang/Object")), Cond.methodLink RJx4a65c 118 yJ15_checkIndex_7cf53, Cond.static yJ15_checkIndex_7cf53, Cond.initialized RJ15, Cond.code yJ15_checkIndex_7cf53 cJ15_checkIndex_7cf53 2 (some .int), Cond.methodLink RJ15 105 yJ3_checkIndex_8e157, Cond.static yJ3_checkIndex_8e157, Cond.initialized RJ3, Cond.code yJ3_checkIndex_8e157 cJ3_checkIndex_8e157 3 (some .int), Cond.methodLink RJx4a65c 123 yJx4a65c_elementData_915e3, Cond.instanceMethod yJx4a65c_elementData_915e3, Cond.selects RJx4a65c yJx4a65c_elementData_915e3 yJx4a65c_elementData_915e3, Cond.code yJx4a65c_elementData_915e3 cJx4a65c_elementData_915e3 2 (some (.object "java/lang/Object")), Cond.fieldLink RJx4a65c 9 "java/util/ArrayList" "elementData" "[Ljava/lang/Object;", Cond.methodLink RX3 39 yX3_requireBetween, Cond.static yX3_requireBetween, Cond.code yX3_requireBetween cX3_requireBetween 3 none, Cond.classLink RX3 190 "java/lang/IllegalArgumentException", Cond.initialized "java/lang/IllegalArgumentException", Cond.methodLink RX3 100 yX2_firstLink, Cond.instanceMethod yX2_firstLink, Cond.selects RX2 yX2_firstLink yX2_firstLink, Cond.initialized RX2]
def wsX3_write_r3 : List Cond := [Cond.code yX2_firstLink cX2_firstLink 1 (some (.object "HoldServer$Directory")), Cond.fieldLink RX2 12 "HoldServer$StoredFile" "links" "Ljava/util/ArrayList;", Cond.classLink RX2 37 "HoldServer$Directory", Cond.methodLink RX2 29 yJx4a65c_isEmpty_aae02, Cond.instanceMethod yJx4a65c_isEmpty_aae02, Cond.selects RJx4a65c yJx4a65c_isEmpty_aae02 yJx4a65c_isEmpty_aae02, Cond.code yJx4a65c_isEmpty_aae02 cJx4a65c_isEmpty_aae02 1 (some .boolean), Cond.methodLink RX2 33 yJx4a65c_get_915e3, Cond.methodLink RX3 115 yX2_tierOn, Cond.instanceMethod yX2_tierOn, Cond.selects RX2 yX2_tierOn yX2_tierOn, Cond.code yX2_tierOn cX2_tierOn 3 (some .int), Cond.fieldLink RX2 26 "HoldServer$StoredFile" "usedOn" "I", Cond.methodLink RX2 55 yX2_isGone, Cond.instanceMethod yX2_isGone, Cond.selects RX2 yX2_isGone yX2_isGone, Cond.code yX2_isGone cX2_isGone 1 (some .boolean), Cond.methodLink RX2 58 yX2_isComingBackOn, Cond.instanceMethod yX2_isComingBackOn, Cond.selects RX2 yX2_isComingBackOn yX2_isComingBackOn, Cond.code yX2_isComingBackOn cX2_isComingBackOn 2 (some .boolean), Cond.methodLink RX3 64 yX3_requireGrowthPossible, Cond.static yX3_requireGrowthPossible, Cond.code yX3_requireGrowthPossible cX3_requireGrowthPossible 3 none]
def wsX3_write_r4 : List Cond := [Cond.fieldLink RX3 156 "HoldServer$Department" "coins" "I", Cond.methodLink RX3 201 yX1_hasRoomFor, Cond.instanceMethod yX1_hasRoomFor, Cond.selects RX1 yX1_hasRoomFor yX1_hasRoomFor, Cond.initialized RX1, Cond.code yX1_hasRoomFor cX1_hasRoomFor 3 (some .boolean), Cond.fieldLink RX1 19 "HoldServer$Directory" "quota" "I", Cond.fieldLink RX1 22 "HoldServer$Directory" "usage" "I", Cond.fieldLink RX1 15 "HoldServer$Directory" "parent" "LHoldServer$Directory;", Cond.methodLink RX3 79 yX1_addUsage, Cond.instanceMethod yX1_addUsage, Cond.selects RX1 yX1_addUsage yX1_addUsage, Cond.code yX1_addUsage cX1_addUsage 3 none, Cond.methodLink RX3 112 yX2_replaceSize, Cond.instanceMethod yX2_replaceSize, Cond.selects RX2 yX2_replaceSize yX2_replaceSize, Cond.code yX2_replaceSize cX2_replaceSize 2 none, Cond.fieldLink RX2 49 "HoldServer$StoredFile" "holders" "I", Cond.fieldLink RX2 52 "HoldServer$StoredFile" "kept" "I", Cond.fieldLink RX2 22 "HoldServer$StoredFile" "size" "I"]
def wsX3_write : List Cond := .code yX3_write cX3_write 6 (some .int) :: ((wsX3_write_r1 ++ (wsX3_write_r2 ++ (wsX3_write_r3 ++ wsX3_write_r4))) ++ wsX30 ++ wsX20 ++ wsJx4a65c0 ++ wsX00 ++ wsX10 ++ (vx_atS RX3 51 "java/lang/IllegalStateException" ["java/lang/RuntimeException", "java/lang/Exception"]).filter goodWord ++ (vx_atS RX3 183 "java/lang/IndexOutOfBoundsException" ["java/lang/RuntimeException", "java/lang/Exception"]).filter goodWord ++ (vx_atS RX3 194 "java/lang/IllegalArgumentException" ["java/lang/RuntimeException", "java/lang/Exception"]).filter goodWord)
def wsX3_startBringingBack : List Cond := .code yX3_startBringingBack cX3_startBringingBack 3 none :: ([.classLink RX3 47 "java/lang/IllegalStateException", .initialized "java/lang/IllegalStateException", .fieldLink RX3 121 "HoldServer$StoredFile" "owner" "LHoldServer$Department;", .fieldLink RX3 156 "HoldServer$Department" "coins" "I", .fieldLink RX3 70 "HoldServer" "day" "I", .fieldLink RX3 125 "HoldServer$StoredFile" "usedOn" "I", .methodLink RX3 206 yX2_costToBringBack, .instanceMethod yX2_costToBringBack, .selects RX2 yX2_costToBringBack yX2_costToBringBack, .initialized RX2, .code yX2_costToBringBack cX2_costToBringBack 1 (some .int), .fieldLink RX2 22 "HoldServer$StoredFile" "size" "I"] ++ wsX20 ++ wsX00 ++ wsX30 ++ (vx_atS RX3 51 "java/lang/IllegalStateException" ["java/lang/RuntimeException", "java/lang/Exception"]).filter goodWord)
def wsX3_read_r1 : List Cond := [Cond.fieldLink RX3 70 "HoldServer" "day" "I", Cond.fieldLink RX3 125 "HoldServer$StoredFile" "usedOn" "I", Cond.methodLink RX3 86 yX3_fileNumbered, Cond.instanceMethod yX3_fileNumbered, Cond.selects RX3 yX3_fileNumbered yX3_fileNumbered, Cond.initialized RX3, Cond.code yX3_fileNumbered cX3_fileNumbered 2 (some (.object "HoldServer$StoredFile")), Cond.classLink RX3 179 "java/lang/IndexOutOfBoundsException", Cond.initialized "java/lang/IndexOutOfBoundsException", Cond.fieldLink RX3 16 "HoldServer" "files" "Ljava/util/ArrayList;", Cond.classLink RX3 68 "HoldServer$StoredFile", Cond.methodLink RX3 43 yJx4a65c_size_8abf5, Cond.instanceMethod yJx4a65c_size_8abf5, Cond.selects RJx4a65c yJx4a65c_size_8abf5 yJx4a65c_size_8abf5, Cond.initialized RJx4a65c, Cond.code yJx4a65c_size_8abf5 cJx4a65c_size_8abf5 1 (some .int), Cond.fieldLink RJx4a65c 48 "java/util/ArrayList" "size" "I", Cond.methodLink RX3 149 yJx4a65c_get_915e3, Cond.instanceMethod yJx4a65c_get_915e3, Cond.selects RJx4a65c yJx4a65c_get_915e3 yJx4a65c_get_915e3, Cond.code yJx4a65c_get_915e3 cJx4a65c_get_915e3 2 (some (.object "java/lang/Object")), Cond.methodLink RJx4a65c 118 yJ15_checkIndex_7cf53, Cond.static yJ15_checkIndex_7cf53, Cond.initialized RJ15]
def wsX3_read_r2 : List Cond := [Cond.code yJ15_checkIndex_7cf53 cJ15_checkIndex_7cf53 2 (some .int), Cond.methodLink RJ15 105 yJ3_checkIndex_8e157, Cond.static yJ3_checkIndex_8e157, Cond.initialized RJ3, Cond.code yJ3_checkIndex_8e157 cJ3_checkIndex_8e157 3 (some .int), Cond.methodLink RJx4a65c 123 yJx4a65c_elementData_915e3, Cond.instanceMethod yJx4a65c_elementData_915e3, Cond.selects RJx4a65c yJx4a65c_elementData_915e3 yJx4a65c_elementData_915e3, Cond.code yJx4a65c_elementData_915e3 cJx4a65c_elementData_915e3 2 (some (.object "java/lang/Object")), Cond.fieldLink RJx4a65c 9 "java/util/ArrayList" "elementData" "[Ljava/lang/Object;", Cond.methodLink RX3 90 yX3_requireNotGone, Cond.static yX3_requireNotGone, Cond.code yX3_requireNotGone cX3_requireNotGone 1 none, Cond.classLink RX3 47 "java/lang/IllegalStateException", Cond.initialized "java/lang/IllegalStateException", Cond.methodLink RX3 195 yX2_isGone, Cond.instanceMethod yX2_isGone, Cond.selects RX2 yX2_isGone yX2_isGone, Cond.initialized RX2, Cond.code yX2_isGone cX2_isGone 1 (some .boolean), Cond.fieldLink RX2 12 "HoldServer$StoredFile" "links" "Ljava/util/ArrayList;", Cond.methodLink RX2 29 yJx4a65c_isEmpty_aae02, Cond.instanceMethod yJx4a65c_isEmpty_aae02, Cond.selects RJx4a65c yJx4a65c_isEmpty_aae02 yJx4a65c_isEmpty_aae02]
def wsX3_read_r3 : List Cond := [Cond.code yJx4a65c_isEmpty_aae02 cJx4a65c_isEmpty_aae02 1 (some .boolean), Cond.methodLink RX3 115 yX2_tierOn, Cond.instanceMethod yX2_tierOn, Cond.selects RX2 yX2_tierOn yX2_tierOn, Cond.code yX2_tierOn cX2_tierOn 3 (some .int), Cond.fieldLink RX2 26 "HoldServer$StoredFile" "usedOn" "I", Cond.methodLink RX2 55 yX2_isGone, Cond.methodLink RX2 58 yX2_isComingBackOn, Cond.instanceMethod yX2_isComingBackOn, Cond.selects RX2 yX2_isComingBackOn yX2_isComingBackOn, Cond.code yX2_isComingBackOn cX2_isComingBackOn 2 (some .boolean), Cond.methodLink RX3 131 yX2_isComingBackOn, Cond.methodLink RX3 135 yX3_startBringingBack, Cond.instanceMethod yX3_startBringingBack, Cond.selects RX3 yX3_startBringingBack yX3_startBringingBack, Cond.code yX3_startBringingBack cX3_startBringingBack 3 none, Cond.fieldLink RX3 121 "HoldServer$StoredFile" "owner" "LHoldServer$Department;", Cond.fieldLink RX3 156 "HoldServer$Department" "coins" "I", Cond.methodLink RX3 206 yX2_costToBringBack, Cond.instanceMethod yX2_costToBringBack, Cond.selects RX2 yX2_costToBringBack yX2_costToBringBack, Cond.code yX2_costToBringBack cX2_costToBringBack 1 (some .int), Cond.fieldLink RX2 22 "HoldServer$StoredFile" "size" "I"]
def wsX3_read : List Cond := .code yX3_read cX3_read 3 (some .int) :: ((wsX3_read_r1 ++ (wsX3_read_r2 ++ wsX3_read_r3)) ++ wsX30 ++ wsX20 ++ wsJx4a65c0 ++ wsX00 ++ (vx_atS RX3 183 "java/lang/IndexOutOfBoundsException" ["java/lang/RuntimeException", "java/lang/Exception"]).filter goodWord ++ (vx_atS RX3 51 "java/lang/IllegalStateException" ["java/lang/RuntimeException", "java/lang/Exception"]).filter goodWord)
def wsX3_bitOfMatter : List Cond := .code yX3_bitOfMatter cX3_bitOfMatter 1 (some .int) :: ([.classLink RX3 179 "java/lang/IndexOutOfBoundsException", .initialized "java/lang/IndexOutOfBoundsException"] ++ (vx_atS RX3 183 "java/lang/IndexOutOfBoundsException" ["java/lang/RuntimeException", "java/lang/Exception"]).filter goodWord)
def wsJ6_bitCount_0f7a4 : List Cond := .code yJ6_bitCount_0f7a4 cJ6_bitCount_0f7a4 1 (some .int) :: ([.constant RJ6 265 (1431655765), .constant RJ6 266 (858993459), .constant RJ6 267 (252645135)])
def wsX3_hold_r1 : List Cond := [Cond.fieldLink RX3 141 "HoldServer$StoredFile" "holders" "I", Cond.methodLink RX3 138 yX3_bitOfMatter, Cond.static yX3_bitOfMatter, Cond.initialized RX3, Cond.code yX3_bitOfMatter cX3_bitOfMatter 1 (some .int), Cond.classLink RX3 179 "java/lang/IndexOutOfBoundsException", Cond.initialized "java/lang/IndexOutOfBoundsException", Cond.methodLink RX3 86 yX3_fileNumbered, Cond.instanceMethod yX3_fileNumbered, Cond.selects RX3 yX3_fileNumbered yX3_fileNumbered, Cond.code yX3_fileNumbered cX3_fileNumbered 2 (some (.object "HoldServer$StoredFile")), Cond.fieldLink RX3 16 "HoldServer" "files" "Ljava/util/ArrayList;", Cond.classLink RX3 68 "HoldServer$StoredFile", Cond.methodLink RX3 43 yJx4a65c_size_8abf5, Cond.instanceMethod yJx4a65c_size_8abf5, Cond.selects RJx4a65c yJx4a65c_size_8abf5 yJx4a65c_size_8abf5, Cond.initialized RJx4a65c, Cond.code yJx4a65c_size_8abf5 cJx4a65c_size_8abf5 1 (some .int), Cond.fieldLink RJx4a65c 48 "java/util/ArrayList" "size" "I", Cond.methodLink RX3 149 yJx4a65c_get_915e3, Cond.instanceMethod yJx4a65c_get_915e3, Cond.selects RJx4a65c yJx4a65c_get_915e3 yJx4a65c_get_915e3, Cond.code yJx4a65c_get_915e3 cJx4a65c_get_915e3 2 (some (.object "java/lang/Object")), Cond.methodLink RJx4a65c 118 yJ15_checkIndex_7cf53]
def wsX3_hold_r2 : List Cond := [Cond.static yJ15_checkIndex_7cf53, Cond.initialized RJ15, Cond.code yJ15_checkIndex_7cf53 cJ15_checkIndex_7cf53 2 (some .int), Cond.methodLink RJ15 105 yJ3_checkIndex_8e157, Cond.static yJ3_checkIndex_8e157, Cond.initialized RJ3, Cond.code yJ3_checkIndex_8e157 cJ3_checkIndex_8e157 3 (some .int), Cond.methodLink RJx4a65c 123 yJx4a65c_elementData_915e3, Cond.instanceMethod yJx4a65c_elementData_915e3, Cond.selects RJx4a65c yJx4a65c_elementData_915e3 yJx4a65c_elementData_915e3, Cond.code yJx4a65c_elementData_915e3 cJx4a65c_elementData_915e3 2 (some (.object "java/lang/Object")), Cond.fieldLink RJx4a65c 9 "java/util/ArrayList" "elementData" "[Ljava/lang/Object;", Cond.methodLink RX3 90 yX3_requireNotGone, Cond.static yX3_requireNotGone, Cond.code yX3_requireNotGone cX3_requireNotGone 1 none, Cond.classLink RX3 47 "java/lang/IllegalStateException", Cond.initialized "java/lang/IllegalStateException", Cond.methodLink RX3 195 yX2_isGone, Cond.instanceMethod yX2_isGone, Cond.selects RX2 yX2_isGone yX2_isGone, Cond.initialized RX2, Cond.code yX2_isGone cX2_isGone 1 (some .boolean), Cond.fieldLink RX2 12 "HoldServer$StoredFile" "links" "Ljava/util/ArrayList;", Cond.methodLink RX2 29 yJx4a65c_isEmpty_aae02]
def wsX3_hold_r3 : List Cond := [Cond.instanceMethod yJx4a65c_isEmpty_aae02, Cond.selects RJx4a65c yJx4a65c_isEmpty_aae02 yJx4a65c_isEmpty_aae02, Cond.code yJx4a65c_isEmpty_aae02 cJx4a65c_isEmpty_aae02 1 (some .boolean), Cond.methodLink RX3 144 yJ6_bitCount_0f7a4, Cond.static yJ6_bitCount_0f7a4, Cond.initialized RJ6, Cond.code yJ6_bitCount_0f7a4 cJ6_bitCount_0f7a4 1 (some .int), Cond.constant RJ6 265 (1431655765), Cond.constant RJ6 266 (858993459), Cond.constant RJ6 267 (252645135)]
def wsX3_hold : List Cond := .code yX3_hold cX3_hold 5 (some .int) :: ((wsX3_hold_r1 ++ (wsX3_hold_r2 ++ wsX3_hold_r3)) ++ wsX20 ++ wsX30 ++ wsJx4a65c0 ++ (vx_atS RX3 183 "java/lang/IndexOutOfBoundsException" ["java/lang/RuntimeException", "java/lang/Exception"]).filter goodWord ++ (vx_atS RX3 51 "java/lang/IllegalStateException" ["java/lang/RuntimeException", "java/lang/Exception"]).filter goodWord)
def wsX3_release_r1 : List Cond := [Cond.fieldLink RX3 16 "HoldServer" "files" "Ljava/util/ArrayList;", Cond.classLink RX3 68 "HoldServer$StoredFile", Cond.methodLink RX3 138 yX3_bitOfMatter, Cond.static yX3_bitOfMatter, Cond.initialized RX3, Cond.code yX3_bitOfMatter cX3_bitOfMatter 1 (some .int), Cond.classLink RX3 179 "java/lang/IndexOutOfBoundsException", Cond.initialized "java/lang/IndexOutOfBoundsException", Cond.methodLink RX3 43 yJx4a65c_size_8abf5, Cond.instanceMethod yJx4a65c_size_8abf5, Cond.selects RJx4a65c yJx4a65c_size_8abf5 yJx4a65c_size_8abf5, Cond.initialized RJx4a65c, Cond.code yJx4a65c_size_8abf5 cJx4a65c_size_8abf5 1 (some .int), Cond.fieldLink RJx4a65c 48 "java/util/ArrayList" "size" "I", Cond.methodLink RX3 149 yJx4a65c_get_915e3, Cond.instanceMethod yJx4a65c_get_915e3, Cond.selects RJx4a65c yJx4a65c_get_915e3 yJx4a65c_get_915e3, Cond.code yJx4a65c_get_915e3 cJx4a65c_get_915e3 2 (some (.object "java/lang/Object")), Cond.methodLink RJx4a65c 118 yJ15_checkIndex_7cf53, Cond.static yJ15_checkIndex_7cf53, Cond.initialized RJ15, Cond.code yJ15_checkIndex_7cf53 cJ15_checkIndex_7cf53 2 (some .int), Cond.methodLink RJ15 105 yJ3_checkIndex_8e157, Cond.static yJ3_checkIndex_8e157]
def wsX3_release_r2 : List Cond := [Cond.initialized RJ3, Cond.code yJ3_checkIndex_8e157 cJ3_checkIndex_8e157 3 (some .int), Cond.methodLink RJx4a65c 123 yJx4a65c_elementData_915e3, Cond.instanceMethod yJx4a65c_elementData_915e3, Cond.selects RJx4a65c yJx4a65c_elementData_915e3 yJx4a65c_elementData_915e3, Cond.code yJx4a65c_elementData_915e3 cJx4a65c_elementData_915e3 2 (some (.object "java/lang/Object")), Cond.fieldLink RJx4a65c 9 "java/util/ArrayList" "elementData" "[Ljava/lang/Object;", Cond.methodLink RX3 153 yX2_releaseFrom, Cond.instanceMethod yX2_releaseFrom, Cond.selects RX2 yX2_releaseFrom yX2_releaseFrom, Cond.initialized RX2, Cond.code yX2_releaseFrom cX2_releaseFrom 3 (some .int), Cond.fieldLink RX2 49 "HoldServer$StoredFile" "holders" "I", Cond.fieldLink RX2 52 "HoldServer$StoredFile" "kept" "I"]
def wsX3_release : List Cond := .code yX3_release cX3_release 5 (some .int) :: ((wsX3_release_r1 ++ wsX3_release_r2) ++ wsX30 ++ wsJx4a65c0 ++ wsX20 ++ (vx_atS RX3 183 "java/lang/IndexOutOfBoundsException" ["java/lang/RuntimeException", "java/lang/Exception"]).filter goodWord)
def wsX3_fund_r1 : List Cond := [Cond.classLink RX3 47 "java/lang/IllegalStateException", Cond.initialized "java/lang/IllegalStateException", Cond.fieldLink RX3 156 "HoldServer$Department" "coins" "I", Cond.constant RX3 159 (1000000), Cond.methodLink RX3 58 yX3_departmentNumbered, Cond.instanceMethod yX3_departmentNumbered, Cond.selects RX3 yX3_departmentNumbered yX3_departmentNumbered, Cond.initialized RX3, Cond.code yX3_departmentNumbered cX3_departmentNumbered 2 (some (.object "HoldServer$Department")), Cond.classLink RX3 179 "java/lang/IndexOutOfBoundsException", Cond.initialized "java/lang/IndexOutOfBoundsException", Cond.fieldLink RX3 19 "HoldServer" "departments" "Ljava/util/ArrayList;", Cond.classLink RX3 31 "HoldServer$Department", Cond.methodLink RX3 43 yJx4a65c_size_8abf5, Cond.instanceMethod yJx4a65c_size_8abf5, Cond.selects RJx4a65c yJx4a65c_size_8abf5 yJx4a65c_size_8abf5, Cond.initialized RJx4a65c, Cond.code yJx4a65c_size_8abf5 cJx4a65c_size_8abf5 1 (some .int), Cond.fieldLink RJx4a65c 48 "java/util/ArrayList" "size" "I", Cond.methodLink RX3 149 yJx4a65c_get_915e3, Cond.instanceMethod yJx4a65c_get_915e3, Cond.selects RJx4a65c yJx4a65c_get_915e3 yJx4a65c_get_915e3, Cond.code yJx4a65c_get_915e3 cJx4a65c_get_915e3 2 (some (.object "java/lang/Object")), Cond.methodLink RJx4a65c 118 yJ15_checkIndex_7cf53]
def wsX3_fund_r2 : List Cond := [Cond.static yJ15_checkIndex_7cf53, Cond.initialized RJ15, Cond.code yJ15_checkIndex_7cf53 cJ15_checkIndex_7cf53 2 (some .int), Cond.methodLink RJ15 105 yJ3_checkIndex_8e157, Cond.static yJ3_checkIndex_8e157, Cond.initialized RJ3, Cond.code yJ3_checkIndex_8e157 cJ3_checkIndex_8e157 3 (some .int), Cond.methodLink RJx4a65c 123 yJx4a65c_elementData_915e3, Cond.instanceMethod yJx4a65c_elementData_915e3, Cond.selects RJx4a65c yJx4a65c_elementData_915e3 yJx4a65c_elementData_915e3, Cond.code yJx4a65c_elementData_915e3 cJx4a65c_elementData_915e3 2 (some (.object "java/lang/Object")), Cond.fieldLink RJx4a65c 9 "java/util/ArrayList" "elementData" "[Ljava/lang/Object;", Cond.methodLink RX3 39 yX3_requireBetween, Cond.static yX3_requireBetween, Cond.code yX3_requireBetween cX3_requireBetween 3 none, Cond.classLink RX3 190 "java/lang/IllegalArgumentException", Cond.initialized "java/lang/IllegalArgumentException"]
def wsX3_fund : List Cond := .code yX3_fund cX3_fund 4 (some .int) :: ((wsX3_fund_r1 ++ wsX3_fund_r2) ++ wsX00 ++ wsX30 ++ wsJx4a65c0 ++ (vx_atS RX3 51 "java/lang/IllegalStateException" ["java/lang/RuntimeException", "java/lang/Exception"]).filter goodWord ++ (vx_atS RX3 183 "java/lang/IndexOutOfBoundsException" ["java/lang/RuntimeException", "java/lang/Exception"]).filter goodWord ++ (vx_atS RX3 194 "java/lang/IllegalArgumentException" ["java/lang/RuntimeException", "java/lang/Exception"]).filter goodWord)
def wsX3_payBills_r1 : List Cond := [Cond.fieldLink RX3 19 "HoldServer" "departments" "Ljava/util/ArrayList;", Cond.classLink RX3 31 "HoldServer$Department", Cond.fieldLink RX3 70 "HoldServer" "day" "I", Cond.fieldLink RX3 156 "HoldServer$Department" "coins" "I", Cond.methodLink RX3 211 Lib.Math.min.name, Cond.static Lib.Math.min.name, Cond.initialized "java/lang/Math", Cond.code Lib.Math.min.name Lib.Math.min.code 2 (some .int), Cond.methodLink RX3 43 yJx4a65c_size_8abf5, Cond.instanceMethod yJx4a65c_size_8abf5, Cond.selects RJx4a65c yJx4a65c_size_8abf5 yJx4a65c_size_8abf5, Cond.initialized RJx4a65c, Cond.code yJx4a65c_size_8abf5 cJx4a65c_size_8abf5 1 (some .int), Cond.fieldLink RJx4a65c 48 "java/util/ArrayList" "size" "I", Cond.methodLink RX3 149 yJx4a65c_get_915e3, Cond.instanceMethod yJx4a65c_get_915e3, Cond.selects RJx4a65c yJx4a65c_get_915e3 yJx4a65c_get_915e3, Cond.code yJx4a65c_get_915e3 cJx4a65c_get_915e3 2 (some (.object "java/lang/Object")), Cond.methodLink RJx4a65c 118 yJ15_checkIndex_7cf53, Cond.static yJ15_checkIndex_7cf53, Cond.initialized RJ15, Cond.code yJ15_checkIndex_7cf53 cJ15_checkIndex_7cf53 2 (some .int), Cond.methodLink RJ15 105 yJ3_checkIndex_8e157, Cond.static yJ3_checkIndex_8e157]
def wsX3_payBills_r2 : List Cond := [Cond.initialized RJ3, Cond.code yJ3_checkIndex_8e157 cJ3_checkIndex_8e157 3 (some .int), Cond.methodLink RJx4a65c 123 yJx4a65c_elementData_915e3, Cond.instanceMethod yJx4a65c_elementData_915e3, Cond.selects RJx4a65c yJx4a65c_elementData_915e3 yJx4a65c_elementData_915e3, Cond.code yJx4a65c_elementData_915e3 cJx4a65c_elementData_915e3 2 (some (.object "java/lang/Object")), Cond.fieldLink RJx4a65c 9 "java/util/ArrayList" "elementData" "[Ljava/lang/Object;", Cond.methodLink RX3 176 yX0_billOn, Cond.instanceMethod yX0_billOn, Cond.selects RX0 yX0_billOn yX0_billOn, Cond.initialized RX0, Cond.code yX0_billOn cX0_billOn 4 (some .int), Cond.fieldLink RX0 12 "HoldServer$Department" "ownFiles" "Ljava/util/ArrayList;", Cond.classLink RX0 30 "HoldServer$StoredFile", Cond.methodLink RX0 22 yJx4a65c_size_8abf5, Cond.methodLink RX0 26 yJx4a65c_get_915e3, Cond.methodLink RX0 32 yX2_billedOn, Cond.instanceMethod yX2_billedOn, Cond.selects RX2 yX2_billedOn yX2_billedOn, Cond.initialized RX2, Cond.code yX2_billedOn cX2_billedOn 3 (some .int), Cond.fieldLink RX2 22 "HoldServer$StoredFile" "size" "I", Cond.fieldLink RX2 52 "HoldServer$StoredFile" "kept" "I", Cond.methodLink RX2 55 yX2_isGone]
def wsX3_payBills_r3 : List Cond := [Cond.instanceMethod yX2_isGone, Cond.selects RX2 yX2_isGone yX2_isGone, Cond.code yX2_isGone cX2_isGone 1 (some .boolean), Cond.fieldLink RX2 12 "HoldServer$StoredFile" "links" "Ljava/util/ArrayList;", Cond.methodLink RX2 29 yJx4a65c_isEmpty_aae02, Cond.instanceMethod yJx4a65c_isEmpty_aae02, Cond.selects RJx4a65c yJx4a65c_isEmpty_aae02 yJx4a65c_isEmpty_aae02, Cond.code yJx4a65c_isEmpty_aae02 cJx4a65c_isEmpty_aae02 1 (some .boolean), Cond.methodLink RX2 62 yX2_tierOn, Cond.instanceMethod yX2_tierOn, Cond.selects RX2 yX2_tierOn yX2_tierOn, Cond.code yX2_tierOn cX2_tierOn 3 (some .int), Cond.fieldLink RX2 26 "HoldServer$StoredFile" "usedOn" "I", Cond.methodLink RX2 58 yX2_isComingBackOn, Cond.instanceMethod yX2_isComingBackOn, Cond.selects RX2 yX2_isComingBackOn yX2_isComingBackOn, Cond.code yX2_isComingBackOn cX2_isComingBackOn 2 (some .boolean)]
def wsX3_payBills : List Cond := .code yX3_payBills cX3_payBills 5 (some .int) :: ((wsX3_payBills_r1 ++ (wsX3_payBills_r2 ++ wsX3_payBills_r3)) ++ wsX30 ++ wsX00 ++ wsJx4a65c0 ++ wsX20)
def wsX3_pass_r1 : List Cond := [Cond.classLink RX3 47 "java/lang/IllegalStateException", Cond.initialized "java/lang/IllegalStateException", Cond.fieldLink RX3 70 "HoldServer" "day" "I", Cond.methodLink RX3 39 yX3_requireBetween, Cond.static yX3_requireBetween, Cond.initialized RX3, Cond.code yX3_requireBetween cX3_requireBetween 3 none, Cond.classLink RX3 190 "java/lang/IllegalArgumentException", Cond.initialized "java/lang/IllegalArgumentException", Cond.methodLink RX3 164 yX3_payBills, Cond.instanceMethod yX3_payBills, Cond.selects RX3 yX3_payBills yX3_payBills, Cond.code yX3_payBills cX3_payBills 5 (some .int), Cond.fieldLink RX3 19 "HoldServer" "departments" "Ljava/util/ArrayList;", Cond.classLink RX3 31 "HoldServer$Department", Cond.fieldLink RX3 156 "HoldServer$Department" "coins" "I", Cond.methodLink RX3 211 Lib.Math.min.name, Cond.static Lib.Math.min.name, Cond.initialized "java/lang/Math", Cond.code Lib.Math.min.name Lib.Math.min.code 2 (some .int), Cond.methodLink RX3 43 yJx4a65c_size_8abf5, Cond.instanceMethod yJx4a65c_size_8abf5, Cond.selects RJx4a65c yJx4a65c_size_8abf5 yJx4a65c_size_8abf5, Cond.initialized RJx4a65c]
def wsX3_pass_r2 : List Cond := [Cond.code yJx4a65c_size_8abf5 cJx4a65c_size_8abf5 1 (some .int), Cond.fieldLink RJx4a65c 48 "java/util/ArrayList" "size" "I", Cond.methodLink RX3 149 yJx4a65c_get_915e3, Cond.instanceMethod yJx4a65c_get_915e3, Cond.selects RJx4a65c yJx4a65c_get_915e3 yJx4a65c_get_915e3, Cond.code yJx4a65c_get_915e3 cJx4a65c_get_915e3 2 (some (.object "java/lang/Object")), Cond.methodLink RJx4a65c 118 yJ15_checkIndex_7cf53, Cond.static yJ15_checkIndex_7cf53, Cond.initialized RJ15, Cond.code yJ15_checkIndex_7cf53 cJ15_checkIndex_7cf53 2 (some .int), Cond.methodLink RJ15 105 yJ3_checkIndex_8e157, Cond.static yJ3_checkIndex_8e157, Cond.initialized RJ3, Cond.code yJ3_checkIndex_8e157 cJ3_checkIndex_8e157 3 (some .int), Cond.methodLink RJx4a65c 123 yJx4a65c_elementData_915e3, Cond.instanceMethod yJx4a65c_elementData_915e3, Cond.selects RJx4a65c yJx4a65c_elementData_915e3 yJx4a65c_elementData_915e3, Cond.code yJx4a65c_elementData_915e3 cJx4a65c_elementData_915e3 2 (some (.object "java/lang/Object")), Cond.fieldLink RJx4a65c 9 "java/util/ArrayList" "elementData" "[Ljava/lang/Object;", Cond.methodLink RX3 176 yX0_billOn, Cond.instanceMethod yX0_billOn, Cond.selects RX0 yX0_billOn yX0_billOn, Cond.initialized RX0, Cond.code yX0_billOn cX0_billOn 4 (some .int)]
def wsX3_pass_r3 : List Cond := [Cond.fieldLink RX0 12 "HoldServer$Department" "ownFiles" "Ljava/util/ArrayList;", Cond.classLink RX0 30 "HoldServer$StoredFile", Cond.methodLink RX0 22 yJx4a65c_size_8abf5, Cond.methodLink RX0 26 yJx4a65c_get_915e3, Cond.methodLink RX0 32 yX2_billedOn, Cond.instanceMethod yX2_billedOn, Cond.selects RX2 yX2_billedOn yX2_billedOn, Cond.initialized RX2, Cond.code yX2_billedOn cX2_billedOn 3 (some .int), Cond.fieldLink RX2 22 "HoldServer$StoredFile" "size" "I", Cond.fieldLink RX2 52 "HoldServer$StoredFile" "kept" "I", Cond.methodLink RX2 55 yX2_isGone, Cond.instanceMethod yX2_isGone, Cond.selects RX2 yX2_isGone yX2_isGone, Cond.code yX2_isGone cX2_isGone 1 (some .boolean), Cond.fieldLink RX2 12 "HoldServer$StoredFile" "links" "Ljava/util/ArrayList;", Cond.methodLink RX2 29 yJx4a65c_isEmpty_aae02, Cond.instanceMethod yJx4a65c_isEmpty_aae02, Cond.selects RJx4a65c yJx4a65c_isEmpty_aae02 yJx4a65c_isEmpty_aae02, Cond.code yJx4a65c_isEmpty_aae02 cJx4a65c_isEmpty_aae02 1 (some .boolean), Cond.methodLink RX2 62 yX2_tierOn, Cond.instanceMethod yX2_tierOn, Cond.selects RX2 yX2_tierOn yX2_tierOn, Cond.code yX2_tierOn cX2_tierOn 3 (some .int)]
def wsX3_pass_r4 : List Cond := [Cond.fieldLink RX2 26 "HoldServer$StoredFile" "usedOn" "I", Cond.methodLink RX2 58 yX2_isComingBackOn, Cond.instanceMethod yX2_isComingBackOn, Cond.selects RX2 yX2_isComingBackOn yX2_isComingBackOn, Cond.code yX2_isComingBackOn cX2_isComingBackOn 2 (some .boolean)]
def wsX3_pass : List Cond := .code yX3_pass cX3_pass 4 (some .int) :: ((wsX3_pass_r1 ++ (wsX3_pass_r2 ++ (wsX3_pass_r3 ++ wsX3_pass_r4))) ++ wsX30 ++ wsX00 ++ wsJx4a65c0 ++ wsX20 ++ (vx_atS RX3 51 "java/lang/IllegalStateException" ["java/lang/RuntimeException", "java/lang/Exception"]).filter goodWord ++ (vx_atS RX3 194 "java/lang/IllegalArgumentException" ["java/lang/RuntimeException", "java/lang/Exception"]).filter goodWord)
def wsX3_day : List Cond := .code yX3_day cX3_day 1 (some .int) :: ([.fieldLink RX3 70 "HoldServer" "day" "I"] ++ wsX30)
def wsX3_directories : List Cond := .code yX3_directories cX3_directories 1 (some .int) :: ([.fieldLink RX3 10 "HoldServer" "directories" "Ljava/util/ArrayList;", .methodLink RX3 43 yJx4a65c_size_8abf5, .instanceMethod yJx4a65c_size_8abf5, .selects RJx4a65c yJx4a65c_size_8abf5 yJx4a65c_size_8abf5, .initialized RJx4a65c, .code yJx4a65c_size_8abf5 cJx4a65c_size_8abf5 1 (some .int), .fieldLink RJx4a65c 48 "java/util/ArrayList" "size" "I"] ++ wsX30 ++ wsJx4a65c0)
def wsX3_files : List Cond := .code yX3_files cX3_files 1 (some .int) :: ([.fieldLink RX3 16 "HoldServer" "files" "Ljava/util/ArrayList;", .methodLink RX3 43 yJx4a65c_size_8abf5, .instanceMethod yJx4a65c_size_8abf5, .selects RJx4a65c yJx4a65c_size_8abf5 yJx4a65c_size_8abf5, .initialized RJx4a65c, .code yJx4a65c_size_8abf5 cJx4a65c_size_8abf5 1 (some .int), .fieldLink RJx4a65c 48 "java/util/ArrayList" "size" "I"] ++ wsX30 ++ wsJx4a65c0)
def wsX3_usage_r1 : List Cond := [Cond.fieldLink RX3 167 "HoldServer$Directory" "usage" "I", Cond.methodLink RX3 34 yX3_directoryNumbered, Cond.instanceMethod yX3_directoryNumbered, Cond.selects RX3 yX3_directoryNumbered yX3_directoryNumbered, Cond.initialized RX3, Cond.code yX3_directoryNumbered cX3_directoryNumbered 2 (some (.object "HoldServer$Directory")), Cond.classLink RX3 179 "java/lang/IndexOutOfBoundsException", Cond.initialized "java/lang/IndexOutOfBoundsException", Cond.fieldLink RX3 10 "HoldServer" "directories" "Ljava/util/ArrayList;", Cond.classLink RX3 22 "HoldServer$Directory", Cond.methodLink RX3 43 yJx4a65c_size_8abf5, Cond.instanceMethod yJx4a65c_size_8abf5, Cond.selects RJx4a65c yJx4a65c_size_8abf5 yJx4a65c_size_8abf5, Cond.initialized RJx4a65c, Cond.code yJx4a65c_size_8abf5 cJx4a65c_size_8abf5 1 (some .int), Cond.fieldLink RJx4a65c 48 "java/util/ArrayList" "size" "I", Cond.methodLink RX3 149 yJx4a65c_get_915e3, Cond.instanceMethod yJx4a65c_get_915e3, Cond.selects RJx4a65c yJx4a65c_get_915e3 yJx4a65c_get_915e3, Cond.code yJx4a65c_get_915e3 cJx4a65c_get_915e3 2 (some (.object "java/lang/Object")), Cond.methodLink RJx4a65c 118 yJ15_checkIndex_7cf53, Cond.static yJ15_checkIndex_7cf53, Cond.initialized RJ15, Cond.code yJ15_checkIndex_7cf53 cJ15_checkIndex_7cf53 2 (some .int)]
def wsX3_usage_r2 : List Cond := [Cond.methodLink RJ15 105 yJ3_checkIndex_8e157, Cond.static yJ3_checkIndex_8e157, Cond.initialized RJ3, Cond.code yJ3_checkIndex_8e157 cJ3_checkIndex_8e157 3 (some .int), Cond.methodLink RJx4a65c 123 yJx4a65c_elementData_915e3, Cond.instanceMethod yJx4a65c_elementData_915e3, Cond.selects RJx4a65c yJx4a65c_elementData_915e3 yJx4a65c_elementData_915e3, Cond.code yJx4a65c_elementData_915e3 cJx4a65c_elementData_915e3 2 (some (.object "java/lang/Object")), Cond.fieldLink RJx4a65c 9 "java/util/ArrayList" "elementData" "[Ljava/lang/Object;"]
def wsX3_usage : List Cond := .code yX3_usage cX3_usage 2 (some .int) :: ((wsX3_usage_r1 ++ wsX3_usage_r2) ++ wsX10 ++ wsX30 ++ wsJx4a65c0 ++ (vx_atS RX3 183 "java/lang/IndexOutOfBoundsException" ["java/lang/RuntimeException", "java/lang/Exception"]).filter goodWord)
def wsX3_usageByWalking_r1 : List Cond := [Cond.fieldLink RX3 16 "HoldServer" "files" "Ljava/util/ArrayList;", Cond.classLink RX3 68 "HoldServer$StoredFile", Cond.fieldLink RX3 110 "HoldServer$StoredFile" "size" "I", Cond.methodLink RX3 34 yX3_directoryNumbered, Cond.instanceMethod yX3_directoryNumbered, Cond.selects RX3 yX3_directoryNumbered yX3_directoryNumbered, Cond.initialized RX3, Cond.code yX3_directoryNumbered cX3_directoryNumbered 2 (some (.object "HoldServer$Directory")), Cond.classLink RX3 179 "java/lang/IndexOutOfBoundsException", Cond.initialized "java/lang/IndexOutOfBoundsException", Cond.fieldLink RX3 10 "HoldServer" "directories" "Ljava/util/ArrayList;", Cond.classLink RX3 22 "HoldServer$Directory", Cond.methodLink RX3 43 yJx4a65c_size_8abf5, Cond.instanceMethod yJx4a65c_size_8abf5, Cond.selects RJx4a65c yJx4a65c_size_8abf5 yJx4a65c_size_8abf5, Cond.initialized RJx4a65c, Cond.code yJx4a65c_size_8abf5 cJx4a65c_size_8abf5 1 (some .int), Cond.fieldLink RJx4a65c 48 "java/util/ArrayList" "size" "I", Cond.methodLink RX3 149 yJx4a65c_get_915e3, Cond.instanceMethod yJx4a65c_get_915e3, Cond.selects RJx4a65c yJx4a65c_get_915e3 yJx4a65c_get_915e3, Cond.code yJx4a65c_get_915e3 cJx4a65c_get_915e3 2 (some (.object "java/lang/Object")), Cond.methodLink RJx4a65c 118 yJ15_checkIndex_7cf53, Cond.static yJ15_checkIndex_7cf53]
def wsX3_usageByWalking_r2 : List Cond := [Cond.initialized RJ15, Cond.code yJ15_checkIndex_7cf53 cJ15_checkIndex_7cf53 2 (some .int), Cond.methodLink RJ15 105 yJ3_checkIndex_8e157, Cond.static yJ3_checkIndex_8e157, Cond.initialized RJ3, Cond.code yJ3_checkIndex_8e157 cJ3_checkIndex_8e157 3 (some .int), Cond.methodLink RJx4a65c 123 yJx4a65c_elementData_915e3, Cond.instanceMethod yJx4a65c_elementData_915e3, Cond.selects RJx4a65c yJx4a65c_elementData_915e3 yJx4a65c_elementData_915e3, Cond.code yJx4a65c_elementData_915e3 cJx4a65c_elementData_915e3 2 (some (.object "java/lang/Object")), Cond.fieldLink RJx4a65c 9 "java/util/ArrayList" "elementData" "[Ljava/lang/Object;", Cond.methodLink RX3 100 yX2_firstLink, Cond.instanceMethod yX2_firstLink, Cond.selects RX2 yX2_firstLink yX2_firstLink, Cond.initialized RX2, Cond.code yX2_firstLink cX2_firstLink 1 (some (.object "HoldServer$Directory")), Cond.fieldLink RX2 12 "HoldServer$StoredFile" "links" "Ljava/util/ArrayList;", Cond.classLink RX2 37 "HoldServer$Directory", Cond.methodLink RX2 29 yJx4a65c_isEmpty_aae02, Cond.instanceMethod yJx4a65c_isEmpty_aae02, Cond.selects RJx4a65c yJx4a65c_isEmpty_aae02 yJx4a65c_isEmpty_aae02, Cond.code yJx4a65c_isEmpty_aae02 cJx4a65c_isEmpty_aae02 1 (some .boolean), Cond.methodLink RX2 33 yJx4a65c_get_915e3, Cond.methodLink RX3 170 yX1_hasOnItsWay]
def wsX3_usageByWalking_r3 : List Cond := [Cond.instanceMethod yX1_hasOnItsWay, Cond.selects RX1 yX1_hasOnItsWay yX1_hasOnItsWay, Cond.initialized RX1, Cond.code yX1_hasOnItsWay cX1_hasOnItsWay 3 (some .boolean), Cond.fieldLink RX1 15 "HoldServer$Directory" "parent" "LHoldServer$Directory;"]
def wsX3_usageByWalking : List Cond := .code yX3_usageByWalking cX3_usageByWalking 7 (some .int) :: ((wsX3_usageByWalking_r1 ++ (wsX3_usageByWalking_r2 ++ wsX3_usageByWalking_r3)) ++ wsX30 ++ wsX20 ++ wsJx4a65c0 ++ wsX10 ++ (vx_atS RX3 183 "java/lang/IndexOutOfBoundsException" ["java/lang/RuntimeException", "java/lang/Exception"]).filter goodWord)
def wsX3_size_r1 : List Cond := [Cond.fieldLink RX3 110 "HoldServer$StoredFile" "size" "I", Cond.methodLink RX3 86 yX3_fileNumbered, Cond.instanceMethod yX3_fileNumbered, Cond.selects RX3 yX3_fileNumbered yX3_fileNumbered, Cond.initialized RX3, Cond.code yX3_fileNumbered cX3_fileNumbered 2 (some (.object "HoldServer$StoredFile")), Cond.classLink RX3 179 "java/lang/IndexOutOfBoundsException", Cond.initialized "java/lang/IndexOutOfBoundsException", Cond.fieldLink RX3 16 "HoldServer" "files" "Ljava/util/ArrayList;", Cond.classLink RX3 68 "HoldServer$StoredFile", Cond.methodLink RX3 43 yJx4a65c_size_8abf5, Cond.instanceMethod yJx4a65c_size_8abf5, Cond.selects RJx4a65c yJx4a65c_size_8abf5 yJx4a65c_size_8abf5, Cond.initialized RJx4a65c, Cond.code yJx4a65c_size_8abf5 cJx4a65c_size_8abf5 1 (some .int), Cond.fieldLink RJx4a65c 48 "java/util/ArrayList" "size" "I", Cond.methodLink RX3 149 yJx4a65c_get_915e3, Cond.instanceMethod yJx4a65c_get_915e3, Cond.selects RJx4a65c yJx4a65c_get_915e3 yJx4a65c_get_915e3, Cond.code yJx4a65c_get_915e3 cJx4a65c_get_915e3 2 (some (.object "java/lang/Object")), Cond.methodLink RJx4a65c 118 yJ15_checkIndex_7cf53, Cond.static yJ15_checkIndex_7cf53, Cond.initialized RJ15, Cond.code yJ15_checkIndex_7cf53 cJ15_checkIndex_7cf53 2 (some .int)]
def wsX3_size_r2 : List Cond := [Cond.methodLink RJ15 105 yJ3_checkIndex_8e157, Cond.static yJ3_checkIndex_8e157, Cond.initialized RJ3, Cond.code yJ3_checkIndex_8e157 cJ3_checkIndex_8e157 3 (some .int), Cond.methodLink RJx4a65c 123 yJx4a65c_elementData_915e3, Cond.instanceMethod yJx4a65c_elementData_915e3, Cond.selects RJx4a65c yJx4a65c_elementData_915e3 yJx4a65c_elementData_915e3, Cond.code yJx4a65c_elementData_915e3 cJx4a65c_elementData_915e3 2 (some (.object "java/lang/Object")), Cond.fieldLink RJx4a65c 9 "java/util/ArrayList" "elementData" "[Ljava/lang/Object;"]
def wsX3_size : List Cond := .code yX3_size cX3_size 2 (some .int) :: ((wsX3_size_r1 ++ wsX3_size_r2) ++ wsX20 ++ wsX30 ++ wsJx4a65c0 ++ (vx_atS RX3 183 "java/lang/IndexOutOfBoundsException" ["java/lang/RuntimeException", "java/lang/Exception"]).filter goodWord)
def wsX3_home_r1 : List Cond := [Cond.fieldLink RX3 173 "HoldServer$Directory" "number" "I", Cond.methodLink RX3 86 yX3_fileNumbered, Cond.instanceMethod yX3_fileNumbered, Cond.selects RX3 yX3_fileNumbered yX3_fileNumbered, Cond.initialized RX3, Cond.code yX3_fileNumbered cX3_fileNumbered 2 (some (.object "HoldServer$StoredFile")), Cond.classLink RX3 179 "java/lang/IndexOutOfBoundsException", Cond.initialized "java/lang/IndexOutOfBoundsException", Cond.fieldLink RX3 16 "HoldServer" "files" "Ljava/util/ArrayList;", Cond.classLink RX3 68 "HoldServer$StoredFile", Cond.methodLink RX3 43 yJx4a65c_size_8abf5, Cond.instanceMethod yJx4a65c_size_8abf5, Cond.selects RJx4a65c yJx4a65c_size_8abf5 yJx4a65c_size_8abf5, Cond.initialized RJx4a65c, Cond.code yJx4a65c_size_8abf5 cJx4a65c_size_8abf5 1 (some .int), Cond.fieldLink RJx4a65c 48 "java/util/ArrayList" "size" "I", Cond.methodLink RX3 149 yJx4a65c_get_915e3, Cond.instanceMethod yJx4a65c_get_915e3, Cond.selects RJx4a65c yJx4a65c_get_915e3 yJx4a65c_get_915e3, Cond.code yJx4a65c_get_915e3 cJx4a65c_get_915e3 2 (some (.object "java/lang/Object")), Cond.methodLink RJx4a65c 118 yJ15_checkIndex_7cf53, Cond.static yJ15_checkIndex_7cf53, Cond.initialized RJ15, Cond.code yJ15_checkIndex_7cf53 cJ15_checkIndex_7cf53 2 (some .int)]
def wsX3_home_r2 : List Cond := [Cond.methodLink RJ15 105 yJ3_checkIndex_8e157, Cond.static yJ3_checkIndex_8e157, Cond.initialized RJ3, Cond.code yJ3_checkIndex_8e157 cJ3_checkIndex_8e157 3 (some .int), Cond.methodLink RJx4a65c 123 yJx4a65c_elementData_915e3, Cond.instanceMethod yJx4a65c_elementData_915e3, Cond.selects RJx4a65c yJx4a65c_elementData_915e3 yJx4a65c_elementData_915e3, Cond.code yJx4a65c_elementData_915e3 cJx4a65c_elementData_915e3 2 (some (.object "java/lang/Object")), Cond.fieldLink RJx4a65c 9 "java/util/ArrayList" "elementData" "[Ljava/lang/Object;", Cond.methodLink RX3 100 yX2_firstLink, Cond.instanceMethod yX2_firstLink, Cond.selects RX2 yX2_firstLink yX2_firstLink, Cond.initialized RX2, Cond.code yX2_firstLink cX2_firstLink 1 (some (.object "HoldServer$Directory")), Cond.fieldLink RX2 12 "HoldServer$StoredFile" "links" "Ljava/util/ArrayList;", Cond.classLink RX2 37 "HoldServer$Directory", Cond.methodLink RX2 29 yJx4a65c_isEmpty_aae02, Cond.instanceMethod yJx4a65c_isEmpty_aae02, Cond.selects RJx4a65c yJx4a65c_isEmpty_aae02 yJx4a65c_isEmpty_aae02, Cond.code yJx4a65c_isEmpty_aae02 cJx4a65c_isEmpty_aae02 1 (some .boolean), Cond.methodLink RX2 33 yJx4a65c_get_915e3]
def wsX3_home : List Cond := .code yX3_home cX3_home 3 (some .int) :: ((wsX3_home_r1 ++ wsX3_home_r2) ++ wsX10 ++ wsX30 ++ wsJx4a65c0 ++ wsX20 ++ (vx_atS RX3 183 "java/lang/IndexOutOfBoundsException" ["java/lang/RuntimeException", "java/lang/Exception"]).filter goodWord)
def wsX3_kept_r1 : List Cond := [Cond.fieldLink RX3 128 "HoldServer$StoredFile" "kept" "I", Cond.methodLink RX3 86 yX3_fileNumbered, Cond.instanceMethod yX3_fileNumbered, Cond.selects RX3 yX3_fileNumbered yX3_fileNumbered, Cond.initialized RX3, Cond.code yX3_fileNumbered cX3_fileNumbered 2 (some (.object "HoldServer$StoredFile")), Cond.classLink RX3 179 "java/lang/IndexOutOfBoundsException", Cond.initialized "java/lang/IndexOutOfBoundsException", Cond.fieldLink RX3 16 "HoldServer" "files" "Ljava/util/ArrayList;", Cond.classLink RX3 68 "HoldServer$StoredFile", Cond.methodLink RX3 43 yJx4a65c_size_8abf5, Cond.instanceMethod yJx4a65c_size_8abf5, Cond.selects RJx4a65c yJx4a65c_size_8abf5 yJx4a65c_size_8abf5, Cond.initialized RJx4a65c, Cond.code yJx4a65c_size_8abf5 cJx4a65c_size_8abf5 1 (some .int), Cond.fieldLink RJx4a65c 48 "java/util/ArrayList" "size" "I", Cond.methodLink RX3 149 yJx4a65c_get_915e3, Cond.instanceMethod yJx4a65c_get_915e3, Cond.selects RJx4a65c yJx4a65c_get_915e3 yJx4a65c_get_915e3, Cond.code yJx4a65c_get_915e3 cJx4a65c_get_915e3 2 (some (.object "java/lang/Object")), Cond.methodLink RJx4a65c 118 yJ15_checkIndex_7cf53, Cond.static yJ15_checkIndex_7cf53, Cond.initialized RJ15, Cond.code yJ15_checkIndex_7cf53 cJ15_checkIndex_7cf53 2 (some .int)]
def wsX3_kept_r2 : List Cond := [Cond.methodLink RJ15 105 yJ3_checkIndex_8e157, Cond.static yJ3_checkIndex_8e157, Cond.initialized RJ3, Cond.code yJ3_checkIndex_8e157 cJ3_checkIndex_8e157 3 (some .int), Cond.methodLink RJx4a65c 123 yJx4a65c_elementData_915e3, Cond.instanceMethod yJx4a65c_elementData_915e3, Cond.selects RJx4a65c yJx4a65c_elementData_915e3 yJx4a65c_elementData_915e3, Cond.code yJx4a65c_elementData_915e3 cJx4a65c_elementData_915e3 2 (some (.object "java/lang/Object")), Cond.fieldLink RJx4a65c 9 "java/util/ArrayList" "elementData" "[Ljava/lang/Object;"]
def wsX3_kept : List Cond := .code yX3_kept cX3_kept 2 (some .int) :: ((wsX3_kept_r1 ++ wsX3_kept_r2) ++ wsX20 ++ wsX30 ++ wsJx4a65c0 ++ (vx_atS RX3 183 "java/lang/IndexOutOfBoundsException" ["java/lang/RuntimeException", "java/lang/Exception"]).filter goodWord)
def wsX3_holders_r1 : List Cond := [Cond.fieldLink RX3 141 "HoldServer$StoredFile" "holders" "I", Cond.methodLink RX3 86 yX3_fileNumbered, Cond.instanceMethod yX3_fileNumbered, Cond.selects RX3 yX3_fileNumbered yX3_fileNumbered, Cond.initialized RX3, Cond.code yX3_fileNumbered cX3_fileNumbered 2 (some (.object "HoldServer$StoredFile")), Cond.classLink RX3 179 "java/lang/IndexOutOfBoundsException", Cond.initialized "java/lang/IndexOutOfBoundsException", Cond.fieldLink RX3 16 "HoldServer" "files" "Ljava/util/ArrayList;", Cond.classLink RX3 68 "HoldServer$StoredFile", Cond.methodLink RX3 43 yJx4a65c_size_8abf5, Cond.instanceMethod yJx4a65c_size_8abf5, Cond.selects RJx4a65c yJx4a65c_size_8abf5 yJx4a65c_size_8abf5, Cond.initialized RJx4a65c, Cond.code yJx4a65c_size_8abf5 cJx4a65c_size_8abf5 1 (some .int), Cond.fieldLink RJx4a65c 48 "java/util/ArrayList" "size" "I", Cond.methodLink RX3 149 yJx4a65c_get_915e3, Cond.instanceMethod yJx4a65c_get_915e3, Cond.selects RJx4a65c yJx4a65c_get_915e3 yJx4a65c_get_915e3, Cond.code yJx4a65c_get_915e3 cJx4a65c_get_915e3 2 (some (.object "java/lang/Object")), Cond.methodLink RJx4a65c 118 yJ15_checkIndex_7cf53, Cond.static yJ15_checkIndex_7cf53, Cond.initialized RJ15, Cond.code yJ15_checkIndex_7cf53 cJ15_checkIndex_7cf53 2 (some .int)]
def wsX3_holders_r2 : List Cond := [Cond.methodLink RJ15 105 yJ3_checkIndex_8e157, Cond.static yJ3_checkIndex_8e157, Cond.initialized RJ3, Cond.code yJ3_checkIndex_8e157 cJ3_checkIndex_8e157 3 (some .int), Cond.methodLink RJx4a65c 123 yJx4a65c_elementData_915e3, Cond.instanceMethod yJx4a65c_elementData_915e3, Cond.selects RJx4a65c yJx4a65c_elementData_915e3 yJx4a65c_elementData_915e3, Cond.code yJx4a65c_elementData_915e3 cJx4a65c_elementData_915e3 2 (some (.object "java/lang/Object")), Cond.fieldLink RJx4a65c 9 "java/util/ArrayList" "elementData" "[Ljava/lang/Object;"]
def wsX3_holders : List Cond := .code yX3_holders cX3_holders 2 (some .int) :: ((wsX3_holders_r1 ++ wsX3_holders_r2) ++ wsX20 ++ wsX30 ++ wsJx4a65c0 ++ (vx_atS RX3 183 "java/lang/IndexOutOfBoundsException" ["java/lang/RuntimeException", "java/lang/Exception"]).filter goodWord)
def wsX3_tier_r1 : List Cond := [Cond.fieldLink RX3 70 "HoldServer" "day" "I", Cond.methodLink RX3 86 yX3_fileNumbered, Cond.instanceMethod yX3_fileNumbered, Cond.selects RX3 yX3_fileNumbered yX3_fileNumbered, Cond.initialized RX3, Cond.code yX3_fileNumbered cX3_fileNumbered 2 (some (.object "HoldServer$StoredFile")), Cond.classLink RX3 179 "java/lang/IndexOutOfBoundsException", Cond.initialized "java/lang/IndexOutOfBoundsException", Cond.fieldLink RX3 16 "HoldServer" "files" "Ljava/util/ArrayList;", Cond.classLink RX3 68 "HoldServer$StoredFile", Cond.methodLink RX3 43 yJx4a65c_size_8abf5, Cond.instanceMethod yJx4a65c_size_8abf5, Cond.selects RJx4a65c yJx4a65c_size_8abf5 yJx4a65c_size_8abf5, Cond.initialized RJx4a65c, Cond.code yJx4a65c_size_8abf5 cJx4a65c_size_8abf5 1 (some .int), Cond.fieldLink RJx4a65c 48 "java/util/ArrayList" "size" "I", Cond.methodLink RX3 149 yJx4a65c_get_915e3, Cond.instanceMethod yJx4a65c_get_915e3, Cond.selects RJx4a65c yJx4a65c_get_915e3 yJx4a65c_get_915e3, Cond.code yJx4a65c_get_915e3 cJx4a65c_get_915e3 2 (some (.object "java/lang/Object")), Cond.methodLink RJx4a65c 118 yJ15_checkIndex_7cf53, Cond.static yJ15_checkIndex_7cf53, Cond.initialized RJ15, Cond.code yJ15_checkIndex_7cf53 cJ15_checkIndex_7cf53 2 (some .int)]
def wsX3_tier_r2 : List Cond := [Cond.methodLink RJ15 105 yJ3_checkIndex_8e157, Cond.static yJ3_checkIndex_8e157, Cond.initialized RJ3, Cond.code yJ3_checkIndex_8e157 cJ3_checkIndex_8e157 3 (some .int), Cond.methodLink RJx4a65c 123 yJx4a65c_elementData_915e3, Cond.instanceMethod yJx4a65c_elementData_915e3, Cond.selects RJx4a65c yJx4a65c_elementData_915e3 yJx4a65c_elementData_915e3, Cond.code yJx4a65c_elementData_915e3 cJx4a65c_elementData_915e3 2 (some (.object "java/lang/Object")), Cond.fieldLink RJx4a65c 9 "java/util/ArrayList" "elementData" "[Ljava/lang/Object;", Cond.methodLink RX3 115 yX2_tierOn, Cond.instanceMethod yX2_tierOn, Cond.selects RX2 yX2_tierOn yX2_tierOn, Cond.initialized RX2, Cond.code yX2_tierOn cX2_tierOn 3 (some .int), Cond.fieldLink RX2 26 "HoldServer$StoredFile" "usedOn" "I", Cond.methodLink RX2 55 yX2_isGone, Cond.instanceMethod yX2_isGone, Cond.selects RX2 yX2_isGone yX2_isGone, Cond.code yX2_isGone cX2_isGone 1 (some .boolean), Cond.fieldLink RX2 12 "HoldServer$StoredFile" "links" "Ljava/util/ArrayList;", Cond.methodLink RX2 29 yJx4a65c_isEmpty_aae02, Cond.instanceMethod yJx4a65c_isEmpty_aae02, Cond.selects RJx4a65c yJx4a65c_isEmpty_aae02 yJx4a65c_isEmpty_aae02, Cond.code yJx4a65c_isEmpty_aae02 cJx4a65c_isEmpty_aae02 1 (some .boolean)]
def wsX3_tier_r3 : List Cond := [Cond.methodLink RX2 58 yX2_isComingBackOn, Cond.instanceMethod yX2_isComingBackOn, Cond.selects RX2 yX2_isComingBackOn yX2_isComingBackOn, Cond.code yX2_isComingBackOn cX2_isComingBackOn 2 (some .boolean)]
def wsX3_tier : List Cond := .code yX3_tier cX3_tier 2 (some .int) :: ((wsX3_tier_r1 ++ (wsX3_tier_r2 ++ wsX3_tier_r3)) ++ wsX30 ++ wsJx4a65c0 ++ wsX20 ++ (vx_atS RX3 183 "java/lang/IndexOutOfBoundsException" ["java/lang/RuntimeException", "java/lang/Exception"]).filter goodWord)
def wsX3_coins_r1 : List Cond := [Cond.fieldLink RX3 156 "HoldServer$Department" "coins" "I", Cond.methodLink RX3 58 yX3_departmentNumbered, Cond.instanceMethod yX3_departmentNumbered, Cond.selects RX3 yX3_departmentNumbered yX3_departmentNumbered, Cond.initialized RX3, Cond.code yX3_departmentNumbered cX3_departmentNumbered 2 (some (.object "HoldServer$Department")), Cond.classLink RX3 179 "java/lang/IndexOutOfBoundsException", Cond.initialized "java/lang/IndexOutOfBoundsException", Cond.fieldLink RX3 19 "HoldServer" "departments" "Ljava/util/ArrayList;", Cond.classLink RX3 31 "HoldServer$Department", Cond.methodLink RX3 43 yJx4a65c_size_8abf5, Cond.instanceMethod yJx4a65c_size_8abf5, Cond.selects RJx4a65c yJx4a65c_size_8abf5 yJx4a65c_size_8abf5, Cond.initialized RJx4a65c, Cond.code yJx4a65c_size_8abf5 cJx4a65c_size_8abf5 1 (some .int), Cond.fieldLink RJx4a65c 48 "java/util/ArrayList" "size" "I", Cond.methodLink RX3 149 yJx4a65c_get_915e3, Cond.instanceMethod yJx4a65c_get_915e3, Cond.selects RJx4a65c yJx4a65c_get_915e3 yJx4a65c_get_915e3, Cond.code yJx4a65c_get_915e3 cJx4a65c_get_915e3 2 (some (.object "java/lang/Object")), Cond.methodLink RJx4a65c 118 yJ15_checkIndex_7cf53, Cond.static yJ15_checkIndex_7cf53, Cond.initialized RJ15, Cond.code yJ15_checkIndex_7cf53 cJ15_checkIndex_7cf53 2 (some .int)]
def wsX3_coins_r2 : List Cond := [Cond.methodLink RJ15 105 yJ3_checkIndex_8e157, Cond.static yJ3_checkIndex_8e157, Cond.initialized RJ3, Cond.code yJ3_checkIndex_8e157 cJ3_checkIndex_8e157 3 (some .int), Cond.methodLink RJx4a65c 123 yJx4a65c_elementData_915e3, Cond.instanceMethod yJx4a65c_elementData_915e3, Cond.selects RJx4a65c yJx4a65c_elementData_915e3 yJx4a65c_elementData_915e3, Cond.code yJx4a65c_elementData_915e3 cJx4a65c_elementData_915e3 2 (some (.object "java/lang/Object")), Cond.fieldLink RJx4a65c 9 "java/util/ArrayList" "elementData" "[Ljava/lang/Object;"]
def wsX3_coins : List Cond := .code yX3_coins cX3_coins 2 (some .int) :: ((wsX3_coins_r1 ++ wsX3_coins_r2) ++ wsX00 ++ wsX30 ++ wsJx4a65c0 ++ (vx_atS RX3 183 "java/lang/IndexOutOfBoundsException" ["java/lang/RuntimeException", "java/lang/Exception"]).filter goodWord)
def wsX3_bill_r1 : List Cond := [Cond.fieldLink RX3 70 "HoldServer" "day" "I", Cond.methodLink RX3 58 yX3_departmentNumbered, Cond.instanceMethod yX3_departmentNumbered, Cond.selects RX3 yX3_departmentNumbered yX3_departmentNumbered, Cond.initialized RX3, Cond.code yX3_departmentNumbered cX3_departmentNumbered 2 (some (.object "HoldServer$Department")), Cond.classLink RX3 179 "java/lang/IndexOutOfBoundsException", Cond.initialized "java/lang/IndexOutOfBoundsException", Cond.fieldLink RX3 19 "HoldServer" "departments" "Ljava/util/ArrayList;", Cond.classLink RX3 31 "HoldServer$Department", Cond.methodLink RX3 43 yJx4a65c_size_8abf5, Cond.instanceMethod yJx4a65c_size_8abf5, Cond.selects RJx4a65c yJx4a65c_size_8abf5 yJx4a65c_size_8abf5, Cond.initialized RJx4a65c, Cond.code yJx4a65c_size_8abf5 cJx4a65c_size_8abf5 1 (some .int), Cond.fieldLink RJx4a65c 48 "java/util/ArrayList" "size" "I", Cond.methodLink RX3 149 yJx4a65c_get_915e3, Cond.instanceMethod yJx4a65c_get_915e3, Cond.selects RJx4a65c yJx4a65c_get_915e3 yJx4a65c_get_915e3, Cond.code yJx4a65c_get_915e3 cJx4a65c_get_915e3 2 (some (.object "java/lang/Object")), Cond.methodLink RJx4a65c 118 yJ15_checkIndex_7cf53, Cond.static yJ15_checkIndex_7cf53, Cond.initialized RJ15, Cond.code yJ15_checkIndex_7cf53 cJ15_checkIndex_7cf53 2 (some .int)]
def wsX3_bill_r2 : List Cond := [Cond.methodLink RJ15 105 yJ3_checkIndex_8e157, Cond.static yJ3_checkIndex_8e157, Cond.initialized RJ3, Cond.code yJ3_checkIndex_8e157 cJ3_checkIndex_8e157 3 (some .int), Cond.methodLink RJx4a65c 123 yJx4a65c_elementData_915e3, Cond.instanceMethod yJx4a65c_elementData_915e3, Cond.selects RJx4a65c yJx4a65c_elementData_915e3 yJx4a65c_elementData_915e3, Cond.code yJx4a65c_elementData_915e3 cJx4a65c_elementData_915e3 2 (some (.object "java/lang/Object")), Cond.fieldLink RJx4a65c 9 "java/util/ArrayList" "elementData" "[Ljava/lang/Object;", Cond.methodLink RX3 176 yX0_billOn, Cond.instanceMethod yX0_billOn, Cond.selects RX0 yX0_billOn yX0_billOn, Cond.initialized RX0, Cond.code yX0_billOn cX0_billOn 4 (some .int), Cond.fieldLink RX0 12 "HoldServer$Department" "ownFiles" "Ljava/util/ArrayList;", Cond.classLink RX0 30 "HoldServer$StoredFile", Cond.methodLink RX0 22 yJx4a65c_size_8abf5, Cond.methodLink RX0 26 yJx4a65c_get_915e3, Cond.methodLink RX0 32 yX2_billedOn, Cond.instanceMethod yX2_billedOn, Cond.selects RX2 yX2_billedOn yX2_billedOn, Cond.initialized RX2, Cond.code yX2_billedOn cX2_billedOn 3 (some .int), Cond.fieldLink RX2 22 "HoldServer$StoredFile" "size" "I"]
def wsX3_bill_r3 : List Cond := [Cond.fieldLink RX2 52 "HoldServer$StoredFile" "kept" "I", Cond.methodLink RX2 55 yX2_isGone, Cond.instanceMethod yX2_isGone, Cond.selects RX2 yX2_isGone yX2_isGone, Cond.code yX2_isGone cX2_isGone 1 (some .boolean), Cond.fieldLink RX2 12 "HoldServer$StoredFile" "links" "Ljava/util/ArrayList;", Cond.methodLink RX2 29 yJx4a65c_isEmpty_aae02, Cond.instanceMethod yJx4a65c_isEmpty_aae02, Cond.selects RJx4a65c yJx4a65c_isEmpty_aae02 yJx4a65c_isEmpty_aae02, Cond.code yJx4a65c_isEmpty_aae02 cJx4a65c_isEmpty_aae02 1 (some .boolean), Cond.methodLink RX2 62 yX2_tierOn, Cond.instanceMethod yX2_tierOn, Cond.selects RX2 yX2_tierOn yX2_tierOn, Cond.code yX2_tierOn cX2_tierOn 3 (some .int), Cond.fieldLink RX2 26 "HoldServer$StoredFile" "usedOn" "I", Cond.methodLink RX2 58 yX2_isComingBackOn, Cond.instanceMethod yX2_isComingBackOn, Cond.selects RX2 yX2_isComingBackOn yX2_isComingBackOn, Cond.code yX2_isComingBackOn cX2_isComingBackOn 2 (some .boolean)]
def wsX3_bill : List Cond := .code yX3_bill cX3_bill 2 (some .int) :: ((wsX3_bill_r1 ++ (wsX3_bill_r2 ++ wsX3_bill_r3)) ++ wsX30 ++ wsJx4a65c0 ++ wsX00 ++ wsX20 ++ (vx_atS RX3 183 "java/lang/IndexOutOfBoundsException" ["java/lang/RuntimeException", "java/lang/Exception"]).filter goodWord)
def wsX4_init : List Cond := .code yX4_init cX4_init 2 none :: ([.methodLink RX4 1 objectInit, .instanceMethod objectInit, .code objectInit ⟨#[0xb1]⟩ 1 none, .arrayClass .int, .fieldLink RX4 7 "HoldServerModel" "parent" "[I", .fieldLink RX4 13 "HoldServerModel" "quota" "[I", .fieldLink RX4 16 "HoldServerModel" "directories" "I", .fieldLink RX4 20 "HoldServerModel" "department" "[I", .fieldLink RX4 23 "HoldServerModel" "size" "[I", .fieldLink RX4 26 "HoldServerModel" "link" "[I", .fieldLink RX4 29 "HoldServerModel" "links" "[I", .fieldLink RX4 32 "HoldServerModel" "kept" "[I", .fieldLink RX4 35 "HoldServerModel" "holders" "[I", .fieldLink RX4 38 "HoldServerModel" "used" "[I", .fieldLink RX4 41 "HoldServerModel" "back" "[I", .fieldLink RX4 44 "HoldServerModel" "coins" "[I"] ++ wsX40)
def wsX4_thrown : List Cond := .code yX4_thrown cX4_thrown 1 (some .int) :: ([.fieldLink RX4 47 "HoldServerModel" "thrown" "I"] ++ wsX40)
def wsX4_in : List Cond := .code yX4_in cX4_in 3 (some .boolean) :: ([])
def wsX4_isFine : List Cond := .code yX4_isFine cX4_isFine 2 (some .boolean) :: ([.fieldLink RX4 47 "HoldServerModel" "thrown" "I"] ++ wsX40)
def wsX4_isDirectory : List Cond := .code yX4_isDirectory cX4_isDirectory 2 (some .boolean) :: ([.fieldLink RX4 16 "HoldServerModel" "directories" "I", .methodLink RX4 50 yX4_in, .static yX4_in, .initialized RX4, .code yX4_in cX4_in 3 (some .boolean)] ++ wsX40)
def wsX4_isFile : List Cond := .code yX4_isFile cX4_isFile 2 (some .boolean) :: ([.fieldLink RX4 54 "HoldServerModel" "files" "I", .methodLink RX4 50 yX4_in, .static yX4_in, .initialized RX4, .code yX4_in cX4_in 3 (some .boolean)] ++ wsX40)
def wsX4_isDepartment : List Cond := .code yX4_isDepartment cX4_isDepartment 1 (some .boolean) :: ([.methodLink RX4 50 yX4_in, .static yX4_in, .initialized RX4, .code yX4_in cX4_in 3 (some .boolean)])
def wsX4_addDirectory : List Cond := .code yX4_addDirectory cX4_addDirectory 3 (some .int) :: ([.constant RX4 61 (100000), .fieldLink RX4 16 "HoldServerModel" "directories" "I", .fieldLink RX4 7 "HoldServerModel" "parent" "[I", .fieldLink RX4 13 "HoldServerModel" "quota" "[I", .methodLink RX4 57 yX4_isDirectory, .instanceMethod yX4_isDirectory, .selects RX4 yX4_isDirectory yX4_isDirectory, .initialized RX4, .code yX4_isDirectory cX4_isDirectory 2 (some .boolean), .methodLink RX4 50 yX4_in, .static yX4_in, .code yX4_in cX4_in 3 (some .boolean), .methodLink RX4 62 yX4_isFine, .instanceMethod yX4_isFine, .selects RX4 yX4_isFine yX4_isFine, .code yX4_isFine cX4_isFine 2 (some .boolean), .fieldLink RX4 47 "HoldServerModel" "thrown" "I"] ++ wsX40)
def wsX4_setQuota : List Cond := .code yX4_setQuota cX4_setQuota 4 (some .int) :: ([.constant RX4 61 (100000), .fieldLink RX4 13 "HoldServerModel" "quota" "[I", .methodLink RX4 57 yX4_isDirectory, .instanceMethod yX4_isDirectory, .selects RX4 yX4_isDirectory yX4_isDirectory, .initialized RX4, .code yX4_isDirectory cX4_isDirectory 2 (some .boolean), .fieldLink RX4 16 "HoldServerModel" "directories" "I", .methodLink RX4 50 yX4_in, .static yX4_in, .code yX4_in cX4_in 3 (some .boolean), .methodLink RX4 62 yX4_isFine, .instanceMethod yX4_isFine, .selects RX4 yX4_isFine yX4_isFine, .code yX4_isFine cX4_isFine 2 (some .boolean), .fieldLink RX4 47 "HoldServerModel" "thrown" "I"] ++ wsX40)
def wsX4_homeOf : List Cond := .code yX4_homeOf cX4_homeOf 2 (some .int) :: ([.fieldLink RX4 29 "HoldServerModel" "links" "[I", .fieldLink RX4 26 "HoldServerModel" "link" "[I"] ++ wsX40)
def wsX4_isOver : List Cond := .code yX4_isOver cX4_isOver 4 (some .boolean) :: ([.fieldLink RX4 7 "HoldServerModel" "parent" "[I"] ++ wsX40)
def wsX4_usageOf : List Cond := .code yX4_usageOf cX4_usageOf 4 (some .int) :: ([.fieldLink RX4 54 "HoldServerModel" "files" "I", .fieldLink RX4 29 "HoldServerModel" "links" "[I", .fieldLink RX4 23 "HoldServerModel" "size" "[I", .methodLink RX4 65 yX4_homeOf, .instanceMethod yX4_homeOf, .selects RX4 yX4_homeOf yX4_homeOf, .initialized RX4, .code yX4_homeOf cX4_homeOf 2 (some .int), .fieldLink RX4 26 "HoldServerModel" "link" "[I", .methodLink RX4 69 yX4_isOver, .instanceMethod yX4_isOver, .selects RX4 yX4_isOver yX4_isOver, .code yX4_isOver cX4_isOver 4 (some .boolean), .fieldLink RX4 7 "HoldServerModel" "parent" "[I"] ++ wsX40)
def wsX4_canGrow : List Cond := .code yX4_canGrow cX4_canGrow 6 (some .boolean) :: ([.fieldLink RX4 44 "HoldServerModel" "coins" "[I", .fieldLink RX4 13 "HoldServerModel" "quota" "[I", .fieldLink RX4 7 "HoldServerModel" "parent" "[I", .methodLink RX4 73 yX4_usageOf, .instanceMethod yX4_usageOf, .selects RX4 yX4_usageOf yX4_usageOf, .initialized RX4, .code yX4_usageOf cX4_usageOf 4 (some .int), .fieldLink RX4 54 "HoldServerModel" "files" "I", .fieldLink RX4 29 "HoldServerModel" "links" "[I", .fieldLink RX4 23 "HoldServerModel" "size" "[I", .methodLink RX4 65 yX4_homeOf, .instanceMethod yX4_homeOf, .selects RX4 yX4_homeOf yX4_homeOf, .code yX4_homeOf cX4_homeOf 2 (some .int), .fieldLink RX4 26 "HoldServerModel" "link" "[I", .methodLink RX4 69 yX4_isOver, .instanceMethod yX4_isOver, .selects RX4 yX4_isOver yX4_isOver, .code yX4_isOver cX4_isOver 4 (some .boolean)] ++ wsX40)
def wsX4_make_r1 : List Cond := [Cond.fieldLink RX4 54 "HoldServerModel" "files" "I", Cond.fieldLink RX4 20 "HoldServerModel" "department" "[I", Cond.fieldLink RX4 23 "HoldServerModel" "size" "[I", Cond.fieldLink RX4 26 "HoldServerModel" "link" "[I", Cond.fieldLink RX4 29 "HoldServerModel" "links" "[I", Cond.fieldLink RX4 38 "HoldServerModel" "used" "[I", Cond.fieldLink RX4 82 "HoldServerModel" "day" "I", Cond.fieldLink RX4 41 "HoldServerModel" "back" "[I", Cond.methodLink RX4 76 yX4_isDepartment, Cond.static yX4_isDepartment, Cond.initialized RX4, Cond.code yX4_isDepartment cX4_isDepartment 1 (some .boolean), Cond.methodLink RX4 50 yX4_in, Cond.static yX4_in, Cond.code yX4_in cX4_in 3 (some .boolean), Cond.methodLink RX4 57 yX4_isDirectory, Cond.instanceMethod yX4_isDirectory, Cond.selects RX4 yX4_isDirectory yX4_isDirectory, Cond.code yX4_isDirectory cX4_isDirectory 2 (some .boolean), Cond.fieldLink RX4 16 "HoldServerModel" "directories" "I", Cond.methodLink RX4 79 yX4_canGrow, Cond.instanceMethod yX4_canGrow, Cond.selects RX4 yX4_canGrow yX4_canGrow, Cond.code yX4_canGrow cX4_canGrow 6 (some .boolean)]
def wsX4_make_r2 : List Cond := [Cond.fieldLink RX4 44 "HoldServerModel" "coins" "[I", Cond.fieldLink RX4 13 "HoldServerModel" "quota" "[I", Cond.fieldLink RX4 7 "HoldServerModel" "parent" "[I", Cond.methodLink RX4 73 yX4_usageOf, Cond.instanceMethod yX4_usageOf, Cond.selects RX4 yX4_usageOf yX4_usageOf, Cond.code yX4_usageOf cX4_usageOf 4 (some .int), Cond.methodLink RX4 65 yX4_homeOf, Cond.instanceMethod yX4_homeOf, Cond.selects RX4 yX4_homeOf yX4_homeOf, Cond.code yX4_homeOf cX4_homeOf 2 (some .int), Cond.methodLink RX4 69 yX4_isOver, Cond.instanceMethod yX4_isOver, Cond.selects RX4 yX4_isOver yX4_isOver, Cond.code yX4_isOver cX4_isOver 4 (some .boolean), Cond.methodLink RX4 62 yX4_isFine, Cond.instanceMethod yX4_isFine, Cond.selects RX4 yX4_isFine yX4_isFine, Cond.code yX4_isFine cX4_isFine 2 (some .boolean), Cond.fieldLink RX4 47 "HoldServerModel" "thrown" "I"]
def wsX4_make : List Cond := .code yX4_make cX4_make 5 (some .int) :: ((wsX4_make_r1 ++ wsX4_make_r2) ++ wsX40)
def wsX4_linkTo : List Cond := .code yX4_linkTo cX4_linkTo 5 (some .int) :: ([.fieldLink RX4 29 "HoldServerModel" "links" "[I", .fieldLink RX4 26 "HoldServerModel" "link" "[I"] ++ wsX40)
def wsX4_link_r1 : List Cond := [Cond.fieldLink RX4 29 "HoldServerModel" "links" "[I", Cond.fieldLink RX4 26 "HoldServerModel" "link" "[I", Cond.methodLink RX4 85 yX4_isFile, Cond.instanceMethod yX4_isFile, Cond.selects RX4 yX4_isFile yX4_isFile, Cond.initialized RX4, Cond.code yX4_isFile cX4_isFile 2 (some .boolean), Cond.fieldLink RX4 54 "HoldServerModel" "files" "I", Cond.methodLink RX4 50 yX4_in, Cond.static yX4_in, Cond.code yX4_in cX4_in 3 (some .boolean), Cond.methodLink RX4 57 yX4_isDirectory, Cond.instanceMethod yX4_isDirectory, Cond.selects RX4 yX4_isDirectory yX4_isDirectory, Cond.code yX4_isDirectory cX4_isDirectory 2 (some .boolean), Cond.fieldLink RX4 16 "HoldServerModel" "directories" "I", Cond.methodLink RX4 88 yX4_linkTo, Cond.instanceMethod yX4_linkTo, Cond.selects RX4 yX4_linkTo yX4_linkTo, Cond.code yX4_linkTo cX4_linkTo 5 (some .int), Cond.methodLink RX4 62 yX4_isFine, Cond.instanceMethod yX4_isFine, Cond.selects RX4 yX4_isFine yX4_isFine, Cond.code yX4_isFine cX4_isFine 2 (some .boolean)]
def wsX4_link_r2 : List Cond := [Cond.fieldLink RX4 47 "HoldServerModel" "thrown" "I"]
def wsX4_link : List Cond := .code yX4_link cX4_link 4 (some .int) :: ((wsX4_link_r1 ++ wsX4_link_r2) ++ wsX40)
def wsX4_unlink_r1 : List Cond := [Cond.fieldLink RX4 29 "HoldServerModel" "links" "[I", Cond.fieldLink RX4 26 "HoldServerModel" "link" "[I", Cond.fieldLink RX4 32 "HoldServerModel" "kept" "[I", Cond.fieldLink RX4 35 "HoldServerModel" "holders" "[I", Cond.fieldLink RX4 23 "HoldServerModel" "size" "[I", Cond.fieldLink RX4 41 "HoldServerModel" "back" "[I", Cond.methodLink RX4 85 yX4_isFile, Cond.instanceMethod yX4_isFile, Cond.selects RX4 yX4_isFile yX4_isFile, Cond.initialized RX4, Cond.code yX4_isFile cX4_isFile 2 (some .boolean), Cond.fieldLink RX4 54 "HoldServerModel" "files" "I", Cond.methodLink RX4 50 yX4_in, Cond.static yX4_in, Cond.code yX4_in cX4_in 3 (some .boolean), Cond.methodLink RX4 57 yX4_isDirectory, Cond.instanceMethod yX4_isDirectory, Cond.selects RX4 yX4_isDirectory yX4_isDirectory, Cond.code yX4_isDirectory cX4_isDirectory 2 (some .boolean), Cond.fieldLink RX4 16 "HoldServerModel" "directories" "I", Cond.methodLink RX4 88 yX4_linkTo, Cond.instanceMethod yX4_linkTo, Cond.selects RX4 yX4_linkTo yX4_linkTo, Cond.code yX4_linkTo cX4_linkTo 5 (some .int)]
def wsX4_unlink_r2 : List Cond := [Cond.methodLink RX4 62 yX4_isFine, Cond.instanceMethod yX4_isFine, Cond.selects RX4 yX4_isFine yX4_isFine, Cond.code yX4_isFine cX4_isFine 2 (some .boolean), Cond.fieldLink RX4 47 "HoldServerModel" "thrown" "I"]
def wsX4_unlink : List Cond := .code yX4_unlink cX4_unlink 6 (some .int) :: ((wsX4_unlink_r1 ++ wsX4_unlink_r2) ++ wsX40)
def wsX4_tierOf : List Cond := .code yX4_tierOf cX4_tierOf 3 (some .int) :: ([.fieldLink RX4 82 "HoldServerModel" "day" "I", .fieldLink RX4 38 "HoldServerModel" "used" "[I", .fieldLink RX4 29 "HoldServerModel" "links" "[I"] ++ wsX40)
def wsX4_write_r1 : List Cond := [Cond.fieldLink RX4 29 "HoldServerModel" "links" "[I", Cond.fieldLink RX4 23 "HoldServerModel" "size" "[I", Cond.fieldLink RX4 20 "HoldServerModel" "department" "[I", Cond.fieldLink RX4 32 "HoldServerModel" "kept" "[I", Cond.fieldLink RX4 35 "HoldServerModel" "holders" "[I", Cond.fieldLink RX4 38 "HoldServerModel" "used" "[I", Cond.fieldLink RX4 82 "HoldServerModel" "day" "I", Cond.methodLink RX4 85 yX4_isFile, Cond.instanceMethod yX4_isFile, Cond.selects RX4 yX4_isFile yX4_isFile, Cond.initialized RX4, Cond.code yX4_isFile cX4_isFile 2 (some .boolean), Cond.fieldLink RX4 54 "HoldServerModel" "files" "I", Cond.methodLink RX4 50 yX4_in, Cond.static yX4_in, Cond.code yX4_in cX4_in 3 (some .boolean), Cond.methodLink RX4 92 yX4_tierOf, Cond.instanceMethod yX4_tierOf, Cond.selects RX4 yX4_tierOf yX4_tierOf, Cond.code yX4_tierOf cX4_tierOf 3 (some .int), Cond.methodLink RX4 65 yX4_homeOf, Cond.instanceMethod yX4_homeOf, Cond.selects RX4 yX4_homeOf yX4_homeOf, Cond.code yX4_homeOf cX4_homeOf 2 (some .int)]
def wsX4_write_r2 : List Cond := [Cond.fieldLink RX4 26 "HoldServerModel" "link" "[I", Cond.methodLink RX4 79 yX4_canGrow, Cond.instanceMethod yX4_canGrow, Cond.selects RX4 yX4_canGrow yX4_canGrow, Cond.code yX4_canGrow cX4_canGrow 6 (some .boolean), Cond.fieldLink RX4 44 "HoldServerModel" "coins" "[I", Cond.fieldLink RX4 13 "HoldServerModel" "quota" "[I", Cond.fieldLink RX4 7 "HoldServerModel" "parent" "[I", Cond.methodLink RX4 73 yX4_usageOf, Cond.instanceMethod yX4_usageOf, Cond.selects RX4 yX4_usageOf yX4_usageOf, Cond.code yX4_usageOf cX4_usageOf 4 (some .int), Cond.methodLink RX4 69 yX4_isOver, Cond.instanceMethod yX4_isOver, Cond.selects RX4 yX4_isOver yX4_isOver, Cond.code yX4_isOver cX4_isOver 4 (some .boolean), Cond.methodLink RX4 62 yX4_isFine, Cond.instanceMethod yX4_isFine, Cond.selects RX4 yX4_isFine yX4_isFine, Cond.code yX4_isFine cX4_isFine 2 (some .boolean), Cond.fieldLink RX4 47 "HoldServerModel" "thrown" "I"]
def wsX4_write : List Cond := .code yX4_write cX4_write 4 (some .int) :: ((wsX4_write_r1 ++ wsX4_write_r2) ++ wsX40)
def wsX4_read_r1 : List Cond := [Cond.fieldLink RX4 29 "HoldServerModel" "links" "[I", Cond.fieldLink RX4 23 "HoldServerModel" "size" "[I", Cond.fieldLink RX4 41 "HoldServerModel" "back" "[I", Cond.fieldLink RX4 44 "HoldServerModel" "coins" "[I", Cond.fieldLink RX4 20 "HoldServerModel" "department" "[I", Cond.fieldLink RX4 38 "HoldServerModel" "used" "[I", Cond.fieldLink RX4 82 "HoldServerModel" "day" "I", Cond.methodLink RX4 85 yX4_isFile, Cond.instanceMethod yX4_isFile, Cond.selects RX4 yX4_isFile yX4_isFile, Cond.initialized RX4, Cond.code yX4_isFile cX4_isFile 2 (some .boolean), Cond.fieldLink RX4 54 "HoldServerModel" "files" "I", Cond.methodLink RX4 50 yX4_in, Cond.static yX4_in, Cond.code yX4_in cX4_in 3 (some .boolean), Cond.methodLink RX4 92 yX4_tierOf, Cond.instanceMethod yX4_tierOf, Cond.selects RX4 yX4_tierOf yX4_tierOf, Cond.code yX4_tierOf cX4_tierOf 3 (some .int), Cond.methodLink RX4 62 yX4_isFine, Cond.instanceMethod yX4_isFine, Cond.selects RX4 yX4_isFine yX4_isFine, Cond.code yX4_isFine cX4_isFine 2 (some .boolean)]
def wsX4_read_r2 : List Cond := [Cond.fieldLink RX4 47 "HoldServerModel" "thrown" "I"]
def wsX4_read : List Cond := .code yX4_read cX4_read 4 (some .int) :: ((wsX4_read_r1 ++ wsX4_read_r2) ++ wsX40)
def wsX4_many : List Cond := .code yX4_many cX4_many 3 (some .int) :: ([])
def wsX4_hold : List Cond := .code yX4_hold cX4_hold 3 (some .int) :: ([.fieldLink RX4 29 "HoldServerModel" "links" "[I", .fieldLink RX4 35 "HoldServerModel" "holders" "[I", .methodLink RX4 50 yX4_in, .static yX4_in, .initialized RX4, .code yX4_in cX4_in 3 (some .boolean), .methodLink RX4 85 yX4_isFile, .instanceMethod yX4_isFile, .selects RX4 yX4_isFile yX4_isFile, .code yX4_isFile cX4_isFile 2 (some .boolean), .fieldLink RX4 54 "HoldServerModel" "files" "I", .methodLink RX4 62 yX4_isFine, .instanceMethod yX4_isFine, .selects RX4 yX4_isFine yX4_isFine, .code yX4_isFine cX4_isFine 2 (some .boolean), .fieldLink RX4 47 "HoldServerModel" "thrown" "I", .methodLink RX4 95 yX4_many, .static yX4_many, .code yX4_many cX4_many 3 (some .int)] ++ wsX40)
def wsX4_release : List Cond := .code yX4_release cX4_release 4 (some .int) :: ([.fieldLink RX4 54 "HoldServerModel" "files" "I", .fieldLink RX4 35 "HoldServerModel" "holders" "[I", .fieldLink RX4 32 "HoldServerModel" "kept" "[I", .methodLink RX4 50 yX4_in, .static yX4_in, .initialized RX4, .code yX4_in cX4_in 3 (some .boolean), .methodLink RX4 62 yX4_isFine, .instanceMethod yX4_isFine, .selects RX4 yX4_isFine yX4_isFine, .code yX4_isFine cX4_isFine 2 (some .boolean), .fieldLink RX4 47 "HoldServerModel" "thrown" "I"] ++ wsX40)
def wsX4_fund : List Cond := .code yX4_fund cX4_fund 4 (some .int) :: ([.fieldLink RX4 44 "HoldServerModel" "coins" "[I", .constant RX4 98 (1000000), .methodLink RX4 76 yX4_isDepartment, .static yX4_isDepartment, .initialized RX4, .code yX4_isDepartment cX4_isDepartment 1 (some .boolean), .methodLink RX4 50 yX4_in, .static yX4_in, .code yX4_in cX4_in 3 (some .boolean), .methodLink RX4 62 yX4_isFine, .instanceMethod yX4_isFine, .selects RX4 yX4_isFine yX4_isFine, .code yX4_isFine cX4_isFine 2 (some .boolean), .fieldLink RX4 47 "HoldServerModel" "thrown" "I"] ++ wsX40)
def wsX4_billOf : List Cond := .code yX4_billOf cX4_billOf 4 (some .int) :: ([.fieldLink RX4 54 "HoldServerModel" "files" "I", .fieldLink RX4 20 "HoldServerModel" "department" "[I", .fieldLink RX4 32 "HoldServerModel" "kept" "[I", .fieldLink RX4 29 "HoldServerModel" "links" "[I", .fieldLink RX4 23 "HoldServerModel" "size" "[I", .methodLink RX4 92 yX4_tierOf, .instanceMethod yX4_tierOf, .selects RX4 yX4_tierOf yX4_tierOf, .initialized RX4, .code yX4_tierOf cX4_tierOf 3 (some .int), .fieldLink RX4 82 "HoldServerModel" "day" "I", .fieldLink RX4 38 "HoldServerModel" "used" "[I"] ++ wsX40)
def wsX4_goesDay : List Cond := .code yX4_goesDay cX4_goesDay 4 (some .int) :: ([.fieldLink RX4 44 "HoldServerModel" "coins" "[I", .fieldLink RX4 82 "HoldServerModel" "day" "I", .fieldLink RX4 54 "HoldServerModel" "files" "I", .fieldLink RX4 41 "HoldServerModel" "back" "[I", .fieldLink RX4 38 "HoldServerModel" "used" "[I", .methodLink RX4 99 yX4_billOf, .instanceMethod yX4_billOf, .selects RX4 yX4_billOf yX4_billOf, .initialized RX4, .code yX4_billOf cX4_billOf 4 (some .int), .fieldLink RX4 20 "HoldServerModel" "department" "[I", .fieldLink RX4 32 "HoldServerModel" "kept" "[I", .fieldLink RX4 29 "HoldServerModel" "links" "[I", .fieldLink RX4 23 "HoldServerModel" "size" "[I", .methodLink RX4 92 yX4_tierOf, .instanceMethod yX4_tierOf, .selects RX4 yX4_tierOf yX4_tierOf, .code yX4_tierOf cX4_tierOf 3 (some .int)] ++ wsX40)
def wsX4_pass_r1 : List Cond := [Cond.fieldLink RX4 82 "HoldServerModel" "day" "I", Cond.methodLink RX4 50 yX4_in, Cond.static yX4_in, Cond.initialized RX4, Cond.code yX4_in cX4_in 3 (some .boolean), Cond.methodLink RX4 62 yX4_isFine, Cond.instanceMethod yX4_isFine, Cond.selects RX4 yX4_isFine yX4_isFine, Cond.code yX4_isFine cX4_isFine 2 (some .boolean), Cond.fieldLink RX4 47 "HoldServerModel" "thrown" "I", Cond.methodLink RX4 102 yX4_goesDay, Cond.instanceMethod yX4_goesDay, Cond.selects RX4 yX4_goesDay yX4_goesDay, Cond.code yX4_goesDay cX4_goesDay 4 (some .int), Cond.fieldLink RX4 44 "HoldServerModel" "coins" "[I", Cond.fieldLink RX4 54 "HoldServerModel" "files" "I", Cond.fieldLink RX4 41 "HoldServerModel" "back" "[I", Cond.fieldLink RX4 38 "HoldServerModel" "used" "[I", Cond.methodLink RX4 99 yX4_billOf, Cond.instanceMethod yX4_billOf, Cond.selects RX4 yX4_billOf yX4_billOf, Cond.code yX4_billOf cX4_billOf 4 (some .int), Cond.fieldLink RX4 20 "HoldServerModel" "department" "[I", Cond.fieldLink RX4 32 "HoldServerModel" "kept" "[I"]
def wsX4_pass_r2 : List Cond := [Cond.fieldLink RX4 29 "HoldServerModel" "links" "[I", Cond.fieldLink RX4 23 "HoldServerModel" "size" "[I", Cond.methodLink RX4 92 yX4_tierOf, Cond.instanceMethod yX4_tierOf, Cond.selects RX4 yX4_tierOf yX4_tierOf, Cond.code yX4_tierOf cX4_tierOf 3 (some .int)]
def wsX4_pass : List Cond := .code yX4_pass cX4_pass 4 (some .int) :: ((wsX4_pass_r1 ++ wsX4_pass_r2) ++ wsX40)
def wsX4_day : List Cond := .code yX4_day cX4_day 1 (some .int) :: ([.fieldLink RX4 47 "HoldServerModel" "thrown" "I", .fieldLink RX4 82 "HoldServerModel" "day" "I"] ++ wsX40)
def wsX4_directories : List Cond := .code yX4_directories cX4_directories 1 (some .int) :: ([.fieldLink RX4 47 "HoldServerModel" "thrown" "I", .fieldLink RX4 16 "HoldServerModel" "directories" "I"] ++ wsX40)
def wsX4_files : List Cond := .code yX4_files cX4_files 1 (some .int) :: ([.fieldLink RX4 47 "HoldServerModel" "thrown" "I", .fieldLink RX4 54 "HoldServerModel" "files" "I"] ++ wsX40)
def wsX4_usage_r1 : List Cond := [Cond.methodLink RX4 57 yX4_isDirectory, Cond.instanceMethod yX4_isDirectory, Cond.selects RX4 yX4_isDirectory yX4_isDirectory, Cond.initialized RX4, Cond.code yX4_isDirectory cX4_isDirectory 2 (some .boolean), Cond.fieldLink RX4 16 "HoldServerModel" "directories" "I", Cond.methodLink RX4 50 yX4_in, Cond.static yX4_in, Cond.code yX4_in cX4_in 3 (some .boolean), Cond.methodLink RX4 62 yX4_isFine, Cond.instanceMethod yX4_isFine, Cond.selects RX4 yX4_isFine yX4_isFine, Cond.code yX4_isFine cX4_isFine 2 (some .boolean), Cond.fieldLink RX4 47 "HoldServerModel" "thrown" "I", Cond.methodLink RX4 73 yX4_usageOf, Cond.instanceMethod yX4_usageOf, Cond.selects RX4 yX4_usageOf yX4_usageOf, Cond.code yX4_usageOf cX4_usageOf 4 (some .int), Cond.fieldLink RX4 54 "HoldServerModel" "files" "I", Cond.fieldLink RX4 29 "HoldServerModel" "links" "[I", Cond.fieldLink RX4 23 "HoldServerModel" "size" "[I", Cond.methodLink RX4 65 yX4_homeOf, Cond.instanceMethod yX4_homeOf, Cond.selects RX4 yX4_homeOf yX4_homeOf]
def wsX4_usage_r2 : List Cond := [Cond.code yX4_homeOf cX4_homeOf 2 (some .int), Cond.fieldLink RX4 26 "HoldServerModel" "link" "[I", Cond.methodLink RX4 69 yX4_isOver, Cond.instanceMethod yX4_isOver, Cond.selects RX4 yX4_isOver yX4_isOver, Cond.code yX4_isOver cX4_isOver 4 (some .boolean), Cond.fieldLink RX4 7 "HoldServerModel" "parent" "[I"]
def wsX4_usage : List Cond := .code yX4_usage cX4_usage 2 (some .int) :: ((wsX4_usage_r1 ++ wsX4_usage_r2) ++ wsX40)
def wsX4_usageByWalking_r1 : List Cond := [Cond.methodLink RX4 57 yX4_isDirectory, Cond.instanceMethod yX4_isDirectory, Cond.selects RX4 yX4_isDirectory yX4_isDirectory, Cond.initialized RX4, Cond.code yX4_isDirectory cX4_isDirectory 2 (some .boolean), Cond.fieldLink RX4 16 "HoldServerModel" "directories" "I", Cond.methodLink RX4 50 yX4_in, Cond.static yX4_in, Cond.code yX4_in cX4_in 3 (some .boolean), Cond.methodLink RX4 62 yX4_isFine, Cond.instanceMethod yX4_isFine, Cond.selects RX4 yX4_isFine yX4_isFine, Cond.code yX4_isFine cX4_isFine 2 (some .boolean), Cond.fieldLink RX4 47 "HoldServerModel" "thrown" "I", Cond.methodLink RX4 73 yX4_usageOf, Cond.instanceMethod yX4_usageOf, Cond.selects RX4 yX4_usageOf yX4_usageOf, Cond.code yX4_usageOf cX4_usageOf 4 (some .int), Cond.fieldLink RX4 54 "HoldServerModel" "files" "I", Cond.fieldLink RX4 29 "HoldServerModel" "links" "[I", Cond.fieldLink RX4 23 "HoldServerModel" "size" "[I", Cond.methodLink RX4 65 yX4_homeOf, Cond.instanceMethod yX4_homeOf, Cond.selects RX4 yX4_homeOf yX4_homeOf]
def wsX4_usageByWalking_r2 : List Cond := [Cond.code yX4_homeOf cX4_homeOf 2 (some .int), Cond.fieldLink RX4 26 "HoldServerModel" "link" "[I", Cond.methodLink RX4 69 yX4_isOver, Cond.instanceMethod yX4_isOver, Cond.selects RX4 yX4_isOver yX4_isOver, Cond.code yX4_isOver cX4_isOver 4 (some .boolean), Cond.fieldLink RX4 7 "HoldServerModel" "parent" "[I"]
def wsX4_usageByWalking : List Cond := .code yX4_usageByWalking cX4_usageByWalking 2 (some .int) :: ((wsX4_usageByWalking_r1 ++ wsX4_usageByWalking_r2) ++ wsX40)
def wsX4_size : List Cond := .code yX4_size cX4_size 2 (some .int) :: ([.fieldLink RX4 23 "HoldServerModel" "size" "[I", .methodLink RX4 85 yX4_isFile, .instanceMethod yX4_isFile, .selects RX4 yX4_isFile yX4_isFile, .initialized RX4, .code yX4_isFile cX4_isFile 2 (some .boolean), .fieldLink RX4 54 "HoldServerModel" "files" "I", .methodLink RX4 50 yX4_in, .static yX4_in, .code yX4_in cX4_in 3 (some .boolean), .methodLink RX4 62 yX4_isFine, .instanceMethod yX4_isFine, .selects RX4 yX4_isFine yX4_isFine, .code yX4_isFine cX4_isFine 2 (some .boolean), .fieldLink RX4 47 "HoldServerModel" "thrown" "I"] ++ wsX40)
def wsX4_home : List Cond := .code yX4_home cX4_home 2 (some .int) :: ([.methodLink RX4 85 yX4_isFile, .instanceMethod yX4_isFile, .selects RX4 yX4_isFile yX4_isFile, .initialized RX4, .code yX4_isFile cX4_isFile 2 (some .boolean), .fieldLink RX4 54 "HoldServerModel" "files" "I", .methodLink RX4 50 yX4_in, .static yX4_in, .code yX4_in cX4_in 3 (some .boolean), .methodLink RX4 62 yX4_isFine, .instanceMethod yX4_isFine, .selects RX4 yX4_isFine yX4_isFine, .code yX4_isFine cX4_isFine 2 (some .boolean), .fieldLink RX4 47 "HoldServerModel" "thrown" "I", .methodLink RX4 65 yX4_homeOf, .instanceMethod yX4_homeOf, .selects RX4 yX4_homeOf yX4_homeOf, .code yX4_homeOf cX4_homeOf 2 (some .int), .fieldLink RX4 29 "HoldServerModel" "links" "[I", .fieldLink RX4 26 "HoldServerModel" "link" "[I"] ++ wsX40)
def wsX4_kept : List Cond := .code yX4_kept cX4_kept 2 (some .int) :: ([.fieldLink RX4 32 "HoldServerModel" "kept" "[I", .methodLink RX4 85 yX4_isFile, .instanceMethod yX4_isFile, .selects RX4 yX4_isFile yX4_isFile, .initialized RX4, .code yX4_isFile cX4_isFile 2 (some .boolean), .fieldLink RX4 54 "HoldServerModel" "files" "I", .methodLink RX4 50 yX4_in, .static yX4_in, .code yX4_in cX4_in 3 (some .boolean), .methodLink RX4 62 yX4_isFine, .instanceMethod yX4_isFine, .selects RX4 yX4_isFine yX4_isFine, .code yX4_isFine cX4_isFine 2 (some .boolean), .fieldLink RX4 47 "HoldServerModel" "thrown" "I"] ++ wsX40)
def wsX4_holders : List Cond := .code yX4_holders cX4_holders 2 (some .int) :: ([.fieldLink RX4 35 "HoldServerModel" "holders" "[I", .methodLink RX4 85 yX4_isFile, .instanceMethod yX4_isFile, .selects RX4 yX4_isFile yX4_isFile, .initialized RX4, .code yX4_isFile cX4_isFile 2 (some .boolean), .fieldLink RX4 54 "HoldServerModel" "files" "I", .methodLink RX4 50 yX4_in, .static yX4_in, .code yX4_in cX4_in 3 (some .boolean), .methodLink RX4 62 yX4_isFine, .instanceMethod yX4_isFine, .selects RX4 yX4_isFine yX4_isFine, .code yX4_isFine cX4_isFine 2 (some .boolean), .fieldLink RX4 47 "HoldServerModel" "thrown" "I"] ++ wsX40)
def wsX4_tier : List Cond := .code yX4_tier cX4_tier 2 (some .int) :: ([.methodLink RX4 85 yX4_isFile, .instanceMethod yX4_isFile, .selects RX4 yX4_isFile yX4_isFile, .initialized RX4, .code yX4_isFile cX4_isFile 2 (some .boolean), .fieldLink RX4 54 "HoldServerModel" "files" "I", .methodLink RX4 50 yX4_in, .static yX4_in, .code yX4_in cX4_in 3 (some .boolean), .methodLink RX4 62 yX4_isFine, .instanceMethod yX4_isFine, .selects RX4 yX4_isFine yX4_isFine, .code yX4_isFine cX4_isFine 2 (some .boolean), .fieldLink RX4 47 "HoldServerModel" "thrown" "I", .methodLink RX4 92 yX4_tierOf, .instanceMethod yX4_tierOf, .selects RX4 yX4_tierOf yX4_tierOf, .code yX4_tierOf cX4_tierOf 3 (some .int), .fieldLink RX4 82 "HoldServerModel" "day" "I", .fieldLink RX4 38 "HoldServerModel" "used" "[I", .fieldLink RX4 29 "HoldServerModel" "links" "[I"] ++ wsX40)
def wsX4_coins : List Cond := .code yX4_coins cX4_coins 2 (some .int) :: ([.fieldLink RX4 44 "HoldServerModel" "coins" "[I", .methodLink RX4 76 yX4_isDepartment, .static yX4_isDepartment, .initialized RX4, .code yX4_isDepartment cX4_isDepartment 1 (some .boolean), .methodLink RX4 50 yX4_in, .static yX4_in, .code yX4_in cX4_in 3 (some .boolean), .methodLink RX4 62 yX4_isFine, .instanceMethod yX4_isFine, .selects RX4 yX4_isFine yX4_isFine, .code yX4_isFine cX4_isFine 2 (some .boolean), .fieldLink RX4 47 "HoldServerModel" "thrown" "I"] ++ wsX40)
def wsX4_bill_r1 : List Cond := [Cond.methodLink RX4 76 yX4_isDepartment, Cond.static yX4_isDepartment, Cond.initialized RX4, Cond.code yX4_isDepartment cX4_isDepartment 1 (some .boolean), Cond.methodLink RX4 50 yX4_in, Cond.static yX4_in, Cond.code yX4_in cX4_in 3 (some .boolean), Cond.methodLink RX4 62 yX4_isFine, Cond.instanceMethod yX4_isFine, Cond.selects RX4 yX4_isFine yX4_isFine, Cond.code yX4_isFine cX4_isFine 2 (some .boolean), Cond.fieldLink RX4 47 "HoldServerModel" "thrown" "I", Cond.methodLink RX4 99 yX4_billOf, Cond.instanceMethod yX4_billOf, Cond.selects RX4 yX4_billOf yX4_billOf, Cond.code yX4_billOf cX4_billOf 4 (some .int), Cond.fieldLink RX4 54 "HoldServerModel" "files" "I", Cond.fieldLink RX4 20 "HoldServerModel" "department" "[I", Cond.fieldLink RX4 32 "HoldServerModel" "kept" "[I", Cond.fieldLink RX4 29 "HoldServerModel" "links" "[I", Cond.fieldLink RX4 23 "HoldServerModel" "size" "[I", Cond.methodLink RX4 92 yX4_tierOf, Cond.instanceMethod yX4_tierOf, Cond.selects RX4 yX4_tierOf yX4_tierOf]
def wsX4_bill_r2 : List Cond := [Cond.code yX4_tierOf cX4_tierOf 3 (some .int), Cond.fieldLink RX4 82 "HoldServerModel" "day" "I", Cond.fieldLink RX4 38 "HoldServerModel" "used" "[I"]
def wsX4_bill : List Cond := .code yX4_bill cX4_bill 2 (some .int) :: ((wsX4_bill_r1 ++ wsX4_bill_r2) ++ wsX40)
def wsJ9_max_7cf53 : List Cond := .code yJ9_max_7cf53 cJ9_max_7cf53 2 (some .int) :: ([])
def wsJ9_min_7cf53 : List Cond := .code yJ9_min_7cf53 cJ9_min_7cf53 2 (some .int) :: ([])
def wsL_addDirectory_r1 : List Cond := [Cond.classLink RL 13 "java/lang/IndexOutOfBoundsException", Cond.classLink RL 15 "java/lang/IllegalArgumentException", Cond.classLink RL 17 "java/lang/IllegalStateException", Cond.methodLink RL 7 yX3_addDirectory, Cond.instanceMethod yX3_addDirectory, Cond.selects RX3 yX3_addDirectory yX3_addDirectory, Cond.initialized RX3, Cond.code yX3_addDirectory cX3_addDirectory 5 (some .int), Cond.classLink RX3 47 "java/lang/IllegalStateException", Cond.initialized "java/lang/IllegalStateException", Cond.constant RX3 38 (100000), Cond.fieldLink RX3 10 "HoldServer" "directories" "Ljava/util/ArrayList;", Cond.classLink RX3 22 RX1, Cond.instantiable RX1 4, Cond.initialized RX1, Cond.methodLink RX3 34 yX3_directoryNumbered, Cond.instanceMethod yX3_directoryNumbered, Cond.selects RX3 yX3_directoryNumbered yX3_directoryNumbered, Cond.code yX3_directoryNumbered cX3_directoryNumbered 2 (some (.object "HoldServer$Directory")), Cond.classLink RX3 179 "java/lang/IndexOutOfBoundsException", Cond.initialized "java/lang/IndexOutOfBoundsException", Cond.classLink RX3 22 "HoldServer$Directory", Cond.methodLink RX3 43 yJx4a65c_size_8abf5, Cond.instanceMethod yJx4a65c_size_8abf5]
def wsL_addDirectory_r2 : List Cond := [Cond.selects RJx4a65c yJx4a65c_size_8abf5 yJx4a65c_size_8abf5, Cond.initialized RJx4a65c, Cond.code yJx4a65c_size_8abf5 cJx4a65c_size_8abf5 1 (some .int), Cond.fieldLink RJx4a65c 48 "java/util/ArrayList" "size" "I", Cond.methodLink RX3 149 yJx4a65c_get_915e3, Cond.instanceMethod yJx4a65c_get_915e3, Cond.selects RJx4a65c yJx4a65c_get_915e3 yJx4a65c_get_915e3, Cond.code yJx4a65c_get_915e3 cJx4a65c_get_915e3 2 (some (.object "java/lang/Object")), Cond.methodLink RJx4a65c 118 yJ15_checkIndex_7cf53, Cond.static yJ15_checkIndex_7cf53, Cond.initialized RJ15, Cond.code yJ15_checkIndex_7cf53 cJ15_checkIndex_7cf53 2 (some .int), Cond.methodLink RJ15 105 yJ3_checkIndex_8e157, Cond.static yJ3_checkIndex_8e157, Cond.initialized RJ3, Cond.code yJ3_checkIndex_8e157 cJ3_checkIndex_8e157 3 (some .int), Cond.methodLink RJx4a65c 123 yJx4a65c_elementData_915e3, Cond.instanceMethod yJx4a65c_elementData_915e3, Cond.selects RJx4a65c yJx4a65c_elementData_915e3 yJx4a65c_elementData_915e3, Cond.code yJx4a65c_elementData_915e3 cJx4a65c_elementData_915e3 2 (some (.object "java/lang/Object")), Cond.fieldLink RJx4a65c 9 "java/util/ArrayList" "elementData" "[Ljava/lang/Object;", Cond.methodLink RX3 39 yX3_requireBetween, Cond.static yX3_requireBetween, Cond.code yX3_requireBetween cX3_requireBetween 3 none]
def wsL_addDirectory_r3 : List Cond := [Cond.classLink RX3 190 "java/lang/IllegalArgumentException", Cond.initialized "java/lang/IllegalArgumentException", Cond.methodLink RX3 24 yX1_init, Cond.instanceMethod yX1_init, Cond.code yX1_init cX1_init 4 none, Cond.methodLink RX1 3 objectInit, Cond.instanceMethod objectInit, Cond.code objectInit ⟨#[0xb1]⟩ 1 none, Cond.fieldLink RX1 9 "HoldServer$Directory" "number" "I", Cond.fieldLink RX1 15 "HoldServer$Directory" "parent" "LHoldServer$Directory;", Cond.fieldLink RX1 19 "HoldServer$Directory" "quota" "I", Cond.methodLink RX3 27 yJx4a65c_add_9ea2d, Cond.instanceMethod yJx4a65c_add_9ea2d, Cond.selects RJx4a65c yJx4a65c_add_9ea2d yJx4a65c_add_9ea2d, Cond.code yJx4a65c_add_9ea2d cJx4a65c_add_9ea2d 2 (some .boolean), Cond.fieldLink RJx4a65c 63 "java/util/ArrayList" "modCount" "I", Cond.sameField "java/util/ArrayList" "java/util/AbstractList" "modCount" "I", Cond.methodLink RJx4a65c 131 yJx4a65c_add_72be8, Cond.instanceMethod yJx4a65c_add_72be8, Cond.selects RJx4a65c yJx4a65c_add_72be8 yJx4a65c_add_72be8, Cond.code yJx4a65c_add_72be8 cJx4a65c_add_72be8 4 none, Cond.methodLink RJx4a65c 129 yJx4a65c_grow_d5877, Cond.instanceMethod yJx4a65c_grow_d5877, Cond.selects RJx4a65c yJx4a65c_grow_d5877 yJx4a65c_grow_d5877]
def wsL_addDirectory_r4 : List Cond := [Cond.code yJx4a65c_grow_d5877 cJx4a65c_grow_d5877 1 (some (.array (.object "java/lang/Object"))), Cond.methodLink RJx4a65c 69 yJx4a65c_grow_92f84, Cond.instanceMethod yJx4a65c_grow_92f84, Cond.selects RJx4a65c yJx4a65c_grow_92f84 yJx4a65c_grow_92f84, Cond.code yJx4a65c_grow_92f84 cJx4a65c_grow_92f84 4 (some (.array (.object "java/lang/Object"))), Cond.fieldLink RJx4a65c 39 "java/util/ArrayList" "DEFAULTCAPACITY_EMPTY_ELEMENTDATA" "[Ljava/lang/Object;", Cond.methodLink RJx4a65c 79 Lib.Math.max.name, Cond.static Lib.Math.max.name, Cond.initialized "java/lang/Math", Cond.code Lib.Math.max.name Lib.Math.max.code 2 (some .int), Cond.classLink RJx4a65c 7 "java/lang/Object", Cond.methodLink RJx4a65c 73 yJ8_newLength_cabcc, Cond.static yJ8_newLength_cabcc, Cond.initialized RJ8, Cond.code yJ8_newLength_cabcc cJ8_newLength_cabcc 4 (some .int), Cond.methodLink RJ8 194 Lib.Math.max.name, Cond.constant RJ8 200 (2147483639), Cond.methodLink RJ8 201 yJ8_hugeLength_7cf53, Cond.static yJ8_hugeLength_7cf53, Cond.code yJ8_hugeLength_7cf53 cJ8_hugeLength_7cf53 3 (some .int), Cond.methodLink RJx4a65c 66 yJ7_copyOf_1904c, Cond.static yJ7_copyOf_1904c, Cond.initialized RJ7, Cond.code yJ7_copyOf_1904c cJ7_copyOf_1904c 2 (some (.array (.object "java/lang/Object")))]
def wsL_addDirectory_r5 : List Cond := [Cond.methodLink RJ7 86 ⟨"java/lang/Object", "getClass", "()Ljava/lang/Class;"⟩, Cond.selects "[Ljava/lang/Object;" ⟨"java/lang/Object", "getClass", "()Ljava/lang/Class;"⟩ ⟨"java/lang/Object", "getClass", "()Ljava/lang/Class;"⟩, Cond.instanceMethod ⟨"java/lang/Object", "getClass", "()Ljava/lang/Class;"⟩, Cond.native ⟨"java/lang/Object", "getClass", "()Ljava/lang/Class;"⟩, Cond.methodLink RJ7 300 yJ7_copyOf_6403c, Cond.static yJ7_copyOf_6403c, Cond.code yJ7_copyOf_6403c cJ7_copyOf_6403c 4 (some (.array (.object "java/lang/Object"))), Cond.classLink RJ7 110 "[Ljava/lang/Object;", Cond.classLink RJ7 2 "java/lang/Object", Cond.methodLink RJ7 304 Lib.Math.min.name, Cond.static Lib.Math.min.name, Cond.code Lib.Math.min.name Lib.Math.min.code 2 (some .int), Cond.methodLink RJ7 150 arraycopyName, Cond.native arraycopyName, Cond.static arraycopyName, Cond.initialized "java/lang/System"]
def wsL_addDirectory : List Cond := .codeWith yL_addDirectory cL_addDirectory 5 (some .int) [(0, 10, 13, 13), (0, 10, 17, 15), (0, 10, 21, 17)] :: ((wsL_addDirectory_r1 ++ (wsL_addDirectory_r2 ++ (wsL_addDirectory_r3 ++ (wsL_addDirectory_r4 ++ wsL_addDirectory_r5)))) ++ wsX30 ++ wsX10 ++ wsJx4a65c0 ++ (vx_atS RX3 51 "java/lang/IllegalStateException" ["java/lang/RuntimeException", "java/lang/Exception"]).filter goodWord ++ (vx_atS RX3 183 "java/lang/IndexOutOfBoundsException" ["java/lang/RuntimeException", "java/lang/Exception"]).filter goodWord ++ (vx_atS RX3 194 "java/lang/IllegalArgumentException" ["java/lang/RuntimeException", "java/lang/Exception"]).filter goodWord)
def wsL_setQuota_r1 : List Cond := [Cond.classLink RL 13 "java/lang/IndexOutOfBoundsException", Cond.classLink RL 15 "java/lang/IllegalArgumentException", Cond.methodLink RL 19 yX3_setQuota, Cond.instanceMethod yX3_setQuota, Cond.selects RX3 yX3_setQuota yX3_setQuota, Cond.initialized RX3, Cond.code yX3_setQuota cX3_setQuota 5 (some .int), Cond.constant RX3 38 (100000), Cond.fieldLink RX3 54 "HoldServer$Directory" "quota" "I", Cond.methodLink RX3 34 yX3_directoryNumbered, Cond.instanceMethod yX3_directoryNumbered, Cond.selects RX3 yX3_directoryNumbered yX3_directoryNumbered, Cond.code yX3_directoryNumbered cX3_directoryNumbered 2 (some (.object "HoldServer$Directory")), Cond.classLink RX3 179 "java/lang/IndexOutOfBoundsException", Cond.initialized "java/lang/IndexOutOfBoundsException", Cond.fieldLink RX3 10 "HoldServer" "directories" "Ljava/util/ArrayList;", Cond.classLink RX3 22 "HoldServer$Directory", Cond.methodLink RX3 43 yJx4a65c_size_8abf5, Cond.instanceMethod yJx4a65c_size_8abf5, Cond.selects RJx4a65c yJx4a65c_size_8abf5 yJx4a65c_size_8abf5, Cond.initialized RJx4a65c, Cond.code yJx4a65c_size_8abf5 cJx4a65c_size_8abf5 1 (some .int), Cond.fieldLink RJx4a65c 48 "java/util/ArrayList" "size" "I", Cond.methodLink RX3 149 yJx4a65c_get_915e3]
def wsL_setQuota_r2 : List Cond := [Cond.instanceMethod yJx4a65c_get_915e3, Cond.selects RJx4a65c yJx4a65c_get_915e3 yJx4a65c_get_915e3, Cond.code yJx4a65c_get_915e3 cJx4a65c_get_915e3 2 (some (.object "java/lang/Object")), Cond.methodLink RJx4a65c 118 yJ15_checkIndex_7cf53, Cond.static yJ15_checkIndex_7cf53, Cond.initialized RJ15, Cond.code yJ15_checkIndex_7cf53 cJ15_checkIndex_7cf53 2 (some .int), Cond.methodLink RJ15 105 yJ3_checkIndex_8e157, Cond.static yJ3_checkIndex_8e157, Cond.initialized RJ3, Cond.code yJ3_checkIndex_8e157 cJ3_checkIndex_8e157 3 (some .int), Cond.methodLink RJx4a65c 123 yJx4a65c_elementData_915e3, Cond.instanceMethod yJx4a65c_elementData_915e3, Cond.selects RJx4a65c yJx4a65c_elementData_915e3 yJx4a65c_elementData_915e3, Cond.code yJx4a65c_elementData_915e3 cJx4a65c_elementData_915e3 2 (some (.object "java/lang/Object")), Cond.fieldLink RJx4a65c 9 "java/util/ArrayList" "elementData" "[Ljava/lang/Object;", Cond.methodLink RX3 39 yX3_requireBetween, Cond.static yX3_requireBetween, Cond.code yX3_requireBetween cX3_requireBetween 3 none, Cond.classLink RX3 190 "java/lang/IllegalArgumentException", Cond.initialized "java/lang/IllegalArgumentException"]
def wsL_setQuota : List Cond := .codeWith yL_setQuota cL_setQuota 5 (some .int) [(0, 10, 13, 13), (0, 10, 17, 15)] :: ((wsL_setQuota_r1 ++ wsL_setQuota_r2) ++ wsX10 ++ wsX30 ++ wsJx4a65c0 ++ (vx_atS RX3 183 "java/lang/IndexOutOfBoundsException" ["java/lang/RuntimeException", "java/lang/Exception"]).filter goodWord ++ (vx_atS RX3 194 "java/lang/IllegalArgumentException" ["java/lang/RuntimeException", "java/lang/Exception"]).filter goodWord)
def wsL_make_r1 : List Cond := [Cond.classLink RL 13 "java/lang/IndexOutOfBoundsException", Cond.classLink RL 15 "java/lang/IllegalArgumentException", Cond.classLink RL 17 "java/lang/IllegalStateException", Cond.methodLink RL 22 yX3_make, Cond.instanceMethod yX3_make, Cond.selects RX3 yX3_make yX3_make, Cond.initialized RX3, Cond.code yX3_make cX3_make 8 (some .int), Cond.classLink RX3 47 "java/lang/IllegalStateException", Cond.initialized "java/lang/IllegalStateException", Cond.fieldLink RX3 16 "HoldServer" "files" "Ljava/util/ArrayList;", Cond.classLink RX3 68 RX2, Cond.instantiable RX2 6, Cond.initialized RX2, Cond.fieldLink RX3 70 "HoldServer" "day" "I", Cond.fieldLink RX3 76 "HoldServer$StoredFile" "links" "Ljava/util/ArrayList;", Cond.fieldLink RX3 83 "HoldServer$Department" "ownFiles" "Ljava/util/ArrayList;", Cond.methodLink RX3 58 yX3_departmentNumbered, Cond.instanceMethod yX3_departmentNumbered, Cond.selects RX3 yX3_departmentNumbered yX3_departmentNumbered, Cond.code yX3_departmentNumbered cX3_departmentNumbered 2 (some (.object "HoldServer$Department")), Cond.classLink RX3 179 "java/lang/IndexOutOfBoundsException", Cond.initialized "java/lang/IndexOutOfBoundsException", Cond.fieldLink RX3 19 "HoldServer" "departments" "Ljava/util/ArrayList;"]
def wsL_make_r2 : List Cond := [Cond.classLink RX3 31 "HoldServer$Department", Cond.methodLink RX3 43 yJx4a65c_size_8abf5, Cond.instanceMethod yJx4a65c_size_8abf5, Cond.selects RJx4a65c yJx4a65c_size_8abf5 yJx4a65c_size_8abf5, Cond.initialized RJx4a65c, Cond.code yJx4a65c_size_8abf5 cJx4a65c_size_8abf5 1 (some .int), Cond.fieldLink RJx4a65c 48 "java/util/ArrayList" "size" "I", Cond.methodLink RX3 149 yJx4a65c_get_915e3, Cond.instanceMethod yJx4a65c_get_915e3, Cond.selects RJx4a65c yJx4a65c_get_915e3 yJx4a65c_get_915e3, Cond.code yJx4a65c_get_915e3 cJx4a65c_get_915e3 2 (some (.object "java/lang/Object")), Cond.methodLink RJx4a65c 118 yJ15_checkIndex_7cf53, Cond.static yJ15_checkIndex_7cf53, Cond.initialized RJ15, Cond.code yJ15_checkIndex_7cf53 cJ15_checkIndex_7cf53 2 (some .int), Cond.methodLink RJ15 105 yJ3_checkIndex_8e157, Cond.static yJ3_checkIndex_8e157, Cond.initialized RJ3, Cond.code yJ3_checkIndex_8e157 cJ3_checkIndex_8e157 3 (some .int), Cond.methodLink RJx4a65c 123 yJx4a65c_elementData_915e3, Cond.instanceMethod yJx4a65c_elementData_915e3, Cond.selects RJx4a65c yJx4a65c_elementData_915e3 yJx4a65c_elementData_915e3, Cond.code yJx4a65c_elementData_915e3 cJx4a65c_elementData_915e3 2 (some (.object "java/lang/Object")), Cond.fieldLink RJx4a65c 9 "java/util/ArrayList" "elementData" "[Ljava/lang/Object;"]
def wsL_make_r3 : List Cond := [Cond.methodLink RX3 34 yX3_directoryNumbered, Cond.instanceMethod yX3_directoryNumbered, Cond.selects RX3 yX3_directoryNumbered yX3_directoryNumbered, Cond.code yX3_directoryNumbered cX3_directoryNumbered 2 (some (.object "HoldServer$Directory")), Cond.fieldLink RX3 10 "HoldServer" "directories" "Ljava/util/ArrayList;", Cond.classLink RX3 22 "HoldServer$Directory", Cond.methodLink RX3 39 yX3_requireBetween, Cond.static yX3_requireBetween, Cond.code yX3_requireBetween cX3_requireBetween 3 none, Cond.classLink RX3 190 "java/lang/IllegalArgumentException", Cond.initialized "java/lang/IllegalArgumentException", Cond.methodLink RX3 64 yX3_requireGrowthPossible, Cond.static yX3_requireGrowthPossible, Cond.code yX3_requireGrowthPossible cX3_requireGrowthPossible 3 none, Cond.fieldLink RX3 156 "HoldServer$Department" "coins" "I", Cond.methodLink RX3 201 yX1_hasRoomFor, Cond.instanceMethod yX1_hasRoomFor, Cond.selects RX1 yX1_hasRoomFor yX1_hasRoomFor, Cond.initialized RX1, Cond.code yX1_hasRoomFor cX1_hasRoomFor 3 (some .boolean), Cond.fieldLink RX1 19 "HoldServer$Directory" "quota" "I", Cond.fieldLink RX1 22 "HoldServer$Directory" "usage" "I", Cond.fieldLink RX1 15 "HoldServer$Directory" "parent" "LHoldServer$Directory;", Cond.methodLink RX3 73 yX2_init]
def wsL_make_r4 : List Cond := [Cond.instanceMethod yX2_init, Cond.code yX2_init cX2_init 4 none, Cond.methodLink RX2 3 objectInit, Cond.instanceMethod objectInit, Cond.code objectInit ⟨#[0xb1]⟩ 1 none, Cond.classLink RX2 9 RJx4a65c, Cond.instantiable RJx4a65c 3, Cond.fieldLink RX2 12 "HoldServer$StoredFile" "links" "Ljava/util/ArrayList;", Cond.fieldLink RX2 18 "HoldServer$StoredFile" "owner" "LHoldServer$Department;", Cond.fieldLink RX2 22 "HoldServer$StoredFile" "size" "I", Cond.fieldLink RX2 26 "HoldServer$StoredFile" "usedOn" "I", Cond.methodLink RX2 11 yJx4a65c_init_da8c8, Cond.instanceMethod yJx4a65c_init_da8c8, Cond.code yJx4a65c_init_da8c8 cJx4a65c_init_da8c8 1 none, Cond.fieldLink RJx4a65c 39 "java/util/ArrayList" "DEFAULTCAPACITY_EMPTY_ELEMENTDATA" "[Ljava/lang/Object;", Cond.methodLink RJx4a65c 1 yJxc12de_init_da8c8, Cond.instanceMethod yJxc12de_init_da8c8, Cond.initialized RJxc12de, Cond.code yJxc12de_init_da8c8 cJxc12de_init_da8c8 1 none, Cond.fieldLink RJxc12de 7 "java/util/AbstractList" "modCount" "I", Cond.methodLink RJxc12de 1 yJxa1e45_init_da8c8, Cond.instanceMethod yJxa1e45_init_da8c8, Cond.initialized RJxa1e45, Cond.code yJxa1e45_init_da8c8 cJxa1e45_init_da8c8 1 none]
def wsL_make_r5 : List Cond := [Cond.methodLink RJxa1e45 1 objectInit, Cond.methodLink RX3 27 yJx4a65c_add_9ea2d, Cond.instanceMethod yJx4a65c_add_9ea2d, Cond.selects RJx4a65c yJx4a65c_add_9ea2d yJx4a65c_add_9ea2d, Cond.code yJx4a65c_add_9ea2d cJx4a65c_add_9ea2d 2 (some .boolean), Cond.fieldLink RJx4a65c 63 "java/util/ArrayList" "modCount" "I", Cond.sameField "java/util/ArrayList" "java/util/AbstractList" "modCount" "I", Cond.methodLink RJx4a65c 131 yJx4a65c_add_72be8, Cond.instanceMethod yJx4a65c_add_72be8, Cond.selects RJx4a65c yJx4a65c_add_72be8 yJx4a65c_add_72be8, Cond.code yJx4a65c_add_72be8 cJx4a65c_add_72be8 4 none, Cond.methodLink RJx4a65c 129 yJx4a65c_grow_d5877, Cond.instanceMethod yJx4a65c_grow_d5877, Cond.selects RJx4a65c yJx4a65c_grow_d5877 yJx4a65c_grow_d5877, Cond.code yJx4a65c_grow_d5877 cJx4a65c_grow_d5877 1 (some (.array (.object "java/lang/Object"))), Cond.methodLink RJx4a65c 69 yJx4a65c_grow_92f84, Cond.instanceMethod yJx4a65c_grow_92f84, Cond.selects RJx4a65c yJx4a65c_grow_92f84 yJx4a65c_grow_92f84, Cond.code yJx4a65c_grow_92f84 cJx4a65c_grow_92f84 4 (some (.array (.object "java/lang/Object"))), Cond.methodLink RJx4a65c 79 Lib.Math.max.name, Cond.static Lib.Math.max.name, Cond.initialized "java/lang/Math", Cond.code Lib.Math.max.name Lib.Math.max.code 2 (some .int), Cond.classLink RJx4a65c 7 "java/lang/Object"]
def wsL_make_r6 : List Cond := [Cond.methodLink RJx4a65c 73 yJ8_newLength_cabcc, Cond.static yJ8_newLength_cabcc, Cond.initialized RJ8, Cond.code yJ8_newLength_cabcc cJ8_newLength_cabcc 4 (some .int), Cond.methodLink RJ8 194 Lib.Math.max.name, Cond.constant RJ8 200 (2147483639), Cond.methodLink RJ8 201 yJ8_hugeLength_7cf53, Cond.static yJ8_hugeLength_7cf53, Cond.code yJ8_hugeLength_7cf53 cJ8_hugeLength_7cf53 3 (some .int), Cond.methodLink RJx4a65c 66 yJ7_copyOf_1904c, Cond.static yJ7_copyOf_1904c, Cond.initialized RJ7, Cond.code yJ7_copyOf_1904c cJ7_copyOf_1904c 2 (some (.array (.object "java/lang/Object"))), Cond.methodLink RJ7 86 ⟨"java/lang/Object", "getClass", "()Ljava/lang/Class;"⟩, Cond.selects "[Ljava/lang/Object;" ⟨"java/lang/Object", "getClass", "()Ljava/lang/Class;"⟩ ⟨"java/lang/Object", "getClass", "()Ljava/lang/Class;"⟩, Cond.instanceMethod ⟨"java/lang/Object", "getClass", "()Ljava/lang/Class;"⟩, Cond.native ⟨"java/lang/Object", "getClass", "()Ljava/lang/Class;"⟩, Cond.methodLink RJ7 300 yJ7_copyOf_6403c, Cond.static yJ7_copyOf_6403c, Cond.code yJ7_copyOf_6403c cJ7_copyOf_6403c 4 (some (.array (.object "java/lang/Object"))), Cond.classLink RJ7 110 "[Ljava/lang/Object;", Cond.classLink RJ7 2 "java/lang/Object", Cond.methodLink RJ7 304 Lib.Math.min.name, Cond.static Lib.Math.min.name]
def wsL_make_r7 : List Cond := [Cond.code Lib.Math.min.name Lib.Math.min.code 2 (some .int), Cond.methodLink RJ7 150 arraycopyName, Cond.native arraycopyName, Cond.static arraycopyName, Cond.initialized "java/lang/System", Cond.methodLink RX3 79 yX1_addUsage, Cond.instanceMethod yX1_addUsage, Cond.selects RX1 yX1_addUsage yX1_addUsage, Cond.code yX1_addUsage cX1_addUsage 3 none]
def wsL_make : List Cond := .codeWith yL_make cL_make 6 (some .int) [(0, 12, 15, 13), (0, 12, 19, 15), (0, 12, 23, 17)] :: ((wsL_make_r1 ++ (wsL_make_r2 ++ (wsL_make_r3 ++ (wsL_make_r4 ++ (wsL_make_r5 ++ (wsL_make_r6 ++ wsL_make_r7)))))) ++ wsX30 ++ wsX20 ++ wsX00 ++ wsJx4a65c0 ++ wsX10 ++ (vx_atS RX3 51 "java/lang/IllegalStateException" ["java/lang/RuntimeException", "java/lang/Exception"]).filter goodWord ++ (vx_atS RX3 183 "java/lang/IndexOutOfBoundsException" ["java/lang/RuntimeException", "java/lang/Exception"]).filter goodWord ++ (vx_atS RX3 194 "java/lang/IllegalArgumentException" ["java/lang/RuntimeException", "java/lang/Exception"]).filter goodWord)
def wsL_link_r1 : List Cond := [Cond.classLink RL 13 "java/lang/IndexOutOfBoundsException", Cond.classLink RL 17 "java/lang/IllegalStateException", Cond.methodLink RL 26 yX3_link, Cond.instanceMethod yX3_link, Cond.selects RX3 yX3_link yX3_link, Cond.initialized RX3, Cond.code yX3_link cX3_link 5 (some .int), Cond.classLink RX3 47 "java/lang/IllegalStateException", Cond.initialized "java/lang/IllegalStateException", Cond.fieldLink RX3 76 "HoldServer$StoredFile" "links" "Ljava/util/ArrayList;", Cond.methodLink RX3 86 yX3_fileNumbered, Cond.instanceMethod yX3_fileNumbered, Cond.selects RX3 yX3_fileNumbered yX3_fileNumbered, Cond.code yX3_fileNumbered cX3_fileNumbered 2 (some (.object "HoldServer$StoredFile")), Cond.classLink RX3 179 "java/lang/IndexOutOfBoundsException", Cond.initialized "java/lang/IndexOutOfBoundsException", Cond.fieldLink RX3 16 "HoldServer" "files" "Ljava/util/ArrayList;", Cond.classLink RX3 68 "HoldServer$StoredFile", Cond.methodLink RX3 43 yJx4a65c_size_8abf5, Cond.instanceMethod yJx4a65c_size_8abf5, Cond.selects RJx4a65c yJx4a65c_size_8abf5 yJx4a65c_size_8abf5, Cond.initialized RJx4a65c, Cond.code yJx4a65c_size_8abf5 cJx4a65c_size_8abf5 1 (some .int), Cond.fieldLink RJx4a65c 48 "java/util/ArrayList" "size" "I"]
def wsL_link_r2 : List Cond := [Cond.methodLink RX3 149 yJx4a65c_get_915e3, Cond.instanceMethod yJx4a65c_get_915e3, Cond.selects RJx4a65c yJx4a65c_get_915e3 yJx4a65c_get_915e3, Cond.code yJx4a65c_get_915e3 cJx4a65c_get_915e3 2 (some (.object "java/lang/Object")), Cond.methodLink RJx4a65c 118 yJ15_checkIndex_7cf53, Cond.static yJ15_checkIndex_7cf53, Cond.initialized RJ15, Cond.code yJ15_checkIndex_7cf53 cJ15_checkIndex_7cf53 2 (some .int), Cond.methodLink RJ15 105 yJ3_checkIndex_8e157, Cond.static yJ3_checkIndex_8e157, Cond.initialized RJ3, Cond.code yJ3_checkIndex_8e157 cJ3_checkIndex_8e157 3 (some .int), Cond.methodLink RJx4a65c 123 yJx4a65c_elementData_915e3, Cond.instanceMethod yJx4a65c_elementData_915e3, Cond.selects RJx4a65c yJx4a65c_elementData_915e3 yJx4a65c_elementData_915e3, Cond.code yJx4a65c_elementData_915e3 cJx4a65c_elementData_915e3 2 (some (.object "java/lang/Object")), Cond.fieldLink RJx4a65c 9 "java/util/ArrayList" "elementData" "[Ljava/lang/Object;", Cond.methodLink RX3 34 yX3_directoryNumbered, Cond.instanceMethod yX3_directoryNumbered, Cond.selects RX3 yX3_directoryNumbered yX3_directoryNumbered, Cond.code yX3_directoryNumbered cX3_directoryNumbered 2 (some (.object "HoldServer$Directory")), Cond.fieldLink RX3 10 "HoldServer" "directories" "Ljava/util/ArrayList;", Cond.classLink RX3 22 "HoldServer$Directory", Cond.methodLink RX3 90 yX3_requireNotGone]
def wsL_link_r3 : List Cond := [Cond.static yX3_requireNotGone, Cond.code yX3_requireNotGone cX3_requireNotGone 1 none, Cond.methodLink RX3 195 yX2_isGone, Cond.instanceMethod yX2_isGone, Cond.selects RX2 yX2_isGone yX2_isGone, Cond.initialized RX2, Cond.code yX2_isGone cX2_isGone 1 (some .boolean), Cond.fieldLink RX2 12 "HoldServer$StoredFile" "links" "Ljava/util/ArrayList;", Cond.methodLink RX2 29 yJx4a65c_isEmpty_aae02, Cond.instanceMethod yJx4a65c_isEmpty_aae02, Cond.selects RJx4a65c yJx4a65c_isEmpty_aae02 yJx4a65c_isEmpty_aae02, Cond.code yJx4a65c_isEmpty_aae02 cJx4a65c_isEmpty_aae02 1 (some .boolean), Cond.methodLink RX3 94 yX2_placeOfLinkTo, Cond.instanceMethod yX2_placeOfLinkTo, Cond.selects RX2 yX2_placeOfLinkTo yX2_placeOfLinkTo, Cond.code yX2_placeOfLinkTo cX2_placeOfLinkTo 3 (some .int), Cond.methodLink RX2 39 yJx4a65c_size_8abf5, Cond.methodLink RX2 33 yJx4a65c_get_915e3, Cond.methodLink RX3 27 yJx4a65c_add_9ea2d, Cond.instanceMethod yJx4a65c_add_9ea2d, Cond.selects RJx4a65c yJx4a65c_add_9ea2d yJx4a65c_add_9ea2d, Cond.code yJx4a65c_add_9ea2d cJx4a65c_add_9ea2d 2 (some .boolean), Cond.fieldLink RJx4a65c 63 "java/util/ArrayList" "modCount" "I", Cond.sameField "java/util/ArrayList" "java/util/AbstractList" "modCount" "I"]
def wsL_link_r4 : List Cond := [Cond.methodLink RJx4a65c 131 yJx4a65c_add_72be8, Cond.instanceMethod yJx4a65c_add_72be8, Cond.selects RJx4a65c yJx4a65c_add_72be8 yJx4a65c_add_72be8, Cond.code yJx4a65c_add_72be8 cJx4a65c_add_72be8 4 none, Cond.methodLink RJx4a65c 129 yJx4a65c_grow_d5877, Cond.instanceMethod yJx4a65c_grow_d5877, Cond.selects RJx4a65c yJx4a65c_grow_d5877 yJx4a65c_grow_d5877, Cond.code yJx4a65c_grow_d5877 cJx4a65c_grow_d5877 1 (some (.array (.object "java/lang/Object"))), Cond.methodLink RJx4a65c 69 yJx4a65c_grow_92f84, Cond.instanceMethod yJx4a65c_grow_92f84, Cond.selects RJx4a65c yJx4a65c_grow_92f84 yJx4a65c_grow_92f84, Cond.code yJx4a65c_grow_92f84 cJx4a65c_grow_92f84 4 (some (.array (.object "java/lang/Object"))), Cond.fieldLink RJx4a65c 39 "java/util/ArrayList" "DEFAULTCAPACITY_EMPTY_ELEMENTDATA" "[Ljava/lang/Object;", Cond.methodLink RJx4a65c 79 Lib.Math.max.name, Cond.static Lib.Math.max.name, Cond.initialized "java/lang/Math", Cond.code Lib.Math.max.name Lib.Math.max.code 2 (some .int), Cond.classLink RJx4a65c 7 "java/lang/Object", Cond.methodLink RJx4a65c 73 yJ8_newLength_cabcc, Cond.static yJ8_newLength_cabcc, Cond.initialized RJ8, Cond.code yJ8_newLength_cabcc cJ8_newLength_cabcc 4 (some .int), Cond.methodLink RJ8 194 Lib.Math.max.name, Cond.constant RJ8 200 (2147483639)]
def wsL_link_r5 : List Cond := [Cond.methodLink RJ8 201 yJ8_hugeLength_7cf53, Cond.static yJ8_hugeLength_7cf53, Cond.code yJ8_hugeLength_7cf53 cJ8_hugeLength_7cf53 3 (some .int), Cond.methodLink RJx4a65c 66 yJ7_copyOf_1904c, Cond.static yJ7_copyOf_1904c, Cond.initialized RJ7, Cond.code yJ7_copyOf_1904c cJ7_copyOf_1904c 2 (some (.array (.object "java/lang/Object"))), Cond.methodLink RJ7 86 ⟨"java/lang/Object", "getClass", "()Ljava/lang/Class;"⟩, Cond.selects "[Ljava/lang/Object;" ⟨"java/lang/Object", "getClass", "()Ljava/lang/Class;"⟩ ⟨"java/lang/Object", "getClass", "()Ljava/lang/Class;"⟩, Cond.instanceMethod ⟨"java/lang/Object", "getClass", "()Ljava/lang/Class;"⟩, Cond.native ⟨"java/lang/Object", "getClass", "()Ljava/lang/Class;"⟩, Cond.methodLink RJ7 300 yJ7_copyOf_6403c, Cond.static yJ7_copyOf_6403c, Cond.code yJ7_copyOf_6403c cJ7_copyOf_6403c 4 (some (.array (.object "java/lang/Object"))), Cond.classLink RJ7 110 "[Ljava/lang/Object;", Cond.classLink RJ7 2 "java/lang/Object", Cond.methodLink RJ7 304 Lib.Math.min.name, Cond.static Lib.Math.min.name, Cond.code Lib.Math.min.name Lib.Math.min.code 2 (some .int), Cond.methodLink RJ7 150 arraycopyName, Cond.native arraycopyName, Cond.static arraycopyName, Cond.initialized "java/lang/System"]
def wsL_link : List Cond := .codeWith yL_link cL_link 5 (some .int) [(0, 10, 13, 13), (0, 10, 17, 17)] :: ((wsL_link_r1 ++ (wsL_link_r2 ++ (wsL_link_r3 ++ (wsL_link_r4 ++ wsL_link_r5)))) ++ wsX20 ++ wsX30 ++ wsJx4a65c0 ++ (vx_atS RX3 51 "java/lang/IllegalStateException" ["java/lang/RuntimeException", "java/lang/Exception"]).filter goodWord ++ (vx_atS RX3 183 "java/lang/IndexOutOfBoundsException" ["java/lang/RuntimeException", "java/lang/Exception"]).filter goodWord)
def wsL_unlink_r1 : List Cond := [Cond.classLink RL 13 "java/lang/IndexOutOfBoundsException", Cond.classLink RL 17 "java/lang/IllegalStateException", Cond.methodLink RL 29 yX3_unlink, Cond.instanceMethod yX3_unlink, Cond.selects RX3 yX3_unlink yX3_unlink, Cond.initialized RX3, Cond.code yX3_unlink cX3_unlink 7 (some .int), Cond.classLink RX3 47 "java/lang/IllegalStateException", Cond.initialized "java/lang/IllegalStateException", Cond.fieldLink RX3 110 "HoldServer$StoredFile" "size" "I", Cond.fieldLink RX3 76 "HoldServer$StoredFile" "links" "Ljava/util/ArrayList;", Cond.methodLink RX3 86 yX3_fileNumbered, Cond.instanceMethod yX3_fileNumbered, Cond.selects RX3 yX3_fileNumbered yX3_fileNumbered, Cond.code yX3_fileNumbered cX3_fileNumbered 2 (some (.object "HoldServer$StoredFile")), Cond.classLink RX3 179 "java/lang/IndexOutOfBoundsException", Cond.initialized "java/lang/IndexOutOfBoundsException", Cond.fieldLink RX3 16 "HoldServer" "files" "Ljava/util/ArrayList;", Cond.classLink RX3 68 "HoldServer$StoredFile", Cond.methodLink RX3 43 yJx4a65c_size_8abf5, Cond.instanceMethod yJx4a65c_size_8abf5, Cond.selects RJx4a65c yJx4a65c_size_8abf5 yJx4a65c_size_8abf5, Cond.initialized RJx4a65c, Cond.code yJx4a65c_size_8abf5 cJx4a65c_size_8abf5 1 (some .int)]
def wsL_unlink_r2 : List Cond := [Cond.fieldLink RJx4a65c 48 "java/util/ArrayList" "size" "I", Cond.methodLink RX3 149 yJx4a65c_get_915e3, Cond.instanceMethod yJx4a65c_get_915e3, Cond.selects RJx4a65c yJx4a65c_get_915e3 yJx4a65c_get_915e3, Cond.code yJx4a65c_get_915e3 cJx4a65c_get_915e3 2 (some (.object "java/lang/Object")), Cond.methodLink RJx4a65c 118 yJ15_checkIndex_7cf53, Cond.static yJ15_checkIndex_7cf53, Cond.initialized RJ15, Cond.code yJ15_checkIndex_7cf53 cJ15_checkIndex_7cf53 2 (some .int), Cond.methodLink RJ15 105 yJ3_checkIndex_8e157, Cond.static yJ3_checkIndex_8e157, Cond.initialized RJ3, Cond.code yJ3_checkIndex_8e157 cJ3_checkIndex_8e157 3 (some .int), Cond.methodLink RJx4a65c 123 yJx4a65c_elementData_915e3, Cond.instanceMethod yJx4a65c_elementData_915e3, Cond.selects RJx4a65c yJx4a65c_elementData_915e3 yJx4a65c_elementData_915e3, Cond.code yJx4a65c_elementData_915e3 cJx4a65c_elementData_915e3 2 (some (.object "java/lang/Object")), Cond.fieldLink RJx4a65c 9 "java/util/ArrayList" "elementData" "[Ljava/lang/Object;", Cond.methodLink RX3 34 yX3_directoryNumbered, Cond.instanceMethod yX3_directoryNumbered, Cond.selects RX3 yX3_directoryNumbered yX3_directoryNumbered, Cond.code yX3_directoryNumbered cX3_directoryNumbered 2 (some (.object "HoldServer$Directory")), Cond.fieldLink RX3 10 "HoldServer" "directories" "Ljava/util/ArrayList;", Cond.classLink RX3 22 "HoldServer$Directory"]
def wsL_unlink_r3 : List Cond := [Cond.methodLink RX3 100 yX2_firstLink, Cond.instanceMethod yX2_firstLink, Cond.selects RX2 yX2_firstLink yX2_firstLink, Cond.initialized RX2, Cond.code yX2_firstLink cX2_firstLink 1 (some (.object "HoldServer$Directory")), Cond.fieldLink RX2 12 "HoldServer$StoredFile" "links" "Ljava/util/ArrayList;", Cond.classLink RX2 37 "HoldServer$Directory", Cond.methodLink RX2 29 yJx4a65c_isEmpty_aae02, Cond.instanceMethod yJx4a65c_isEmpty_aae02, Cond.selects RJx4a65c yJx4a65c_isEmpty_aae02 yJx4a65c_isEmpty_aae02, Cond.code yJx4a65c_isEmpty_aae02 cJx4a65c_isEmpty_aae02 1 (some .boolean), Cond.methodLink RX2 33 yJx4a65c_get_915e3, Cond.methodLink RX3 104 yX2_removeLinkTo, Cond.instanceMethod yX2_removeLinkTo, Cond.selects RX2 yX2_removeLinkTo yX2_removeLinkTo, Cond.code yX2_removeLinkTo cX2_removeLinkTo 3 (some .boolean), Cond.methodLink RX2 42 yX2_placeOfLinkTo, Cond.instanceMethod yX2_placeOfLinkTo, Cond.selects RX2 yX2_placeOfLinkTo yX2_placeOfLinkTo, Cond.code yX2_placeOfLinkTo cX2_placeOfLinkTo 3 (some .int), Cond.methodLink RX2 39 yJx4a65c_size_8abf5, Cond.methodLink RX2 46 yJx4a65c_remove_915e3, Cond.instanceMethod yJx4a65c_remove_915e3, Cond.selects RJx4a65c yJx4a65c_remove_915e3 yJx4a65c_remove_915e3]
def wsL_unlink_r4 : List Cond := [Cond.code yJx4a65c_remove_915e3 cJx4a65c_remove_915e3 4 (some (.object "java/lang/Object")), Cond.methodLink RJx4a65c 144 yJx4a65c_fastRemove_b59b0, Cond.instanceMethod yJx4a65c_fastRemove_b59b0, Cond.selects RJx4a65c yJx4a65c_fastRemove_b59b0 yJx4a65c_fastRemove_b59b0, Cond.code yJx4a65c_fastRemove_b59b0 cJx4a65c_fastRemove_b59b0 4 none, Cond.fieldLink RJx4a65c 63 "java/util/ArrayList" "modCount" "I", Cond.sameField "java/util/ArrayList" "java/util/AbstractList" "modCount" "I", Cond.methodLink RJx4a65c 112 arraycopyName, Cond.native arraycopyName, Cond.static arraycopyName, Cond.initialized "java/lang/System", Cond.methodLink RX3 79 yX1_addUsage, Cond.instanceMethod yX1_addUsage, Cond.selects RX1 yX1_addUsage yX1_addUsage, Cond.initialized RX1, Cond.code yX1_addUsage cX1_addUsage 3 none, Cond.fieldLink RX1 22 "HoldServer$Directory" "usage" "I", Cond.fieldLink RX1 15 "HoldServer$Directory" "parent" "LHoldServer$Directory;", Cond.methodLink RX3 112 yX2_replaceSize, Cond.instanceMethod yX2_replaceSize, Cond.selects RX2 yX2_replaceSize yX2_replaceSize, Cond.code yX2_replaceSize cX2_replaceSize 2 none, Cond.fieldLink RX2 49 "HoldServer$StoredFile" "holders" "I", Cond.fieldLink RX2 52 "HoldServer$StoredFile" "kept" "I"]
def wsL_unlink_r5 : List Cond := [Cond.fieldLink RX2 22 "HoldServer$StoredFile" "size" "I"]
def wsL_unlink : List Cond := .codeWith yL_unlink cL_unlink 5 (some .int) [(0, 10, 13, 13), (0, 10, 17, 17)] :: ((wsL_unlink_r1 ++ (wsL_unlink_r2 ++ (wsL_unlink_r3 ++ (wsL_unlink_r4 ++ wsL_unlink_r5)))) ++ wsX20 ++ wsX30 ++ wsJx4a65c0 ++ wsX10 ++ (vx_atS RX3 51 "java/lang/IllegalStateException" ["java/lang/RuntimeException", "java/lang/Exception"]).filter goodWord ++ (vx_atS RX3 183 "java/lang/IndexOutOfBoundsException" ["java/lang/RuntimeException", "java/lang/Exception"]).filter goodWord)
def wsL_write_r1 : List Cond := [Cond.classLink RL 13 "java/lang/IndexOutOfBoundsException", Cond.classLink RL 15 "java/lang/IllegalArgumentException", Cond.classLink RL 17 "java/lang/IllegalStateException", Cond.methodLink RL 32 yX3_write, Cond.instanceMethod yX3_write, Cond.selects RX3 yX3_write yX3_write, Cond.initialized RX3, Cond.code yX3_write cX3_write 6 (some .int), Cond.classLink RX3 47 "java/lang/IllegalStateException", Cond.initialized "java/lang/IllegalStateException", Cond.fieldLink RX3 70 "HoldServer" "day" "I", Cond.fieldLink RX3 110 "HoldServer$StoredFile" "size" "I", Cond.fieldLink RX3 121 "HoldServer$StoredFile" "owner" "LHoldServer$Department;", Cond.fieldLink RX3 125 "HoldServer$StoredFile" "usedOn" "I", Cond.fieldLink RX3 128 "HoldServer$StoredFile" "kept" "I", Cond.methodLink RX3 86 yX3_fileNumbered, Cond.instanceMethod yX3_fileNumbered, Cond.selects RX3 yX3_fileNumbered yX3_fileNumbered, Cond.code yX3_fileNumbered cX3_fileNumbered 2 (some (.object "HoldServer$StoredFile")), Cond.classLink RX3 179 "java/lang/IndexOutOfBoundsException", Cond.initialized "java/lang/IndexOutOfBoundsException", Cond.fieldLink RX3 16 "HoldServer" "files" "Ljava/util/ArrayList;", Cond.classLink RX3 68 "HoldServer$StoredFile", Cond.methodLink RX3 43 yJx4a65c_size_8abf5]
def wsL_write_r2 : List Cond := [Cond.instanceMethod yJx4a65c_size_8abf5, Cond.selects RJx4a65c yJx4a65c_size_8abf5 yJx4a65c_size_8abf5, Cond.initialized RJx4a65c, Cond.code yJx4a65c_size_8abf5 cJx4a65c_size_8abf5 1 (some .int), Cond.fieldLink RJx4a65c 48 "java/util/ArrayList" "size" "I", Cond.methodLink RX3 149 yJx4a65c_get_915e3, Cond.instanceMethod yJx4a65c_get_915e3, Cond.selects RJx4a65c yJx4a65c_get_915e3 yJx4a65c_get_915e3, Cond.code yJx4a65c_get_915e3 cJx4a65c_get_915e3 2 (some (.object "java/lang/Object")), Cond.methodLink RJx4a65c 118 yJ15_checkIndex_7cf53, Cond.static yJ15_checkIndex_7cf53, Cond.initialized RJ15, Cond.code yJ15_checkIndex_7cf53 cJ15_checkIndex_7cf53 2 (some .int), Cond.methodLink RJ15 105 yJ3_checkIndex_8e157, Cond.static yJ3_checkIndex_8e157, Cond.initialized RJ3, Cond.code yJ3_checkIndex_8e157 cJ3_checkIndex_8e157 3 (some .int), Cond.methodLink RJx4a65c 123 yJx4a65c_elementData_915e3, Cond.instanceMethod yJx4a65c_elementData_915e3, Cond.selects RJx4a65c yJx4a65c_elementData_915e3 yJx4a65c_elementData_915e3, Cond.code yJx4a65c_elementData_915e3 cJx4a65c_elementData_915e3 2 (some (.object "java/lang/Object")), Cond.fieldLink RJx4a65c 9 "java/util/ArrayList" "elementData" "[Ljava/lang/Object;", Cond.methodLink RX3 39 yX3_requireBetween, Cond.static yX3_requireBetween]
def wsL_write_r3 : List Cond := [Cond.code yX3_requireBetween cX3_requireBetween 3 none, Cond.classLink RX3 190 "java/lang/IllegalArgumentException", Cond.initialized "java/lang/IllegalArgumentException", Cond.methodLink RX3 100 yX2_firstLink, Cond.instanceMethod yX2_firstLink, Cond.selects RX2 yX2_firstLink yX2_firstLink, Cond.initialized RX2, Cond.code yX2_firstLink cX2_firstLink 1 (some (.object "HoldServer$Directory")), Cond.fieldLink RX2 12 "HoldServer$StoredFile" "links" "Ljava/util/ArrayList;", Cond.classLink RX2 37 "HoldServer$Directory", Cond.methodLink RX2 29 yJx4a65c_isEmpty_aae02, Cond.instanceMethod yJx4a65c_isEmpty_aae02, Cond.selects RJx4a65c yJx4a65c_isEmpty_aae02 yJx4a65c_isEmpty_aae02, Cond.code yJx4a65c_isEmpty_aae02 cJx4a65c_isEmpty_aae02 1 (some .boolean), Cond.methodLink RX2 33 yJx4a65c_get_915e3, Cond.methodLink RX3 115 yX2_tierOn, Cond.instanceMethod yX2_tierOn, Cond.selects RX2 yX2_tierOn yX2_tierOn, Cond.code yX2_tierOn cX2_tierOn 3 (some .int), Cond.fieldLink RX2 26 "HoldServer$StoredFile" "usedOn" "I", Cond.methodLink RX2 55 yX2_isGone, Cond.instanceMethod yX2_isGone, Cond.selects RX2 yX2_isGone yX2_isGone, Cond.code yX2_isGone cX2_isGone 1 (some .boolean)]
def wsL_write_r4 : List Cond := [Cond.methodLink RX2 58 yX2_isComingBackOn, Cond.instanceMethod yX2_isComingBackOn, Cond.selects RX2 yX2_isComingBackOn yX2_isComingBackOn, Cond.code yX2_isComingBackOn cX2_isComingBackOn 2 (some .boolean), Cond.methodLink RX3 64 yX3_requireGrowthPossible, Cond.static yX3_requireGrowthPossible, Cond.code yX3_requireGrowthPossible cX3_requireGrowthPossible 3 none, Cond.fieldLink RX3 156 "HoldServer$Department" "coins" "I", Cond.methodLink RX3 201 yX1_hasRoomFor, Cond.instanceMethod yX1_hasRoomFor, Cond.selects RX1 yX1_hasRoomFor yX1_hasRoomFor, Cond.initialized RX1, Cond.code yX1_hasRoomFor cX1_hasRoomFor 3 (some .boolean), Cond.fieldLink RX1 19 "HoldServer$Directory" "quota" "I", Cond.fieldLink RX1 22 "HoldServer$Directory" "usage" "I", Cond.fieldLink RX1 15 "HoldServer$Directory" "parent" "LHoldServer$Directory;", Cond.methodLink RX3 79 yX1_addUsage, Cond.instanceMethod yX1_addUsage, Cond.selects RX1 yX1_addUsage yX1_addUsage, Cond.code yX1_addUsage cX1_addUsage 3 none, Cond.methodLink RX3 112 yX2_replaceSize, Cond.instanceMethod yX2_replaceSize, Cond.selects RX2 yX2_replaceSize yX2_replaceSize, Cond.code yX2_replaceSize cX2_replaceSize 2 none]
def wsL_write_r5 : List Cond := [Cond.fieldLink RX2 49 "HoldServer$StoredFile" "holders" "I", Cond.fieldLink RX2 52 "HoldServer$StoredFile" "kept" "I", Cond.fieldLink RX2 22 "HoldServer$StoredFile" "size" "I"]
def wsL_write : List Cond := .codeWith yL_write cL_write 5 (some .int) [(0, 10, 13, 13), (0, 10, 17, 15), (0, 10, 21, 17)] :: ((wsL_write_r1 ++ (wsL_write_r2 ++ (wsL_write_r3 ++ (wsL_write_r4 ++ wsL_write_r5)))) ++ wsX30 ++ wsX20 ++ wsJx4a65c0 ++ wsX00 ++ wsX10 ++ (vx_atS RX3 51 "java/lang/IllegalStateException" ["java/lang/RuntimeException", "java/lang/Exception"]).filter goodWord ++ (vx_atS RX3 183 "java/lang/IndexOutOfBoundsException" ["java/lang/RuntimeException", "java/lang/Exception"]).filter goodWord ++ (vx_atS RX3 194 "java/lang/IllegalArgumentException" ["java/lang/RuntimeException", "java/lang/Exception"]).filter goodWord)
def wsL_read_r1 : List Cond := [Cond.classLink RL 13 "java/lang/IndexOutOfBoundsException", Cond.classLink RL 17 "java/lang/IllegalStateException", Cond.methodLink RL 35 yX3_read, Cond.instanceMethod yX3_read, Cond.selects RX3 yX3_read yX3_read, Cond.initialized RX3, Cond.code yX3_read cX3_read 3 (some .int), Cond.fieldLink RX3 70 "HoldServer" "day" "I", Cond.fieldLink RX3 125 "HoldServer$StoredFile" "usedOn" "I", Cond.methodLink RX3 86 yX3_fileNumbered, Cond.instanceMethod yX3_fileNumbered, Cond.selects RX3 yX3_fileNumbered yX3_fileNumbered, Cond.code yX3_fileNumbered cX3_fileNumbered 2 (some (.object "HoldServer$StoredFile")), Cond.classLink RX3 179 "java/lang/IndexOutOfBoundsException", Cond.initialized "java/lang/IndexOutOfBoundsException", Cond.fieldLink RX3 16 "HoldServer" "files" "Ljava/util/ArrayList;", Cond.classLink RX3 68 "HoldServer$StoredFile", Cond.methodLink RX3 43 yJx4a65c_size_8abf5, Cond.instanceMethod yJx4a65c_size_8abf5, Cond.selects RJx4a65c yJx4a65c_size_8abf5 yJx4a65c_size_8abf5, Cond.initialized RJx4a65c, Cond.code yJx4a65c_size_8abf5 cJx4a65c_size_8abf5 1 (some .int), Cond.fieldLink RJx4a65c 48 "java/util/ArrayList" "size" "I", Cond.methodLink RX3 149 yJx4a65c_get_915e3]
def wsL_read_r2 : List Cond := [Cond.instanceMethod yJx4a65c_get_915e3, Cond.selects RJx4a65c yJx4a65c_get_915e3 yJx4a65c_get_915e3, Cond.code yJx4a65c_get_915e3 cJx4a65c_get_915e3 2 (some (.object "java/lang/Object")), Cond.methodLink RJx4a65c 118 yJ15_checkIndex_7cf53, Cond.static yJ15_checkIndex_7cf53, Cond.initialized RJ15, Cond.code yJ15_checkIndex_7cf53 cJ15_checkIndex_7cf53 2 (some .int), Cond.methodLink RJ15 105 yJ3_checkIndex_8e157, Cond.static yJ3_checkIndex_8e157, Cond.initialized RJ3, Cond.code yJ3_checkIndex_8e157 cJ3_checkIndex_8e157 3 (some .int), Cond.methodLink RJx4a65c 123 yJx4a65c_elementData_915e3, Cond.instanceMethod yJx4a65c_elementData_915e3, Cond.selects RJx4a65c yJx4a65c_elementData_915e3 yJx4a65c_elementData_915e3, Cond.code yJx4a65c_elementData_915e3 cJx4a65c_elementData_915e3 2 (some (.object "java/lang/Object")), Cond.fieldLink RJx4a65c 9 "java/util/ArrayList" "elementData" "[Ljava/lang/Object;", Cond.methodLink RX3 90 yX3_requireNotGone, Cond.static yX3_requireNotGone, Cond.code yX3_requireNotGone cX3_requireNotGone 1 none, Cond.classLink RX3 47 "java/lang/IllegalStateException", Cond.initialized "java/lang/IllegalStateException", Cond.methodLink RX3 195 yX2_isGone, Cond.instanceMethod yX2_isGone, Cond.selects RX2 yX2_isGone yX2_isGone]
def wsL_read_r3 : List Cond := [Cond.initialized RX2, Cond.code yX2_isGone cX2_isGone 1 (some .boolean), Cond.fieldLink RX2 12 "HoldServer$StoredFile" "links" "Ljava/util/ArrayList;", Cond.methodLink RX2 29 yJx4a65c_isEmpty_aae02, Cond.instanceMethod yJx4a65c_isEmpty_aae02, Cond.selects RJx4a65c yJx4a65c_isEmpty_aae02 yJx4a65c_isEmpty_aae02, Cond.code yJx4a65c_isEmpty_aae02 cJx4a65c_isEmpty_aae02 1 (some .boolean), Cond.methodLink RX3 115 yX2_tierOn, Cond.instanceMethod yX2_tierOn, Cond.selects RX2 yX2_tierOn yX2_tierOn, Cond.code yX2_tierOn cX2_tierOn 3 (some .int), Cond.fieldLink RX2 26 "HoldServer$StoredFile" "usedOn" "I", Cond.methodLink RX2 55 yX2_isGone, Cond.methodLink RX2 58 yX2_isComingBackOn, Cond.instanceMethod yX2_isComingBackOn, Cond.selects RX2 yX2_isComingBackOn yX2_isComingBackOn, Cond.code yX2_isComingBackOn cX2_isComingBackOn 2 (some .boolean), Cond.methodLink RX3 131 yX2_isComingBackOn, Cond.methodLink RX3 135 yX3_startBringingBack, Cond.instanceMethod yX3_startBringingBack, Cond.selects RX3 yX3_startBringingBack yX3_startBringingBack, Cond.code yX3_startBringingBack cX3_startBringingBack 3 none, Cond.fieldLink RX3 121 "HoldServer$StoredFile" "owner" "LHoldServer$Department;", Cond.fieldLink RX3 156 "HoldServer$Department" "coins" "I"]
def wsL_read_r4 : List Cond := [Cond.methodLink RX3 206 yX2_costToBringBack, Cond.instanceMethod yX2_costToBringBack, Cond.selects RX2 yX2_costToBringBack yX2_costToBringBack, Cond.code yX2_costToBringBack cX2_costToBringBack 1 (some .int), Cond.fieldLink RX2 22 "HoldServer$StoredFile" "size" "I"]
def wsL_read : List Cond := .codeWith yL_read cL_read 4 (some .int) [(0, 9, 12, 13), (0, 9, 15, 17)] :: ((wsL_read_r1 ++ (wsL_read_r2 ++ (wsL_read_r3 ++ wsL_read_r4))) ++ wsX30 ++ wsX20 ++ wsJx4a65c0 ++ wsX00 ++ (vx_atS RX3 183 "java/lang/IndexOutOfBoundsException" ["java/lang/RuntimeException", "java/lang/Exception"]).filter goodWord ++ (vx_atS RX3 51 "java/lang/IllegalStateException" ["java/lang/RuntimeException", "java/lang/Exception"]).filter goodWord)
def wsL_hold_r1 : List Cond := [Cond.classLink RL 13 "java/lang/IndexOutOfBoundsException", Cond.classLink RL 17 "java/lang/IllegalStateException", Cond.methodLink RL 39 yX3_hold, Cond.instanceMethod yX3_hold, Cond.selects RX3 yX3_hold yX3_hold, Cond.initialized RX3, Cond.code yX3_hold cX3_hold 5 (some .int), Cond.fieldLink RX3 141 "HoldServer$StoredFile" "holders" "I", Cond.methodLink RX3 138 yX3_bitOfMatter, Cond.static yX3_bitOfMatter, Cond.code yX3_bitOfMatter cX3_bitOfMatter 1 (some .int), Cond.classLink RX3 179 "java/lang/IndexOutOfBoundsException", Cond.initialized "java/lang/IndexOutOfBoundsException", Cond.methodLink RX3 86 yX3_fileNumbered, Cond.instanceMethod yX3_fileNumbered, Cond.selects RX3 yX3_fileNumbered yX3_fileNumbered, Cond.code yX3_fileNumbered cX3_fileNumbered 2 (some (.object "HoldServer$StoredFile")), Cond.fieldLink RX3 16 "HoldServer" "files" "Ljava/util/ArrayList;", Cond.classLink RX3 68 "HoldServer$StoredFile", Cond.methodLink RX3 43 yJx4a65c_size_8abf5, Cond.instanceMethod yJx4a65c_size_8abf5, Cond.selects RJx4a65c yJx4a65c_size_8abf5 yJx4a65c_size_8abf5, Cond.initialized RJx4a65c, Cond.code yJx4a65c_size_8abf5 cJx4a65c_size_8abf5 1 (some .int)]
def wsL_hold_r2 : List Cond := [Cond.fieldLink RJx4a65c 48 "java/util/ArrayList" "size" "I", Cond.methodLink RX3 149 yJx4a65c_get_915e3, Cond.instanceMethod yJx4a65c_get_915e3, Cond.selects RJx4a65c yJx4a65c_get_915e3 yJx4a65c_get_915e3, Cond.code yJx4a65c_get_915e3 cJx4a65c_get_915e3 2 (some (.object "java/lang/Object")), Cond.methodLink RJx4a65c 118 yJ15_checkIndex_7cf53, Cond.static yJ15_checkIndex_7cf53, Cond.initialized RJ15, Cond.code yJ15_checkIndex_7cf53 cJ15_checkIndex_7cf53 2 (some .int), Cond.methodLink RJ15 105 yJ3_checkIndex_8e157, Cond.static yJ3_checkIndex_8e157, Cond.initialized RJ3, Cond.code yJ3_checkIndex_8e157 cJ3_checkIndex_8e157 3 (some .int), Cond.methodLink RJx4a65c 123 yJx4a65c_elementData_915e3, Cond.instanceMethod yJx4a65c_elementData_915e3, Cond.selects RJx4a65c yJx4a65c_elementData_915e3 yJx4a65c_elementData_915e3, Cond.code yJx4a65c_elementData_915e3 cJx4a65c_elementData_915e3 2 (some (.object "java/lang/Object")), Cond.fieldLink RJx4a65c 9 "java/util/ArrayList" "elementData" "[Ljava/lang/Object;", Cond.methodLink RX3 90 yX3_requireNotGone, Cond.static yX3_requireNotGone, Cond.code yX3_requireNotGone cX3_requireNotGone 1 none, Cond.classLink RX3 47 "java/lang/IllegalStateException", Cond.initialized "java/lang/IllegalStateException", Cond.methodLink RX3 195 yX2_isGone]
def wsL_hold_r3 : List Cond := [Cond.instanceMethod yX2_isGone, Cond.selects RX2 yX2_isGone yX2_isGone, Cond.initialized RX2, Cond.code yX2_isGone cX2_isGone 1 (some .boolean), Cond.fieldLink RX2 12 "HoldServer$StoredFile" "links" "Ljava/util/ArrayList;", Cond.methodLink RX2 29 yJx4a65c_isEmpty_aae02, Cond.instanceMethod yJx4a65c_isEmpty_aae02, Cond.selects RJx4a65c yJx4a65c_isEmpty_aae02 yJx4a65c_isEmpty_aae02, Cond.code yJx4a65c_isEmpty_aae02 cJx4a65c_isEmpty_aae02 1 (some .boolean), Cond.methodLink RX3 144 yJ6_bitCount_0f7a4, Cond.static yJ6_bitCount_0f7a4, Cond.initialized RJ6, Cond.code yJ6_bitCount_0f7a4 cJ6_bitCount_0f7a4 1 (some .int), Cond.constant RJ6 265 (1431655765), Cond.constant RJ6 266 (858993459), Cond.constant RJ6 267 (252645135)]
def wsL_hold : List Cond := .codeWith yL_hold cL_hold 5 (some .int) [(0, 10, 13, 13), (0, 10, 17, 17)] :: ((wsL_hold_r1 ++ (wsL_hold_r2 ++ wsL_hold_r3)) ++ wsX20 ++ wsX30 ++ wsJx4a65c0 ++ (vx_atS RX3 183 "java/lang/IndexOutOfBoundsException" ["java/lang/RuntimeException", "java/lang/Exception"]).filter goodWord ++ (vx_atS RX3 51 "java/lang/IllegalStateException" ["java/lang/RuntimeException", "java/lang/Exception"]).filter goodWord)
def wsL_release_r1 : List Cond := [Cond.classLink RL 13 "java/lang/IndexOutOfBoundsException", Cond.methodLink RL 42 yX3_release, Cond.instanceMethod yX3_release, Cond.selects RX3 yX3_release yX3_release, Cond.initialized RX3, Cond.code yX3_release cX3_release 5 (some .int), Cond.fieldLink RX3 16 "HoldServer" "files" "Ljava/util/ArrayList;", Cond.classLink RX3 68 "HoldServer$StoredFile", Cond.methodLink RX3 138 yX3_bitOfMatter, Cond.static yX3_bitOfMatter, Cond.code yX3_bitOfMatter cX3_bitOfMatter 1 (some .int), Cond.classLink RX3 179 "java/lang/IndexOutOfBoundsException", Cond.initialized "java/lang/IndexOutOfBoundsException", Cond.methodLink RX3 43 yJx4a65c_size_8abf5, Cond.instanceMethod yJx4a65c_size_8abf5, Cond.selects RJx4a65c yJx4a65c_size_8abf5 yJx4a65c_size_8abf5, Cond.initialized RJx4a65c, Cond.code yJx4a65c_size_8abf5 cJx4a65c_size_8abf5 1 (some .int), Cond.fieldLink RJx4a65c 48 "java/util/ArrayList" "size" "I", Cond.methodLink RX3 149 yJx4a65c_get_915e3, Cond.instanceMethod yJx4a65c_get_915e3, Cond.selects RJx4a65c yJx4a65c_get_915e3 yJx4a65c_get_915e3, Cond.code yJx4a65c_get_915e3 cJx4a65c_get_915e3 2 (some (.object "java/lang/Object")), Cond.methodLink RJx4a65c 118 yJ15_checkIndex_7cf53]
def wsL_release_r2 : List Cond := [Cond.static yJ15_checkIndex_7cf53, Cond.initialized RJ15, Cond.code yJ15_checkIndex_7cf53 cJ15_checkIndex_7cf53 2 (some .int), Cond.methodLink RJ15 105 yJ3_checkIndex_8e157, Cond.static yJ3_checkIndex_8e157, Cond.initialized RJ3, Cond.code yJ3_checkIndex_8e157 cJ3_checkIndex_8e157 3 (some .int), Cond.methodLink RJx4a65c 123 yJx4a65c_elementData_915e3, Cond.instanceMethod yJx4a65c_elementData_915e3, Cond.selects RJx4a65c yJx4a65c_elementData_915e3 yJx4a65c_elementData_915e3, Cond.code yJx4a65c_elementData_915e3 cJx4a65c_elementData_915e3 2 (some (.object "java/lang/Object")), Cond.fieldLink RJx4a65c 9 "java/util/ArrayList" "elementData" "[Ljava/lang/Object;", Cond.methodLink RX3 153 yX2_releaseFrom, Cond.instanceMethod yX2_releaseFrom, Cond.selects RX2 yX2_releaseFrom yX2_releaseFrom, Cond.initialized RX2, Cond.code yX2_releaseFrom cX2_releaseFrom 3 (some .int), Cond.fieldLink RX2 49 "HoldServer$StoredFile" "holders" "I", Cond.fieldLink RX2 52 "HoldServer$StoredFile" "kept" "I"]
def wsL_release : List Cond := .codeWith yL_release cL_release 4 (some .int) [(0, 9, 12, 13)] :: ((wsL_release_r1 ++ wsL_release_r2) ++ wsX30 ++ wsJx4a65c0 ++ wsX20 ++ (vx_atS RX3 183 "java/lang/IndexOutOfBoundsException" ["java/lang/RuntimeException", "java/lang/Exception"]).filter goodWord)
def wsL_fund_r1 : List Cond := [Cond.classLink RL 13 "java/lang/IndexOutOfBoundsException", Cond.classLink RL 15 "java/lang/IllegalArgumentException", Cond.classLink RL 17 "java/lang/IllegalStateException", Cond.methodLink RL 45 yX3_fund, Cond.instanceMethod yX3_fund, Cond.selects RX3 yX3_fund yX3_fund, Cond.initialized RX3, Cond.code yX3_fund cX3_fund 4 (some .int), Cond.classLink RX3 47 "java/lang/IllegalStateException", Cond.initialized "java/lang/IllegalStateException", Cond.fieldLink RX3 156 "HoldServer$Department" "coins" "I", Cond.constant RX3 159 (1000000), Cond.methodLink RX3 58 yX3_departmentNumbered, Cond.instanceMethod yX3_departmentNumbered, Cond.selects RX3 yX3_departmentNumbered yX3_departmentNumbered, Cond.code yX3_departmentNumbered cX3_departmentNumbered 2 (some (.object "HoldServer$Department")), Cond.classLink RX3 179 "java/lang/IndexOutOfBoundsException", Cond.initialized "java/lang/IndexOutOfBoundsException", Cond.fieldLink RX3 19 "HoldServer" "departments" "Ljava/util/ArrayList;", Cond.classLink RX3 31 "HoldServer$Department", Cond.methodLink RX3 43 yJx4a65c_size_8abf5, Cond.instanceMethod yJx4a65c_size_8abf5, Cond.selects RJx4a65c yJx4a65c_size_8abf5 yJx4a65c_size_8abf5, Cond.initialized RJx4a65c]
def wsL_fund_r2 : List Cond := [Cond.code yJx4a65c_size_8abf5 cJx4a65c_size_8abf5 1 (some .int), Cond.fieldLink RJx4a65c 48 "java/util/ArrayList" "size" "I", Cond.methodLink RX3 149 yJx4a65c_get_915e3, Cond.instanceMethod yJx4a65c_get_915e3, Cond.selects RJx4a65c yJx4a65c_get_915e3 yJx4a65c_get_915e3, Cond.code yJx4a65c_get_915e3 cJx4a65c_get_915e3 2 (some (.object "java/lang/Object")), Cond.methodLink RJx4a65c 118 yJ15_checkIndex_7cf53, Cond.static yJ15_checkIndex_7cf53, Cond.initialized RJ15, Cond.code yJ15_checkIndex_7cf53 cJ15_checkIndex_7cf53 2 (some .int), Cond.methodLink RJ15 105 yJ3_checkIndex_8e157, Cond.static yJ3_checkIndex_8e157, Cond.initialized RJ3, Cond.code yJ3_checkIndex_8e157 cJ3_checkIndex_8e157 3 (some .int), Cond.methodLink RJx4a65c 123 yJx4a65c_elementData_915e3, Cond.instanceMethod yJx4a65c_elementData_915e3, Cond.selects RJx4a65c yJx4a65c_elementData_915e3 yJx4a65c_elementData_915e3, Cond.code yJx4a65c_elementData_915e3 cJx4a65c_elementData_915e3 2 (some (.object "java/lang/Object")), Cond.fieldLink RJx4a65c 9 "java/util/ArrayList" "elementData" "[Ljava/lang/Object;", Cond.methodLink RX3 39 yX3_requireBetween, Cond.static yX3_requireBetween, Cond.code yX3_requireBetween cX3_requireBetween 3 none, Cond.classLink RX3 190 "java/lang/IllegalArgumentException", Cond.initialized "java/lang/IllegalArgumentException"]
def wsL_fund : List Cond := .codeWith yL_fund cL_fund 5 (some .int) [(0, 10, 13, 13), (0, 10, 17, 15), (0, 10, 21, 17)] :: ((wsL_fund_r1 ++ wsL_fund_r2) ++ wsX00 ++ wsX30 ++ wsJx4a65c0 ++ (vx_atS RX3 51 "java/lang/IllegalStateException" ["java/lang/RuntimeException", "java/lang/Exception"]).filter goodWord ++ (vx_atS RX3 183 "java/lang/IndexOutOfBoundsException" ["java/lang/RuntimeException", "java/lang/Exception"]).filter goodWord ++ (vx_atS RX3 194 "java/lang/IllegalArgumentException" ["java/lang/RuntimeException", "java/lang/Exception"]).filter goodWord)
def wsL_pass_r1 : List Cond := [Cond.classLink RL 15 "java/lang/IllegalArgumentException", Cond.classLink RL 17 "java/lang/IllegalStateException", Cond.methodLink RL 48 yX3_pass, Cond.instanceMethod yX3_pass, Cond.selects RX3 yX3_pass yX3_pass, Cond.initialized RX3, Cond.code yX3_pass cX3_pass 4 (some .int), Cond.classLink RX3 47 "java/lang/IllegalStateException", Cond.initialized "java/lang/IllegalStateException", Cond.fieldLink RX3 70 "HoldServer" "day" "I", Cond.methodLink RX3 39 yX3_requireBetween, Cond.static yX3_requireBetween, Cond.code yX3_requireBetween cX3_requireBetween 3 none, Cond.classLink RX3 190 "java/lang/IllegalArgumentException", Cond.initialized "java/lang/IllegalArgumentException", Cond.methodLink RX3 164 yX3_payBills, Cond.instanceMethod yX3_payBills, Cond.selects RX3 yX3_payBills yX3_payBills, Cond.code yX3_payBills cX3_payBills 5 (some .int), Cond.fieldLink RX3 19 "HoldServer" "departments" "Ljava/util/ArrayList;", Cond.classLink RX3 31 "HoldServer$Department", Cond.fieldLink RX3 156 "HoldServer$Department" "coins" "I", Cond.methodLink RX3 211 Lib.Math.min.name, Cond.static Lib.Math.min.name]
def wsL_pass_r2 : List Cond := [Cond.initialized "java/lang/Math", Cond.code Lib.Math.min.name Lib.Math.min.code 2 (some .int), Cond.methodLink RX3 43 yJx4a65c_size_8abf5, Cond.instanceMethod yJx4a65c_size_8abf5, Cond.selects RJx4a65c yJx4a65c_size_8abf5 yJx4a65c_size_8abf5, Cond.initialized RJx4a65c, Cond.code yJx4a65c_size_8abf5 cJx4a65c_size_8abf5 1 (some .int), Cond.fieldLink RJx4a65c 48 "java/util/ArrayList" "size" "I", Cond.methodLink RX3 149 yJx4a65c_get_915e3, Cond.instanceMethod yJx4a65c_get_915e3, Cond.selects RJx4a65c yJx4a65c_get_915e3 yJx4a65c_get_915e3, Cond.code yJx4a65c_get_915e3 cJx4a65c_get_915e3 2 (some (.object "java/lang/Object")), Cond.methodLink RJx4a65c 118 yJ15_checkIndex_7cf53, Cond.static yJ15_checkIndex_7cf53, Cond.initialized RJ15, Cond.code yJ15_checkIndex_7cf53 cJ15_checkIndex_7cf53 2 (some .int), Cond.methodLink RJ15 105 yJ3_checkIndex_8e157, Cond.static yJ3_checkIndex_8e157, Cond.initialized RJ3, Cond.code yJ3_checkIndex_8e157 cJ3_checkIndex_8e157 3 (some .int), Cond.methodLink RJx4a65c 123 yJx4a65c_elementData_915e3, Cond.instanceMethod yJx4a65c_elementData_915e3, Cond.selects RJx4a65c yJx4a65c_elementData_915e3 yJx4a65c_elementData_915e3, Cond.code yJx4a65c_elementData_915e3 cJx4a65c_elementData_915e3 2 (some (.object "java/lang/Object"))]
def wsL_pass_r3 : List Cond := [Cond.fieldLink RJx4a65c 9 "java/util/ArrayList" "elementData" "[Ljava/lang/Object;", Cond.methodLink RX3 176 yX0_billOn, Cond.instanceMethod yX0_billOn, Cond.selects RX0 yX0_billOn yX0_billOn, Cond.initialized RX0, Cond.code yX0_billOn cX0_billOn 4 (some .int), Cond.fieldLink RX0 12 "HoldServer$Department" "ownFiles" "Ljava/util/ArrayList;", Cond.classLink RX0 30 "HoldServer$StoredFile", Cond.methodLink RX0 22 yJx4a65c_size_8abf5, Cond.methodLink RX0 26 yJx4a65c_get_915e3, Cond.methodLink RX0 32 yX2_billedOn, Cond.instanceMethod yX2_billedOn, Cond.selects RX2 yX2_billedOn yX2_billedOn, Cond.initialized RX2, Cond.code yX2_billedOn cX2_billedOn 3 (some .int), Cond.fieldLink RX2 22 "HoldServer$StoredFile" "size" "I", Cond.fieldLink RX2 52 "HoldServer$StoredFile" "kept" "I", Cond.methodLink RX2 55 yX2_isGone, Cond.instanceMethod yX2_isGone, Cond.selects RX2 yX2_isGone yX2_isGone, Cond.code yX2_isGone cX2_isGone 1 (some .boolean), Cond.fieldLink RX2 12 "HoldServer$StoredFile" "links" "Ljava/util/ArrayList;", Cond.methodLink RX2 29 yJx4a65c_isEmpty_aae02, Cond.instanceMethod yJx4a65c_isEmpty_aae02]
def wsL_pass_r4 : List Cond := [Cond.selects RJx4a65c yJx4a65c_isEmpty_aae02 yJx4a65c_isEmpty_aae02, Cond.code yJx4a65c_isEmpty_aae02 cJx4a65c_isEmpty_aae02 1 (some .boolean), Cond.methodLink RX2 62 yX2_tierOn, Cond.instanceMethod yX2_tierOn, Cond.selects RX2 yX2_tierOn yX2_tierOn, Cond.code yX2_tierOn cX2_tierOn 3 (some .int), Cond.fieldLink RX2 26 "HoldServer$StoredFile" "usedOn" "I", Cond.methodLink RX2 58 yX2_isComingBackOn, Cond.instanceMethod yX2_isComingBackOn, Cond.selects RX2 yX2_isComingBackOn yX2_isComingBackOn, Cond.code yX2_isComingBackOn cX2_isComingBackOn 2 (some .boolean)]
def wsL_pass : List Cond := .codeWith yL_pass cL_pass 4 (some .int) [(0, 9, 12, 15), (0, 9, 15, 17)] :: ((wsL_pass_r1 ++ (wsL_pass_r2 ++ (wsL_pass_r3 ++ wsL_pass_r4))) ++ wsX30 ++ wsX00 ++ wsJx4a65c0 ++ wsX20 ++ (vx_atS RX3 51 "java/lang/IllegalStateException" ["java/lang/RuntimeException", "java/lang/Exception"]).filter goodWord ++ (vx_atS RX3 194 "java/lang/IllegalArgumentException" ["java/lang/RuntimeException", "java/lang/Exception"]).filter goodWord)
def wsL_usage_r1 : List Cond := [Cond.classLink RL 13 "java/lang/IndexOutOfBoundsException", Cond.methodLink RL 51 yX3_usage, Cond.instanceMethod yX3_usage, Cond.selects RX3 yX3_usage yX3_usage, Cond.initialized RX3, Cond.code yX3_usage cX3_usage 2 (some .int), Cond.fieldLink RX3 167 "HoldServer$Directory" "usage" "I", Cond.methodLink RX3 34 yX3_directoryNumbered, Cond.instanceMethod yX3_directoryNumbered, Cond.selects RX3 yX3_directoryNumbered yX3_directoryNumbered, Cond.code yX3_directoryNumbered cX3_directoryNumbered 2 (some (.object "HoldServer$Directory")), Cond.classLink RX3 179 "java/lang/IndexOutOfBoundsException", Cond.initialized "java/lang/IndexOutOfBoundsException", Cond.fieldLink RX3 10 "HoldServer" "directories" "Ljava/util/ArrayList;", Cond.classLink RX3 22 "HoldServer$Directory", Cond.methodLink RX3 43 yJx4a65c_size_8abf5, Cond.instanceMethod yJx4a65c_size_8abf5, Cond.selects RJx4a65c yJx4a65c_size_8abf5 yJx4a65c_size_8abf5, Cond.initialized RJx4a65c, Cond.code yJx4a65c_size_8abf5 cJx4a65c_size_8abf5 1 (some .int), Cond.fieldLink RJx4a65c 48 "java/util/ArrayList" "size" "I", Cond.methodLink RX3 149 yJx4a65c_get_915e3, Cond.instanceMethod yJx4a65c_get_915e3, Cond.selects RJx4a65c yJx4a65c_get_915e3 yJx4a65c_get_915e3]
def wsL_usage_r2 : List Cond := [Cond.code yJx4a65c_get_915e3 cJx4a65c_get_915e3 2 (some (.object "java/lang/Object")), Cond.methodLink RJx4a65c 118 yJ15_checkIndex_7cf53, Cond.static yJ15_checkIndex_7cf53, Cond.initialized RJ15, Cond.code yJ15_checkIndex_7cf53 cJ15_checkIndex_7cf53 2 (some .int), Cond.methodLink RJ15 105 yJ3_checkIndex_8e157, Cond.static yJ3_checkIndex_8e157, Cond.initialized RJ3, Cond.code yJ3_checkIndex_8e157 cJ3_checkIndex_8e157 3 (some .int), Cond.methodLink RJx4a65c 123 yJx4a65c_elementData_915e3, Cond.instanceMethod yJx4a65c_elementData_915e3, Cond.selects RJx4a65c yJx4a65c_elementData_915e3 yJx4a65c_elementData_915e3, Cond.code yJx4a65c_elementData_915e3 cJx4a65c_elementData_915e3 2 (some (.object "java/lang/Object")), Cond.fieldLink RJx4a65c 9 "java/util/ArrayList" "elementData" "[Ljava/lang/Object;"]
def wsL_usage : List Cond := .codeWith yL_usage cL_usage 4 (some .int) [(0, 9, 12, 13)] :: ((wsL_usage_r1 ++ wsL_usage_r2) ++ wsX10 ++ wsX30 ++ wsJx4a65c0 ++ (vx_atS RX3 183 "java/lang/IndexOutOfBoundsException" ["java/lang/RuntimeException", "java/lang/Exception"]).filter goodWord)
def wsL_usageByWalking_r1 : List Cond := [Cond.classLink RL 13 "java/lang/IndexOutOfBoundsException", Cond.methodLink RL 54 yX3_usageByWalking, Cond.instanceMethod yX3_usageByWalking, Cond.selects RX3 yX3_usageByWalking yX3_usageByWalking, Cond.initialized RX3, Cond.code yX3_usageByWalking cX3_usageByWalking 7 (some .int), Cond.fieldLink RX3 16 "HoldServer" "files" "Ljava/util/ArrayList;", Cond.classLink RX3 68 "HoldServer$StoredFile", Cond.fieldLink RX3 110 "HoldServer$StoredFile" "size" "I", Cond.methodLink RX3 34 yX3_directoryNumbered, Cond.instanceMethod yX3_directoryNumbered, Cond.selects RX3 yX3_directoryNumbered yX3_directoryNumbered, Cond.code yX3_directoryNumbered cX3_directoryNumbered 2 (some (.object "HoldServer$Directory")), Cond.classLink RX3 179 "java/lang/IndexOutOfBoundsException", Cond.initialized "java/lang/IndexOutOfBoundsException", Cond.fieldLink RX3 10 "HoldServer" "directories" "Ljava/util/ArrayList;", Cond.classLink RX3 22 "HoldServer$Directory", Cond.methodLink RX3 43 yJx4a65c_size_8abf5, Cond.instanceMethod yJx4a65c_size_8abf5, Cond.selects RJx4a65c yJx4a65c_size_8abf5 yJx4a65c_size_8abf5, Cond.initialized RJx4a65c, Cond.code yJx4a65c_size_8abf5 cJx4a65c_size_8abf5 1 (some .int), Cond.fieldLink RJx4a65c 48 "java/util/ArrayList" "size" "I", Cond.methodLink RX3 149 yJx4a65c_get_915e3]
def wsL_usageByWalking_r2 : List Cond := [Cond.instanceMethod yJx4a65c_get_915e3, Cond.selects RJx4a65c yJx4a65c_get_915e3 yJx4a65c_get_915e3, Cond.code yJx4a65c_get_915e3 cJx4a65c_get_915e3 2 (some (.object "java/lang/Object")), Cond.methodLink RJx4a65c 118 yJ15_checkIndex_7cf53, Cond.static yJ15_checkIndex_7cf53, Cond.initialized RJ15, Cond.code yJ15_checkIndex_7cf53 cJ15_checkIndex_7cf53 2 (some .int), Cond.methodLink RJ15 105 yJ3_checkIndex_8e157, Cond.static yJ3_checkIndex_8e157, Cond.initialized RJ3, Cond.code yJ3_checkIndex_8e157 cJ3_checkIndex_8e157 3 (some .int), Cond.methodLink RJx4a65c 123 yJx4a65c_elementData_915e3, Cond.instanceMethod yJx4a65c_elementData_915e3, Cond.selects RJx4a65c yJx4a65c_elementData_915e3 yJx4a65c_elementData_915e3, Cond.code yJx4a65c_elementData_915e3 cJx4a65c_elementData_915e3 2 (some (.object "java/lang/Object")), Cond.fieldLink RJx4a65c 9 "java/util/ArrayList" "elementData" "[Ljava/lang/Object;", Cond.methodLink RX3 100 yX2_firstLink, Cond.instanceMethod yX2_firstLink, Cond.selects RX2 yX2_firstLink yX2_firstLink, Cond.initialized RX2, Cond.code yX2_firstLink cX2_firstLink 1 (some (.object "HoldServer$Directory")), Cond.fieldLink RX2 12 "HoldServer$StoredFile" "links" "Ljava/util/ArrayList;", Cond.classLink RX2 37 "HoldServer$Directory", Cond.methodLink RX2 29 yJx4a65c_isEmpty_aae02]
def wsL_usageByWalking_r3 : List Cond := [Cond.instanceMethod yJx4a65c_isEmpty_aae02, Cond.selects RJx4a65c yJx4a65c_isEmpty_aae02 yJx4a65c_isEmpty_aae02, Cond.code yJx4a65c_isEmpty_aae02 cJx4a65c_isEmpty_aae02 1 (some .boolean), Cond.methodLink RX2 33 yJx4a65c_get_915e3, Cond.methodLink RX3 170 yX1_hasOnItsWay, Cond.instanceMethod yX1_hasOnItsWay, Cond.selects RX1 yX1_hasOnItsWay yX1_hasOnItsWay, Cond.initialized RX1, Cond.code yX1_hasOnItsWay cX1_hasOnItsWay 3 (some .boolean), Cond.fieldLink RX1 15 "HoldServer$Directory" "parent" "LHoldServer$Directory;"]
def wsL_usageByWalking : List Cond := .codeWith yL_usageByWalking cL_usageByWalking 4 (some .int) [(0, 9, 12, 13)] :: ((wsL_usageByWalking_r1 ++ (wsL_usageByWalking_r2 ++ wsL_usageByWalking_r3)) ++ wsX30 ++ wsX20 ++ wsJx4a65c0 ++ wsX10 ++ (vx_atS RX3 183 "java/lang/IndexOutOfBoundsException" ["java/lang/RuntimeException", "java/lang/Exception"]).filter goodWord)
def wsL_size_r1 : List Cond := [Cond.classLink RL 13 "java/lang/IndexOutOfBoundsException", Cond.methodLink RL 57 yX3_size, Cond.instanceMethod yX3_size, Cond.selects RX3 yX3_size yX3_size, Cond.initialized RX3, Cond.code yX3_size cX3_size 2 (some .int), Cond.fieldLink RX3 110 "HoldServer$StoredFile" "size" "I", Cond.methodLink RX3 86 yX3_fileNumbered, Cond.instanceMethod yX3_fileNumbered, Cond.selects RX3 yX3_fileNumbered yX3_fileNumbered, Cond.code yX3_fileNumbered cX3_fileNumbered 2 (some (.object "HoldServer$StoredFile")), Cond.classLink RX3 179 "java/lang/IndexOutOfBoundsException", Cond.initialized "java/lang/IndexOutOfBoundsException", Cond.fieldLink RX3 16 "HoldServer" "files" "Ljava/util/ArrayList;", Cond.classLink RX3 68 "HoldServer$StoredFile", Cond.methodLink RX3 43 yJx4a65c_size_8abf5, Cond.instanceMethod yJx4a65c_size_8abf5, Cond.selects RJx4a65c yJx4a65c_size_8abf5 yJx4a65c_size_8abf5, Cond.initialized RJx4a65c, Cond.code yJx4a65c_size_8abf5 cJx4a65c_size_8abf5 1 (some .int), Cond.fieldLink RJx4a65c 48 "java/util/ArrayList" "size" "I", Cond.methodLink RX3 149 yJx4a65c_get_915e3, Cond.instanceMethod yJx4a65c_get_915e3, Cond.selects RJx4a65c yJx4a65c_get_915e3 yJx4a65c_get_915e3]
def wsL_size_r2 : List Cond := [Cond.code yJx4a65c_get_915e3 cJx4a65c_get_915e3 2 (some (.object "java/lang/Object")), Cond.methodLink RJx4a65c 118 yJ15_checkIndex_7cf53, Cond.static yJ15_checkIndex_7cf53, Cond.initialized RJ15, Cond.code yJ15_checkIndex_7cf53 cJ15_checkIndex_7cf53 2 (some .int), Cond.methodLink RJ15 105 yJ3_checkIndex_8e157, Cond.static yJ3_checkIndex_8e157, Cond.initialized RJ3, Cond.code yJ3_checkIndex_8e157 cJ3_checkIndex_8e157 3 (some .int), Cond.methodLink RJx4a65c 123 yJx4a65c_elementData_915e3, Cond.instanceMethod yJx4a65c_elementData_915e3, Cond.selects RJx4a65c yJx4a65c_elementData_915e3 yJx4a65c_elementData_915e3, Cond.code yJx4a65c_elementData_915e3 cJx4a65c_elementData_915e3 2 (some (.object "java/lang/Object")), Cond.fieldLink RJx4a65c 9 "java/util/ArrayList" "elementData" "[Ljava/lang/Object;"]
def wsL_size : List Cond := .codeWith yL_size cL_size 4 (some .int) [(0, 9, 12, 13)] :: ((wsL_size_r1 ++ wsL_size_r2) ++ wsX20 ++ wsX30 ++ wsJx4a65c0 ++ (vx_atS RX3 183 "java/lang/IndexOutOfBoundsException" ["java/lang/RuntimeException", "java/lang/Exception"]).filter goodWord)
def wsL_home_r1 : List Cond := [Cond.classLink RL 13 "java/lang/IndexOutOfBoundsException", Cond.methodLink RL 60 yX3_home, Cond.instanceMethod yX3_home, Cond.selects RX3 yX3_home yX3_home, Cond.initialized RX3, Cond.code yX3_home cX3_home 3 (some .int), Cond.fieldLink RX3 173 "HoldServer$Directory" "number" "I", Cond.methodLink RX3 86 yX3_fileNumbered, Cond.instanceMethod yX3_fileNumbered, Cond.selects RX3 yX3_fileNumbered yX3_fileNumbered, Cond.code yX3_fileNumbered cX3_fileNumbered 2 (some (.object "HoldServer$StoredFile")), Cond.classLink RX3 179 "java/lang/IndexOutOfBoundsException", Cond.initialized "java/lang/IndexOutOfBoundsException", Cond.fieldLink RX3 16 "HoldServer" "files" "Ljava/util/ArrayList;", Cond.classLink RX3 68 "HoldServer$StoredFile", Cond.methodLink RX3 43 yJx4a65c_size_8abf5, Cond.instanceMethod yJx4a65c_size_8abf5, Cond.selects RJx4a65c yJx4a65c_size_8abf5 yJx4a65c_size_8abf5, Cond.initialized RJx4a65c, Cond.code yJx4a65c_size_8abf5 cJx4a65c_size_8abf5 1 (some .int), Cond.fieldLink RJx4a65c 48 "java/util/ArrayList" "size" "I", Cond.methodLink RX3 149 yJx4a65c_get_915e3, Cond.instanceMethod yJx4a65c_get_915e3, Cond.selects RJx4a65c yJx4a65c_get_915e3 yJx4a65c_get_915e3]
def wsL_home_r2 : List Cond := [Cond.code yJx4a65c_get_915e3 cJx4a65c_get_915e3 2 (some (.object "java/lang/Object")), Cond.methodLink RJx4a65c 118 yJ15_checkIndex_7cf53, Cond.static yJ15_checkIndex_7cf53, Cond.initialized RJ15, Cond.code yJ15_checkIndex_7cf53 cJ15_checkIndex_7cf53 2 (some .int), Cond.methodLink RJ15 105 yJ3_checkIndex_8e157, Cond.static yJ3_checkIndex_8e157, Cond.initialized RJ3, Cond.code yJ3_checkIndex_8e157 cJ3_checkIndex_8e157 3 (some .int), Cond.methodLink RJx4a65c 123 yJx4a65c_elementData_915e3, Cond.instanceMethod yJx4a65c_elementData_915e3, Cond.selects RJx4a65c yJx4a65c_elementData_915e3 yJx4a65c_elementData_915e3, Cond.code yJx4a65c_elementData_915e3 cJx4a65c_elementData_915e3 2 (some (.object "java/lang/Object")), Cond.fieldLink RJx4a65c 9 "java/util/ArrayList" "elementData" "[Ljava/lang/Object;", Cond.methodLink RX3 100 yX2_firstLink, Cond.instanceMethod yX2_firstLink, Cond.selects RX2 yX2_firstLink yX2_firstLink, Cond.initialized RX2, Cond.code yX2_firstLink cX2_firstLink 1 (some (.object "HoldServer$Directory")), Cond.fieldLink RX2 12 "HoldServer$StoredFile" "links" "Ljava/util/ArrayList;", Cond.classLink RX2 37 "HoldServer$Directory", Cond.methodLink RX2 29 yJx4a65c_isEmpty_aae02, Cond.instanceMethod yJx4a65c_isEmpty_aae02, Cond.selects RJx4a65c yJx4a65c_isEmpty_aae02 yJx4a65c_isEmpty_aae02]
def wsL_home_r3 : List Cond := [Cond.code yJx4a65c_isEmpty_aae02 cJx4a65c_isEmpty_aae02 1 (some .boolean), Cond.methodLink RX2 33 yJx4a65c_get_915e3]
def wsL_home : List Cond := .codeWith yL_home cL_home 4 (some .int) [(0, 9, 12, 13)] :: ((wsL_home_r1 ++ (wsL_home_r2 ++ wsL_home_r3)) ++ wsX10 ++ wsX30 ++ wsJx4a65c0 ++ wsX20 ++ (vx_atS RX3 183 "java/lang/IndexOutOfBoundsException" ["java/lang/RuntimeException", "java/lang/Exception"]).filter goodWord)
def wsL_kept_r1 : List Cond := [Cond.classLink RL 13 "java/lang/IndexOutOfBoundsException", Cond.methodLink RL 63 yX3_kept, Cond.instanceMethod yX3_kept, Cond.selects RX3 yX3_kept yX3_kept, Cond.initialized RX3, Cond.code yX3_kept cX3_kept 2 (some .int), Cond.fieldLink RX3 128 "HoldServer$StoredFile" "kept" "I", Cond.methodLink RX3 86 yX3_fileNumbered, Cond.instanceMethod yX3_fileNumbered, Cond.selects RX3 yX3_fileNumbered yX3_fileNumbered, Cond.code yX3_fileNumbered cX3_fileNumbered 2 (some (.object "HoldServer$StoredFile")), Cond.classLink RX3 179 "java/lang/IndexOutOfBoundsException", Cond.initialized "java/lang/IndexOutOfBoundsException", Cond.fieldLink RX3 16 "HoldServer" "files" "Ljava/util/ArrayList;", Cond.classLink RX3 68 "HoldServer$StoredFile", Cond.methodLink RX3 43 yJx4a65c_size_8abf5, Cond.instanceMethod yJx4a65c_size_8abf5, Cond.selects RJx4a65c yJx4a65c_size_8abf5 yJx4a65c_size_8abf5, Cond.initialized RJx4a65c, Cond.code yJx4a65c_size_8abf5 cJx4a65c_size_8abf5 1 (some .int), Cond.fieldLink RJx4a65c 48 "java/util/ArrayList" "size" "I", Cond.methodLink RX3 149 yJx4a65c_get_915e3, Cond.instanceMethod yJx4a65c_get_915e3, Cond.selects RJx4a65c yJx4a65c_get_915e3 yJx4a65c_get_915e3]
def wsL_kept_r2 : List Cond := [Cond.code yJx4a65c_get_915e3 cJx4a65c_get_915e3 2 (some (.object "java/lang/Object")), Cond.methodLink RJx4a65c 118 yJ15_checkIndex_7cf53, Cond.static yJ15_checkIndex_7cf53, Cond.initialized RJ15, Cond.code yJ15_checkIndex_7cf53 cJ15_checkIndex_7cf53 2 (some .int), Cond.methodLink RJ15 105 yJ3_checkIndex_8e157, Cond.static yJ3_checkIndex_8e157, Cond.initialized RJ3, Cond.code yJ3_checkIndex_8e157 cJ3_checkIndex_8e157 3 (some .int), Cond.methodLink RJx4a65c 123 yJx4a65c_elementData_915e3, Cond.instanceMethod yJx4a65c_elementData_915e3, Cond.selects RJx4a65c yJx4a65c_elementData_915e3 yJx4a65c_elementData_915e3, Cond.code yJx4a65c_elementData_915e3 cJx4a65c_elementData_915e3 2 (some (.object "java/lang/Object")), Cond.fieldLink RJx4a65c 9 "java/util/ArrayList" "elementData" "[Ljava/lang/Object;"]
def wsL_kept : List Cond := .codeWith yL_kept cL_kept 4 (some .int) [(0, 9, 12, 13)] :: ((wsL_kept_r1 ++ wsL_kept_r2) ++ wsX20 ++ wsX30 ++ wsJx4a65c0 ++ (vx_atS RX3 183 "java/lang/IndexOutOfBoundsException" ["java/lang/RuntimeException", "java/lang/Exception"]).filter goodWord)
def wsL_holders_r1 : List Cond := [Cond.classLink RL 13 "java/lang/IndexOutOfBoundsException", Cond.methodLink RL 66 yX3_holders, Cond.instanceMethod yX3_holders, Cond.selects RX3 yX3_holders yX3_holders, Cond.initialized RX3, Cond.code yX3_holders cX3_holders 2 (some .int), Cond.fieldLink RX3 141 "HoldServer$StoredFile" "holders" "I", Cond.methodLink RX3 86 yX3_fileNumbered, Cond.instanceMethod yX3_fileNumbered, Cond.selects RX3 yX3_fileNumbered yX3_fileNumbered, Cond.code yX3_fileNumbered cX3_fileNumbered 2 (some (.object "HoldServer$StoredFile")), Cond.classLink RX3 179 "java/lang/IndexOutOfBoundsException", Cond.initialized "java/lang/IndexOutOfBoundsException", Cond.fieldLink RX3 16 "HoldServer" "files" "Ljava/util/ArrayList;", Cond.classLink RX3 68 "HoldServer$StoredFile", Cond.methodLink RX3 43 yJx4a65c_size_8abf5, Cond.instanceMethod yJx4a65c_size_8abf5, Cond.selects RJx4a65c yJx4a65c_size_8abf5 yJx4a65c_size_8abf5, Cond.initialized RJx4a65c, Cond.code yJx4a65c_size_8abf5 cJx4a65c_size_8abf5 1 (some .int), Cond.fieldLink RJx4a65c 48 "java/util/ArrayList" "size" "I", Cond.methodLink RX3 149 yJx4a65c_get_915e3, Cond.instanceMethod yJx4a65c_get_915e3, Cond.selects RJx4a65c yJx4a65c_get_915e3 yJx4a65c_get_915e3]
def wsL_holders_r2 : List Cond := [Cond.code yJx4a65c_get_915e3 cJx4a65c_get_915e3 2 (some (.object "java/lang/Object")), Cond.methodLink RJx4a65c 118 yJ15_checkIndex_7cf53, Cond.static yJ15_checkIndex_7cf53, Cond.initialized RJ15, Cond.code yJ15_checkIndex_7cf53 cJ15_checkIndex_7cf53 2 (some .int), Cond.methodLink RJ15 105 yJ3_checkIndex_8e157, Cond.static yJ3_checkIndex_8e157, Cond.initialized RJ3, Cond.code yJ3_checkIndex_8e157 cJ3_checkIndex_8e157 3 (some .int), Cond.methodLink RJx4a65c 123 yJx4a65c_elementData_915e3, Cond.instanceMethod yJx4a65c_elementData_915e3, Cond.selects RJx4a65c yJx4a65c_elementData_915e3 yJx4a65c_elementData_915e3, Cond.code yJx4a65c_elementData_915e3 cJx4a65c_elementData_915e3 2 (some (.object "java/lang/Object")), Cond.fieldLink RJx4a65c 9 "java/util/ArrayList" "elementData" "[Ljava/lang/Object;"]
def wsL_holders : List Cond := .codeWith yL_holders cL_holders 4 (some .int) [(0, 9, 12, 13)] :: ((wsL_holders_r1 ++ wsL_holders_r2) ++ wsX20 ++ wsX30 ++ wsJx4a65c0 ++ (vx_atS RX3 183 "java/lang/IndexOutOfBoundsException" ["java/lang/RuntimeException", "java/lang/Exception"]).filter goodWord)
def wsL_tier_r1 : List Cond := [Cond.classLink RL 13 "java/lang/IndexOutOfBoundsException", Cond.methodLink RL 69 yX3_tier, Cond.instanceMethod yX3_tier, Cond.selects RX3 yX3_tier yX3_tier, Cond.initialized RX3, Cond.code yX3_tier cX3_tier 2 (some .int), Cond.fieldLink RX3 70 "HoldServer" "day" "I", Cond.methodLink RX3 86 yX3_fileNumbered, Cond.instanceMethod yX3_fileNumbered, Cond.selects RX3 yX3_fileNumbered yX3_fileNumbered, Cond.code yX3_fileNumbered cX3_fileNumbered 2 (some (.object "HoldServer$StoredFile")), Cond.classLink RX3 179 "java/lang/IndexOutOfBoundsException", Cond.initialized "java/lang/IndexOutOfBoundsException", Cond.fieldLink RX3 16 "HoldServer" "files" "Ljava/util/ArrayList;", Cond.classLink RX3 68 "HoldServer$StoredFile", Cond.methodLink RX3 43 yJx4a65c_size_8abf5, Cond.instanceMethod yJx4a65c_size_8abf5, Cond.selects RJx4a65c yJx4a65c_size_8abf5 yJx4a65c_size_8abf5, Cond.initialized RJx4a65c, Cond.code yJx4a65c_size_8abf5 cJx4a65c_size_8abf5 1 (some .int), Cond.fieldLink RJx4a65c 48 "java/util/ArrayList" "size" "I", Cond.methodLink RX3 149 yJx4a65c_get_915e3, Cond.instanceMethod yJx4a65c_get_915e3, Cond.selects RJx4a65c yJx4a65c_get_915e3 yJx4a65c_get_915e3]
def wsL_tier_r2 : List Cond := [Cond.code yJx4a65c_get_915e3 cJx4a65c_get_915e3 2 (some (.object "java/lang/Object")), Cond.methodLink RJx4a65c 118 yJ15_checkIndex_7cf53, Cond.static yJ15_checkIndex_7cf53, Cond.initialized RJ15, Cond.code yJ15_checkIndex_7cf53 cJ15_checkIndex_7cf53 2 (some .int), Cond.methodLink RJ15 105 yJ3_checkIndex_8e157, Cond.static yJ3_checkIndex_8e157, Cond.initialized RJ3, Cond.code yJ3_checkIndex_8e157 cJ3_checkIndex_8e157 3 (some .int), Cond.methodLink RJx4a65c 123 yJx4a65c_elementData_915e3, Cond.instanceMethod yJx4a65c_elementData_915e3, Cond.selects RJx4a65c yJx4a65c_elementData_915e3 yJx4a65c_elementData_915e3, Cond.code yJx4a65c_elementData_915e3 cJx4a65c_elementData_915e3 2 (some (.object "java/lang/Object")), Cond.fieldLink RJx4a65c 9 "java/util/ArrayList" "elementData" "[Ljava/lang/Object;", Cond.methodLink RX3 115 yX2_tierOn, Cond.instanceMethod yX2_tierOn, Cond.selects RX2 yX2_tierOn yX2_tierOn, Cond.initialized RX2, Cond.code yX2_tierOn cX2_tierOn 3 (some .int), Cond.fieldLink RX2 26 "HoldServer$StoredFile" "usedOn" "I", Cond.methodLink RX2 55 yX2_isGone, Cond.instanceMethod yX2_isGone, Cond.selects RX2 yX2_isGone yX2_isGone, Cond.code yX2_isGone cX2_isGone 1 (some .boolean)]
def wsL_tier_r3 : List Cond := [Cond.fieldLink RX2 12 "HoldServer$StoredFile" "links" "Ljava/util/ArrayList;", Cond.methodLink RX2 29 yJx4a65c_isEmpty_aae02, Cond.instanceMethod yJx4a65c_isEmpty_aae02, Cond.selects RJx4a65c yJx4a65c_isEmpty_aae02 yJx4a65c_isEmpty_aae02, Cond.code yJx4a65c_isEmpty_aae02 cJx4a65c_isEmpty_aae02 1 (some .boolean), Cond.methodLink RX2 58 yX2_isComingBackOn, Cond.instanceMethod yX2_isComingBackOn, Cond.selects RX2 yX2_isComingBackOn yX2_isComingBackOn, Cond.code yX2_isComingBackOn cX2_isComingBackOn 2 (some .boolean)]
def wsL_tier : List Cond := .codeWith yL_tier cL_tier 4 (some .int) [(0, 9, 12, 13)] :: ((wsL_tier_r1 ++ (wsL_tier_r2 ++ wsL_tier_r3)) ++ wsX30 ++ wsJx4a65c0 ++ wsX20 ++ (vx_atS RX3 183 "java/lang/IndexOutOfBoundsException" ["java/lang/RuntimeException", "java/lang/Exception"]).filter goodWord)
def wsL_coins_r1 : List Cond := [Cond.classLink RL 13 "java/lang/IndexOutOfBoundsException", Cond.methodLink RL 72 yX3_coins, Cond.instanceMethod yX3_coins, Cond.selects RX3 yX3_coins yX3_coins, Cond.initialized RX3, Cond.code yX3_coins cX3_coins 2 (some .int), Cond.fieldLink RX3 156 "HoldServer$Department" "coins" "I", Cond.methodLink RX3 58 yX3_departmentNumbered, Cond.instanceMethod yX3_departmentNumbered, Cond.selects RX3 yX3_departmentNumbered yX3_departmentNumbered, Cond.code yX3_departmentNumbered cX3_departmentNumbered 2 (some (.object "HoldServer$Department")), Cond.classLink RX3 179 "java/lang/IndexOutOfBoundsException", Cond.initialized "java/lang/IndexOutOfBoundsException", Cond.fieldLink RX3 19 "HoldServer" "departments" "Ljava/util/ArrayList;", Cond.classLink RX3 31 "HoldServer$Department", Cond.methodLink RX3 43 yJx4a65c_size_8abf5, Cond.instanceMethod yJx4a65c_size_8abf5, Cond.selects RJx4a65c yJx4a65c_size_8abf5 yJx4a65c_size_8abf5, Cond.initialized RJx4a65c, Cond.code yJx4a65c_size_8abf5 cJx4a65c_size_8abf5 1 (some .int), Cond.fieldLink RJx4a65c 48 "java/util/ArrayList" "size" "I", Cond.methodLink RX3 149 yJx4a65c_get_915e3, Cond.instanceMethod yJx4a65c_get_915e3, Cond.selects RJx4a65c yJx4a65c_get_915e3 yJx4a65c_get_915e3]
def wsL_coins_r2 : List Cond := [Cond.code yJx4a65c_get_915e3 cJx4a65c_get_915e3 2 (some (.object "java/lang/Object")), Cond.methodLink RJx4a65c 118 yJ15_checkIndex_7cf53, Cond.static yJ15_checkIndex_7cf53, Cond.initialized RJ15, Cond.code yJ15_checkIndex_7cf53 cJ15_checkIndex_7cf53 2 (some .int), Cond.methodLink RJ15 105 yJ3_checkIndex_8e157, Cond.static yJ3_checkIndex_8e157, Cond.initialized RJ3, Cond.code yJ3_checkIndex_8e157 cJ3_checkIndex_8e157 3 (some .int), Cond.methodLink RJx4a65c 123 yJx4a65c_elementData_915e3, Cond.instanceMethod yJx4a65c_elementData_915e3, Cond.selects RJx4a65c yJx4a65c_elementData_915e3 yJx4a65c_elementData_915e3, Cond.code yJx4a65c_elementData_915e3 cJx4a65c_elementData_915e3 2 (some (.object "java/lang/Object")), Cond.fieldLink RJx4a65c 9 "java/util/ArrayList" "elementData" "[Ljava/lang/Object;"]
def wsL_coins : List Cond := .codeWith yL_coins cL_coins 4 (some .int) [(0, 9, 12, 13)] :: ((wsL_coins_r1 ++ wsL_coins_r2) ++ wsX00 ++ wsX30 ++ wsJx4a65c0 ++ (vx_atS RX3 183 "java/lang/IndexOutOfBoundsException" ["java/lang/RuntimeException", "java/lang/Exception"]).filter goodWord)
def wsL_bill_r1 : List Cond := [Cond.classLink RL 13 "java/lang/IndexOutOfBoundsException", Cond.methodLink RL 75 yX3_bill, Cond.instanceMethod yX3_bill, Cond.selects RX3 yX3_bill yX3_bill, Cond.initialized RX3, Cond.code yX3_bill cX3_bill 2 (some .int), Cond.fieldLink RX3 70 "HoldServer" "day" "I", Cond.methodLink RX3 58 yX3_departmentNumbered, Cond.instanceMethod yX3_departmentNumbered, Cond.selects RX3 yX3_departmentNumbered yX3_departmentNumbered, Cond.code yX3_departmentNumbered cX3_departmentNumbered 2 (some (.object "HoldServer$Department")), Cond.classLink RX3 179 "java/lang/IndexOutOfBoundsException", Cond.initialized "java/lang/IndexOutOfBoundsException", Cond.fieldLink RX3 19 "HoldServer" "departments" "Ljava/util/ArrayList;", Cond.classLink RX3 31 "HoldServer$Department", Cond.methodLink RX3 43 yJx4a65c_size_8abf5, Cond.instanceMethod yJx4a65c_size_8abf5, Cond.selects RJx4a65c yJx4a65c_size_8abf5 yJx4a65c_size_8abf5, Cond.initialized RJx4a65c, Cond.code yJx4a65c_size_8abf5 cJx4a65c_size_8abf5 1 (some .int), Cond.fieldLink RJx4a65c 48 "java/util/ArrayList" "size" "I", Cond.methodLink RX3 149 yJx4a65c_get_915e3, Cond.instanceMethod yJx4a65c_get_915e3, Cond.selects RJx4a65c yJx4a65c_get_915e3 yJx4a65c_get_915e3]
def wsL_bill_r2 : List Cond := [Cond.code yJx4a65c_get_915e3 cJx4a65c_get_915e3 2 (some (.object "java/lang/Object")), Cond.methodLink RJx4a65c 118 yJ15_checkIndex_7cf53, Cond.static yJ15_checkIndex_7cf53, Cond.initialized RJ15, Cond.code yJ15_checkIndex_7cf53 cJ15_checkIndex_7cf53 2 (some .int), Cond.methodLink RJ15 105 yJ3_checkIndex_8e157, Cond.static yJ3_checkIndex_8e157, Cond.initialized RJ3, Cond.code yJ3_checkIndex_8e157 cJ3_checkIndex_8e157 3 (some .int), Cond.methodLink RJx4a65c 123 yJx4a65c_elementData_915e3, Cond.instanceMethod yJx4a65c_elementData_915e3, Cond.selects RJx4a65c yJx4a65c_elementData_915e3 yJx4a65c_elementData_915e3, Cond.code yJx4a65c_elementData_915e3 cJx4a65c_elementData_915e3 2 (some (.object "java/lang/Object")), Cond.fieldLink RJx4a65c 9 "java/util/ArrayList" "elementData" "[Ljava/lang/Object;", Cond.methodLink RX3 176 yX0_billOn, Cond.instanceMethod yX0_billOn, Cond.selects RX0 yX0_billOn yX0_billOn, Cond.initialized RX0, Cond.code yX0_billOn cX0_billOn 4 (some .int), Cond.fieldLink RX0 12 "HoldServer$Department" "ownFiles" "Ljava/util/ArrayList;", Cond.classLink RX0 30 "HoldServer$StoredFile", Cond.methodLink RX0 22 yJx4a65c_size_8abf5, Cond.methodLink RX0 26 yJx4a65c_get_915e3, Cond.methodLink RX0 32 yX2_billedOn]
def wsL_bill_r3 : List Cond := [Cond.instanceMethod yX2_billedOn, Cond.selects RX2 yX2_billedOn yX2_billedOn, Cond.initialized RX2, Cond.code yX2_billedOn cX2_billedOn 3 (some .int), Cond.fieldLink RX2 22 "HoldServer$StoredFile" "size" "I", Cond.fieldLink RX2 52 "HoldServer$StoredFile" "kept" "I", Cond.methodLink RX2 55 yX2_isGone, Cond.instanceMethod yX2_isGone, Cond.selects RX2 yX2_isGone yX2_isGone, Cond.code yX2_isGone cX2_isGone 1 (some .boolean), Cond.fieldLink RX2 12 "HoldServer$StoredFile" "links" "Ljava/util/ArrayList;", Cond.methodLink RX2 29 yJx4a65c_isEmpty_aae02, Cond.instanceMethod yJx4a65c_isEmpty_aae02, Cond.selects RJx4a65c yJx4a65c_isEmpty_aae02 yJx4a65c_isEmpty_aae02, Cond.code yJx4a65c_isEmpty_aae02 cJx4a65c_isEmpty_aae02 1 (some .boolean), Cond.methodLink RX2 62 yX2_tierOn, Cond.instanceMethod yX2_tierOn, Cond.selects RX2 yX2_tierOn yX2_tierOn, Cond.code yX2_tierOn cX2_tierOn 3 (some .int), Cond.fieldLink RX2 26 "HoldServer$StoredFile" "usedOn" "I", Cond.methodLink RX2 58 yX2_isComingBackOn, Cond.instanceMethod yX2_isComingBackOn, Cond.selects RX2 yX2_isComingBackOn yX2_isComingBackOn, Cond.code yX2_isComingBackOn cX2_isComingBackOn 2 (some .boolean)]
def wsL_bill : List Cond := .codeWith yL_bill cL_bill 4 (some .int) [(0, 9, 12, 13)] :: ((wsL_bill_r1 ++ (wsL_bill_r2 ++ wsL_bill_r3)) ++ wsX30 ++ wsJx4a65c0 ++ wsX00 ++ wsX20 ++ (vx_atS RX3 183 "java/lang/IndexOutOfBoundsException" ["java/lang/RuntimeException", "java/lang/Exception"]).filter goodWord)
def wsL_law0_r1 : List Cond := [Cond.classLink RL 8 RX3, Cond.instantiable RX3 4, Cond.initialized RX3, Cond.classLink RL 79 RX4, Cond.instantiable RX4 15, Cond.initialized RX4, Cond.arrayClass .long, Cond.methodLink RL 78 yX3_init, Cond.instanceMethod yX3_init, Cond.code yX3_init cX3_init 2 none, Cond.methodLink RX3 1 objectInit, Cond.instanceMethod objectInit, Cond.code objectInit ⟨#[0xb1]⟩ 1 none, Cond.classLink RX3 7 RJx4a65c, Cond.instantiable RJx4a65c 3, Cond.initialized RJx4a65c, Cond.fieldLink RX3 10 "HoldServer" "directories" "Ljava/util/ArrayList;", Cond.fieldLink RX3 16 "HoldServer" "files" "Ljava/util/ArrayList;", Cond.fieldLink RX3 19 "HoldServer" "departments" "Ljava/util/ArrayList;", Cond.classLink RX3 22 RX1, Cond.instantiable RX1 4, Cond.initialized RX1, Cond.classLink RX3 31 RX0, Cond.instantiable RX0 2]
def wsL_law0_r2 : List Cond := [Cond.initialized RX0, Cond.methodLink RX3 9 yJx4a65c_init_da8c8, Cond.instanceMethod yJx4a65c_init_da8c8, Cond.code yJx4a65c_init_da8c8 cJx4a65c_init_da8c8 1 none, Cond.fieldLink RJx4a65c 39 "java/util/ArrayList" "DEFAULTCAPACITY_EMPTY_ELEMENTDATA" "[Ljava/lang/Object;", Cond.fieldLink RJx4a65c 9 "java/util/ArrayList" "elementData" "[Ljava/lang/Object;", Cond.methodLink RJx4a65c 1 yJxc12de_init_da8c8, Cond.instanceMethod yJxc12de_init_da8c8, Cond.initialized RJxc12de, Cond.code yJxc12de_init_da8c8 cJxc12de_init_da8c8 1 none, Cond.fieldLink RJxc12de 7 "java/util/AbstractList" "modCount" "I", Cond.methodLink RJxc12de 1 yJxa1e45_init_da8c8, Cond.instanceMethod yJxa1e45_init_da8c8, Cond.initialized RJxa1e45, Cond.code yJxa1e45_init_da8c8 cJxa1e45_init_da8c8 1 none, Cond.methodLink RJxa1e45 1 objectInit, Cond.methodLink RX3 24 yX1_init, Cond.instanceMethod yX1_init, Cond.code yX1_init cX1_init 4 none, Cond.methodLink RX1 3 objectInit, Cond.fieldLink RX1 9 "HoldServer$Directory" "number" "I", Cond.fieldLink RX1 15 "HoldServer$Directory" "parent" "LHoldServer$Directory;", Cond.fieldLink RX1 19 "HoldServer$Directory" "quota" "I", Cond.methodLink RX3 27 yJx4a65c_add_9ea2d]
def wsL_law0_r3 : List Cond := [Cond.instanceMethod yJx4a65c_add_9ea2d, Cond.selects RJx4a65c yJx4a65c_add_9ea2d yJx4a65c_add_9ea2d, Cond.code yJx4a65c_add_9ea2d cJx4a65c_add_9ea2d 2 (some .boolean), Cond.fieldLink RJx4a65c 63 "java/util/ArrayList" "modCount" "I", Cond.sameField "java/util/ArrayList" "java/util/AbstractList" "modCount" "I", Cond.fieldLink RJx4a65c 48 "java/util/ArrayList" "size" "I", Cond.methodLink RJx4a65c 131 yJx4a65c_add_72be8, Cond.instanceMethod yJx4a65c_add_72be8, Cond.selects RJx4a65c yJx4a65c_add_72be8 yJx4a65c_add_72be8, Cond.code yJx4a65c_add_72be8 cJx4a65c_add_72be8 4 none, Cond.methodLink RJx4a65c 129 yJx4a65c_grow_d5877, Cond.instanceMethod yJx4a65c_grow_d5877, Cond.selects RJx4a65c yJx4a65c_grow_d5877 yJx4a65c_grow_d5877, Cond.code yJx4a65c_grow_d5877 cJx4a65c_grow_d5877 1 (some (.array (.object "java/lang/Object"))), Cond.methodLink RJx4a65c 69 yJx4a65c_grow_92f84, Cond.instanceMethod yJx4a65c_grow_92f84, Cond.selects RJx4a65c yJx4a65c_grow_92f84 yJx4a65c_grow_92f84, Cond.code yJx4a65c_grow_92f84 cJx4a65c_grow_92f84 4 (some (.array (.object "java/lang/Object"))), Cond.methodLink RJx4a65c 79 Lib.Math.max.name, Cond.static Lib.Math.max.name, Cond.initialized "java/lang/Math", Cond.code Lib.Math.max.name Lib.Math.max.code 2 (some .int), Cond.classLink RJx4a65c 7 "java/lang/Object", Cond.methodLink RJx4a65c 73 yJ8_newLength_cabcc]
def wsL_law0_r4 : List Cond := [Cond.static yJ8_newLength_cabcc, Cond.initialized RJ8, Cond.code yJ8_newLength_cabcc cJ8_newLength_cabcc 4 (some .int), Cond.methodLink RJ8 194 Lib.Math.max.name, Cond.constant RJ8 200 (2147483639), Cond.methodLink RJ8 201 yJ8_hugeLength_7cf53, Cond.static yJ8_hugeLength_7cf53, Cond.code yJ8_hugeLength_7cf53 cJ8_hugeLength_7cf53 3 (some .int), Cond.methodLink RJx4a65c 66 yJ7_copyOf_1904c, Cond.static yJ7_copyOf_1904c, Cond.initialized RJ7, Cond.code yJ7_copyOf_1904c cJ7_copyOf_1904c 2 (some (.array (.object "java/lang/Object"))), Cond.methodLink RJ7 86 ⟨"java/lang/Object", "getClass", "()Ljava/lang/Class;"⟩, Cond.selects "[Ljava/lang/Object;" ⟨"java/lang/Object", "getClass", "()Ljava/lang/Class;"⟩ ⟨"java/lang/Object", "getClass", "()Ljava/lang/Class;"⟩, Cond.instanceMethod ⟨"java/lang/Object", "getClass", "()Ljava/lang/Class;"⟩, Cond.native ⟨"java/lang/Object", "getClass", "()Ljava/lang/Class;"⟩, Cond.methodLink RJ7 300 yJ7_copyOf_6403c, Cond.static yJ7_copyOf_6403c, Cond.code yJ7_copyOf_6403c cJ7_copyOf_6403c 4 (some (.array (.object "java/lang/Object"))), Cond.classLink RJ7 110 "[Ljava/lang/Object;", Cond.classLink RJ7 2 "java/lang/Object", Cond.methodLink RJ7 304 Lib.Math.min.name, Cond.static Lib.Math.min.name, Cond.code Lib.Math.min.name Lib.Math.min.code 2 (some .int)]
def wsL_law0_r5 : List Cond := [Cond.methodLink RJ7 150 arraycopyName, Cond.native arraycopyName, Cond.static arraycopyName, Cond.initialized "java/lang/System", Cond.instanceMethod yX0_init, Cond.code yX0_init cX0_init 1 none, Cond.methodLink RX0 3 objectInit, Cond.classLink RX0 9 RJx4a65c, Cond.fieldLink RX0 12 "HoldServer$Department" "ownFiles" "Ljava/util/ArrayList;", Cond.fieldLink RX0 18 "HoldServer$Department" "coins" "I", Cond.methodLink RX0 11 yJx4a65c_init_da8c8, Cond.methodLink RL 81 yX4_init, Cond.instanceMethod yX4_init, Cond.code yX4_init cX4_init 2 none, Cond.methodLink RX4 1 objectInit, Cond.arrayClass .int, Cond.fieldLink RX4 7 "HoldServerModel" "parent" "[I", Cond.fieldLink RX4 13 "HoldServerModel" "quota" "[I", Cond.fieldLink RX4 16 "HoldServerModel" "directories" "I", Cond.fieldLink RX4 20 "HoldServerModel" "department" "[I", Cond.fieldLink RX4 23 "HoldServerModel" "size" "[I", Cond.fieldLink RX4 26 "HoldServerModel" "link" "[I", Cond.fieldLink RX4 29 "HoldServerModel" "links" "[I", Cond.fieldLink RX4 32 "HoldServerModel" "kept" "[I"]
def wsL_law0_r6 : List Cond := [Cond.fieldLink RX4 35 "HoldServerModel" "holders" "[I", Cond.fieldLink RX4 38 "HoldServerModel" "used" "[I", Cond.fieldLink RX4 41 "HoldServerModel" "back" "[I", Cond.fieldLink RX4 44 "HoldServerModel" "coins" "[I", Cond.methodLink RL 82 yL_addDirectory, Cond.static yL_addDirectory, Cond.initialized RL, Cond.codeWith yL_addDirectory cL_addDirectory 5 (some .int) [(0, 10, 13, 13), (0, 10, 17, 15), (0, 10, 21, 17)], Cond.classLink RL 13 "java/lang/IndexOutOfBoundsException", Cond.classLink RL 15 "java/lang/IllegalArgumentException", Cond.classLink RL 17 "java/lang/IllegalStateException", Cond.methodLink RL 7 yX3_addDirectory, Cond.instanceMethod yX3_addDirectory, Cond.selects RX3 yX3_addDirectory yX3_addDirectory, Cond.code yX3_addDirectory cX3_addDirectory 5 (some .int), Cond.classLink RX3 47 "java/lang/IllegalStateException", Cond.initialized "java/lang/IllegalStateException", Cond.constant RX3 38 (100000), Cond.methodLink RX3 34 yX3_directoryNumbered, Cond.instanceMethod yX3_directoryNumbered, Cond.selects RX3 yX3_directoryNumbered yX3_directoryNumbered, Cond.code yX3_directoryNumbered cX3_directoryNumbered 2 (some (.object "HoldServer$Directory")), Cond.classLink RX3 179 "java/lang/IndexOutOfBoundsException", Cond.initialized "java/lang/IndexOutOfBoundsException"]
def wsL_law0_r7 : List Cond := [Cond.classLink RX3 22 "HoldServer$Directory", Cond.methodLink RX3 43 yJx4a65c_size_8abf5, Cond.instanceMethod yJx4a65c_size_8abf5, Cond.selects RJx4a65c yJx4a65c_size_8abf5 yJx4a65c_size_8abf5, Cond.code yJx4a65c_size_8abf5 cJx4a65c_size_8abf5 1 (some .int), Cond.methodLink RX3 149 yJx4a65c_get_915e3, Cond.instanceMethod yJx4a65c_get_915e3, Cond.selects RJx4a65c yJx4a65c_get_915e3 yJx4a65c_get_915e3, Cond.code yJx4a65c_get_915e3 cJx4a65c_get_915e3 2 (some (.object "java/lang/Object")), Cond.methodLink RJx4a65c 118 yJ15_checkIndex_7cf53, Cond.static yJ15_checkIndex_7cf53, Cond.initialized RJ15, Cond.code yJ15_checkIndex_7cf53 cJ15_checkIndex_7cf53 2 (some .int), Cond.methodLink RJ15 105 yJ3_checkIndex_8e157, Cond.static yJ3_checkIndex_8e157, Cond.initialized RJ3, Cond.code yJ3_checkIndex_8e157 cJ3_checkIndex_8e157 3 (some .int), Cond.methodLink RJx4a65c 123 yJx4a65c_elementData_915e3, Cond.instanceMethod yJx4a65c_elementData_915e3, Cond.selects RJx4a65c yJx4a65c_elementData_915e3 yJx4a65c_elementData_915e3, Cond.code yJx4a65c_elementData_915e3 cJx4a65c_elementData_915e3 2 (some (.object "java/lang/Object")), Cond.methodLink RX3 39 yX3_requireBetween, Cond.static yX3_requireBetween, Cond.code yX3_requireBetween cX3_requireBetween 3 none]
def wsL_law0_r8 : List Cond := [Cond.classLink RX3 190 "java/lang/IllegalArgumentException", Cond.initialized "java/lang/IllegalArgumentException", Cond.methodLink RL 87 yX4_addDirectory, Cond.instanceMethod yX4_addDirectory, Cond.selects RX4 yX4_addDirectory yX4_addDirectory, Cond.code yX4_addDirectory cX4_addDirectory 3 (some .int), Cond.constant RX4 61 (100000), Cond.methodLink RX4 57 yX4_isDirectory, Cond.instanceMethod yX4_isDirectory, Cond.selects RX4 yX4_isDirectory yX4_isDirectory, Cond.code yX4_isDirectory cX4_isDirectory 2 (some .boolean), Cond.methodLink RX4 50 yX4_in, Cond.static yX4_in, Cond.code yX4_in cX4_in 3 (some .boolean), Cond.methodLink RX4 62 yX4_isFine, Cond.instanceMethod yX4_isFine, Cond.selects RX4 yX4_isFine yX4_isFine, Cond.code yX4_isFine cX4_isFine 2 (some .boolean), Cond.fieldLink RX4 47 "HoldServerModel" "thrown" "I", Cond.methodLink RL 88 yX4_thrown, Cond.instanceMethod yX4_thrown, Cond.selects RX4 yX4_thrown yX4_thrown, Cond.code yX4_thrown cX4_thrown 1 (some .int), Cond.methodLink RL 92 yL_setQuota]
def wsL_law0_r9 : List Cond := [Cond.static yL_setQuota, Cond.codeWith yL_setQuota cL_setQuota 5 (some .int) [(0, 10, 13, 13), (0, 10, 17, 15)], Cond.methodLink RL 19 yX3_setQuota, Cond.instanceMethod yX3_setQuota, Cond.selects RX3 yX3_setQuota yX3_setQuota, Cond.code yX3_setQuota cX3_setQuota 5 (some .int), Cond.fieldLink RX3 54 "HoldServer$Directory" "quota" "I", Cond.methodLink RL 94 yX4_setQuota, Cond.instanceMethod yX4_setQuota, Cond.selects RX4 yX4_setQuota yX4_setQuota, Cond.code yX4_setQuota cX4_setQuota 4 (some .int), Cond.methodLink RL 95 yL_make, Cond.static yL_make, Cond.codeWith yL_make cL_make 6 (some .int) [(0, 12, 15, 13), (0, 12, 19, 15), (0, 12, 23, 17)], Cond.methodLink RL 22 yX3_make, Cond.instanceMethod yX3_make, Cond.selects RX3 yX3_make yX3_make, Cond.code yX3_make cX3_make 8 (some .int), Cond.classLink RX3 68 RX2, Cond.instantiable RX2 6, Cond.initialized RX2, Cond.fieldLink RX3 70 "HoldServer" "day" "I", Cond.fieldLink RX3 76 "HoldServer$StoredFile" "links" "Ljava/util/ArrayList;", Cond.fieldLink RX3 83 "HoldServer$Department" "ownFiles" "Ljava/util/ArrayList;"]
def wsL_law0_r10 : List Cond := [Cond.methodLink RX3 58 yX3_departmentNumbered, Cond.instanceMethod yX3_departmentNumbered, Cond.selects RX3 yX3_departmentNumbered yX3_departmentNumbered, Cond.code yX3_departmentNumbered cX3_departmentNumbered 2 (some (.object "HoldServer$Department")), Cond.classLink RX3 31 "HoldServer$Department", Cond.methodLink RX3 64 yX3_requireGrowthPossible, Cond.static yX3_requireGrowthPossible, Cond.code yX3_requireGrowthPossible cX3_requireGrowthPossible 3 none, Cond.fieldLink RX3 156 "HoldServer$Department" "coins" "I", Cond.methodLink RX3 201 yX1_hasRoomFor, Cond.instanceMethod yX1_hasRoomFor, Cond.selects RX1 yX1_hasRoomFor yX1_hasRoomFor, Cond.code yX1_hasRoomFor cX1_hasRoomFor 3 (some .boolean), Cond.fieldLink RX1 22 "HoldServer$Directory" "usage" "I", Cond.methodLink RX3 73 yX2_init, Cond.instanceMethod yX2_init, Cond.code yX2_init cX2_init 4 none, Cond.methodLink RX2 3 objectInit, Cond.classLink RX2 9 RJx4a65c, Cond.fieldLink RX2 12 "HoldServer$StoredFile" "links" "Ljava/util/ArrayList;", Cond.fieldLink RX2 18 "HoldServer$StoredFile" "owner" "LHoldServer$Department;", Cond.fieldLink RX2 22 "HoldServer$StoredFile" "size" "I", Cond.fieldLink RX2 26 "HoldServer$StoredFile" "usedOn" "I", Cond.methodLink RX2 11 yJx4a65c_init_da8c8]
def wsL_law0_r11 : List Cond := [Cond.methodLink RX3 79 yX1_addUsage, Cond.instanceMethod yX1_addUsage, Cond.selects RX1 yX1_addUsage yX1_addUsage, Cond.code yX1_addUsage cX1_addUsage 3 none, Cond.methodLink RL 98 yX4_make, Cond.instanceMethod yX4_make, Cond.selects RX4 yX4_make yX4_make, Cond.code yX4_make cX4_make 5 (some .int), Cond.fieldLink RX4 54 "HoldServerModel" "files" "I", Cond.fieldLink RX4 82 "HoldServerModel" "day" "I", Cond.methodLink RX4 76 yX4_isDepartment, Cond.static yX4_isDepartment, Cond.code yX4_isDepartment cX4_isDepartment 1 (some .boolean), Cond.methodLink RX4 79 yX4_canGrow, Cond.instanceMethod yX4_canGrow, Cond.selects RX4 yX4_canGrow yX4_canGrow, Cond.code yX4_canGrow cX4_canGrow 6 (some .boolean), Cond.methodLink RX4 73 yX4_usageOf, Cond.instanceMethod yX4_usageOf, Cond.selects RX4 yX4_usageOf yX4_usageOf, Cond.code yX4_usageOf cX4_usageOf 4 (some .int), Cond.methodLink RX4 65 yX4_homeOf, Cond.instanceMethod yX4_homeOf, Cond.selects RX4 yX4_homeOf yX4_homeOf]
def wsL_law0_r12 : List Cond := [Cond.code yX4_homeOf cX4_homeOf 2 (some .int), Cond.methodLink RX4 69 yX4_isOver, Cond.instanceMethod yX4_isOver, Cond.selects RX4 yX4_isOver yX4_isOver, Cond.code yX4_isOver cX4_isOver 4 (some .boolean), Cond.methodLink RL 99 yL_link, Cond.static yL_link, Cond.codeWith yL_link cL_link 5 (some .int) [(0, 10, 13, 13), (0, 10, 17, 17)], Cond.methodLink RL 26 yX3_link, Cond.instanceMethod yX3_link, Cond.selects RX3 yX3_link yX3_link, Cond.code yX3_link cX3_link 5 (some .int), Cond.methodLink RX3 86 yX3_fileNumbered, Cond.instanceMethod yX3_fileNumbered, Cond.selects RX3 yX3_fileNumbered yX3_fileNumbered, Cond.code yX3_fileNumbered cX3_fileNumbered 2 (some (.object "HoldServer$StoredFile")), Cond.classLink RX3 68 "HoldServer$StoredFile", Cond.methodLink RX3 90 yX3_requireNotGone, Cond.static yX3_requireNotGone, Cond.code yX3_requireNotGone cX3_requireNotGone 1 none, Cond.methodLink RX3 195 yX2_isGone, Cond.instanceMethod yX2_isGone, Cond.selects RX2 yX2_isGone yX2_isGone, Cond.code yX2_isGone cX2_isGone 1 (some .boolean)]
def wsL_law0_r13 : List Cond := [Cond.methodLink RX2 29 yJx4a65c_isEmpty_aae02, Cond.instanceMethod yJx4a65c_isEmpty_aae02, Cond.selects RJx4a65c yJx4a65c_isEmpty_aae02 yJx4a65c_isEmpty_aae02, Cond.code yJx4a65c_isEmpty_aae02 cJx4a65c_isEmpty_aae02 1 (some .boolean), Cond.methodLink RX3 94 yX2_placeOfLinkTo, Cond.instanceMethod yX2_placeOfLinkTo, Cond.selects RX2 yX2_placeOfLinkTo yX2_placeOfLinkTo, Cond.code yX2_placeOfLinkTo cX2_placeOfLinkTo 3 (some .int), Cond.methodLink RX2 39 yJx4a65c_size_8abf5, Cond.methodLink RX2 33 yJx4a65c_get_915e3, Cond.methodLink RL 101 yX4_link, Cond.instanceMethod yX4_link, Cond.selects RX4 yX4_link yX4_link, Cond.code yX4_link cX4_link 4 (some .int), Cond.methodLink RX4 85 yX4_isFile, Cond.instanceMethod yX4_isFile, Cond.selects RX4 yX4_isFile yX4_isFile, Cond.code yX4_isFile cX4_isFile 2 (some .boolean), Cond.methodLink RX4 88 yX4_linkTo, Cond.instanceMethod yX4_linkTo, Cond.selects RX4 yX4_linkTo yX4_linkTo, Cond.code yX4_linkTo cX4_linkTo 5 (some .int), Cond.methodLink RL 102 yL_unlink, Cond.static yL_unlink]
def wsL_law0_r14 : List Cond := [Cond.codeWith yL_unlink cL_unlink 5 (some .int) [(0, 10, 13, 13), (0, 10, 17, 17)], Cond.methodLink RL 29 yX3_unlink, Cond.instanceMethod yX3_unlink, Cond.selects RX3 yX3_unlink yX3_unlink, Cond.code yX3_unlink cX3_unlink 7 (some .int), Cond.fieldLink RX3 110 "HoldServer$StoredFile" "size" "I", Cond.methodLink RX3 100 yX2_firstLink, Cond.instanceMethod yX2_firstLink, Cond.selects RX2 yX2_firstLink yX2_firstLink, Cond.code yX2_firstLink cX2_firstLink 1 (some (.object "HoldServer$Directory")), Cond.classLink RX2 37 "HoldServer$Directory", Cond.methodLink RX3 104 yX2_removeLinkTo, Cond.instanceMethod yX2_removeLinkTo, Cond.selects RX2 yX2_removeLinkTo yX2_removeLinkTo, Cond.code yX2_removeLinkTo cX2_removeLinkTo 3 (some .boolean), Cond.methodLink RX2 42 yX2_placeOfLinkTo, Cond.methodLink RX2 46 yJx4a65c_remove_915e3, Cond.instanceMethod yJx4a65c_remove_915e3, Cond.selects RJx4a65c yJx4a65c_remove_915e3 yJx4a65c_remove_915e3, Cond.code yJx4a65c_remove_915e3 cJx4a65c_remove_915e3 4 (some (.object "java/lang/Object")), Cond.methodLink RJx4a65c 144 yJx4a65c_fastRemove_b59b0, Cond.instanceMethod yJx4a65c_fastRemove_b59b0, Cond.selects RJx4a65c yJx4a65c_fastRemove_b59b0 yJx4a65c_fastRemove_b59b0, Cond.code yJx4a65c_fastRemove_b59b0 cJx4a65c_fastRemove_b59b0 4 none]
def wsL_law0_r15 : List Cond := [Cond.methodLink RJx4a65c 112 arraycopyName, Cond.methodLink RX3 112 yX2_replaceSize, Cond.instanceMethod yX2_replaceSize, Cond.selects RX2 yX2_replaceSize yX2_replaceSize, Cond.code yX2_replaceSize cX2_replaceSize 2 none, Cond.fieldLink RX2 49 "HoldServer$StoredFile" "holders" "I", Cond.fieldLink RX2 52 "HoldServer$StoredFile" "kept" "I", Cond.methodLink RL 104 yX4_unlink, Cond.instanceMethod yX4_unlink, Cond.selects RX4 yX4_unlink yX4_unlink, Cond.code yX4_unlink cX4_unlink 6 (some .int), Cond.methodLink RL 105 yL_write, Cond.static yL_write, Cond.codeWith yL_write cL_write 5 (some .int) [(0, 10, 13, 13), (0, 10, 17, 15), (0, 10, 21, 17)], Cond.methodLink RL 32 yX3_write, Cond.instanceMethod yX3_write, Cond.selects RX3 yX3_write yX3_write, Cond.code yX3_write cX3_write 6 (some .int), Cond.fieldLink RX3 121 "HoldServer$StoredFile" "owner" "LHoldServer$Department;", Cond.fieldLink RX3 125 "HoldServer$StoredFile" "usedOn" "I", Cond.fieldLink RX3 128 "HoldServer$StoredFile" "kept" "I", Cond.methodLink RX3 115 yX2_tierOn, Cond.instanceMethod yX2_tierOn, Cond.selects RX2 yX2_tierOn yX2_tierOn]
def wsL_law0_r16 : List Cond := [Cond.code yX2_tierOn cX2_tierOn 3 (some .int), Cond.methodLink RX2 55 yX2_isGone, Cond.methodLink RX2 58 yX2_isComingBackOn, Cond.instanceMethod yX2_isComingBackOn, Cond.selects RX2 yX2_isComingBackOn yX2_isComingBackOn, Cond.code yX2_isComingBackOn cX2_isComingBackOn 2 (some .boolean), Cond.methodLink RL 107 yX4_write, Cond.instanceMethod yX4_write, Cond.selects RX4 yX4_write yX4_write, Cond.code yX4_write cX4_write 4 (some .int), Cond.methodLink RX4 92 yX4_tierOf, Cond.instanceMethod yX4_tierOf, Cond.selects RX4 yX4_tierOf yX4_tierOf, Cond.code yX4_tierOf cX4_tierOf 3 (some .int), Cond.methodLink RL 108 yL_read, Cond.static yL_read, Cond.codeWith yL_read cL_read 4 (some .int) [(0, 9, 12, 13), (0, 9, 15, 17)], Cond.methodLink RL 35 yX3_read, Cond.instanceMethod yX3_read, Cond.selects RX3 yX3_read yX3_read, Cond.code yX3_read cX3_read 3 (some .int), Cond.methodLink RX3 131 yX2_isComingBackOn, Cond.methodLink RX3 135 yX3_startBringingBack, Cond.instanceMethod yX3_startBringingBack]
def wsL_law0_r17 : List Cond := [Cond.selects RX3 yX3_startBringingBack yX3_startBringingBack, Cond.code yX3_startBringingBack cX3_startBringingBack 3 none, Cond.methodLink RX3 206 yX2_costToBringBack, Cond.instanceMethod yX2_costToBringBack, Cond.selects RX2 yX2_costToBringBack yX2_costToBringBack, Cond.code yX2_costToBringBack cX2_costToBringBack 1 (some .int), Cond.methodLink RL 111 yX4_read, Cond.instanceMethod yX4_read, Cond.selects RX4 yX4_read yX4_read, Cond.code yX4_read cX4_read 4 (some .int), Cond.methodLink RL 112 yL_hold, Cond.static yL_hold, Cond.codeWith yL_hold cL_hold 5 (some .int) [(0, 10, 13, 13), (0, 10, 17, 17)], Cond.methodLink RL 39 yX3_hold, Cond.instanceMethod yX3_hold, Cond.selects RX3 yX3_hold yX3_hold, Cond.code yX3_hold cX3_hold 5 (some .int), Cond.fieldLink RX3 141 "HoldServer$StoredFile" "holders" "I", Cond.methodLink RX3 138 yX3_bitOfMatter, Cond.static yX3_bitOfMatter, Cond.code yX3_bitOfMatter cX3_bitOfMatter 1 (some .int), Cond.methodLink RX3 144 yJ6_bitCount_0f7a4, Cond.static yJ6_bitCount_0f7a4, Cond.initialized RJ6]
def wsL_law0_r18 : List Cond := [Cond.code yJ6_bitCount_0f7a4 cJ6_bitCount_0f7a4 1 (some .int), Cond.constant RJ6 265 (1431655765), Cond.constant RJ6 266 (858993459), Cond.constant RJ6 267 (252645135), Cond.methodLink RL 114 yX4_hold, Cond.instanceMethod yX4_hold, Cond.selects RX4 yX4_hold yX4_hold, Cond.code yX4_hold cX4_hold 3 (some .int), Cond.methodLink RX4 95 yX4_many, Cond.static yX4_many, Cond.code yX4_many cX4_many 3 (some .int), Cond.methodLink RL 115 yL_release, Cond.static yL_release, Cond.codeWith yL_release cL_release 4 (some .int) [(0, 9, 12, 13)], Cond.methodLink RL 42 yX3_release, Cond.instanceMethod yX3_release, Cond.selects RX3 yX3_release yX3_release, Cond.code yX3_release cX3_release 5 (some .int), Cond.methodLink RX3 153 yX2_releaseFrom, Cond.instanceMethod yX2_releaseFrom, Cond.selects RX2 yX2_releaseFrom yX2_releaseFrom, Cond.code yX2_releaseFrom cX2_releaseFrom 3 (some .int), Cond.methodLink RL 117 yX4_release, Cond.instanceMethod yX4_release]
def wsL_law0_r19 : List Cond := [Cond.selects RX4 yX4_release yX4_release, Cond.code yX4_release cX4_release 4 (some .int), Cond.methodLink RL 118 yL_fund, Cond.static yL_fund, Cond.codeWith yL_fund cL_fund 5 (some .int) [(0, 10, 13, 13), (0, 10, 17, 15), (0, 10, 21, 17)], Cond.methodLink RL 45 yX3_fund, Cond.instanceMethod yX3_fund, Cond.selects RX3 yX3_fund yX3_fund, Cond.code yX3_fund cX3_fund 4 (some .int), Cond.constant RX3 159 (1000000), Cond.methodLink RL 120 yX4_fund, Cond.instanceMethod yX4_fund, Cond.selects RX4 yX4_fund yX4_fund, Cond.code yX4_fund cX4_fund 4 (some .int), Cond.constant RX4 98 (1000000), Cond.methodLink RL 121 yL_pass, Cond.static yL_pass, Cond.codeWith yL_pass cL_pass 4 (some .int) [(0, 9, 12, 15), (0, 9, 15, 17)], Cond.methodLink RL 48 yX3_pass, Cond.instanceMethod yX3_pass, Cond.selects RX3 yX3_pass yX3_pass, Cond.code yX3_pass cX3_pass 4 (some .int), Cond.methodLink RX3 164 yX3_payBills, Cond.instanceMethod yX3_payBills]
def wsL_law0_r20 : List Cond := [Cond.selects RX3 yX3_payBills yX3_payBills, Cond.code yX3_payBills cX3_payBills 5 (some .int), Cond.methodLink RX3 211 Lib.Math.min.name, Cond.methodLink RX3 176 yX0_billOn, Cond.instanceMethod yX0_billOn, Cond.selects RX0 yX0_billOn yX0_billOn, Cond.code yX0_billOn cX0_billOn 4 (some .int), Cond.classLink RX0 30 "HoldServer$StoredFile", Cond.methodLink RX0 22 yJx4a65c_size_8abf5, Cond.methodLink RX0 26 yJx4a65c_get_915e3, Cond.methodLink RX0 32 yX2_billedOn, Cond.instanceMethod yX2_billedOn, Cond.selects RX2 yX2_billedOn yX2_billedOn, Cond.code yX2_billedOn cX2_billedOn 3 (some .int), Cond.methodLink RX2 62 yX2_tierOn, Cond.methodLink RL 123 yX4_pass, Cond.instanceMethod yX4_pass, Cond.selects RX4 yX4_pass yX4_pass, Cond.code yX4_pass cX4_pass 4 (some .int), Cond.methodLink RX4 102 yX4_goesDay, Cond.instanceMethod yX4_goesDay, Cond.selects RX4 yX4_goesDay yX4_goesDay, Cond.code yX4_goesDay cX4_goesDay 4 (some .int), Cond.methodLink RX4 99 yX4_billOf]
def wsL_law0_r21 : List Cond := [Cond.instanceMethod yX4_billOf, Cond.selects RX4 yX4_billOf yX4_billOf, Cond.code yX4_billOf cX4_billOf 4 (some .int), Cond.methodLink RL 124 yX3_day, Cond.instanceMethod yX3_day, Cond.selects RX3 yX3_day yX3_day, Cond.code yX3_day cX3_day 1 (some .int), Cond.methodLink RL 127 yX4_day, Cond.instanceMethod yX4_day, Cond.selects RX4 yX4_day yX4_day, Cond.code yX4_day cX4_day 1 (some .int), Cond.methodLink RL 128 yX3_directories, Cond.instanceMethod yX3_directories, Cond.selects RX3 yX3_directories yX3_directories, Cond.code yX3_directories cX3_directories 1 (some .int), Cond.methodLink RL 131 yX4_directories, Cond.instanceMethod yX4_directories, Cond.selects RX4 yX4_directories yX4_directories, Cond.code yX4_directories cX4_directories 1 (some .int), Cond.methodLink RL 132 yX3_files, Cond.instanceMethod yX3_files, Cond.selects RX3 yX3_files yX3_files, Cond.code yX3_files cX3_files 1 (some .int), Cond.methodLink RL 135 yX4_files]
def wsL_law0_r22 : List Cond := [Cond.instanceMethod yX4_files, Cond.selects RX4 yX4_files yX4_files, Cond.code yX4_files cX4_files 1 (some .int), Cond.methodLink RL 136 yL_usage, Cond.static yL_usage, Cond.codeWith yL_usage cL_usage 4 (some .int) [(0, 9, 12, 13)], Cond.methodLink RL 51 yX3_usage, Cond.instanceMethod yX3_usage, Cond.selects RX3 yX3_usage yX3_usage, Cond.code yX3_usage cX3_usage 2 (some .int), Cond.fieldLink RX3 167 "HoldServer$Directory" "usage" "I", Cond.methodLink RL 138 yX4_usage, Cond.instanceMethod yX4_usage, Cond.selects RX4 yX4_usage yX4_usage, Cond.code yX4_usage cX4_usage 2 (some .int), Cond.methodLink RL 139 yL_usageByWalking, Cond.static yL_usageByWalking, Cond.codeWith yL_usageByWalking cL_usageByWalking 4 (some .int) [(0, 9, 12, 13)], Cond.methodLink RL 54 yX3_usageByWalking, Cond.instanceMethod yX3_usageByWalking, Cond.selects RX3 yX3_usageByWalking yX3_usageByWalking, Cond.code yX3_usageByWalking cX3_usageByWalking 7 (some .int), Cond.methodLink RX3 170 yX1_hasOnItsWay, Cond.instanceMethod yX1_hasOnItsWay]
def wsL_law0_r23 : List Cond := [Cond.selects RX1 yX1_hasOnItsWay yX1_hasOnItsWay, Cond.code yX1_hasOnItsWay cX1_hasOnItsWay 3 (some .boolean), Cond.methodLink RL 141 yX4_usageByWalking, Cond.instanceMethod yX4_usageByWalking, Cond.selects RX4 yX4_usageByWalking yX4_usageByWalking, Cond.code yX4_usageByWalking cX4_usageByWalking 2 (some .int), Cond.methodLink RL 142 yL_size, Cond.static yL_size, Cond.codeWith yL_size cL_size 4 (some .int) [(0, 9, 12, 13)], Cond.methodLink RL 57 yX3_size, Cond.instanceMethod yX3_size, Cond.selects RX3 yX3_size yX3_size, Cond.code yX3_size cX3_size 2 (some .int), Cond.methodLink RL 144 yX4_size, Cond.instanceMethod yX4_size, Cond.selects RX4 yX4_size yX4_size, Cond.code yX4_size cX4_size 2 (some .int), Cond.methodLink RL 145 yL_home, Cond.static yL_home, Cond.codeWith yL_home cL_home 4 (some .int) [(0, 9, 12, 13)], Cond.methodLink RL 60 yX3_home, Cond.instanceMethod yX3_home, Cond.selects RX3 yX3_home yX3_home, Cond.code yX3_home cX3_home 3 (some .int)]
def wsL_law0_r24 : List Cond := [Cond.fieldLink RX3 173 "HoldServer$Directory" "number" "I", Cond.methodLink RL 147 yX4_home, Cond.instanceMethod yX4_home, Cond.selects RX4 yX4_home yX4_home, Cond.code yX4_home cX4_home 2 (some .int), Cond.methodLink RL 148 yL_kept, Cond.static yL_kept, Cond.codeWith yL_kept cL_kept 4 (some .int) [(0, 9, 12, 13)], Cond.methodLink RL 63 yX3_kept, Cond.instanceMethod yX3_kept, Cond.selects RX3 yX3_kept yX3_kept, Cond.code yX3_kept cX3_kept 2 (some .int), Cond.methodLink RL 150 yX4_kept, Cond.instanceMethod yX4_kept, Cond.selects RX4 yX4_kept yX4_kept, Cond.code yX4_kept cX4_kept 2 (some .int), Cond.methodLink RL 151 yL_holders, Cond.static yL_holders, Cond.codeWith yL_holders cL_holders 4 (some .int) [(0, 9, 12, 13)], Cond.methodLink RL 66 yX3_holders, Cond.instanceMethod yX3_holders, Cond.selects RX3 yX3_holders yX3_holders, Cond.code yX3_holders cX3_holders 2 (some .int), Cond.methodLink RL 153 yX4_holders]
def wsL_law0_r25 : List Cond := [Cond.instanceMethod yX4_holders, Cond.selects RX4 yX4_holders yX4_holders, Cond.code yX4_holders cX4_holders 2 (some .int), Cond.methodLink RL 154 yL_tier, Cond.static yL_tier, Cond.codeWith yL_tier cL_tier 4 (some .int) [(0, 9, 12, 13)], Cond.methodLink RL 69 yX3_tier, Cond.instanceMethod yX3_tier, Cond.selects RX3 yX3_tier yX3_tier, Cond.code yX3_tier cX3_tier 2 (some .int), Cond.methodLink RL 156 yX4_tier, Cond.instanceMethod yX4_tier, Cond.selects RX4 yX4_tier yX4_tier, Cond.code yX4_tier cX4_tier 2 (some .int), Cond.methodLink RL 157 yL_coins, Cond.static yL_coins, Cond.codeWith yL_coins cL_coins 4 (some .int) [(0, 9, 12, 13)], Cond.methodLink RL 72 yX3_coins, Cond.instanceMethod yX3_coins, Cond.selects RX3 yX3_coins yX3_coins, Cond.code yX3_coins cX3_coins 2 (some .int), Cond.methodLink RL 159 yX4_coins, Cond.instanceMethod yX4_coins, Cond.selects RX4 yX4_coins yX4_coins]
def wsL_law0_r26 : List Cond := [Cond.code yX4_coins cX4_coins 2 (some .int), Cond.methodLink RL 160 yL_bill, Cond.static yL_bill, Cond.codeWith yL_bill cL_bill 4 (some .int) [(0, 9, 12, 13)], Cond.methodLink RL 75 yX3_bill, Cond.instanceMethod yX3_bill, Cond.selects RX3 yX3_bill yX3_bill, Cond.code yX3_bill cX3_bill 2 (some .int), Cond.methodLink RL 162 yX4_bill, Cond.instanceMethod yX4_bill, Cond.selects RX4 yX4_bill yX4_bill, Cond.code yX4_bill cX4_bill 2 (some .int)]
def wsL_law0 : List Cond := (wsL_law0_r1 ++ (wsL_law0_r2 ++ (wsL_law0_r3 ++ (wsL_law0_r4 ++ (wsL_law0_r5 ++ (wsL_law0_r6 ++ (wsL_law0_r7 ++ (wsL_law0_r8 ++ (wsL_law0_r9 ++ (wsL_law0_r10 ++ (wsL_law0_r11 ++ (wsL_law0_r12 ++ (wsL_law0_r13 ++ (wsL_law0_r14 ++ (wsL_law0_r15 ++ (wsL_law0_r16 ++ (wsL_law0_r17 ++ (wsL_law0_r18 ++ (wsL_law0_r19 ++ (wsL_law0_r20 ++ (wsL_law0_r21 ++ (wsL_law0_r22 ++ (wsL_law0_r23 ++ (wsL_law0_r24 ++ (wsL_law0_r25 ++ wsL_law0_r26))))))))))))))))))))))))) ++ wsX30 ++ wsX40 ++ wsJx4a65c0 ++ wsX10 ++ wsX00 ++ wsX20 ++ ([] : List Cond)
def wsL_law : List Cond := wsL_law0 ++ (vx_atS RX3 51 "java/lang/IllegalStateException" ["java/lang/RuntimeException", "java/lang/Exception"]).filter goodWord ++ (vx_atS RX3 183 "java/lang/IndexOutOfBoundsException" ["java/lang/RuntimeException", "java/lang/Exception"]).filter goodWord ++ (vx_atS RX3 194 "java/lang/IllegalArgumentException" ["java/lang/RuntimeException", "java/lang/Exception"]).filter goodWord
end
section
set_option maxRecDepth 20000 in
theorem wsL_law_in0_r1 : ∀ w ∈ wsL_law0_r1, w ∈ lw_tbl := fun w h => (goodIn_p wsL_law0_r1 [47, 50] (by decide +kernel) (by decide +kernel) w h).1
set_option maxRecDepth 20000 in
theorem wsL_law_in0_r2 : ∀ w ∈ wsL_law0_r2, w ∈ lw_tbl := fun w h => (goodIn_p wsL_law0_r2 [55, 58, 61, 81] (by decide +kernel) (by decide +kernel) w h).1
set_option maxRecDepth 20000 in
theorem wsL_law_in0_r3 : ∀ w ∈ wsL_law0_r3, w ∈ lw_tbl := fun w h => (goodIn_p wsL_law0_r3 [102, 106, 110, 114, 120] (by decide +kernel) (by decide +kernel) w h).1
set_option maxRecDepth 20000 in
theorem wsL_law_in0_r4 : ∀ w ∈ wsL_law0_r4, w ∈ lw_tbl := fun w h => (goodIn_p wsL_law0_r4 [117, 124, 127, 143, 149] (by decide +kernel) (by decide +kernel) w h).1
set_option maxRecDepth 20000 in
theorem wsL_law_in0_r5 : ∀ w ∈ wsL_law0_r5, w ∈ lw_tbl := fun w h => (goodIn_p wsL_law0_r5 [159, 627] (by decide +kernel) (by decide +kernel) w h).1
set_option maxRecDepth 20000 in
theorem wsL_law_in0_r6 : ∀ w ∈ wsL_law0_r6, w ∈ lw_tbl := fun w h => (goodIn_p wsL_law0_r6 [210, 214] (by decide +kernel) (by decide +kernel) w h).1
set_option maxRecDepth 20000 in
theorem wsL_law_in0_r7 : ∀ w ∈ wsL_law0_r7, w ∈ lw_tbl := fun w h => (goodIn_p wsL_law0_r7 [196, 286, 289, 292, 296, 300] (by decide +kernel) (by decide +kernel) w h).1
set_option maxRecDepth 20000 in
theorem wsL_law_in0_r8 : ∀ w ∈ wsL_law0_r8, w ∈ lw_tbl := fun w h => (goodIn_p wsL_law0_r8 [683, 687, 690, 695, 679] (by decide +kernel) (by decide +kernel) w h).1
set_option maxRecDepth 20000 in
theorem wsL_law_in0_r9 : ∀ w ∈ wsL_law0_r9, w ∈ lw_tbl := fun w h => (goodIn_p wsL_law0_r9 [339, 699, 346] (by decide +kernel) (by decide +kernel) w h).1
set_option maxRecDepth 20000 in
theorem wsL_law_in0_r10 : ∀ w ∈ wsL_law0_r10, w ∈ lw_tbl := fun w h => (goodIn_p wsL_law0_r10 [350, 355, 359, 365] (by decide +kernel) (by decide +kernel) w h).1
set_option maxRecDepth 20000 in
theorem wsL_law_in0_r11 : ∀ w ∈ wsL_law0_r11, w ∈ lw_tbl := fun w h => (goodIn_p wsL_law0_r11 [397, 703, 706, 710, 714] (by decide +kernel) (by decide +kernel) w h).1
set_option maxRecDepth 20000 in
theorem wsL_law_in0_r12 : ∀ w ∈ wsL_law0_r12, w ∈ lw_tbl := fun w h => (goodIn_p wsL_law0_r12 [718, 722, 404, 408, 412, 416] (by decide +kernel) (by decide +kernel) w h).1
set_option maxRecDepth 20000 in
theorem wsL_law_in0_r13 : ∀ w ∈ wsL_law0_r13, w ∈ lw_tbl := fun w h => (goodIn_p wsL_law0_r13 [420, 425, 726, 730, 734] (by decide +kernel) (by decide +kernel) w h).1
set_option maxRecDepth 20000 in
theorem wsL_law_in0_r14 : ∀ w ∈ wsL_law0_r14, w ∈ lw_tbl := fun w h => (goodIn_p wsL_law0_r14 [435, 439, 444, 449, 453] (by decide +kernel) (by decide +kernel) w h).1
set_option maxRecDepth 20000 in
theorem wsL_law_in0_r15 : ∀ w ∈ wsL_law0_r15, w ∈ lw_tbl := fun w h => (goodIn_p wsL_law0_r15 [459, 738, 466] (by decide +kernel) (by decide +kernel) w h).1
set_option maxRecDepth 20000 in
theorem wsL_law_in0_r16 : ∀ w ∈ wsL_law0_r16, w ∈ lw_tbl := fun w h => (goodIn_p wsL_law0_r16 [470, 475, 742, 746, 483] (by decide +kernel) (by decide +kernel) w h).1
set_option maxRecDepth 20000 in
theorem wsL_law_in0_r17 : ∀ w ∈ wsL_law0_r17, w ∈ lw_tbl := fun w h => (goodIn_p wsL_law0_r17 [488, 492, 750, 500, 503] (by decide +kernel) (by decide +kernel) w h).1
set_option maxRecDepth 20000 in
theorem wsL_law_in0_r18 : ∀ w ∈ wsL_law0_r18, w ∈ lw_tbl := fun w h => (goodIn_p wsL_law0_r18 [507, 754, 757, 517, 521] (by decide +kernel) (by decide +kernel) w h).1
set_option maxRecDepth 20000 in
theorem wsL_law_in0_r19 : ∀ w ∈ wsL_law0_r19, w ∈ lw_tbl := fun w h => (goodIn_p wsL_law0_r19 [761, 528, 765, 537] (by decide +kernel) (by decide +kernel) w h).1
set_option maxRecDepth 20000 in
theorem wsL_law_in0_r20 : ∀ w ∈ wsL_law0_r20, w ∈ lw_tbl := fun w h => (goodIn_p wsL_law0_r20 [542, 546, 553, 770, 774] (by decide +kernel) (by decide +kernel) w h).1
set_option maxRecDepth 20000 in
theorem wsL_law_in0_r21 : ∀ w ∈ wsL_law0_r21, w ∈ lw_tbl := fun w h => (goodIn_p wsL_law0_r21 [778, 188, 782, 192, 786, 200] (by decide +kernel) (by decide +kernel) w h).1
set_option maxRecDepth 20000 in
theorem wsL_law_in0_r22 : ∀ w ∈ wsL_law0_r22, w ∈ lw_tbl := fun w h => (goodIn_p wsL_law0_r22 [790, 562, 794, 569] (by decide +kernel) (by decide +kernel) w h).1
set_option maxRecDepth 20000 in
theorem wsL_law_in0_r23 : ∀ w ∈ wsL_law0_r23, w ∈ lw_tbl := fun w h => (goodIn_p wsL_law0_r23 [573, 798, 580, 802, 587] (by decide +kernel) (by decide +kernel) w h).1
set_option maxRecDepth 20000 in
theorem wsL_law_in0_r24 : ∀ w ∈ wsL_law0_r24, w ∈ lw_tbl := fun w h => (goodIn_p wsL_law0_r24 [806, 594, 810, 601] (by decide +kernel) (by decide +kernel) w h).1
set_option maxRecDepth 20000 in
theorem wsL_law_in0_r25 : ∀ w ∈ wsL_law0_r25, w ∈ lw_tbl := fun w h => (goodIn_p wsL_law0_r25 [814, 608, 818, 615] (by decide +kernel) (by decide +kernel) w h).1
set_option maxRecDepth 20000 in
theorem wsL_law_in0_r26 : ∀ w ∈ wsL_law0_r26, w ∈ lw_tbl := fun w h => (goodIn_p wsL_law0_r26 [822, 622, 826] (by decide +kernel) (by decide +kernel) w h).1
theorem wsL_law_in0_wsX30 : ∀ w ∈ wsX30, w ∈ lw_tbl := by decide +kernel
theorem wsL_law_in0_wsX40 : ∀ w ∈ wsX40, w ∈ lw_tbl := by decide +kernel
theorem wsL_law_in0_wsJx4a65c0 : ∀ w ∈ wsJx4a65c0, w ∈ lw_tbl := by decide +kernel
theorem wsL_law_in0_wsX10 : ∀ w ∈ wsX10, w ∈ lw_tbl := by decide +kernel
theorem wsL_law_in0_wsX00 : ∀ w ∈ wsX00, w ∈ lw_tbl := by decide +kernel
theorem wsL_law_in0_wsX20 : ∀ w ∈ wsX20, w ∈ lw_tbl := by decide +kernel
theorem wsL_law_in0 : ∀ w ∈ wsL_law0, w ∈ lw_tbl := fun w h => (fun h => (List.mem_append.mp h).elim (fun h => (List.mem_append.mp h).elim (fun h => (List.mem_append.mp h).elim (fun h => (List.mem_append.mp h).elim (fun h => (List.mem_append.mp h).elim (fun h => (List.mem_append.mp h).elim (fun h => (List.mem_append.mp h).elim (fun h => (List.mem_append.mp h).elim (wsL_law_in0_r1 w) (fun h => (List.mem_append.mp h).elim (wsL_law_in0_r2 w) (fun h => (List.mem_append.mp h).elim (wsL_law_in0_r3 w) (fun h => (List.mem_append.mp h).elim (wsL_law_in0_r4 w) (fun h => (List.mem_append.mp h).elim (wsL_law_in0_r5 w) (fun h => (List.mem_append.mp h).elim (wsL_law_in0_r6 w) (fun h => (List.mem_append.mp h).elim (wsL_law_in0_r7 w) (fun h => (List.mem_append.mp h).elim (wsL_law_in0_r8 w) (fun h => (List.mem_append.mp h).elim (wsL_law_in0_r9 w) (fun h => (List.mem_append.mp h).elim (wsL_law_in0_r10 w) (fun h => (List.mem_append.mp h).elim (wsL_law_in0_r11 w) (fun h => (List.mem_append.mp h).elim (wsL_law_in0_r12 w) (fun h => (List.mem_append.mp h).elim (wsL_law_in0_r13 w) (fun h => (List.mem_append.mp h).elim (wsL_law_in0_r14 w) (fun h => (List.mem_append.mp h).elim (wsL_law_in0_r15 w) (fun h => (List.mem_append.mp h).elim (wsL_law_in0_r16 w) (fun h => (List.mem_append.mp h).elim (wsL_law_in0_r17 w) (fun h => (List.mem_append.mp h).elim (wsL_law_in0_r18 w) (fun h => (List.mem_append.mp h).elim (wsL_law_in0_r19 w) (fun h => (List.mem_append.mp h).elim (wsL_law_in0_r20 w) (fun h => (List.mem_append.mp h).elim (wsL_law_in0_r21 w) (fun h => (List.mem_append.mp h).elim (wsL_law_in0_r22 w) (fun h => (List.mem_append.mp h).elim (wsL_law_in0_r23 w) (fun h => (List.mem_append.mp h).elim (wsL_law_in0_r24 w) (fun h => (List.mem_append.mp h).elim (wsL_law_in0_r25 w) (wsL_law_in0_r26 w)))))))))))))))))))))))))) (wsL_law_in0_wsX30 w)) (wsL_law_in0_wsX40 w)) (wsL_law_in0_wsJx4a65c0 w)) (wsL_law_in0_wsX10 w)) (wsL_law_in0_wsX00 w)) (wsL_law_in0_wsX20 w)) (fun h => absurd h List.not_mem_nil)) h
theorem wsL_law_x0 : ∀ w ∈ (vx_atS RX3 51 "java/lang/IllegalStateException" ["java/lang/RuntimeException", "java/lang/Exception"]).filter goodWord, w ∈ lw_tbl := by decide +kernel
theorem wsL_law_x1 : ∀ w ∈ (vx_atS RX3 183 "java/lang/IndexOutOfBoundsException" ["java/lang/RuntimeException", "java/lang/Exception"]).filter goodWord, w ∈ lw_tbl := by decide +kernel
theorem wsL_law_x2 : ∀ w ∈ (vx_atS RX3 194 "java/lang/IllegalArgumentException" ["java/lang/RuntimeException", "java/lang/Exception"]).filter goodWord, w ∈ lw_tbl := by decide +kernel
theorem wsL_law_in : ∀ w ∈ wsL_law, w ∈ lw_tbl := fun w h => (List.mem_append.mp h).elim (fun h => (List.mem_append.mp h).elim (fun h => (List.mem_append.mp h).elim (fun h => wsL_law_in0 w h) (fun h => wsL_law_x0 w h)) (fun h => wsL_law_x1 w h)) (fun h => wsL_law_x2 w h)
end
section
theorem inlX0 : ∀ w ∈ wsX00, w ∈ wsL_law := fun _ h => List.mem_append_left _ (List.mem_append_left _ (List.mem_append_left _ (List.mem_append_left _ (List.mem_append_left _ (List.mem_append_right _ h)))))
theorem inX0 : ∀ w ∈ wsX00, w ∈ lw_tbl := fun w h => wsL_law_in w (inlX0 w h)
theorem inlX1 : ∀ w ∈ wsX10, w ∈ wsL_law := fun _ h => List.mem_append_left _ (List.mem_append_left _ (List.mem_append_left _ (List.mem_append_left _ (List.mem_append_left _ (List.mem_append_left _ (List.mem_append_right _ h))))))
theorem inX1 : ∀ w ∈ wsX10, w ∈ lw_tbl := fun w h => wsL_law_in w (inlX1 w h)
theorem inlX2 : ∀ w ∈ wsX20, w ∈ wsL_law := fun _ h => List.mem_append_left _ (List.mem_append_left _ (List.mem_append_left _ (List.mem_append_left _ (List.mem_append_right _ h))))
theorem inX2 : ∀ w ∈ wsX20, w ∈ lw_tbl := fun w h => wsL_law_in w (inlX2 w h)
theorem inlX3 : ∀ w ∈ wsX30, w ∈ wsL_law := fun _ h => List.mem_append_left _ (List.mem_append_left _ (List.mem_append_left _ (List.mem_append_left _ (List.mem_append_left _ (List.mem_append_left _ (List.mem_append_left _ (List.mem_append_left _ (List.mem_append_left _ (List.mem_append_right _ h)))))))))
theorem inX3 : ∀ w ∈ wsX30, w ∈ lw_tbl := fun w h => wsL_law_in w (inlX3 w h)
theorem inlX4 : ∀ w ∈ wsX40, w ∈ wsL_law := fun _ h => List.mem_append_left _ (List.mem_append_left _ (List.mem_append_left _ (List.mem_append_left _ (List.mem_append_left _ (List.mem_append_left _ (List.mem_append_left _ (List.mem_append_left _ (List.mem_append_right _ h))))))))
theorem inX4 : ∀ w ∈ wsX40, w ∈ lw_tbl := fun w h => wsL_law_in w (inlX4 w h)
theorem inJx145de : ∀ w ∈ wsJx145de0, w ∈ lw_tbl := by decide +kernel
theorem inJx8e188 : ∀ w ∈ wsJx8e1880, w ∈ lw_tbl := by decide +kernel
theorem inJ6 : ∀ w ∈ wsJ60, w ∈ lw_tbl := by decide +kernel
theorem inJxab1ab : ∀ w ∈ wsJxab1ab0, w ∈ lw_tbl := by decide +kernel
theorem inJ9 : ∀ w ∈ wsJ90, w ∈ lw_tbl := by decide +kernel
theorem inJ0 : ∀ w ∈ wsJ00, w ∈ lw_tbl := by decide +kernel
theorem inJ10 : ∀ w ∈ wsJ100, w ∈ lw_tbl := by decide +kernel
theorem inJxa1e45 : ∀ w ∈ wsJxa1e450, w ∈ lw_tbl := by decide +kernel
theorem inJxc12de : ∀ w ∈ wsJxc12de0, w ∈ lw_tbl := by decide +kernel
theorem inlJx4a65c : ∀ w ∈ wsJx4a65c0, w ∈ wsL_law := fun _ h => List.mem_append_left _ (List.mem_append_left _ (List.mem_append_left _ (List.mem_append_left _ (List.mem_append_left _ (List.mem_append_left _ (List.mem_append_left _ (List.mem_append_right _ h)))))))
theorem inJx4a65c : ∀ w ∈ wsJx4a65c0, w ∈ lw_tbl := fun w h => wsL_law_in w (inlJx4a65c w h)
theorem inJ7 : ∀ w ∈ wsJ70, w ∈ lw_tbl := by decide +kernel
theorem inJx5ef63 : ∀ w ∈ wsJx5ef630, w ∈ lw_tbl := by decide +kernel
theorem inJxbd725 : ∀ w ∈ wsJxbd7250, w ∈ lw_tbl := by decide +kernel
theorem inJ15 : ∀ w ∈ wsJ150, w ∈ lw_tbl := by decide +kernel
theorem inJxf0a74 : ∀ w ∈ wsJxf0a740, w ∈ lw_tbl := by decide +kernel
theorem inJxa66e6 : ∀ w ∈ wsJxa66e60, w ∈ lw_tbl := by decide +kernel
theorem inJ8 : ∀ w ∈ wsJ80, w ∈ lw_tbl := by decide +kernel
theorem inJ3 : ∀ w ∈ wsJ30, w ∈ lw_tbl := by decide +kernel
set_option maxRecDepth 20000 in
theorem ggX0_init_Jx4a65c_init_da8c8 : GoodIn wsX0_init wsJx4a65c_init_da8c8 := goodIn_r _ [11, 12, 13, 14, 15, 16, 17, 18, 19, 20, 21, 22, 23, 2, 3, 24, 25, 26] (by decide +kernel) (by decide +kernel)
set_option maxRecDepth 20000 in
theorem gX0_init_Jx4a65c_init_da8c8 : GoodIn wsX0_init (wsJx4a65c_init_da8c8) := ggX0_init_Jx4a65c_init_da8c8
theorem dX0_init_0 : decode cX0_init 0 = .ok (.aload_n 0, 1) := by decide +kernel
theorem dX0_init_1 : decode cX0_init 1 = .ok (.invokespecial 3, 3) := by decide +kernel
theorem dX0_init_4 : decode cX0_init 4 = .ok (.aload_n 0, 1) := by decide +kernel
theorem dX0_init_5 : decode cX0_init 5 = .ok (.new 9, 3) := by decide +kernel
theorem dX0_init_8 : decode cX0_init 8 = .ok (.dup, 1) := by decide +kernel
theorem dX0_init_9 : decode cX0_init 9 = .ok (.invokespecial 11, 3) := by decide +kernel
theorem dX0_init_12 : decode cX0_init 12 = .ok (.putfield 12, 3) := by decide +kernel
theorem dX0_init_15 : decode cX0_init 15 = .ok (.aload_n 0, 1) := by decide +kernel
theorem dX0_init_16 : decode cX0_init 16 = .ok (.bipush 100, 2) := by decide +kernel
theorem dX0_init_18 : decode cX0_init 18 = .ok (.putfield 18, 3) := by decide +kernel
theorem dX0_init_21 : decode cX0_init 21 = .ok (.return_, 1) := by decide +kernel
set_option maxRecDepth 20000 in
theorem ggX0_billOn_Jx4a65c_size_8abf5 : GoodIn wsX0_billOn wsJx4a65c_size_8abf5 := goodIn_r _ [7, 8, 53, 54, 55] (by decide +kernel) (by decide +kernel)
set_option maxRecDepth 20000 in
theorem gX0_billOn_Jx4a65c_size_8abf5 : GoodIn wsX0_billOn (wsV RX0 22 RJx4a65c yJx4a65c_size_8abf5 wsJx4a65c_size_8abf5) := goodIn_app (goodIn_of _ (by decide +kernel)) ggX0_billOn_Jx4a65c_size_8abf5
set_option maxRecDepth 20000 in
theorem ggX0_billOn_Jx4a65c_get_915e3 : GoodIn wsX0_billOn wsJx4a65c_get_915e3 := goodIn_r _ [12, 8, 13, 14, 15, 16, 17, 18, 19, 20, 21, 22, 23, 6, 24, 25, 53, 54, 55] (by decide +kernel) (by decide +kernel)
set_option maxRecDepth 20000 in
theorem gX0_billOn_Jx4a65c_get_915e3 : GoodIn wsX0_billOn (wsV RX0 26 RJx4a65c yJx4a65c_get_915e3 wsJx4a65c_get_915e3) := goodIn_app (goodIn_of _ (by decide +kernel)) ggX0_billOn_Jx4a65c_get_915e3
set_option maxRecDepth 20000 in
theorem ggX0_billOn_X2_billedOn : GoodIn wsX0_billOn wsX2_billedOn := goodIn_r _ [30, 31, 32, 33, 34, 35, 29, 36, 37, 38, 39, 40, 6, 41, 8, 42, 43, 44, 45, 46, 47, 48, 49, 50, 56, 57, 58, 59, 60, 61, 53, 54, 55] (by decide +kernel) (by decide +kernel)
set_option maxRecDepth 20000 in
theorem gX0_billOn_X2_billedOn : GoodIn wsX0_billOn (wsV RX0 32 RX2 yX2_billedOn wsX2_billedOn) := goodIn_app (goodIn_of _ (by decide +kernel)) ggX0_billOn_X2_billedOn
theorem dX0_billOn_0 : decode cX0_billOn 0 = .ok (.iconst 0, 1) := by decide +kernel
theorem dX0_billOn_1 : decode cX0_billOn 1 = .ok (.istore_n 2, 1) := by decide +kernel
theorem dX0_billOn_2 : decode cX0_billOn 2 = .ok (.iconst 0, 1) := by decide +kernel
theorem dX0_billOn_3 : decode cX0_billOn 3 = .ok (.istore_n 3, 1) := by decide +kernel
theorem dX0_billOn_4 : decode cX0_billOn 4 = .ok (.iload_n 3, 1) := by decide +kernel
theorem dX0_billOn_5 : decode cX0_billOn 5 = .ok (.aload_n 0, 1) := by decide +kernel
theorem dX0_billOn_6 : decode cX0_billOn 6 = .ok (.getfield 12, 3) := by decide +kernel
theorem dX0_billOn_9 : decode cX0_billOn 9 = .ok (.invokevirtual 22, 3) := by decide +kernel
theorem dX0_billOn_12 : decode cX0_billOn 12 = .ok (.if_icmp .ge 27, 3) := by decide +kernel
theorem dX0_billOn_15 : decode cX0_billOn 15 = .ok (.iload_n 2, 1) := by decide +kernel
theorem dX0_billOn_16 : decode cX0_billOn 16 = .ok (.aload_n 0, 1) := by decide +kernel
theorem dX0_billOn_17 : decode cX0_billOn 17 = .ok (.getfield 12, 3) := by decide +kernel
theorem dX0_billOn_20 : decode cX0_billOn 20 = .ok (.iload_n 3, 1) := by decide +kernel
theorem dX0_billOn_21 : decode cX0_billOn 21 = .ok (.invokevirtual 26, 3) := by decide +kernel
theorem dX0_billOn_24 : decode cX0_billOn 24 = .ok (.checkcast 30, 3) := by decide +kernel
theorem dX0_billOn_27 : decode cX0_billOn 27 = .ok (.iload_n 1, 1) := by decide +kernel
theorem dX0_billOn_28 : decode cX0_billOn 28 = .ok (.invokevirtual 32, 3) := by decide +kernel
theorem dX0_billOn_31 : decode cX0_billOn 31 = .ok (.iadd, 1) := by decide +kernel
theorem dX0_billOn_32 : decode cX0_billOn 32 = .ok (.istore_n 2, 1) := by decide +kernel
theorem dX0_billOn_33 : decode cX0_billOn 33 = .ok (.iinc 3 1, 3) := by decide +kernel
theorem dX0_billOn_36 : decode cX0_billOn 36 = .ok (.goto (-32), 3) := by decide +kernel
theorem dX0_billOn_39 : decode cX0_billOn 39 = .ok (.iload_n 2, 1) := by decide +kernel
theorem dX0_billOn_40 : decode cX0_billOn 40 = .ok (.bipush 100, 2) := by decide +kernel
theorem dX0_billOn_42 : decode cX0_billOn 42 = .ok (.iadd, 1) := by decide +kernel
theorem dX0_billOn_43 : decode cX0_billOn 43 = .ok (.iconst 1, 1) := by decide +kernel
theorem dX0_billOn_44 : decode cX0_billOn 44 = .ok (.isub, 1) := by decide +kernel
theorem dX0_billOn_45 : decode cX0_billOn 45 = .ok (.bipush 100, 2) := by decide +kernel
theorem dX0_billOn_47 : decode cX0_billOn 47 = .ok (.idiv, 1) := by decide +kernel
theorem dX0_billOn_48 : decode cX0_billOn 48 = .ok (.ireturn, 1) := by decide +kernel
theorem dX1_init_0 : decode cX1_init 0 = .ok (.aload_n 0, 1) := by decide +kernel
theorem dX1_init_1 : decode cX1_init 1 = .ok (.invokespecial 3, 3) := by decide +kernel
theorem dX1_init_4 : decode cX1_init 4 = .ok (.aload_n 0, 1) := by decide +kernel
theorem dX1_init_5 : decode cX1_init 5 = .ok (.iload_n 1, 1) := by decide +kernel
theorem dX1_init_6 : decode cX1_init 6 = .ok (.putfield 9, 3) := by decide +kernel
theorem dX1_init_9 : decode cX1_init 9 = .ok (.aload_n 0, 1) := by decide +kernel
theorem dX1_init_10 : decode cX1_init 10 = .ok (.aload_n 2, 1) := by decide +kernel
theorem dX1_init_11 : decode cX1_init 11 = .ok (.putfield 15, 3) := by decide +kernel
theorem dX1_init_14 : decode cX1_init 14 = .ok (.aload_n 0, 1) := by decide +kernel
theorem dX1_init_15 : decode cX1_init 15 = .ok (.iload_n 3, 1) := by decide +kernel
theorem dX1_init_16 : decode cX1_init 16 = .ok (.putfield 19, 3) := by decide +kernel
theorem dX1_init_19 : decode cX1_init 19 = .ok (.return_, 1) := by decide +kernel
theorem dX1_hasRoomFor_0 : decode cX1_hasRoomFor 0 = .ok (.aload_n 0, 1) := by decide +kernel
theorem dX1_hasRoomFor_1 : decode cX1_hasRoomFor 1 = .ok (.astore_n 2, 1) := by decide +kernel
theorem dX1_hasRoomFor_2 : decode cX1_hasRoomFor 2 = .ok (.aload_n 2, 1) := by decide +kernel
theorem dX1_hasRoomFor_3 : decode cX1_hasRoomFor 3 = .ok (.ifnull 34, 3) := by decide +kernel
theorem dX1_hasRoomFor_6 : decode cX1_hasRoomFor 6 = .ok (.aload_n 2, 1) := by decide +kernel
theorem dX1_hasRoomFor_7 : decode cX1_hasRoomFor 7 = .ok (.getfield 19, 3) := by decide +kernel
theorem dX1_hasRoomFor_10 : decode cX1_hasRoomFor 10 = .ok (.iconst (-1), 1) := by decide +kernel
theorem dX1_hasRoomFor_11 : decode cX1_hasRoomFor 11 = .ok (.if_icmp .eq 18, 3) := by decide +kernel
theorem dX1_hasRoomFor_14 : decode cX1_hasRoomFor 14 = .ok (.aload_n 2, 1) := by decide +kernel
theorem dX1_hasRoomFor_15 : decode cX1_hasRoomFor 15 = .ok (.getfield 22, 3) := by decide +kernel
theorem dX1_hasRoomFor_18 : decode cX1_hasRoomFor 18 = .ok (.iload_n 1, 1) := by decide +kernel
theorem dX1_hasRoomFor_19 : decode cX1_hasRoomFor 19 = .ok (.iadd, 1) := by decide +kernel
theorem dX1_hasRoomFor_20 : decode cX1_hasRoomFor 20 = .ok (.aload_n 2, 1) := by decide +kernel
theorem dX1_hasRoomFor_21 : decode cX1_hasRoomFor 21 = .ok (.getfield 19, 3) := by decide +kernel
theorem dX1_hasRoomFor_24 : decode cX1_hasRoomFor 24 = .ok (.if_icmp .le 5, 3) := by decide +kernel
theorem dX1_hasRoomFor_27 : decode cX1_hasRoomFor 27 = .ok (.iconst 0, 1) := by decide +kernel
theorem dX1_hasRoomFor_28 : decode cX1_hasRoomFor 28 = .ok (.ireturn, 1) := by decide +kernel
theorem dX1_hasRoomFor_29 : decode cX1_hasRoomFor 29 = .ok (.aload_n 2, 1) := by decide +kernel
theorem dX1_hasRoomFor_30 : decode cX1_hasRoomFor 30 = .ok (.getfield 15, 3) := by decide +kernel
theorem dX1_hasRoomFor_33 : decode cX1_hasRoomFor 33 = .ok (.astore_n 2, 1) := by decide +kernel
theorem dX1_hasRoomFor_34 : decode cX1_hasRoomFor 34 = .ok (.goto (-32), 3) := by decide +kernel
theorem dX1_hasRoomFor_37 : decode cX1_hasRoomFor 37 = .ok (.iconst 1, 1) := by decide +kernel
theorem dX1_hasRoomFor_38 : decode cX1_hasRoomFor 38 = .ok (.ireturn, 1) := by decide +kernel
theorem dX1_addUsage_0 : decode cX1_addUsage 0 = .ok (.aload_n 0, 1) := by decide +kernel
theorem dX1_addUsage_1 : decode cX1_addUsage 1 = .ok (.astore_n 2, 1) := by decide +kernel
theorem dX1_addUsage_2 : decode cX1_addUsage 2 = .ok (.aload_n 2, 1) := by decide +kernel
theorem dX1_addUsage_3 : decode cX1_addUsage 3 = .ok (.ifnull 21, 3) := by decide +kernel
theorem dX1_addUsage_6 : decode cX1_addUsage 6 = .ok (.aload_n 2, 1) := by decide +kernel
theorem dX1_addUsage_7 : decode cX1_addUsage 7 = .ok (.dup, 1) := by decide +kernel
theorem dX1_addUsage_8 : decode cX1_addUsage 8 = .ok (.getfield 22, 3) := by decide +kernel
theorem dX1_addUsage_11 : decode cX1_addUsage 11 = .ok (.iload_n 1, 1) := by decide +kernel
theorem dX1_addUsage_12 : decode cX1_addUsage 12 = .ok (.iadd, 1) := by decide +kernel
theorem dX1_addUsage_13 : decode cX1_addUsage 13 = .ok (.putfield 22, 3) := by decide +kernel
theorem dX1_addUsage_16 : decode cX1_addUsage 16 = .ok (.aload_n 2, 1) := by decide +kernel
theorem dX1_addUsage_17 : decode cX1_addUsage 17 = .ok (.getfield 15, 3) := by decide +kernel
theorem dX1_addUsage_20 : decode cX1_addUsage 20 = .ok (.astore_n 2, 1) := by decide +kernel
theorem dX1_addUsage_21 : decode cX1_addUsage 21 = .ok (.goto (-19), 3) := by decide +kernel
theorem dX1_addUsage_24 : decode cX1_addUsage 24 = .ok (.return_, 1) := by decide +kernel
theorem dX1_hasOnItsWay_0 : decode cX1_hasOnItsWay 0 = .ok (.aload_n 0, 1) := by decide +kernel
theorem dX1_hasOnItsWay_1 : decode cX1_hasOnItsWay 1 = .ok (.astore_n 2, 1) := by decide +kernel
theorem dX1_hasOnItsWay_2 : decode cX1_hasOnItsWay 2 = .ok (.aload_n 2, 1) := by decide +kernel
theorem dX1_hasOnItsWay_3 : decode cX1_hasOnItsWay 3 = .ok (.ifnull 18, 3) := by decide +kernel
theorem dX1_hasOnItsWay_6 : decode cX1_hasOnItsWay 6 = .ok (.aload_n 2, 1) := by decide +kernel
theorem dX1_hasOnItsWay_7 : decode cX1_hasOnItsWay 7 = .ok (.aload_n 1, 1) := by decide +kernel
theorem dX1_hasOnItsWay_8 : decode cX1_hasOnItsWay 8 = .ok (.if_acmp .ne 5, 3) := by decide +kernel
theorem dX1_hasOnItsWay_11 : decode cX1_hasOnItsWay 11 = .ok (.iconst 1, 1) := by decide +kernel
theorem dX1_hasOnItsWay_12 : decode cX1_hasOnItsWay 12 = .ok (.ireturn, 1) := by decide +kernel
theorem dX1_hasOnItsWay_13 : decode cX1_hasOnItsWay 13 = .ok (.aload_n 2, 1) := by decide +kernel
theorem dX1_hasOnItsWay_14 : decode cX1_hasOnItsWay 14 = .ok (.getfield 15, 3) := by decide +kernel
theorem dX1_hasOnItsWay_17 : decode cX1_hasOnItsWay 17 = .ok (.astore_n 2, 1) := by decide +kernel
theorem dX1_hasOnItsWay_18 : decode cX1_hasOnItsWay 18 = .ok (.goto (-16), 3) := by decide +kernel
theorem dX1_hasOnItsWay_21 : decode cX1_hasOnItsWay 21 = .ok (.iconst 0, 1) := by decide +kernel
theorem dX1_hasOnItsWay_22 : decode cX1_hasOnItsWay 22 = .ok (.ireturn, 1) := by decide +kernel
set_option maxRecDepth 20000 in
theorem ggX2_init_Jx4a65c_init_da8c8 : GoodIn wsX2_init wsJx4a65c_init_da8c8 := goodIn_r _ [13, 14, 15, 16, 17, 18, 19, 20, 21, 22, 23, 24, 25, 2, 3, 26, 27, 28] (by decide +kernel) (by decide +kernel)
set_option maxRecDepth 20000 in
theorem gX2_init_Jx4a65c_init_da8c8 : GoodIn wsX2_init (wsJx4a65c_init_da8c8) := ggX2_init_Jx4a65c_init_da8c8
theorem dX2_init_0 : decode cX2_init 0 = .ok (.aload_n 0, 1) := by decide +kernel
theorem dX2_init_1 : decode cX2_init 1 = .ok (.invokespecial 3, 3) := by decide +kernel
theorem dX2_init_4 : decode cX2_init 4 = .ok (.aload_n 0, 1) := by decide +kernel
theorem dX2_init_5 : decode cX2_init 5 = .ok (.new 9, 3) := by decide +kernel
theorem dX2_init_8 : decode cX2_init 8 = .ok (.dup, 1) := by decide +kernel
theorem dX2_init_9 : decode cX2_init 9 = .ok (.invokespecial 11, 3) := by decide +kernel
theorem dX2_init_12 : decode cX2_init 12 = .ok (.putfield 12, 3) := by decide +kernel
theorem dX2_init_15 : decode cX2_init 15 = .ok (.aload_n 0, 1) := by decide +kernel
theorem dX2_init_16 : decode cX2_init 16 = .ok (.aload_n 1, 1) := by decide +kernel
theorem dX2_init_17 : decode cX2_init 17 = .ok (.putfield 18, 3) := by decide +kernel
theorem dX2_init_20 : decode cX2_init 20 = .ok (.aload_n 0, 1) := by decide +kernel
theorem dX2_init_21 : decode cX2_init 21 = .ok (.iload_n 2, 1) := by decide +kernel
theorem dX2_init_22 : decode cX2_init 22 = .ok (.putfield 22, 3) := by decide +kernel
theorem dX2_init_25 : decode cX2_init 25 = .ok (.aload_n 0, 1) := by decide +kernel
theorem dX2_init_26 : decode cX2_init 26 = .ok (.iload_n 3, 1) := by decide +kernel
theorem dX2_init_27 : decode cX2_init 27 = .ok (.putfield 26, 3) := by decide +kernel
theorem dX2_init_30 : decode cX2_init 30 = .ok (.return_, 1) := by decide +kernel
set_option maxRecDepth 20000 in
theorem ggX2_isGone_Jx4a65c_isEmpty_aae02 : GoodIn wsX2_isGone wsJx4a65c_isEmpty_aae02 := goodIn_r _ [6, 7, 14, 15, 16] (by decide +kernel) (by decide +kernel)
set_option maxRecDepth 20000 in
theorem gX2_isGone_Jx4a65c_isEmpty_aae02 : GoodIn wsX2_isGone (wsV RX2 29 RJx4a65c yJx4a65c_isEmpty_aae02 wsJx4a65c_isEmpty_aae02) := goodIn_app (goodIn_of _ (by decide +kernel)) ggX2_isGone_Jx4a65c_isEmpty_aae02
theorem dX2_isGone_0 : decode cX2_isGone 0 = .ok (.aload_n 0, 1) := by decide +kernel
theorem dX2_isGone_1 : decode cX2_isGone 1 = .ok (.getfield 12, 3) := by decide +kernel
theorem dX2_isGone_4 : decode cX2_isGone 4 = .ok (.invokevirtual 29, 3) := by decide +kernel
theorem dX2_isGone_7 : decode cX2_isGone 7 = .ok (.ireturn, 1) := by decide +kernel
set_option maxRecDepth 20000 in
theorem ggX2_firstLink_Jx4a65c_isEmpty_aae02 : GoodIn wsX2_firstLink wsJx4a65c_isEmpty_aae02 := goodIn_r _ [7, 8, 32, 33, 34] (by decide +kernel) (by decide +kernel)
set_option maxRecDepth 20000 in
theorem gX2_firstLink_Jx4a65c_isEmpty_aae02 : GoodIn wsX2_firstLink (wsV RX2 29 RJx4a65c yJx4a65c_isEmpty_aae02 wsJx4a65c_isEmpty_aae02) := goodIn_app (goodIn_of _ (by decide +kernel)) ggX2_firstLink_Jx4a65c_isEmpty_aae02
set_option maxRecDepth 20000 in
theorem ggX2_firstLink_Jx4a65c_get_915e3 : GoodIn wsX2_firstLink wsJx4a65c_get_915e3 := goodIn_r _ [12, 8, 13, 14, 15, 16, 17, 18, 19, 20, 21, 22, 23, 6, 24, 25, 32, 33, 34] (by decide +kernel) (by decide +kernel)
set_option maxRecDepth 20000 in
theorem gX2_firstLink_Jx4a65c_get_915e3 : GoodIn wsX2_firstLink (wsV RX2 33 RJx4a65c yJx4a65c_get_915e3 wsJx4a65c_get_915e3) := goodIn_app (goodIn_of _ (by decide +kernel)) ggX2_firstLink_Jx4a65c_get_915e3
theorem dX2_firstLink_0 : decode cX2_firstLink 0 = .ok (.aload_n 0, 1) := by decide +kernel
theorem dX2_firstLink_1 : decode cX2_firstLink 1 = .ok (.getfield 12, 3) := by decide +kernel
theorem dX2_firstLink_4 : decode cX2_firstLink 4 = .ok (.invokevirtual 29, 3) := by decide +kernel
theorem dX2_firstLink_7 : decode cX2_firstLink 7 = .ok (.ifCond .eq 7, 3) := by decide +kernel
theorem dX2_firstLink_10 : decode cX2_firstLink 10 = .ok (.aconst_null, 1) := by decide +kernel
theorem dX2_firstLink_11 : decode cX2_firstLink 11 = .ok (.goto 14, 3) := by decide +kernel
theorem dX2_firstLink_14 : decode cX2_firstLink 14 = .ok (.aload_n 0, 1) := by decide +kernel
theorem dX2_firstLink_15 : decode cX2_firstLink 15 = .ok (.getfield 12, 3) := by decide +kernel
theorem dX2_firstLink_18 : decode cX2_firstLink 18 = .ok (.iconst 0, 1) := by decide +kernel
theorem dX2_firstLink_19 : decode cX2_firstLink 19 = .ok (.invokevirtual 33, 3) := by decide +kernel
theorem dX2_firstLink_22 : decode cX2_firstLink 22 = .ok (.checkcast 37, 3) := by decide +kernel
theorem dX2_firstLink_25 : decode cX2_firstLink 25 = .ok (.areturn, 1) := by decide +kernel
set_option maxRecDepth 20000 in
theorem ggX2_placeOfLinkTo_Jx4a65c_size_8abf5 : GoodIn wsX2_placeOfLinkTo wsJx4a65c_size_8abf5 := goodIn_r _ [6, 7, 31, 32, 33] (by decide +kernel) (by decide +kernel)
set_option maxRecDepth 20000 in
theorem gX2_placeOfLinkTo_Jx4a65c_size_8abf5 : GoodIn wsX2_placeOfLinkTo (wsV RX2 39 RJx4a65c yJx4a65c_size_8abf5 wsJx4a65c_size_8abf5) := goodIn_app (goodIn_of _ (by decide +kernel)) ggX2_placeOfLinkTo_Jx4a65c_size_8abf5
set_option maxRecDepth 20000 in
theorem ggX2_placeOfLinkTo_Jx4a65c_get_915e3 : GoodIn wsX2_placeOfLinkTo wsJx4a65c_get_915e3 := goodIn_r _ [11, 7, 12, 13, 14, 15, 16, 17, 18, 19, 20, 21, 22, 5, 23, 24, 31, 32, 33] (by decide +kernel) (by decide +kernel)
set_option maxRecDepth 20000 in
theorem gX2_placeOfLinkTo_Jx4a65c_get_915e3 : GoodIn wsX2_placeOfLinkTo (wsV RX2 33 RJx4a65c yJx4a65c_get_915e3 wsJx4a65c_get_915e3) := goodIn_app (goodIn_of _ (by decide +kernel)) ggX2_placeOfLinkTo_Jx4a65c_get_915e3
theorem dX2_placeOfLinkTo_0 : decode cX2_placeOfLinkTo 0 = .ok (.iconst 0, 1) := by decide +kernel
theorem dX2_placeOfLinkTo_1 : decode cX2_placeOfLinkTo 1 = .ok (.istore_n 2, 1) := by decide +kernel
theorem dX2_placeOfLinkTo_2 : decode cX2_placeOfLinkTo 2 = .ok (.iload_n 2, 1) := by decide +kernel
theorem dX2_placeOfLinkTo_3 : decode cX2_placeOfLinkTo 3 = .ok (.aload_n 0, 1) := by decide +kernel
theorem dX2_placeOfLinkTo_4 : decode cX2_placeOfLinkTo 4 = .ok (.getfield 12, 3) := by decide +kernel
theorem dX2_placeOfLinkTo_7 : decode cX2_placeOfLinkTo 7 = .ok (.invokevirtual 39, 3) := by decide +kernel
theorem dX2_placeOfLinkTo_10 : decode cX2_placeOfLinkTo 10 = .ok (.if_icmp .ge 23, 3) := by decide +kernel
theorem dX2_placeOfLinkTo_13 : decode cX2_placeOfLinkTo 13 = .ok (.aload_n 0, 1) := by decide +kernel
theorem dX2_placeOfLinkTo_14 : decode cX2_placeOfLinkTo 14 = .ok (.getfield 12, 3) := by decide +kernel
theorem dX2_placeOfLinkTo_17 : decode cX2_placeOfLinkTo 17 = .ok (.iload_n 2, 1) := by decide +kernel
theorem dX2_placeOfLinkTo_18 : decode cX2_placeOfLinkTo 18 = .ok (.invokevirtual 33, 3) := by decide +kernel
theorem dX2_placeOfLinkTo_21 : decode cX2_placeOfLinkTo 21 = .ok (.aload_n 1, 1) := by decide +kernel
theorem dX2_placeOfLinkTo_22 : decode cX2_placeOfLinkTo 22 = .ok (.if_acmp .ne 5, 3) := by decide +kernel
theorem dX2_placeOfLinkTo_25 : decode cX2_placeOfLinkTo 25 = .ok (.iload_n 2, 1) := by decide +kernel
theorem dX2_placeOfLinkTo_26 : decode cX2_placeOfLinkTo 26 = .ok (.ireturn, 1) := by decide +kernel
theorem dX2_placeOfLinkTo_27 : decode cX2_placeOfLinkTo 27 = .ok (.iinc 2 1, 3) := by decide +kernel
theorem dX2_placeOfLinkTo_30 : decode cX2_placeOfLinkTo 30 = .ok (.goto (-28), 3) := by decide +kernel
theorem dX2_placeOfLinkTo_33 : decode cX2_placeOfLinkTo 33 = .ok (.iconst (-1), 1) := by decide +kernel
theorem dX2_placeOfLinkTo_34 : decode cX2_placeOfLinkTo 34 = .ok (.ireturn, 1) := by decide +kernel
set_option maxRecDepth 20000 in
theorem ggX2_removeLinkTo_X2_placeOfLinkTo : GoodIn wsX2_removeLinkTo wsX2_placeOfLinkTo := goodIn_r _ [6, 1, 7, 8, 9, 10, 11, 12, 13, 14, 15, 16, 17, 18, 19, 20, 21, 22, 23, 24, 25, 26, 27, 28, 29, 44, 45, 46, 47, 48, 49, 50, 51, 52] (by decide +kernel) (by decide +kernel)
set_option maxRecDepth 20000 in
theorem gX2_removeLinkTo_X2_placeOfLinkTo : GoodIn wsX2_removeLinkTo (wsV RX2 42 RX2 yX2_placeOfLinkTo wsX2_placeOfLinkTo) := goodIn_app (goodIn_of _ (by decide +kernel)) ggX2_removeLinkTo_X2_placeOfLinkTo
set_option maxRecDepth 20000 in
theorem ggX2_removeLinkTo_Jx4a65c_size_8abf5 : GoodIn wsX2_removeLinkTo wsJx4a65c_size_8abf5 := goodIn_r _ [11, 12, 50, 51, 52] (by decide +kernel) (by decide +kernel)
set_option maxRecDepth 20000 in
theorem gX2_removeLinkTo_Jx4a65c_size_8abf5 : GoodIn wsX2_removeLinkTo (wsV RX2 39 RJx4a65c yJx4a65c_size_8abf5 wsJx4a65c_size_8abf5) := goodIn_app (goodIn_of _ (by decide +kernel)) ggX2_removeLinkTo_Jx4a65c_size_8abf5
set_option maxRecDepth 20000 in
theorem ggX2_removeLinkTo_Jx4a65c_remove_915e3 : GoodIn wsX2_removeLinkTo wsJx4a65c_remove_915e3 := goodIn_r _ [33, 12, 29, 17, 18, 19, 20, 21, 22, 23, 24, 34, 35, 36, 10, 37, 38, 39, 40, 41, 42, 43, 50, 51, 52] (by decide +kernel) (by decide +kernel)
set_option maxRecDepth 20000 in
theorem gX2_removeLinkTo_Jx4a65c_remove_915e3 : GoodIn wsX2_removeLinkTo (wsV RX2 46 RJx4a65c yJx4a65c_remove_915e3 wsJx4a65c_remove_915e3) := goodIn_app (goodIn_of _ (by decide +kernel)) ggX2_removeLinkTo_Jx4a65c_remove_915e3
theorem dX2_removeLinkTo_0 : decode cX2_removeLinkTo 0 = .ok (.aload_n 0, 1) := by decide +kernel
theorem dX2_removeLinkTo_1 : decode cX2_removeLinkTo 1 = .ok (.aload_n 1, 1) := by decide +kernel
theorem dX2_removeLinkTo_2 : decode cX2_removeLinkTo 2 = .ok (.invokevirtual 42, 3) := by decide +kernel
theorem dX2_removeLinkTo_5 : decode cX2_removeLinkTo 5 = .ok (.istore_n 2, 1) := by decide +kernel
theorem dX2_removeLinkTo_6 : decode cX2_removeLinkTo 6 = .ok (.iload_n 2, 1) := by decide +kernel
theorem dX2_removeLinkTo_7 : decode cX2_removeLinkTo 7 = .ok (.ifCond .lt 14, 3) := by decide +kernel
theorem dX2_removeLinkTo_10 : decode cX2_removeLinkTo 10 = .ok (.iload_n 2, 1) := by decide +kernel
theorem dX2_removeLinkTo_11 : decode cX2_removeLinkTo 11 = .ok (.aload_n 0, 1) := by decide +kernel
theorem dX2_removeLinkTo_12 : decode cX2_removeLinkTo 12 = .ok (.getfield 12, 3) := by decide +kernel
theorem dX2_removeLinkTo_15 : decode cX2_removeLinkTo 15 = .ok (.invokevirtual 39, 3) := by decide +kernel
theorem dX2_removeLinkTo_18 : decode cX2_removeLinkTo 18 = .ok (.if_icmp .lt 5, 3) := by decide +kernel
theorem dX2_removeLinkTo_21 : decode cX2_removeLinkTo 21 = .ok (.iconst 0, 1) := by decide +kernel
theorem dX2_removeLinkTo_22 : decode cX2_removeLinkTo 22 = .ok (.ireturn, 1) := by decide +kernel
theorem dX2_removeLinkTo_23 : decode cX2_removeLinkTo 23 = .ok (.aload_n 0, 1) := by decide +kernel
theorem dX2_removeLinkTo_24 : decode cX2_removeLinkTo 24 = .ok (.getfield 12, 3) := by decide +kernel
theorem dX2_removeLinkTo_27 : decode cX2_removeLinkTo 27 = .ok (.iload_n 2, 1) := by decide +kernel
theorem dX2_removeLinkTo_28 : decode cX2_removeLinkTo 28 = .ok (.invokevirtual 46, 3) := by decide +kernel
theorem dX2_removeLinkTo_31 : decode cX2_removeLinkTo 31 = .ok (.pop, 1) := by decide +kernel
theorem dX2_removeLinkTo_32 : decode cX2_removeLinkTo 32 = .ok (.iconst 1, 1) := by decide +kernel
theorem dX2_removeLinkTo_33 : decode cX2_removeLinkTo 33 = .ok (.ireturn, 1) := by decide +kernel
theorem dX2_replaceSize_0 : decode cX2_replaceSize 0 = .ok (.aload_n 0, 1) := by decide +kernel
theorem dX2_replaceSize_1 : decode cX2_replaceSize 1 = .ok (.getfield 49, 3) := by decide +kernel
theorem dX2_replaceSize_4 : decode cX2_replaceSize 4 = .ok (.ifCond .eq 16, 3) := by decide +kernel
theorem dX2_replaceSize_7 : decode cX2_replaceSize 7 = .ok (.aload_n 0, 1) := by decide +kernel
theorem dX2_replaceSize_8 : decode cX2_replaceSize 8 = .ok (.dup, 1) := by decide +kernel
theorem dX2_replaceSize_9 : decode cX2_replaceSize 9 = .ok (.getfield 52, 3) := by decide +kernel
theorem dX2_replaceSize_12 : decode cX2_replaceSize 12 = .ok (.aload_n 0, 1) := by decide +kernel
theorem dX2_replaceSize_13 : decode cX2_replaceSize 13 = .ok (.getfield 22, 3) := by decide +kernel
theorem dX2_replaceSize_16 : decode cX2_replaceSize 16 = .ok (.iadd, 1) := by decide +kernel
theorem dX2_replaceSize_17 : decode cX2_replaceSize 17 = .ok (.putfield 52, 3) := by decide +kernel
theorem dX2_replaceSize_20 : decode cX2_replaceSize 20 = .ok (.aload_n 0, 1) := by decide +kernel
theorem dX2_replaceSize_21 : decode cX2_replaceSize 21 = .ok (.iload_n 1, 1) := by decide +kernel
theorem dX2_replaceSize_22 : decode cX2_replaceSize 22 = .ok (.putfield 22, 3) := by decide +kernel
theorem dX2_replaceSize_25 : decode cX2_replaceSize 25 = .ok (.return_, 1) := by decide +kernel
theorem dX2_releaseFrom_0 : decode cX2_releaseFrom 0 = .ok (.aload_n 0, 1) := by decide +kernel
theorem dX2_releaseFrom_1 : decode cX2_releaseFrom 1 = .ok (.dup, 1) := by decide +kernel
theorem dX2_releaseFrom_2 : decode cX2_releaseFrom 2 = .ok (.getfield 49, 3) := by decide +kernel
theorem dX2_releaseFrom_5 : decode cX2_releaseFrom 5 = .ok (.iload_n 1, 1) := by decide +kernel
theorem dX2_releaseFrom_6 : decode cX2_releaseFrom 6 = .ok (.iconst (-1), 1) := by decide +kernel
theorem dX2_releaseFrom_7 : decode cX2_releaseFrom 7 = .ok (.ixor, 1) := by decide +kernel
theorem dX2_releaseFrom_8 : decode cX2_releaseFrom 8 = .ok (.iand, 1) := by decide +kernel
theorem dX2_releaseFrom_9 : decode cX2_releaseFrom 9 = .ok (.putfield 49, 3) := by decide +kernel
theorem dX2_releaseFrom_12 : decode cX2_releaseFrom 12 = .ok (.aload_n 0, 1) := by decide +kernel
theorem dX2_releaseFrom_13 : decode cX2_releaseFrom 13 = .ok (.getfield 49, 3) := by decide +kernel
theorem dX2_releaseFrom_16 : decode cX2_releaseFrom 16 = .ok (.ifCond .eq 5, 3) := by decide +kernel
theorem dX2_releaseFrom_19 : decode cX2_releaseFrom 19 = .ok (.iconst 0, 1) := by decide +kernel
theorem dX2_releaseFrom_20 : decode cX2_releaseFrom 20 = .ok (.ireturn, 1) := by decide +kernel
theorem dX2_releaseFrom_21 : decode cX2_releaseFrom 21 = .ok (.aload_n 0, 1) := by decide +kernel
theorem dX2_releaseFrom_22 : decode cX2_releaseFrom 22 = .ok (.getfield 52, 3) := by decide +kernel
theorem dX2_releaseFrom_25 : decode cX2_releaseFrom 25 = .ok (.istore_n 2, 1) := by decide +kernel
theorem dX2_releaseFrom_26 : decode cX2_releaseFrom 26 = .ok (.aload_n 0, 1) := by decide +kernel
theorem dX2_releaseFrom_27 : decode cX2_releaseFrom 27 = .ok (.iconst 0, 1) := by decide +kernel
theorem dX2_releaseFrom_28 : decode cX2_releaseFrom 28 = .ok (.putfield 52, 3) := by decide +kernel
theorem dX2_releaseFrom_31 : decode cX2_releaseFrom 31 = .ok (.iload_n 2, 1) := by decide +kernel
theorem dX2_releaseFrom_32 : decode cX2_releaseFrom 32 = .ok (.ireturn, 1) := by decide +kernel
theorem dX2_isComingBackOn_0 : decode cX2_isComingBackOn 0 = .ok (.aload_n 0, 1) := by decide +kernel
theorem dX2_isComingBackOn_1 : decode cX2_isComingBackOn 1 = .ok (.getfield 26, 3) := by decide +kernel
theorem dX2_isComingBackOn_4 : decode cX2_isComingBackOn 4 = .ok (.iload_n 1, 1) := by decide +kernel
theorem dX2_isComingBackOn_5 : decode cX2_isComingBackOn 5 = .ok (.if_icmp .le 7, 3) := by decide +kernel
theorem dX2_isComingBackOn_8 : decode cX2_isComingBackOn 8 = .ok (.iconst 1, 1) := by decide +kernel
theorem dX2_isComingBackOn_9 : decode cX2_isComingBackOn 9 = .ok (.goto 4, 3) := by decide +kernel
theorem dX2_isComingBackOn_12 : decode cX2_isComingBackOn 12 = .ok (.iconst 0, 1) := by decide +kernel
theorem dX2_isComingBackOn_13 : decode cX2_isComingBackOn 13 = .ok (.ireturn, 1) := by decide +kernel
theorem dX2_costToBringBack_0 : decode cX2_costToBringBack 0 = .ok (.aload_n 0, 1) := by decide +kernel
theorem dX2_costToBringBack_1 : decode cX2_costToBringBack 1 = .ok (.getfield 22, 3) := by decide +kernel
theorem dX2_costToBringBack_4 : decode cX2_costToBringBack 4 = .ok (.bipush 10, 2) := by decide +kernel
theorem dX2_costToBringBack_6 : decode cX2_costToBringBack 6 = .ok (.iadd, 1) := by decide +kernel
theorem dX2_costToBringBack_7 : decode cX2_costToBringBack 7 = .ok (.iconst 1, 1) := by decide +kernel
theorem dX2_costToBringBack_8 : decode cX2_costToBringBack 8 = .ok (.isub, 1) := by decide +kernel
theorem dX2_costToBringBack_9 : decode cX2_costToBringBack 9 = .ok (.bipush 10, 2) := by decide +kernel
theorem dX2_costToBringBack_11 : decode cX2_costToBringBack 11 = .ok (.idiv, 1) := by decide +kernel
theorem dX2_costToBringBack_12 : decode cX2_costToBringBack 12 = .ok (.ireturn, 1) := by decide +kernel
set_option maxRecDepth 20000 in
theorem ggX2_tierOn_X2_isGone : GoodIn wsX2_tierOn wsX2_isGone := goodIn_r _ [6, 7, 8, 9, 10, 11, 12, 13, 18, 19, 20, 21, 22, 23, 24, 25, 26] (by decide +kernel) (by decide +kernel)
set_option maxRecDepth 20000 in
theorem gX2_tierOn_X2_isGone : GoodIn wsX2_tierOn (wsV RX2 55 RX2 yX2_isGone wsX2_isGone) := goodIn_app (goodIn_of _ (by decide +kernel)) ggX2_tierOn_X2_isGone
set_option maxRecDepth 20000 in
theorem ggX2_tierOn_X2_isComingBackOn : GoodIn wsX2_tierOn wsX2_isComingBackOn := goodIn_r _ [17, 1, 18, 19, 20, 21, 22, 23] (by decide +kernel) (by decide +kernel)
set_option maxRecDepth 20000 in
theorem gX2_tierOn_X2_isComingBackOn : GoodIn wsX2_tierOn (wsV RX2 58 RX2 yX2_isComingBackOn wsX2_isComingBackOn) := goodIn_app (goodIn_of _ (by decide +kernel)) ggX2_tierOn_X2_isComingBackOn
theorem dX2_tierOn_0 : decode cX2_tierOn 0 = .ok (.aload_n 0, 1) := by decide +kernel
theorem dX2_tierOn_1 : decode cX2_tierOn 1 = .ok (.invokevirtual 55, 3) := by decide +kernel
theorem dX2_tierOn_4 : decode cX2_tierOn 4 = .ok (.ifCond .eq 5, 3) := by decide +kernel
theorem dX2_tierOn_7 : decode cX2_tierOn 7 = .ok (.iconst (-1), 1) := by decide +kernel
theorem dX2_tierOn_8 : decode cX2_tierOn 8 = .ok (.ireturn, 1) := by decide +kernel
theorem dX2_tierOn_9 : decode cX2_tierOn 9 = .ok (.iload_n 1, 1) := by decide +kernel
theorem dX2_tierOn_10 : decode cX2_tierOn 10 = .ok (.aload_n 0, 1) := by decide +kernel
theorem dX2_tierOn_11 : decode cX2_tierOn 11 = .ok (.getfield 26, 3) := by decide +kernel
theorem dX2_tierOn_14 : decode cX2_tierOn 14 = .ok (.isub, 1) := by decide +kernel
theorem dX2_tierOn_15 : decode cX2_tierOn 15 = .ok (.istore_n 2, 1) := by decide +kernel
theorem dX2_tierOn_16 : decode cX2_tierOn 16 = .ok (.aload_n 0, 1) := by decide +kernel
theorem dX2_tierOn_17 : decode cX2_tierOn 17 = .ok (.iload_n 1, 1) := by decide +kernel
theorem dX2_tierOn_18 : decode cX2_tierOn 18 = .ok (.invokevirtual 58, 3) := by decide +kernel
theorem dX2_tierOn_21 : decode cX2_tierOn 21 = .ok (.ifCond .ne 9, 3) := by decide +kernel
theorem dX2_tierOn_24 : decode cX2_tierOn 24 = .ok (.iload_n 2, 1) := by decide +kernel
theorem dX2_tierOn_25 : decode cX2_tierOn 25 = .ok (.bipush 90, 2) := by decide +kernel
theorem dX2_tierOn_27 : decode cX2_tierOn 27 = .ok (.if_icmp .lt 5, 3) := by decide +kernel
theorem dX2_tierOn_30 : decode cX2_tierOn 30 = .ok (.iconst 2, 1) := by decide +kernel
theorem dX2_tierOn_31 : decode cX2_tierOn 31 = .ok (.ireturn, 1) := by decide +kernel
theorem dX2_tierOn_32 : decode cX2_tierOn 32 = .ok (.iload_n 2, 1) := by decide +kernel
theorem dX2_tierOn_33 : decode cX2_tierOn 33 = .ok (.bipush 30, 2) := by decide +kernel
theorem dX2_tierOn_35 : decode cX2_tierOn 35 = .ok (.if_icmp .ge 7, 3) := by decide +kernel
theorem dX2_tierOn_38 : decode cX2_tierOn 38 = .ok (.iconst 0, 1) := by decide +kernel
theorem dX2_tierOn_39 : decode cX2_tierOn 39 = .ok (.goto 4, 3) := by decide +kernel
theorem dX2_tierOn_42 : decode cX2_tierOn 42 = .ok (.iconst 1, 1) := by decide +kernel
theorem dX2_tierOn_43 : decode cX2_tierOn 43 = .ok (.ireturn, 1) := by decide +kernel
set_option maxRecDepth 20000 in
theorem ggX2_billedOn_X2_isGone : GoodIn wsX2_billedOn wsX2_isGone := goodIn_r _ [7, 8, 9, 10, 11, 12, 13, 14, 24, 25, 26, 27, 28, 29, 30, 31, 32] (by decide +kernel) (by decide +kernel)
set_option maxRecDepth 20000 in
theorem gX2_billedOn_X2_isGone : GoodIn wsX2_billedOn (wsV RX2 55 RX2 yX2_isGone wsX2_isGone) := goodIn_app (goodIn_of _ (by decide +kernel)) ggX2_billedOn_X2_isGone
set_option maxRecDepth 20000 in
theorem ggX2_billedOn_X2_tierOn : GoodIn wsX2_billedOn wsX2_tierOn := goodIn_r _ [18, 19, 3, 4, 5, 6, 7, 8, 9, 10, 11, 12, 13, 14, 20, 21, 22, 23, 24, 25, 26, 27, 28, 29, 30, 31, 32] (by decide +kernel) (by decide +kernel)
set_option maxRecDepth 20000 in
theorem gX2_billedOn_X2_tierOn : GoodIn wsX2_billedOn (wsV RX2 62 RX2 yX2_tierOn wsX2_tierOn) := goodIn_app (goodIn_of _ (by decide +kernel)) ggX2_billedOn_X2_tierOn
theorem dX2_billedOn_0 : decode cX2_billedOn 0 = .ok (.aload_n 0, 1) := by decide +kernel
theorem dX2_billedOn_1 : decode cX2_billedOn 1 = .ok (.invokevirtual 55, 3) := by decide +kernel
theorem dX2_billedOn_4 : decode cX2_billedOn 4 = .ok (.ifCond .eq 7, 3) := by decide +kernel
theorem dX2_billedOn_7 : decode cX2_billedOn 7 = .ok (.iconst 0, 1) := by decide +kernel
theorem dX2_billedOn_8 : decode cX2_billedOn 8 = .ok (.goto 10, 3) := by decide +kernel
theorem dX2_billedOn_11 : decode cX2_billedOn 11 = .ok (.iconst 3, 1) := by decide +kernel
theorem dX2_billedOn_12 : decode cX2_billedOn 12 = .ok (.aload_n 0, 1) := by decide +kernel
theorem dX2_billedOn_13 : decode cX2_billedOn 13 = .ok (.iload_n 1, 1) := by decide +kernel
theorem dX2_billedOn_14 : decode cX2_billedOn 14 = .ok (.invokevirtual 62, 3) := by decide +kernel
theorem dX2_billedOn_17 : decode cX2_billedOn 17 = .ok (.isub, 1) := by decide +kernel
theorem dX2_billedOn_18 : decode cX2_billedOn 18 = .ok (.istore_n 2, 1) := by decide +kernel
theorem dX2_billedOn_19 : decode cX2_billedOn 19 = .ok (.iload_n 2, 1) := by decide +kernel
theorem dX2_billedOn_20 : decode cX2_billedOn 20 = .ok (.aload_n 0, 1) := by decide +kernel
theorem dX2_billedOn_21 : decode cX2_billedOn 21 = .ok (.getfield 22, 3) := by decide +kernel
theorem dX2_billedOn_24 : decode cX2_billedOn 24 = .ok (.imul, 1) := by decide +kernel
theorem dX2_billedOn_25 : decode cX2_billedOn 25 = .ok (.aload_n 0, 1) := by decide +kernel
theorem dX2_billedOn_26 : decode cX2_billedOn 26 = .ok (.getfield 52, 3) := by decide +kernel
theorem dX2_billedOn_29 : decode cX2_billedOn 29 = .ok (.iadd, 1) := by decide +kernel
theorem dX2_billedOn_30 : decode cX2_billedOn 30 = .ok (.ireturn, 1) := by decide +kernel
set_option maxRecDepth 20000 in
theorem ggX3_init_Jx4a65c_init_da8c8 : GoodIn wsX3_init wsJx4a65c_init_da8c8 := goodIn_r _ [18, 19, 20, 21, 22, 23, 24, 25, 26, 27, 28, 29, 30, 2, 3, 98, 99, 100] (by decide +kernel) (by decide +kernel)
set_option maxRecDepth 20000 in
theorem gX3_init_Jx4a65c_init_da8c8 : GoodIn wsX3_init (wsJx4a65c_init_da8c8) := ggX3_init_Jx4a65c_init_da8c8
set_option maxRecDepth 20000 in
theorem ggX3_init_X1_init : GoodIn wsX3_init wsX1_init := goodIn_r _ [33, 34, 2, 3, 35, 36, 37, 105, 106, 107, 108] (by decide +kernel) (by decide +kernel)
set_option maxRecDepth 20000 in
theorem gX3_init_X1_init : GoodIn wsX3_init (wsX1_init) := ggX3_init_X1_init
set_option maxRecDepth 20000 in
theorem ggX3_init_Jx4a65c_add_9ea2d : GoodIn wsX3_init wsJx4a65c_add_9ea2d := goodIn_r _ [41, 42, 43, 20, 44, 45, 46, 47, 6, 48, 49, 50, 51, 52, 53, 54, 55, 56, 19, 57, 58, 59, 60, 61, 62, 63, 64, 65, 66, 67, 68, 69, 70, 71, 72, 73, 74, 75, 76, 77, 78, 79, 80, 81, 82, 83, 84, 85, 86, 87, 88, 89, 90, 98, 99, 100] (by decide +kernel) (by decide +kernel)
set_option maxRecDepth 20000 in
theorem gX3_init_Jx4a65c_add_9ea2d : GoodIn wsX3_init (wsV RX3 27 RJx4a65c yJx4a65c_add_9ea2d wsJx4a65c_add_9ea2d) := goodIn_app (goodIn_of _ (by decide +kernel)) ggX3_init_Jx4a65c_add_9ea2d
set_option maxRecDepth 20000 in
theorem ggX3_init_X0_init : GoodIn wsX3_init wsX0_init := goodIn_r _ [92, 93, 2, 3, 94, 5, 6, 95, 96, 97, 17, 18, 19, 20, 21, 22, 23, 24, 25, 26, 27, 28, 29, 30, 98, 99, 100, 109, 110] (by decide +kernel) (by decide +kernel)
set_option maxRecDepth 20000 in
theorem gX3_init_X0_init_n33 : GoodIn wsX3_init (wsX0_init) := ggX3_init_X0_init
theorem dX3_init_0 : decode cX3_init 0 = .ok (.aload_n 0, 1) := by decide +kernel
theorem dX3_init_1 : decode cX3_init 1 = .ok (.invokespecial 1, 3) := by decide +kernel
theorem dX3_init_4 : decode cX3_init 4 = .ok (.aload_n 0, 1) := by decide +kernel
theorem dX3_init_5 : decode cX3_init 5 = .ok (.new 7, 3) := by decide +kernel
theorem dX3_init_8 : decode cX3_init 8 = .ok (.dup, 1) := by decide +kernel
theorem dX3_init_9 : decode cX3_init 9 = .ok (.invokespecial 9, 3) := by decide +kernel
theorem dX3_init_12 : decode cX3_init 12 = .ok (.putfield 10, 3) := by decide +kernel
theorem dX3_init_15 : decode cX3_init 15 = .ok (.aload_n 0, 1) := by decide +kernel
theorem dX3_init_16 : decode cX3_init 16 = .ok (.new 7, 3) := by decide +kernel
theorem dX3_init_19 : decode cX3_init 19 = .ok (.dup, 1) := by decide +kernel
theorem dX3_init_20 : decode cX3_init 20 = .ok (.invokespecial 9, 3) := by decide +kernel
theorem dX3_init_23 : decode cX3_init 23 = .ok (.putfield 16, 3) := by decide +kernel
theorem dX3_init_26 : decode cX3_init 26 = .ok (.aload_n 0, 1) := by decide +kernel
theorem dX3_init_27 : decode cX3_init 27 = .ok (.new 7, 3) := by decide +kernel
theorem dX3_init_30 : decode cX3_init 30 = .ok (.dup, 1) := by decide +kernel
theorem dX3_init_31 : decode cX3_init 31 = .ok (.invokespecial 9, 3) := by decide +kernel
theorem dX3_init_34 : decode cX3_init 34 = .ok (.putfield 19, 3) := by decide +kernel
theorem dX3_init_37 : decode cX3_init 37 = .ok (.aload_n 0, 1) := by decide +kernel
theorem dX3_init_38 : decode cX3_init 38 = .ok (.getfield 10, 3) := by decide +kernel
theorem dX3_init_41 : decode cX3_init 41 = .ok (.new 22, 3) := by decide +kernel
theorem dX3_init_44 : decode cX3_init 44 = .ok (.dup, 1) := by decide +kernel
theorem dX3_init_45 : decode cX3_init 45 = .ok (.iconst 0, 1) := by decide +kernel
theorem dX3_init_46 : decode cX3_init 46 = .ok (.aconst_null, 1) := by decide +kernel
theorem dX3_init_47 : decode cX3_init 47 = .ok (.iconst (-1), 1) := by decide +kernel
theorem dX3_init_48 : decode cX3_init 48 = .ok (.invokespecial 24, 3) := by decide +kernel
theorem dX3_init_51 : decode cX3_init 51 = .ok (.invokevirtual 27, 3) := by decide +kernel
theorem dX3_init_54 : decode cX3_init 54 = .ok (.pop, 1) := by decide +kernel
theorem dX3_init_55 : decode cX3_init 55 = .ok (.iconst 0, 1) := by decide +kernel
theorem dX3_init_56 : decode cX3_init 56 = .ok (.istore_n 1, 1) := by decide +kernel
theorem dX3_init_57 : decode cX3_init 57 = .ok (.iload_n 1, 1) := by decide +kernel
theorem dX3_init_58 : decode cX3_init 58 = .ok (.iconst 4, 1) := by decide +kernel
theorem dX3_init_59 : decode cX3_init 59 = .ok (.if_icmp .ge 24, 3) := by decide +kernel
theorem dX3_init_62 : decode cX3_init 62 = .ok (.aload_n 0, 1) := by decide +kernel
theorem dX3_init_63 : decode cX3_init 63 = .ok (.getfield 19, 3) := by decide +kernel
theorem dX3_init_66 : decode cX3_init 66 = .ok (.new 31, 3) := by decide +kernel
theorem dX3_init_69 : decode cX3_init 69 = .ok (.dup, 1) := by decide +kernel
theorem dX3_init_70 : decode cX3_init 70 = .ok (.invokespecial 33, 3) := by decide +kernel
theorem dX3_init_73 : decode cX3_init 73 = .ok (.invokevirtual 27, 3) := by decide +kernel
theorem dX3_init_76 : decode cX3_init 76 = .ok (.pop, 1) := by decide +kernel
theorem dX3_init_77 : decode cX3_init 77 = .ok (.iinc 1 1, 3) := by decide +kernel
theorem dX3_init_80 : decode cX3_init 80 = .ok (.goto (-23), 3) := by decide +kernel
theorem dX3_init_83 : decode cX3_init 83 = .ok (.return_, 1) := by decide +kernel
set_option maxRecDepth 20000 in
theorem ggX3_addDirectory_X3_directoryNumbered : GoodIn wsX3_addDirectory wsX3_directoryNumbered := goodIn_ca (goodIn_r _ [12, 13, 14, 4, 15, 16, 17, 18, 19, 20, 21, 22, 23, 24, 25, 26, 27, 28, 29, 30, 31, 32, 33, 34, 35, 36, 37, 38, 106, 107, 108, 109, 114, 115, 116] (by decide +kernel) (by decide +kernel)) (goodIn_sub (fun _ h => List.mem_cons_of_mem _ (List.mem_append_left _ (List.mem_append_right _ h))) (by decide +kernel))
set_option maxRecDepth 20000 in
theorem gX3_addDirectory_X3_directoryNumbered : GoodIn wsX3_addDirectory (wsV RX3 34 RX3 yX3_directoryNumbered wsX3_directoryNumbered) := goodIn_app (goodIn_of _ (by decide +kernel)) ggX3_addDirectory_X3_directoryNumbered
set_option maxRecDepth 20000 in
theorem ggX3_addDirectory_X3_requireBetween : GoodIn wsX3_addDirectory wsX3_requireBetween := goodIn_ca (goodIn_r _ [41, 42, 43] (by decide +kernel) (by decide +kernel)) (goodIn_sub (fun _ h => List.mem_cons_of_mem _ (List.mem_append_right _ h)) (by decide +kernel))
set_option maxRecDepth 20000 in
theorem gX3_addDirectory_X3_requireBetween : GoodIn wsX3_addDirectory (va_wsS RX3 39 yX3_requireBetween wsX3_requireBetween) := goodIn_app (goodIn_of _ (by decide +kernel)) ggX3_addDirectory_X3_requireBetween
set_option maxRecDepth 20000 in
theorem ggX3_addDirectory_Jx4a65c_size_8abf5 : GoodIn wsX3_addDirectory wsJx4a65c_size_8abf5 := goodIn_r _ [20, 21, 114, 115, 116] (by decide +kernel) (by decide +kernel)
set_option maxRecDepth 20000 in
theorem gX3_addDirectory_Jx4a65c_size_8abf5 : GoodIn wsX3_addDirectory (wsV RX3 43 RJx4a65c yJx4a65c_size_8abf5 wsJx4a65c_size_8abf5) := goodIn_app (goodIn_of _ (by decide +kernel)) ggX3_addDirectory_Jx4a65c_size_8abf5
set_option maxRecDepth 20000 in
theorem ggX3_addDirectory_X1_init : GoodIn wsX3_addDirectory wsX1_init := goodIn_r _ [46, 47, 48, 49, 50, 51, 52, 110, 111, 112, 113] (by decide +kernel) (by decide +kernel)
set_option maxRecDepth 20000 in
theorem gX3_addDirectory_X1_init : GoodIn wsX3_addDirectory (wsX1_init) := ggX3_addDirectory_X1_init
set_option maxRecDepth 20000 in
theorem ggX3_addDirectory_Jx4a65c_add_9ea2d : GoodIn wsX3_addDirectory wsJx4a65c_add_9ea2d := goodIn_r _ [56, 57, 58, 38, 21, 59, 60, 61, 19, 62, 63, 64, 65, 66, 67, 68, 69, 70, 71, 72, 73, 74, 75, 76, 77, 78, 79, 80, 81, 82, 83, 84, 85, 86, 87, 88, 89, 90, 91, 92, 93, 94, 95, 96, 97, 98, 99, 100, 101, 102, 103, 104, 105, 114, 115, 116] (by decide +kernel) (by decide +kernel)
set_option maxRecDepth 20000 in
theorem gX3_addDirectory_Jx4a65c_add_9ea2d : GoodIn wsX3_addDirectory (wsV RX3 27 RJx4a65c yJx4a65c_add_9ea2d wsJx4a65c_add_9ea2d) := goodIn_app (goodIn_of _ (by decide +kernel)) ggX3_addDirectory_Jx4a65c_add_9ea2d
theorem dX3_addDirectory_0 : decode cX3_addDirectory 0 = .ok (.aload_n 0, 1) := by decide +kernel
theorem dX3_addDirectory_1 : decode cX3_addDirectory 1 = .ok (.iload_n 1, 1) := by decide +kernel
theorem dX3_addDirectory_2 : decode cX3_addDirectory 2 = .ok (.invokevirtual 34, 3) := by decide +kernel
theorem dX3_addDirectory_5 : decode cX3_addDirectory 5 = .ok (.astore_n 3, 1) := by decide +kernel
theorem dX3_addDirectory_6 : decode cX3_addDirectory 6 = .ok (.iconst (-1), 1) := by decide +kernel
theorem dX3_addDirectory_7 : decode cX3_addDirectory 7 = .ok (.iload_n 2, 1) := by decide +kernel
theorem dX3_addDirectory_8 : decode cX3_addDirectory 8 = .ok (.ldc 38, 2) := by decide +kernel
theorem dX3_addDirectory_10 : decode cX3_addDirectory 10 = .ok (.invokestatic 39, 3) := by decide +kernel
theorem dX3_addDirectory_13 : decode cX3_addDirectory 13 = .ok (.aload_n 0, 1) := by decide +kernel
theorem dX3_addDirectory_14 : decode cX3_addDirectory 14 = .ok (.getfield 10, 3) := by decide +kernel
theorem dX3_addDirectory_17 : decode cX3_addDirectory 17 = .ok (.invokevirtual 43, 3) := by decide +kernel
theorem dX3_addDirectory_20 : decode cX3_addDirectory 20 = .ok (.istore 4, 2) := by decide +kernel
theorem dX3_addDirectory_22 : decode cX3_addDirectory 22 = .ok (.iload 4, 2) := by decide +kernel
theorem dX3_addDirectory_24 : decode cX3_addDirectory 24 = .ok (.bipush 12, 2) := by decide +kernel
theorem dX3_addDirectory_26 : decode cX3_addDirectory 26 = .ok (.if_icmp .lt 13, 3) := by decide +kernel
theorem dX3_addDirectory_29 : decode cX3_addDirectory 29 = .ok (.new 47, 3) := by decide +kernel
theorem dX3_addDirectory_32 : decode cX3_addDirectory 32 = .ok (.dup, 1) := by decide +kernel
theorem dX3_addDirectory_33 : decode cX3_addDirectory 33 = .ok (.ldc 49, 2) := by decide +kernel
theorem dX3_addDirectory_35 : decode cX3_addDirectory 35 = .ok (.invokespecial 51, 3) := by decide +kernel
theorem dX3_addDirectory_38 : decode cX3_addDirectory 38 = .ok (.athrow, 1) := by decide +kernel
theorem dX3_addDirectory_39 : decode cX3_addDirectory 39 = .ok (.aload_n 0, 1) := by decide +kernel
theorem dX3_addDirectory_40 : decode cX3_addDirectory 40 = .ok (.getfield 10, 3) := by decide +kernel
theorem dX3_addDirectory_43 : decode cX3_addDirectory 43 = .ok (.new 22, 3) := by decide +kernel
theorem dX3_addDirectory_46 : decode cX3_addDirectory 46 = .ok (.dup, 1) := by decide +kernel
theorem dX3_addDirectory_47 : decode cX3_addDirectory 47 = .ok (.iload 4, 2) := by decide +kernel
theorem dX3_addDirectory_49 : decode cX3_addDirectory 49 = .ok (.aload_n 3, 1) := by decide +kernel
theorem dX3_addDirectory_50 : decode cX3_addDirectory 50 = .ok (.iload_n 2, 1) := by decide +kernel
theorem dX3_addDirectory_51 : decode cX3_addDirectory 51 = .ok (.invokespecial 24, 3) := by decide +kernel
theorem dX3_addDirectory_54 : decode cX3_addDirectory 54 = .ok (.invokevirtual 27, 3) := by decide +kernel
theorem dX3_addDirectory_57 : decode cX3_addDirectory 57 = .ok (.pop, 1) := by decide +kernel
theorem dX3_addDirectory_58 : decode cX3_addDirectory 58 = .ok (.iload 4, 2) := by decide +kernel
theorem dX3_addDirectory_60 : decode cX3_addDirectory 60 = .ok (.ireturn, 1) := by decide +kernel
set_option maxRecDepth 20000 in
theorem ggX3_setQuota_X3_directoryNumbered : GoodIn wsX3_setQuota wsX3_directoryNumbered := goodIn_ca (goodIn_r _ [7, 8, 9, 10, 11, 12, 13, 14, 15, 16, 17, 18, 19, 20, 21, 22, 23, 24, 25, 26, 27, 28, 29, 30, 31, 32, 33, 34, 44, 45, 46, 47, 48, 49, 50] (by decide +kernel) (by decide +kernel)) (goodIn_sub (fun _ h => List.mem_cons_of_mem _ (List.mem_append_left _ (List.mem_append_right _ h))) (by decide +kernel))
set_option maxRecDepth 20000 in
theorem gX3_setQuota_X3_directoryNumbered : GoodIn wsX3_setQuota (wsV RX3 34 RX3 yX3_directoryNumbered wsX3_directoryNumbered) := goodIn_app (goodIn_of _ (by decide +kernel)) ggX3_setQuota_X3_directoryNumbered
set_option maxRecDepth 20000 in
theorem ggX3_setQuota_X3_requireBetween : GoodIn wsX3_setQuota wsX3_requireBetween := goodIn_ca (goodIn_r _ [37, 38, 39] (by decide +kernel) (by decide +kernel)) (goodIn_sub (fun _ h => List.mem_cons_of_mem _ (List.mem_append_right _ h)) (by decide +kernel))
set_option maxRecDepth 20000 in
theorem gX3_setQuota_X3_requireBetween : GoodIn wsX3_setQuota (va_wsS RX3 39 yX3_requireBetween wsX3_requireBetween) := goodIn_app (goodIn_of _ (by decide +kernel)) ggX3_setQuota_X3_requireBetween
theorem dX3_setQuota_0 : decode cX3_setQuota 0 = .ok (.aload_n 0, 1) := by decide +kernel
theorem dX3_setQuota_1 : decode cX3_setQuota 1 = .ok (.iload_n 1, 1) := by decide +kernel
theorem dX3_setQuota_2 : decode cX3_setQuota 2 = .ok (.invokevirtual 34, 3) := by decide +kernel
theorem dX3_setQuota_5 : decode cX3_setQuota 5 = .ok (.astore_n 3, 1) := by decide +kernel
theorem dX3_setQuota_6 : decode cX3_setQuota 6 = .ok (.iconst (-1), 1) := by decide +kernel
theorem dX3_setQuota_7 : decode cX3_setQuota 7 = .ok (.iload_n 2, 1) := by decide +kernel
theorem dX3_setQuota_8 : decode cX3_setQuota 8 = .ok (.ldc 38, 2) := by decide +kernel
theorem dX3_setQuota_10 : decode cX3_setQuota 10 = .ok (.invokestatic 39, 3) := by decide +kernel
theorem dX3_setQuota_13 : decode cX3_setQuota 13 = .ok (.aload_n 3, 1) := by decide +kernel
theorem dX3_setQuota_14 : decode cX3_setQuota 14 = .ok (.getfield 54, 3) := by decide +kernel
theorem dX3_setQuota_17 : decode cX3_setQuota 17 = .ok (.istore 4, 2) := by decide +kernel
theorem dX3_setQuota_19 : decode cX3_setQuota 19 = .ok (.aload_n 3, 1) := by decide +kernel
theorem dX3_setQuota_20 : decode cX3_setQuota 20 = .ok (.iload_n 2, 1) := by decide +kernel
theorem dX3_setQuota_21 : decode cX3_setQuota 21 = .ok (.putfield 54, 3) := by decide +kernel
theorem dX3_setQuota_24 : decode cX3_setQuota 24 = .ok (.iload 4, 2) := by decide +kernel
theorem dX3_setQuota_26 : decode cX3_setQuota 26 = .ok (.ireturn, 1) := by decide +kernel
set_option maxRecDepth 20000 in
theorem ggX3_make_X3_departmentNumbered : GoodIn wsX3_make wsX3_departmentNumbered := goodIn_ca (goodIn_r _ [14, 15, 16, 17, 18, 19, 20, 21, 22, 23, 24, 25, 26, 27, 28, 29, 30, 31, 32, 33, 34, 35, 36, 37, 38, 39, 40, 41, 147, 148, 149, 150, 159, 160, 161] (by decide +kernel) (by decide +kernel)) (goodIn_sub (fun _ h => List.mem_cons_of_mem _ (List.mem_append_left _ (List.mem_append_right _ h))) (by decide +kernel))
set_option maxRecDepth 20000 in
theorem gX3_make_X3_departmentNumbered : GoodIn wsX3_make (wsV RX3 58 RX3 yX3_departmentNumbered wsX3_departmentNumbered) := goodIn_app (goodIn_of _ (by decide +kernel)) ggX3_make_X3_departmentNumbered
set_option maxRecDepth 20000 in
theorem ggX3_make_X3_directoryNumbered : GoodIn wsX3_make wsX3_directoryNumbered := goodIn_ca (goodIn_r _ [45, 15, 16, 46, 47, 19, 20, 21, 22, 23, 24, 25, 26, 27, 28, 29, 30, 31, 32, 33, 34, 35, 36, 37, 38, 39, 40, 41, 147, 148, 149, 150, 159, 160, 161] (by decide +kernel) (by decide +kernel)) (goodIn_sub (fun _ h => List.mem_cons_of_mem _ (List.mem_append_left _ (List.mem_append_right _ h))) (by decide +kernel))
set_option maxRecDepth 20000 in
theorem gX3_make_X3_directoryNumbered : GoodIn wsX3_make (wsV RX3 34 RX3 yX3_directoryNumbered wsX3_directoryNumbered) := goodIn_app (goodIn_of _ (by decide +kernel)) ggX3_make_X3_directoryNumbered
set_option maxRecDepth 20000 in
theorem ggX3_make_X3_requireBetween : GoodIn wsX3_make wsX3_requireBetween := goodIn_ca (goodIn_r _ [50, 51, 52] (by decide +kernel) (by decide +kernel)) (goodIn_sub (fun _ h => List.mem_cons_of_mem _ (List.mem_append_right _ h)) (by decide +kernel))
set_option maxRecDepth 20000 in
theorem gX3_make_X3_requireBetween : GoodIn wsX3_make (va_wsS RX3 39 yX3_requireBetween wsX3_requireBetween) := goodIn_app (goodIn_of _ (by decide +kernel)) ggX3_make_X3_requireBetween
set_option maxRecDepth 20000 in
theorem ggX3_make_Jx4a65c_size_8abf5 : GoodIn wsX3_make wsJx4a65c_size_8abf5 := goodIn_r _ [23, 24, 159, 160, 161] (by decide +kernel) (by decide +kernel)
set_option maxRecDepth 20000 in
theorem gX3_make_Jx4a65c_size_8abf5 : GoodIn wsX3_make (wsV RX3 43 RJx4a65c yJx4a65c_size_8abf5 wsJx4a65c_size_8abf5) := goodIn_app (goodIn_of _ (by decide +kernel)) ggX3_make_Jx4a65c_size_8abf5
set_option maxRecDepth 20000 in
theorem ggX3_make_X3_requireGrowthPossible : GoodIn wsX3_make wsX3_requireGrowthPossible := goodIn_ca (goodIn_r _ [55, 1, 2, 56, 57, 58, 59, 60, 61, 62, 63, 64, 157, 158, 162, 163, 164, 165] (by decide +kernel) (by decide +kernel)) (goodIn_sub (fun _ h => List.mem_cons_of_mem _ (List.mem_append_left _ (List.mem_append_left _ (List.mem_append_right _ h)))) (by decide +kernel))
set_option maxRecDepth 20000 in
theorem gX3_make_X3_requireGrowthPossible : GoodIn wsX3_make (va_wsS RX3 64 yX3_requireGrowthPossible wsX3_requireGrowthPossible) := goodIn_app (goodIn_of _ (by decide +kernel)) ggX3_make_X3_requireGrowthPossible
set_option maxRecDepth 20000 in
theorem ggX3_make_X2_init : GoodIn wsX3_make wsX2_init := goodIn_r _ [67, 68, 69, 70, 71, 72, 22, 73, 74, 75, 76, 77, 78, 79, 80, 41, 81, 82, 83, 84, 85, 86, 87, 88, 89, 90, 159, 160, 161, 151, 152, 153, 154, 155, 156] (by decide +kernel) (by decide +kernel)
set_option maxRecDepth 20000 in
theorem gX3_make_X2_init : GoodIn wsX3_make (wsX2_init) := ggX3_make_X2_init
set_option maxRecDepth 20000 in
theorem ggX3_make_Jx4a65c_add_9ea2d : GoodIn wsX3_make wsJx4a65c_add_9ea2d := goodIn_r _ [94, 95, 96, 41, 24, 97, 98, 99, 22, 100, 101, 102, 103, 104, 105, 106, 107, 108, 80, 109, 110, 111, 112, 113, 114, 115, 116, 117, 118, 119, 120, 121, 122, 123, 124, 125, 126, 127, 128, 129, 130, 131, 132, 133, 134, 135, 136, 137, 138, 139, 140, 141, 142, 159, 160, 161] (by decide +kernel) (by decide +kernel)
set_option maxRecDepth 20000 in
theorem gX3_make_Jx4a65c_add_9ea2d : GoodIn wsX3_make (wsV RX3 27 RJx4a65c yJx4a65c_add_9ea2d wsJx4a65c_add_9ea2d) := goodIn_app (goodIn_of _ (by decide +kernel)) ggX3_make_Jx4a65c_add_9ea2d
set_option maxRecDepth 20000 in
theorem ggX3_make_X1_addUsage : GoodIn wsX3_make wsX1_addUsage := goodIn_r _ [146, 63, 64, 162, 163, 164, 165] (by decide +kernel) (by decide +kernel)
set_option maxRecDepth 20000 in
theorem gX3_make_X1_addUsage : GoodIn wsX3_make (wsV RX3 79 RX1 yX1_addUsage wsX1_addUsage) := goodIn_app (goodIn_of _ (by decide +kernel)) ggX3_make_X1_addUsage
theorem dX3_make_0 : decode cX3_make 0 = .ok (.aload_n 0, 1) := by decide +kernel
theorem dX3_make_1 : decode cX3_make 1 = .ok (.iload_n 1, 1) := by decide +kernel
theorem dX3_make_2 : decode cX3_make 2 = .ok (.invokevirtual 58, 3) := by decide +kernel
theorem dX3_make_5 : decode cX3_make 5 = .ok (.astore 4, 2) := by decide +kernel
theorem dX3_make_7 : decode cX3_make 7 = .ok (.aload_n 0, 1) := by decide +kernel
theorem dX3_make_8 : decode cX3_make 8 = .ok (.iload_n 2, 1) := by decide +kernel
theorem dX3_make_9 : decode cX3_make 9 = .ok (.invokevirtual 34, 3) := by decide +kernel
theorem dX3_make_12 : decode cX3_make 12 = .ok (.astore 5, 2) := by decide +kernel
theorem dX3_make_14 : decode cX3_make 14 = .ok (.iconst 1, 1) := by decide +kernel
theorem dX3_make_15 : decode cX3_make 15 = .ok (.iload_n 3, 1) := by decide +kernel
theorem dX3_make_16 : decode cX3_make 16 = .ok (.sipush 1000, 3) := by decide +kernel
theorem dX3_make_19 : decode cX3_make 19 = .ok (.invokestatic 39, 3) := by decide +kernel
theorem dX3_make_22 : decode cX3_make 22 = .ok (.aload_n 0, 1) := by decide +kernel
theorem dX3_make_23 : decode cX3_make 23 = .ok (.getfield 16, 3) := by decide +kernel
theorem dX3_make_26 : decode cX3_make 26 = .ok (.invokevirtual 43, 3) := by decide +kernel
theorem dX3_make_29 : decode cX3_make 29 = .ok (.istore 6, 2) := by decide +kernel
theorem dX3_make_31 : decode cX3_make 31 = .ok (.iload 6, 2) := by decide +kernel
theorem dX3_make_33 : decode cX3_make 33 = .ok (.bipush 30, 2) := by decide +kernel
theorem dX3_make_35 : decode cX3_make 35 = .ok (.if_icmp .lt 13, 3) := by decide +kernel
theorem dX3_make_38 : decode cX3_make 38 = .ok (.new 47, 3) := by decide +kernel
theorem dX3_make_41 : decode cX3_make 41 = .ok (.dup, 1) := by decide +kernel
theorem dX3_make_42 : decode cX3_make 42 = .ok (.ldc 62, 2) := by decide +kernel
theorem dX3_make_44 : decode cX3_make 44 = .ok (.invokespecial 51, 3) := by decide +kernel
theorem dX3_make_47 : decode cX3_make 47 = .ok (.athrow, 1) := by decide +kernel
theorem dX3_make_48 : decode cX3_make 48 = .ok (.aload 4, 2) := by decide +kernel
theorem dX3_make_50 : decode cX3_make 50 = .ok (.aload 5, 2) := by decide +kernel
theorem dX3_make_52 : decode cX3_make 52 = .ok (.iload_n 3, 1) := by decide +kernel
theorem dX3_make_53 : decode cX3_make 53 = .ok (.invokestatic 64, 3) := by decide +kernel
theorem dX3_make_56 : decode cX3_make 56 = .ok (.new 68, 3) := by decide +kernel
theorem dX3_make_59 : decode cX3_make 59 = .ok (.dup, 1) := by decide +kernel
theorem dX3_make_60 : decode cX3_make 60 = .ok (.aload 4, 2) := by decide +kernel
theorem dX3_make_62 : decode cX3_make 62 = .ok (.iload_n 3, 1) := by decide +kernel
theorem dX3_make_63 : decode cX3_make 63 = .ok (.aload_n 0, 1) := by decide +kernel
theorem dX3_make_64 : decode cX3_make 64 = .ok (.getfield 70, 3) := by decide +kernel
theorem dX3_make_67 : decode cX3_make 67 = .ok (.invokespecial 73, 3) := by decide +kernel
theorem dX3_make_70 : decode cX3_make 70 = .ok (.astore 7, 2) := by decide +kernel
theorem dX3_make_72 : decode cX3_make 72 = .ok (.aload 7, 2) := by decide +kernel
theorem dX3_make_74 : decode cX3_make 74 = .ok (.getfield 76, 3) := by decide +kernel
theorem dX3_make_77 : decode cX3_make 77 = .ok (.aload 5, 2) := by decide +kernel
theorem dX3_make_79 : decode cX3_make 79 = .ok (.invokevirtual 27, 3) := by decide +kernel
theorem dX3_make_82 : decode cX3_make 82 = .ok (.pop, 1) := by decide +kernel
theorem dX3_make_83 : decode cX3_make 83 = .ok (.aload 5, 2) := by decide +kernel
theorem dX3_make_85 : decode cX3_make 85 = .ok (.iload_n 3, 1) := by decide +kernel
theorem dX3_make_86 : decode cX3_make 86 = .ok (.invokevirtual 79, 3) := by decide +kernel
theorem dX3_make_89 : decode cX3_make 89 = .ok (.aload 4, 2) := by decide +kernel
theorem dX3_make_91 : decode cX3_make 91 = .ok (.getfield 83, 3) := by decide +kernel
theorem dX3_make_94 : decode cX3_make 94 = .ok (.aload 7, 2) := by decide +kernel
theorem dX3_make_96 : decode cX3_make 96 = .ok (.invokevirtual 27, 3) := by decide +kernel
theorem dX3_make_99 : decode cX3_make 99 = .ok (.pop, 1) := by decide +kernel
theorem dX3_make_100 : decode cX3_make 100 = .ok (.aload_n 0, 1) := by decide +kernel
theorem dX3_make_101 : decode cX3_make 101 = .ok (.getfield 16, 3) := by decide +kernel
theorem dX3_make_104 : decode cX3_make 104 = .ok (.aload 7, 2) := by decide +kernel
theorem dX3_make_106 : decode cX3_make 106 = .ok (.invokevirtual 27, 3) := by decide +kernel
theorem dX3_make_109 : decode cX3_make 109 = .ok (.pop, 1) := by decide +kernel
theorem dX3_make_110 : decode cX3_make 110 = .ok (.iload 6, 2) := by decide +kernel
theorem dX3_make_112 : decode cX3_make 112 = .ok (.ireturn, 1) := by decide +kernel
set_option maxRecDepth 20000 in
theorem ggX3_link_X3_fileNumbered : GoodIn wsX3_link wsX3_fileNumbered := goodIn_ca (goodIn_r _ [8, 9, 10, 11, 12, 13, 14, 15, 16, 17, 18, 19, 20, 21, 22, 23, 24, 25, 26, 27, 28, 29, 30, 31, 32, 33, 34, 35, 120, 121, 122, 123, 124, 125, 126] (by decide +kernel) (by decide +kernel)) (goodIn_sub (fun _ h => List.mem_cons_of_mem _ (List.mem_append_right _ h)) (by decide +kernel))
set_option maxRecDepth 20000 in
theorem gX3_link_X3_fileNumbered : GoodIn wsX3_link (wsV RX3 86 RX3 yX3_fileNumbered wsX3_fileNumbered) := goodIn_app (goodIn_of _ (by decide +kernel)) ggX3_link_X3_fileNumbered
set_option maxRecDepth 20000 in
theorem ggX3_link_X3_directoryNumbered : GoodIn wsX3_link wsX3_directoryNumbered := goodIn_ca (goodIn_r _ [39, 9, 10, 40, 41, 13, 14, 15, 16, 17, 18, 19, 20, 21, 22, 23, 24, 25, 26, 27, 28, 29, 30, 31, 32, 33, 34, 35, 120, 121, 122, 123, 124, 125, 126] (by decide +kernel) (by decide +kernel)) (goodIn_sub (fun _ h => List.mem_cons_of_mem _ (List.mem_append_right _ h)) (by decide +kernel))
set_option maxRecDepth 20000 in
theorem gX3_link_X3_directoryNumbered : GoodIn wsX3_link (wsV RX3 34 RX3 yX3_directoryNumbered wsX3_directoryNumbered) := goodIn_app (goodIn_of _ (by decide +kernel)) ggX3_link_X3_directoryNumbered
set_option maxRecDepth 20000 in
theorem ggX3_link_X3_requireNotGone : GoodIn wsX3_link wsX3_requireNotGone := goodIn_ca (goodIn_r _ [44, 1, 2, 45, 46, 47, 48, 49, 50, 51, 52, 53, 16, 54, 18, 114, 115, 116, 117, 118, 119, 124, 125, 126] (by decide +kernel) (by decide +kernel)) (goodIn_sub (fun _ h => List.mem_cons_of_mem _ (List.mem_append_left _ (List.mem_append_right _ h))) (by decide +kernel))
set_option maxRecDepth 20000 in
theorem gX3_link_X3_requireNotGone : GoodIn wsX3_link (va_wsS RX3 90 yX3_requireNotGone wsX3_requireNotGone) := goodIn_app (goodIn_of _ (by decide +kernel)) ggX3_link_X3_requireNotGone
set_option maxRecDepth 20000 in
theorem ggX3_link_X2_placeOfLinkTo : GoodIn wsX3_link wsX2_placeOfLinkTo := goodIn_r _ [58, 50, 59, 14, 15, 16, 17, 18, 60, 20, 21, 22, 23, 24, 25, 26, 27, 28, 29, 30, 31, 32, 33, 34, 35, 114, 115, 116, 117, 118, 119, 124, 125, 126] (by decide +kernel) (by decide +kernel)
set_option maxRecDepth 20000 in
theorem gX3_link_X2_placeOfLinkTo : GoodIn wsX3_link (wsV RX3 94 RX2 yX2_placeOfLinkTo wsX2_placeOfLinkTo) := goodIn_app (goodIn_of _ (by decide +kernel)) ggX3_link_X2_placeOfLinkTo
set_option maxRecDepth 20000 in
theorem ggX3_link_Jx4a65c_add_9ea2d : GoodIn wsX3_link wsJx4a65c_add_9ea2d := goodIn_r _ [64, 65, 66, 35, 18, 67, 68, 69, 16, 70, 71, 72, 73, 74, 75, 76, 77, 78, 79, 80, 81, 82, 83, 84, 85, 86, 87, 88, 89, 90, 91, 92, 93, 94, 95, 96, 97, 98, 99, 100, 101, 102, 103, 104, 105, 106, 107, 108, 109, 110, 111, 112, 113, 124, 125, 126] (by decide +kernel) (by decide +kernel)
set_option maxRecDepth 20000 in
theorem gX3_link_Jx4a65c_add_9ea2d : GoodIn wsX3_link (wsV RX3 27 RJx4a65c yJx4a65c_add_9ea2d wsJx4a65c_add_9ea2d) := goodIn_app (goodIn_of _ (by decide +kernel)) ggX3_link_Jx4a65c_add_9ea2d
set_option maxRecDepth 20000 in
theorem ggX3_link_Jx4a65c_size_8abf5 : GoodIn wsX3_link wsJx4a65c_size_8abf5 := goodIn_r _ [17, 18, 124, 125, 126] (by decide +kernel) (by decide +kernel)
set_option maxRecDepth 20000 in
theorem gX3_link_Jx4a65c_size_8abf5 : GoodIn wsX3_link (wsV RX3 43 RJx4a65c yJx4a65c_size_8abf5 wsJx4a65c_size_8abf5) := goodIn_app (goodIn_of _ (by decide +kernel)) ggX3_link_Jx4a65c_size_8abf5
theorem dX3_link_0 : decode cX3_link 0 = .ok (.aload_n 0, 1) := by decide +kernel
theorem dX3_link_1 : decode cX3_link 1 = .ok (.iload_n 1, 1) := by decide +kernel
theorem dX3_link_2 : decode cX3_link 2 = .ok (.invokevirtual 86, 3) := by decide +kernel
theorem dX3_link_5 : decode cX3_link 5 = .ok (.astore_n 3, 1) := by decide +kernel
theorem dX3_link_6 : decode cX3_link 6 = .ok (.aload_n 0, 1) := by decide +kernel
theorem dX3_link_7 : decode cX3_link 7 = .ok (.iload_n 2, 1) := by decide +kernel
theorem dX3_link_8 : decode cX3_link 8 = .ok (.invokevirtual 34, 3) := by decide +kernel
theorem dX3_link_11 : decode cX3_link 11 = .ok (.astore 4, 2) := by decide +kernel
theorem dX3_link_13 : decode cX3_link 13 = .ok (.aload_n 3, 1) := by decide +kernel
theorem dX3_link_14 : decode cX3_link 14 = .ok (.invokestatic 90, 3) := by decide +kernel
theorem dX3_link_17 : decode cX3_link 17 = .ok (.aload_n 3, 1) := by decide +kernel
theorem dX3_link_18 : decode cX3_link 18 = .ok (.aload 4, 2) := by decide +kernel
theorem dX3_link_20 : decode cX3_link 20 = .ok (.invokevirtual 94, 3) := by decide +kernel
theorem dX3_link_23 : decode cX3_link 23 = .ok (.ifCond .lt 13, 3) := by decide +kernel
theorem dX3_link_26 : decode cX3_link 26 = .ok (.new 47, 3) := by decide +kernel
theorem dX3_link_29 : decode cX3_link 29 = .ok (.dup, 1) := by decide +kernel
theorem dX3_link_30 : decode cX3_link 30 = .ok (.ldc 98, 2) := by decide +kernel
theorem dX3_link_32 : decode cX3_link 32 = .ok (.invokespecial 51, 3) := by decide +kernel
theorem dX3_link_35 : decode cX3_link 35 = .ok (.athrow, 1) := by decide +kernel
theorem dX3_link_36 : decode cX3_link 36 = .ok (.aload_n 3, 1) := by decide +kernel
theorem dX3_link_37 : decode cX3_link 37 = .ok (.getfield 76, 3) := by decide +kernel
theorem dX3_link_40 : decode cX3_link 40 = .ok (.aload 4, 2) := by decide +kernel
theorem dX3_link_42 : decode cX3_link 42 = .ok (.invokevirtual 27, 3) := by decide +kernel
theorem dX3_link_45 : decode cX3_link 45 = .ok (.pop, 1) := by decide +kernel
theorem dX3_link_46 : decode cX3_link 46 = .ok (.aload_n 3, 1) := by decide +kernel
theorem dX3_link_47 : decode cX3_link 47 = .ok (.getfield 76, 3) := by decide +kernel
theorem dX3_link_50 : decode cX3_link 50 = .ok (.invokevirtual 43, 3) := by decide +kernel
theorem dX3_link_53 : decode cX3_link 53 = .ok (.ireturn, 1) := by decide +kernel
set_option maxRecDepth 20000 in
theorem ggX3_unlink_X3_fileNumbered : GoodIn wsX3_unlink wsX3_fileNumbered := goodIn_ca (goodIn_r _ [9, 10, 11, 12, 13, 14, 15, 16, 17, 18, 19, 20, 21, 22, 23, 24, 25, 26, 27, 28, 29, 30, 31, 32, 33, 34, 35, 36, 98, 99, 100, 101, 102, 103, 104] (by decide +kernel) (by decide +kernel)) (goodIn_sub (fun _ h => List.mem_cons_of_mem _ (List.mem_append_right _ h)) (by decide +kernel))
set_option maxRecDepth 20000 in
theorem gX3_unlink_X3_fileNumbered : GoodIn wsX3_unlink (wsV RX3 86 RX3 yX3_fileNumbered wsX3_fileNumbered) := goodIn_app (goodIn_of _ (by decide +kernel)) ggX3_unlink_X3_fileNumbered
set_option maxRecDepth 20000 in
theorem ggX3_unlink_X3_directoryNumbered : GoodIn wsX3_unlink wsX3_directoryNumbered := goodIn_ca (goodIn_r _ [40, 10, 11, 41, 42, 14, 15, 16, 17, 18, 19, 20, 21, 22, 23, 24, 25, 26, 27, 28, 29, 30, 31, 32, 33, 34, 35, 36, 98, 99, 100, 101, 102, 103, 104] (by decide +kernel) (by decide +kernel)) (goodIn_sub (fun _ h => List.mem_cons_of_mem _ (List.mem_append_right _ h)) (by decide +kernel))
set_option maxRecDepth 20000 in
theorem gX3_unlink_X3_directoryNumbered : GoodIn wsX3_unlink (wsV RX3 34 RX3 yX3_directoryNumbered wsX3_directoryNumbered) := goodIn_app (goodIn_of _ (by decide +kernel)) ggX3_unlink_X3_directoryNumbered
set_option maxRecDepth 20000 in
theorem ggX3_unlink_X2_firstLink : GoodIn wsX3_unlink wsX2_firstLink := goodIn_r _ [47, 48, 49, 50, 51, 52, 17, 53, 19, 54, 21, 22, 23, 24, 25, 26, 27, 28, 29, 30, 31, 32, 33, 34, 35, 36, 92, 93, 94, 95, 96, 97, 102, 103, 104] (by decide +kernel) (by decide +kernel)
set_option maxRecDepth 20000 in
theorem gX3_unlink_X2_firstLink : GoodIn wsX3_unlink (wsV RX3 100 RX2 yX2_firstLink wsX2_firstLink) := goodIn_app (goodIn_of _ (by decide +kernel)) ggX3_unlink_X2_firstLink
set_option maxRecDepth 20000 in
theorem ggX3_unlink_X2_removeLinkTo : GoodIn wsX3_unlink wsX2_removeLinkTo := goodIn_r _ [58, 48, 59, 60, 61, 46, 62, 63, 15, 16, 17, 18, 19, 54, 21, 22, 23, 24, 25, 26, 27, 28, 29, 30, 31, 32, 33, 34, 35, 36, 64, 65, 66, 67, 68, 69, 70, 71, 72, 73, 74, 75, 76, 77, 92, 93, 94, 95, 96, 97, 102, 103, 104] (by decide +kernel) (by decide +kernel)
set_option maxRecDepth 20000 in
theorem gX3_unlink_X2_removeLinkTo : GoodIn wsX3_unlink (wsV RX3 104 RX2 yX2_removeLinkTo wsX2_removeLinkTo) := goodIn_app (goodIn_of _ (by decide +kernel)) ggX3_unlink_X2_removeLinkTo
set_option maxRecDepth 20000 in
theorem ggX3_unlink_X1_addUsage : GoodIn wsX3_unlink wsX1_addUsage := goodIn_r _ [82, 83, 84, 105, 106, 107, 108] (by decide +kernel) (by decide +kernel)
set_option maxRecDepth 20000 in
theorem gX3_unlink_X1_addUsage : GoodIn wsX3_unlink (wsV RX3 79 RX1 yX1_addUsage wsX1_addUsage) := goodIn_app (goodIn_of _ (by decide +kernel)) ggX3_unlink_X1_addUsage
set_option maxRecDepth 20000 in
theorem ggX3_unlink_X2_replaceSize : GoodIn wsX3_unlink wsX2_replaceSize := goodIn_r _ [88, 89, 90, 91, 92, 93, 94, 95, 96, 97] (by decide +kernel) (by decide +kernel)
set_option maxRecDepth 20000 in
theorem gX3_unlink_X2_replaceSize : GoodIn wsX3_unlink (wsV RX3 112 RX2 yX2_replaceSize wsX2_replaceSize) := goodIn_app (goodIn_of _ (by decide +kernel)) ggX3_unlink_X2_replaceSize
set_option maxRecDepth 20000 in
theorem ggX3_unlink_Jx4a65c_size_8abf5 : GoodIn wsX3_unlink wsJx4a65c_size_8abf5 := goodIn_r _ [18, 19, 102, 103, 104] (by decide +kernel) (by decide +kernel)
set_option maxRecDepth 20000 in
theorem gX3_unlink_Jx4a65c_size_8abf5 : GoodIn wsX3_unlink (wsV RX3 43 RJx4a65c yJx4a65c_size_8abf5 wsJx4a65c_size_8abf5) := goodIn_app (goodIn_of _ (by decide +kernel)) ggX3_unlink_Jx4a65c_size_8abf5
theorem dX3_unlink_0 : decode cX3_unlink 0 = .ok (.aload_n 0, 1) := by decide +kernel
theorem dX3_unlink_1 : decode cX3_unlink 1 = .ok (.iload_n 1, 1) := by decide +kernel
theorem dX3_unlink_2 : decode cX3_unlink 2 = .ok (.invokevirtual 86, 3) := by decide +kernel
theorem dX3_unlink_5 : decode cX3_unlink 5 = .ok (.astore_n 3, 1) := by decide +kernel
theorem dX3_unlink_6 : decode cX3_unlink 6 = .ok (.aload_n 0, 1) := by decide +kernel
theorem dX3_unlink_7 : decode cX3_unlink 7 = .ok (.iload_n 2, 1) := by decide +kernel
theorem dX3_unlink_8 : decode cX3_unlink 8 = .ok (.invokevirtual 34, 3) := by decide +kernel
theorem dX3_unlink_11 : decode cX3_unlink 11 = .ok (.astore 4, 2) := by decide +kernel
theorem dX3_unlink_13 : decode cX3_unlink 13 = .ok (.aload_n 3, 1) := by decide +kernel
theorem dX3_unlink_14 : decode cX3_unlink 14 = .ok (.invokevirtual 100, 3) := by decide +kernel
theorem dX3_unlink_17 : decode cX3_unlink 17 = .ok (.astore 5, 2) := by decide +kernel
theorem dX3_unlink_19 : decode cX3_unlink 19 = .ok (.aload 5, 2) := by decide +kernel
theorem dX3_unlink_21 : decode cX3_unlink 21 = .ok (.ifnull 12, 3) := by decide +kernel
theorem dX3_unlink_24 : decode cX3_unlink 24 = .ok (.aload_n 3, 1) := by decide +kernel
theorem dX3_unlink_25 : decode cX3_unlink 25 = .ok (.aload 4, 2) := by decide +kernel
theorem dX3_unlink_27 : decode cX3_unlink 27 = .ok (.invokevirtual 104, 3) := by decide +kernel
theorem dX3_unlink_30 : decode cX3_unlink 30 = .ok (.ifCond .ne 13, 3) := by decide +kernel
theorem dX3_unlink_33 : decode cX3_unlink 33 = .ok (.new 47, 3) := by decide +kernel
theorem dX3_unlink_36 : decode cX3_unlink 36 = .ok (.dup, 1) := by decide +kernel
theorem dX3_unlink_37 : decode cX3_unlink 37 = .ok (.ldc 108, 2) := by decide +kernel
theorem dX3_unlink_39 : decode cX3_unlink 39 = .ok (.invokespecial 51, 3) := by decide +kernel
theorem dX3_unlink_42 : decode cX3_unlink 42 = .ok (.athrow, 1) := by decide +kernel
theorem dX3_unlink_43 : decode cX3_unlink 43 = .ok (.aload 5, 2) := by decide +kernel
theorem dX3_unlink_45 : decode cX3_unlink 45 = .ok (.aload_n 3, 1) := by decide +kernel
theorem dX3_unlink_46 : decode cX3_unlink 46 = .ok (.getfield 110, 3) := by decide +kernel
theorem dX3_unlink_49 : decode cX3_unlink 49 = .ok (.ineg, 1) := by decide +kernel
theorem dX3_unlink_50 : decode cX3_unlink 50 = .ok (.invokevirtual 79, 3) := by decide +kernel
theorem dX3_unlink_53 : decode cX3_unlink 53 = .ok (.aload_n 3, 1) := by decide +kernel
theorem dX3_unlink_54 : decode cX3_unlink 54 = .ok (.invokevirtual 100, 3) := by decide +kernel
theorem dX3_unlink_57 : decode cX3_unlink 57 = .ok (.astore 6, 2) := by decide +kernel
theorem dX3_unlink_59 : decode cX3_unlink 59 = .ok (.aload 6, 2) := by decide +kernel
theorem dX3_unlink_61 : decode cX3_unlink 61 = .ok (.ifnonnull 11, 3) := by decide +kernel
theorem dX3_unlink_64 : decode cX3_unlink 64 = .ok (.aload_n 3, 1) := by decide +kernel
theorem dX3_unlink_65 : decode cX3_unlink 65 = .ok (.iconst 0, 1) := by decide +kernel
theorem dX3_unlink_66 : decode cX3_unlink 66 = .ok (.invokevirtual 112, 3) := by decide +kernel
theorem dX3_unlink_69 : decode cX3_unlink 69 = .ok (.goto 12, 3) := by decide +kernel
theorem dX3_unlink_72 : decode cX3_unlink 72 = .ok (.aload 6, 2) := by decide +kernel
theorem dX3_unlink_74 : decode cX3_unlink 74 = .ok (.aload_n 3, 1) := by decide +kernel
theorem dX3_unlink_75 : decode cX3_unlink 75 = .ok (.getfield 110, 3) := by decide +kernel
theorem dX3_unlink_78 : decode cX3_unlink 78 = .ok (.invokevirtual 79, 3) := by decide +kernel
theorem dX3_unlink_81 : decode cX3_unlink 81 = .ok (.aload_n 3, 1) := by decide +kernel
theorem dX3_unlink_82 : decode cX3_unlink 82 = .ok (.getfield 76, 3) := by decide +kernel
theorem dX3_unlink_85 : decode cX3_unlink 85 = .ok (.invokevirtual 43, 3) := by decide +kernel
theorem dX3_unlink_88 : decode cX3_unlink 88 = .ok (.ireturn, 1) := by decide +kernel
set_option maxRecDepth 20000 in
theorem ggX3_write_X3_fileNumbered : GoodIn wsX3_write wsX3_fileNumbered := goodIn_ca (goodIn_r _ [12, 13, 14, 15, 16, 17, 18, 19, 20, 21, 22, 23, 24, 25, 26, 27, 28, 29, 30, 31, 32, 33, 34, 35, 36, 37, 38, 39, 93, 94, 95, 96, 103, 104, 105] (by decide +kernel) (by decide +kernel)) (goodIn_sub (fun _ h => List.mem_cons_of_mem _ (List.mem_append_left _ (List.mem_append_right _ h))) (by decide +kernel))
set_option maxRecDepth 20000 in
theorem gX3_write_X3_fileNumbered : GoodIn wsX3_write (wsV RX3 86 RX3 yX3_fileNumbered wsX3_fileNumbered) := goodIn_app (goodIn_of _ (by decide +kernel)) ggX3_write_X3_fileNumbered
set_option maxRecDepth 20000 in
theorem ggX3_write_X3_requireBetween : GoodIn wsX3_write wsX3_requireBetween := goodIn_ca (goodIn_r _ [42, 43, 44] (by decide +kernel) (by decide +kernel)) (goodIn_sub (fun _ h => List.mem_cons_of_mem _ (List.mem_append_right _ h)) (by decide +kernel))
set_option maxRecDepth 20000 in
theorem gX3_write_X3_requireBetween : GoodIn wsX3_write (va_wsS RX3 39 yX3_requireBetween wsX3_requireBetween) := goodIn_app (goodIn_of _ (by decide +kernel)) ggX3_write_X3_requireBetween
set_option maxRecDepth 20000 in
theorem ggX3_write_X2_firstLink : GoodIn wsX3_write wsX2_firstLink := goodIn_r _ [49, 50, 51, 52, 53, 54, 20, 55, 22, 56, 24, 25, 26, 27, 28, 29, 30, 31, 32, 33, 34, 35, 36, 37, 38, 39, 97, 98, 99, 100, 101, 102, 103, 104, 105] (by decide +kernel) (by decide +kernel)
set_option maxRecDepth 20000 in
theorem gX3_write_X2_firstLink : GoodIn wsX3_write (wsV RX3 100 RX2 yX2_firstLink wsX2_firstLink) := goodIn_app (goodIn_of _ (by decide +kernel)) ggX3_write_X2_firstLink
set_option maxRecDepth 20000 in
theorem ggX3_write_X2_tierOn : GoodIn wsX3_write wsX2_tierOn := goodIn_r _ [60, 61, 62, 63, 64, 48, 65, 50, 52, 53, 54, 20, 55, 22, 66, 67, 68, 69, 97, 98, 99, 100, 101, 102, 103, 104, 105] (by decide +kernel) (by decide +kernel)
set_option maxRecDepth 20000 in
theorem gX3_write_X2_tierOn : GoodIn wsX3_write (wsV RX3 115 RX2 yX2_tierOn wsX2_tierOn) := goodIn_app (goodIn_of _ (by decide +kernel)) ggX3_write_X2_tierOn
set_option maxRecDepth 20000 in
theorem ggX3_write_X3_requireGrowthPossible : GoodIn wsX3_write wsX3_requireGrowthPossible := goodIn_ca (goodIn_r _ [72, 1, 2, 73, 74, 75, 76, 77, 78, 79, 80, 81, 106, 107, 108, 109, 110, 111] (by decide +kernel) (by decide +kernel)) (goodIn_sub (fun _ h => List.mem_cons_of_mem _ (List.mem_append_left _ (List.mem_append_left _ (List.mem_append_right _ h)))) (by decide +kernel))
set_option maxRecDepth 20000 in
theorem gX3_write_X3_requireGrowthPossible : GoodIn wsX3_write (va_wsS RX3 64 yX3_requireGrowthPossible wsX3_requireGrowthPossible) := goodIn_app (goodIn_of _ (by decide +kernel)) ggX3_write_X3_requireGrowthPossible
set_option maxRecDepth 20000 in
theorem ggX3_write_X1_addUsage : GoodIn wsX3_write wsX1_addUsage := goodIn_r _ [85, 80, 81, 108, 109, 110, 111] (by decide +kernel) (by decide +kernel)
set_option maxRecDepth 20000 in
theorem gX3_write_X1_addUsage : GoodIn wsX3_write (wsV RX3 79 RX1 yX1_addUsage wsX1_addUsage) := goodIn_app (goodIn_of _ (by decide +kernel)) ggX3_write_X1_addUsage
set_option maxRecDepth 20000 in
theorem ggX3_write_X2_replaceSize : GoodIn wsX3_write wsX2_replaceSize := goodIn_r _ [89, 90, 91, 92, 97, 98, 99, 100, 101, 102] (by decide +kernel) (by decide +kernel)
set_option maxRecDepth 20000 in
theorem gX3_write_X2_replaceSize : GoodIn wsX3_write (wsV RX3 112 RX2 yX2_replaceSize wsX2_replaceSize) := goodIn_app (goodIn_of _ (by decide +kernel)) ggX3_write_X2_replaceSize
theorem dX3_write_0 : decode cX3_write 0 = .ok (.aload_n 0, 1) := by decide +kernel
theorem dX3_write_1 : decode cX3_write 1 = .ok (.iload_n 1, 1) := by decide +kernel
theorem dX3_write_2 : decode cX3_write 2 = .ok (.invokevirtual 86, 3) := by decide +kernel
theorem dX3_write_5 : decode cX3_write 5 = .ok (.astore_n 3, 1) := by decide +kernel
theorem dX3_write_6 : decode cX3_write 6 = .ok (.iconst 1, 1) := by decide +kernel
theorem dX3_write_7 : decode cX3_write 7 = .ok (.iload_n 2, 1) := by decide +kernel
theorem dX3_write_8 : decode cX3_write 8 = .ok (.sipush 1000, 3) := by decide +kernel
theorem dX3_write_11 : decode cX3_write 11 = .ok (.invokestatic 39, 3) := by decide +kernel
theorem dX3_write_14 : decode cX3_write 14 = .ok (.aload_n 3, 1) := by decide +kernel
theorem dX3_write_15 : decode cX3_write 15 = .ok (.invokevirtual 100, 3) := by decide +kernel
theorem dX3_write_18 : decode cX3_write 18 = .ok (.astore 4, 2) := by decide +kernel
theorem dX3_write_20 : decode cX3_write 20 = .ok (.aload 4, 2) := by decide +kernel
theorem dX3_write_22 : decode cX3_write 22 = .ok (.ifnull 15, 3) := by decide +kernel
theorem dX3_write_25 : decode cX3_write 25 = .ok (.aload_n 3, 1) := by decide +kernel
theorem dX3_write_26 : decode cX3_write 26 = .ok (.aload_n 0, 1) := by decide +kernel
theorem dX3_write_27 : decode cX3_write 27 = .ok (.getfield 70, 3) := by decide +kernel
theorem dX3_write_30 : decode cX3_write 30 = .ok (.invokevirtual 115, 3) := by decide +kernel
theorem dX3_write_33 : decode cX3_write 33 = .ok (.iconst 2, 1) := by decide +kernel
theorem dX3_write_34 : decode cX3_write 34 = .ok (.if_icmp .ne 13, 3) := by decide +kernel
theorem dX3_write_37 : decode cX3_write 37 = .ok (.new 47, 3) := by decide +kernel
theorem dX3_write_40 : decode cX3_write 40 = .ok (.dup, 1) := by decide +kernel
theorem dX3_write_41 : decode cX3_write 41 = .ok (.ldc 119, 2) := by decide +kernel
theorem dX3_write_43 : decode cX3_write 43 = .ok (.invokespecial 51, 3) := by decide +kernel
theorem dX3_write_46 : decode cX3_write 46 = .ok (.athrow, 1) := by decide +kernel
theorem dX3_write_47 : decode cX3_write 47 = .ok (.iload_n 2, 1) := by decide +kernel
theorem dX3_write_48 : decode cX3_write 48 = .ok (.aload_n 3, 1) := by decide +kernel
theorem dX3_write_49 : decode cX3_write 49 = .ok (.getfield 110, 3) := by decide +kernel
theorem dX3_write_52 : decode cX3_write 52 = .ok (.isub, 1) := by decide +kernel
theorem dX3_write_53 : decode cX3_write 53 = .ok (.istore 5, 2) := by decide +kernel
theorem dX3_write_55 : decode cX3_write 55 = .ok (.iload 5, 2) := by decide +kernel
theorem dX3_write_57 : decode cX3_write 57 = .ok (.ifCond .le 14, 3) := by decide +kernel
theorem dX3_write_60 : decode cX3_write 60 = .ok (.aload_n 3, 1) := by decide +kernel
theorem dX3_write_61 : decode cX3_write 61 = .ok (.getfield 121, 3) := by decide +kernel
theorem dX3_write_64 : decode cX3_write 64 = .ok (.aload 4, 2) := by decide +kernel
theorem dX3_write_66 : decode cX3_write 66 = .ok (.iload 5, 2) := by decide +kernel
theorem dX3_write_68 : decode cX3_write 68 = .ok (.invokestatic 64, 3) := by decide +kernel
theorem dX3_write_71 : decode cX3_write 71 = .ok (.aload 4, 2) := by decide +kernel
theorem dX3_write_73 : decode cX3_write 73 = .ok (.iload 5, 2) := by decide +kernel
theorem dX3_write_75 : decode cX3_write 75 = .ok (.invokevirtual 79, 3) := by decide +kernel
theorem dX3_write_78 : decode cX3_write 78 = .ok (.aload_n 3, 1) := by decide +kernel
theorem dX3_write_79 : decode cX3_write 79 = .ok (.iload_n 2, 1) := by decide +kernel
theorem dX3_write_80 : decode cX3_write 80 = .ok (.invokevirtual 112, 3) := by decide +kernel
theorem dX3_write_83 : decode cX3_write 83 = .ok (.aload_n 3, 1) := by decide +kernel
theorem dX3_write_84 : decode cX3_write 84 = .ok (.aload_n 0, 1) := by decide +kernel
theorem dX3_write_85 : decode cX3_write 85 = .ok (.getfield 70, 3) := by decide +kernel
theorem dX3_write_88 : decode cX3_write 88 = .ok (.putfield 125, 3) := by decide +kernel
theorem dX3_write_91 : decode cX3_write 91 = .ok (.aload_n 3, 1) := by decide +kernel
theorem dX3_write_92 : decode cX3_write 92 = .ok (.getfield 128, 3) := by decide +kernel
theorem dX3_write_95 : decode cX3_write 95 = .ok (.ireturn, 1) := by decide +kernel
set_option maxRecDepth 20000 in
theorem ggX3_read_X3_fileNumbered : GoodIn wsX3_read wsX3_fileNumbered := goodIn_ca (goodIn_r _ [7, 8, 9, 10, 11, 12, 13, 14, 15, 16, 17, 18, 19, 20, 21, 22, 23, 24, 25, 26, 27, 28, 29, 30, 31, 32, 33, 34, 72, 73, 74, 75, 82, 83, 84] (by decide +kernel) (by decide +kernel)) (goodIn_sub (fun _ h => List.mem_cons_of_mem _ (List.mem_append_left _ (List.mem_append_right _ h))) (by decide +kernel))
set_option maxRecDepth 20000 in
theorem gX3_read_X3_fileNumbered : GoodIn wsX3_read (wsV RX3 86 RX3 yX3_fileNumbered wsX3_fileNumbered) := goodIn_app (goodIn_of _ (by decide +kernel)) ggX3_read_X3_fileNumbered
set_option maxRecDepth 20000 in
theorem ggX3_read_X3_requireNotGone : GoodIn wsX3_read wsX3_requireNotGone := goodIn_ca (goodIn_r _ [37, 38, 39, 40, 41, 42, 43, 44, 45, 46, 47, 48, 15, 49, 17, 76, 77, 78, 79, 80, 81, 82, 83, 84] (by decide +kernel) (by decide +kernel)) (goodIn_sub (fun _ h => List.mem_cons_of_mem _ (List.mem_append_right _ h)) (by decide +kernel))
set_option maxRecDepth 20000 in
theorem gX3_read_X3_requireNotGone : GoodIn wsX3_read (va_wsS RX3 90 yX3_requireNotGone wsX3_requireNotGone) := goodIn_app (goodIn_of _ (by decide +kernel)) ggX3_read_X3_requireNotGone
set_option maxRecDepth 20000 in
theorem ggX3_read_X2_tierOn : GoodIn wsX3_read wsX2_tierOn := goodIn_r _ [53, 54, 55, 41, 42, 43, 44, 45, 46, 47, 48, 15, 49, 17, 56, 57, 58, 59, 76, 77, 78, 79, 80, 81, 82, 83, 84] (by decide +kernel) (by decide +kernel)
set_option maxRecDepth 20000 in
theorem gX3_read_X2_tierOn : GoodIn wsX3_read (wsV RX3 115 RX2 yX2_tierOn wsX2_tierOn) := goodIn_app (goodIn_of _ (by decide +kernel)) ggX3_read_X2_tierOn
set_option maxRecDepth 20000 in
theorem ggX3_read_X2_isComingBackOn : GoodIn wsX3_read wsX2_isComingBackOn := goodIn_r _ [59, 54, 76, 77, 78, 79, 80, 81] (by decide +kernel) (by decide +kernel)
set_option maxRecDepth 20000 in
theorem gX3_read_X2_isComingBackOn : GoodIn wsX3_read (wsV RX3 131 RX2 yX2_isComingBackOn wsX2_isComingBackOn) := goodIn_app (goodIn_of _ (by decide +kernel)) ggX3_read_X2_isComingBackOn
set_option maxRecDepth 20000 in
theorem ggX3_read_X3_startBringingBack : GoodIn wsX3_read wsX3_startBringingBack := goodIn_ca (goodIn_r _ [64, 38, 39, 65, 66, 1, 2, 67, 68, 69, 43, 70, 71, 76, 77, 78, 79, 80, 81, 85, 86, 72, 73, 74, 75] (by decide +kernel) (by decide +kernel)) (goodIn_sub (fun _ h => List.mem_cons_of_mem _ (List.mem_append_right _ h)) (by decide +kernel))
set_option maxRecDepth 20000 in
theorem gX3_read_X3_startBringingBack : GoodIn wsX3_read (wsV RX3 135 RX3 yX3_startBringingBack wsX3_startBringingBack) := goodIn_app (goodIn_of _ (by decide +kernel)) ggX3_read_X3_startBringingBack
theorem dX3_read_0 : decode cX3_read 0 = .ok (.aload_n 0, 1) := by decide +kernel
theorem dX3_read_1 : decode cX3_read 1 = .ok (.iload_n 1, 1) := by decide +kernel
theorem dX3_read_2 : decode cX3_read 2 = .ok (.invokevirtual 86, 3) := by decide +kernel
theorem dX3_read_5 : decode cX3_read 5 = .ok (.astore_n 2, 1) := by decide +kernel
theorem dX3_read_6 : decode cX3_read 6 = .ok (.aload_n 2, 1) := by decide +kernel
theorem dX3_read_7 : decode cX3_read 7 = .ok (.invokestatic 90, 3) := by decide +kernel
theorem dX3_read_10 : decode cX3_read 10 = .ok (.aload_n 2, 1) := by decide +kernel
theorem dX3_read_11 : decode cX3_read 11 = .ok (.aload_n 0, 1) := by decide +kernel
theorem dX3_read_12 : decode cX3_read 12 = .ok (.getfield 70, 3) := by decide +kernel
theorem dX3_read_15 : decode cX3_read 15 = .ok (.invokevirtual 115, 3) := by decide +kernel
theorem dX3_read_18 : decode cX3_read 18 = .ok (.iconst 2, 1) := by decide +kernel
theorem dX3_read_19 : decode cX3_read 19 = .ok (.if_icmp .eq 14, 3) := by decide +kernel
theorem dX3_read_22 : decode cX3_read 22 = .ok (.aload_n 2, 1) := by decide +kernel
theorem dX3_read_23 : decode cX3_read 23 = .ok (.aload_n 0, 1) := by decide +kernel
theorem dX3_read_24 : decode cX3_read 24 = .ok (.getfield 70, 3) := by decide +kernel
theorem dX3_read_27 : decode cX3_read 27 = .ok (.putfield 125, 3) := by decide +kernel
theorem dX3_read_30 : decode cX3_read 30 = .ok (.goto 19, 3) := by decide +kernel
theorem dX3_read_33 : decode cX3_read 33 = .ok (.aload_n 2, 1) := by decide +kernel
theorem dX3_read_34 : decode cX3_read 34 = .ok (.aload_n 0, 1) := by decide +kernel
theorem dX3_read_35 : decode cX3_read 35 = .ok (.getfield 70, 3) := by decide +kernel
theorem dX3_read_38 : decode cX3_read 38 = .ok (.invokevirtual 131, 3) := by decide +kernel
theorem dX3_read_41 : decode cX3_read 41 = .ok (.ifCond .ne 8, 3) := by decide +kernel
theorem dX3_read_44 : decode cX3_read 44 = .ok (.aload_n 0, 1) := by decide +kernel
theorem dX3_read_45 : decode cX3_read 45 = .ok (.aload_n 2, 1) := by decide +kernel
theorem dX3_read_46 : decode cX3_read 46 = .ok (.invokevirtual 135, 3) := by decide +kernel
theorem dX3_read_49 : decode cX3_read 49 = .ok (.aload_n 2, 1) := by decide +kernel
theorem dX3_read_50 : decode cX3_read 50 = .ok (.getfield 125, 3) := by decide +kernel
theorem dX3_read_53 : decode cX3_read 53 = .ok (.aload_n 0, 1) := by decide +kernel
theorem dX3_read_54 : decode cX3_read 54 = .ok (.getfield 70, 3) := by decide +kernel
theorem dX3_read_57 : decode cX3_read 57 = .ok (.isub, 1) := by decide +kernel
theorem dX3_read_58 : decode cX3_read 58 = .ok (.ireturn, 1) := by decide +kernel
set_option maxRecDepth 20000 in
theorem ggX3_hold_X3_bitOfMatter : GoodIn wsX3_hold wsX3_bitOfMatter := goodIn_ca (goodIn_r _ [5, 6, 7] (by decide +kernel) (by decide +kernel)) (goodIn_sub (fun _ h => List.mem_cons_of_mem _ (List.mem_append_left _ (List.mem_append_right _ h))) (by decide +kernel))
set_option maxRecDepth 20000 in
theorem gX3_hold_X3_bitOfMatter : GoodIn wsX3_hold (va_wsS RX3 138 yX3_bitOfMatter wsX3_bitOfMatter) := goodIn_app (goodIn_of _ (by decide +kernel)) ggX3_hold_X3_bitOfMatter
set_option maxRecDepth 20000 in
theorem ggX3_hold_X3_fileNumbered : GoodIn wsX3_hold wsX3_fileNumbered := goodIn_ca (goodIn_r _ [11, 6, 7, 12, 13, 14, 15, 16, 17, 18, 19, 20, 21, 22, 23, 24, 25, 26, 27, 28, 29, 30, 31, 32, 33, 34, 35, 36, 65, 66, 67, 68, 69, 70, 71] (by decide +kernel) (by decide +kernel)) (goodIn_sub (fun _ h => List.mem_cons_of_mem _ (List.mem_append_left _ (List.mem_append_right _ h))) (by decide +kernel))
set_option maxRecDepth 20000 in
theorem gX3_hold_X3_fileNumbered : GoodIn wsX3_hold (wsV RX3 86 RX3 yX3_fileNumbered wsX3_fileNumbered) := goodIn_app (goodIn_of _ (by decide +kernel)) ggX3_hold_X3_fileNumbered
set_option maxRecDepth 20000 in
theorem ggX3_hold_X3_requireNotGone : GoodIn wsX3_hold wsX3_requireNotGone := goodIn_ca (goodIn_r _ [39, 40, 41, 42, 43, 44, 45, 46, 47, 48, 49, 50, 17, 51, 19, 59, 60, 61, 62, 63, 64, 69, 70, 71] (by decide +kernel) (by decide +kernel)) (goodIn_sub (fun _ h => List.mem_cons_of_mem _ (List.mem_append_right _ h)) (by decide +kernel))
set_option maxRecDepth 20000 in
theorem gX3_hold_X3_requireNotGone : GoodIn wsX3_hold (va_wsS RX3 90 yX3_requireNotGone wsX3_requireNotGone) := goodIn_app (goodIn_of _ (by decide +kernel)) ggX3_hold_X3_requireNotGone
set_option maxRecDepth 20000 in
theorem ggX3_hold_J6_bitCount_0f7a4 : GoodIn wsX3_hold wsJ6_bitCount_0f7a4 := goodIn_r _ [55, 56, 57, 58] (by decide +kernel) (by decide +kernel)
set_option maxRecDepth 20000 in
theorem gX3_hold_J6_bitCount_0f7a4 : GoodIn wsX3_hold (va_wsS RX3 144 yJ6_bitCount_0f7a4 wsJ6_bitCount_0f7a4) := goodIn_app (goodIn_of _ (by decide +kernel)) ggX3_hold_J6_bitCount_0f7a4
theorem dX3_hold_0 : decode cX3_hold 0 = .ok (.iload_n 1, 1) := by decide +kernel
theorem dX3_hold_1 : decode cX3_hold 1 = .ok (.invokestatic 138, 3) := by decide +kernel
theorem dX3_hold_4 : decode cX3_hold 4 = .ok (.istore_n 3, 1) := by decide +kernel
theorem dX3_hold_5 : decode cX3_hold 5 = .ok (.aload_n 0, 1) := by decide +kernel
theorem dX3_hold_6 : decode cX3_hold 6 = .ok (.iload_n 2, 1) := by decide +kernel
theorem dX3_hold_7 : decode cX3_hold 7 = .ok (.invokevirtual 86, 3) := by decide +kernel
theorem dX3_hold_10 : decode cX3_hold 10 = .ok (.astore 4, 2) := by decide +kernel
theorem dX3_hold_12 : decode cX3_hold 12 = .ok (.aload 4, 2) := by decide +kernel
theorem dX3_hold_14 : decode cX3_hold 14 = .ok (.invokestatic 90, 3) := by decide +kernel
theorem dX3_hold_17 : decode cX3_hold 17 = .ok (.aload 4, 2) := by decide +kernel
theorem dX3_hold_19 : decode cX3_hold 19 = .ok (.dup, 1) := by decide +kernel
theorem dX3_hold_20 : decode cX3_hold 20 = .ok (.getfield 141, 3) := by decide +kernel
theorem dX3_hold_23 : decode cX3_hold 23 = .ok (.iload_n 3, 1) := by decide +kernel
theorem dX3_hold_24 : decode cX3_hold 24 = .ok (.ior, 1) := by decide +kernel
theorem dX3_hold_25 : decode cX3_hold 25 = .ok (.putfield 141, 3) := by decide +kernel
theorem dX3_hold_28 : decode cX3_hold 28 = .ok (.aload 4, 2) := by decide +kernel
theorem dX3_hold_30 : decode cX3_hold 30 = .ok (.getfield 141, 3) := by decide +kernel
theorem dX3_hold_33 : decode cX3_hold 33 = .ok (.invokestatic 144, 3) := by decide +kernel
theorem dX3_hold_36 : decode cX3_hold 36 = .ok (.ireturn, 1) := by decide +kernel
set_option maxRecDepth 20000 in
theorem ggX3_release_X3_bitOfMatter : GoodIn wsX3_release wsX3_bitOfMatter := goodIn_ca (goodIn_r _ [6, 7, 8] (by decide +kernel) (by decide +kernel)) (goodIn_sub (fun _ h => List.mem_cons_of_mem _ (List.mem_append_right _ h)) (by decide +kernel))
set_option maxRecDepth 20000 in
theorem gX3_release_X3_bitOfMatter : GoodIn wsX3_release (va_wsS RX3 138 yX3_bitOfMatter wsX3_bitOfMatter) := goodIn_app (goodIn_of _ (by decide +kernel)) ggX3_release_X3_bitOfMatter
set_option maxRecDepth 20000 in
theorem ggX3_release_Jx4a65c_size_8abf5 : GoodIn wsX3_release wsJx4a65c_size_8abf5 := goodIn_r _ [13, 14, 43, 44, 45] (by decide +kernel) (by decide +kernel)
set_option maxRecDepth 20000 in
theorem gX3_release_Jx4a65c_size_8abf5 : GoodIn wsX3_release (wsV RX3 43 RJx4a65c yJx4a65c_size_8abf5 wsJx4a65c_size_8abf5) := goodIn_app (goodIn_of _ (by decide +kernel)) ggX3_release_Jx4a65c_size_8abf5
set_option maxRecDepth 20000 in
theorem ggX3_release_Jx4a65c_get_915e3 : GoodIn wsX3_release wsJx4a65c_get_915e3 := goodIn_r _ [18, 14, 19, 20, 21, 22, 23, 24, 25, 26, 27, 28, 29, 12, 30, 31, 43, 44, 45] (by decide +kernel) (by decide +kernel)
set_option maxRecDepth 20000 in
theorem gX3_release_Jx4a65c_get_915e3 : GoodIn wsX3_release (wsV RX3 149 RJx4a65c yJx4a65c_get_915e3 wsJx4a65c_get_915e3) := goodIn_app (goodIn_of _ (by decide +kernel)) ggX3_release_Jx4a65c_get_915e3
set_option maxRecDepth 20000 in
theorem ggX3_release_X2_releaseFrom : GoodIn wsX3_release wsX2_releaseFrom := goodIn_r _ [36, 37, 38, 46, 47, 48, 49, 50, 51] (by decide +kernel) (by decide +kernel)
set_option maxRecDepth 20000 in
theorem gX3_release_X2_releaseFrom : GoodIn wsX3_release (wsV RX3 153 RX2 yX2_releaseFrom wsX2_releaseFrom) := goodIn_app (goodIn_of _ (by decide +kernel)) ggX3_release_X2_releaseFrom
theorem dX3_release_0 : decode cX3_release 0 = .ok (.iload_n 1, 1) := by decide +kernel
theorem dX3_release_1 : decode cX3_release 1 = .ok (.invokestatic 138, 3) := by decide +kernel
theorem dX3_release_4 : decode cX3_release 4 = .ok (.istore_n 2, 1) := by decide +kernel
theorem dX3_release_5 : decode cX3_release 5 = .ok (.iconst 0, 1) := by decide +kernel
theorem dX3_release_6 : decode cX3_release 6 = .ok (.istore_n 3, 1) := by decide +kernel
theorem dX3_release_7 : decode cX3_release 7 = .ok (.iconst 0, 1) := by decide +kernel
theorem dX3_release_8 : decode cX3_release 8 = .ok (.istore 4, 2) := by decide +kernel
theorem dX3_release_10 : decode cX3_release 10 = .ok (.iload 4, 2) := by decide +kernel
theorem dX3_release_12 : decode cX3_release 12 = .ok (.aload_n 0, 1) := by decide +kernel
theorem dX3_release_13 : decode cX3_release 13 = .ok (.getfield 16, 3) := by decide +kernel
theorem dX3_release_16 : decode cX3_release 16 = .ok (.invokevirtual 43, 3) := by decide +kernel
theorem dX3_release_19 : decode cX3_release 19 = .ok (.if_icmp .ge 28, 3) := by decide +kernel
theorem dX3_release_22 : decode cX3_release 22 = .ok (.iload_n 3, 1) := by decide +kernel
theorem dX3_release_23 : decode cX3_release 23 = .ok (.aload_n 0, 1) := by decide +kernel
theorem dX3_release_24 : decode cX3_release 24 = .ok (.getfield 16, 3) := by decide +kernel
theorem dX3_release_27 : decode cX3_release 27 = .ok (.iload 4, 2) := by decide +kernel
theorem dX3_release_29 : decode cX3_release 29 = .ok (.invokevirtual 149, 3) := by decide +kernel
theorem dX3_release_32 : decode cX3_release 32 = .ok (.checkcast 68, 3) := by decide +kernel
theorem dX3_release_35 : decode cX3_release 35 = .ok (.iload_n 2, 1) := by decide +kernel
theorem dX3_release_36 : decode cX3_release 36 = .ok (.invokevirtual 153, 3) := by decide +kernel
theorem dX3_release_39 : decode cX3_release 39 = .ok (.iadd, 1) := by decide +kernel
theorem dX3_release_40 : decode cX3_release 40 = .ok (.istore_n 3, 1) := by decide +kernel
theorem dX3_release_41 : decode cX3_release 41 = .ok (.iinc 4 1, 3) := by decide +kernel
theorem dX3_release_44 : decode cX3_release 44 = .ok (.goto (-34), 3) := by decide +kernel
theorem dX3_release_47 : decode cX3_release 47 = .ok (.iload_n 3, 1) := by decide +kernel
theorem dX3_release_48 : decode cX3_release 48 = .ok (.ireturn, 1) := by decide +kernel
set_option maxRecDepth 20000 in
theorem ggX3_fund_X3_departmentNumbered : GoodIn wsX3_fund wsX3_departmentNumbered := goodIn_ca (goodIn_r _ [9, 10, 11, 12, 13, 14, 15, 16, 17, 18, 19, 20, 21, 22, 23, 24, 25, 26, 27, 28, 29, 30, 31, 32, 33, 34, 35, 36, 44, 45, 46, 47, 48, 49, 50] (by decide +kernel) (by decide +kernel)) (goodIn_sub (fun _ h => List.mem_cons_of_mem _ (List.mem_append_left _ (List.mem_append_right _ h))) (by decide +kernel))
set_option maxRecDepth 20000 in
theorem gX3_fund_X3_departmentNumbered : GoodIn wsX3_fund (wsV RX3 58 RX3 yX3_departmentNumbered wsX3_departmentNumbered) := goodIn_app (goodIn_of _ (by decide +kernel)) ggX3_fund_X3_departmentNumbered
set_option maxRecDepth 20000 in
theorem ggX3_fund_X3_requireBetween : GoodIn wsX3_fund wsX3_requireBetween := goodIn_ca (goodIn_r _ [39, 40, 41] (by decide +kernel) (by decide +kernel)) (goodIn_sub (fun _ h => List.mem_cons_of_mem _ (List.mem_append_right _ h)) (by decide +kernel))
set_option maxRecDepth 20000 in
theorem gX3_fund_X3_requireBetween : GoodIn wsX3_fund (va_wsS RX3 39 yX3_requireBetween wsX3_requireBetween) := goodIn_app (goodIn_of _ (by decide +kernel)) ggX3_fund_X3_requireBetween
theorem dX3_fund_0 : decode cX3_fund 0 = .ok (.aload_n 0, 1) := by decide +kernel
theorem dX3_fund_1 : decode cX3_fund 1 = .ok (.iload_n 1, 1) := by decide +kernel
theorem dX3_fund_2 : decode cX3_fund 2 = .ok (.invokevirtual 58, 3) := by decide +kernel
theorem dX3_fund_5 : decode cX3_fund 5 = .ok (.astore_n 3, 1) := by decide +kernel
theorem dX3_fund_6 : decode cX3_fund 6 = .ok (.iconst 1, 1) := by decide +kernel
theorem dX3_fund_7 : decode cX3_fund 7 = .ok (.iload_n 2, 1) := by decide +kernel
theorem dX3_fund_8 : decode cX3_fund 8 = .ok (.sipush 10000, 3) := by decide +kernel
theorem dX3_fund_11 : decode cX3_fund 11 = .ok (.invokestatic 39, 3) := by decide +kernel
theorem dX3_fund_14 : decode cX3_fund 14 = .ok (.aload_n 3, 1) := by decide +kernel
theorem dX3_fund_15 : decode cX3_fund 15 = .ok (.getfield 156, 3) := by decide +kernel
theorem dX3_fund_18 : decode cX3_fund 18 = .ok (.iload_n 2, 1) := by decide +kernel
theorem dX3_fund_19 : decode cX3_fund 19 = .ok (.iadd, 1) := by decide +kernel
theorem dX3_fund_20 : decode cX3_fund 20 = .ok (.ldc 159, 2) := by decide +kernel
theorem dX3_fund_22 : decode cX3_fund 22 = .ok (.if_icmp .le 13, 3) := by decide +kernel
theorem dX3_fund_25 : decode cX3_fund 25 = .ok (.new 47, 3) := by decide +kernel
theorem dX3_fund_28 : decode cX3_fund 28 = .ok (.dup, 1) := by decide +kernel
theorem dX3_fund_29 : decode cX3_fund 29 = .ok (.ldc 160, 2) := by decide +kernel
theorem dX3_fund_31 : decode cX3_fund 31 = .ok (.invokespecial 51, 3) := by decide +kernel
theorem dX3_fund_34 : decode cX3_fund 34 = .ok (.athrow, 1) := by decide +kernel
theorem dX3_fund_35 : decode cX3_fund 35 = .ok (.aload_n 3, 1) := by decide +kernel
end
section
theorem dX3_fund_36 : decode cX3_fund 36 = .ok (.dup, 1) := by decide +kernel
theorem dX3_fund_37 : decode cX3_fund 37 = .ok (.getfield 156, 3) := by decide +kernel
theorem dX3_fund_40 : decode cX3_fund 40 = .ok (.iload_n 2, 1) := by decide +kernel
theorem dX3_fund_41 : decode cX3_fund 41 = .ok (.iadd, 1) := by decide +kernel
theorem dX3_fund_42 : decode cX3_fund 42 = .ok (.putfield 156, 3) := by decide +kernel
theorem dX3_fund_45 : decode cX3_fund 45 = .ok (.aload_n 3, 1) := by decide +kernel
theorem dX3_fund_46 : decode cX3_fund 46 = .ok (.getfield 156, 3) := by decide +kernel
theorem dX3_fund_49 : decode cX3_fund 49 = .ok (.ireturn, 1) := by decide +kernel
set_option maxRecDepth 20000 in
theorem ggX3_pass_X3_requireBetween : GoodIn wsX3_pass wsX3_requireBetween := goodIn_ca (goodIn_r _ [7, 8, 9] (by decide +kernel) (by decide +kernel)) (goodIn_sub (fun _ h => List.mem_cons_of_mem _ (List.mem_append_right _ h)) (by decide +kernel))
set_option maxRecDepth 20000 in
theorem gX3_pass_X3_requireBetween : GoodIn wsX3_pass (va_wsS RX3 39 yX3_requireBetween wsX3_requireBetween) := goodIn_app (goodIn_of _ (by decide +kernel)) ggX3_pass_X3_requireBetween
set_option maxRecDepth 20000 in
theorem ggX3_pass_X3_payBills : GoodIn wsX3_pass wsX3_payBills := goodIn_r _ [13, 14, 15, 3, 16, 17, 18, 19, 20, 21, 22, 23, 24, 25, 26, 27, 28, 29, 30, 31, 32, 33, 34, 35, 36, 37, 38, 39, 40, 41, 42, 43, 44, 45, 46, 47, 48, 49, 50, 51, 52, 53, 54, 55, 56, 57, 58, 59, 60, 61, 62, 63, 64, 65, 66, 67, 68, 69, 70, 71, 72, 73, 74, 75, 76, 77, 78, 79, 80, 81, 82, 83, 84, 85, 86, 87, 88, 89, 90, 91, 92] (by decide +kernel) (by decide +kernel)
set_option maxRecDepth 20000 in
theorem gX3_pass_X3_payBills : GoodIn wsX3_pass (wsV RX3 164 RX3 yX3_payBills wsX3_payBills) := goodIn_app (goodIn_of _ (by decide +kernel)) ggX3_pass_X3_payBills
theorem dX3_pass_0 : decode cX3_pass 0 = .ok (.iconst 1, 1) := by decide +kernel
theorem dX3_pass_1 : decode cX3_pass 1 = .ok (.iload_n 1, 1) := by decide +kernel
theorem dX3_pass_2 : decode cX3_pass 2 = .ok (.bipush 100, 2) := by decide +kernel
theorem dX3_pass_4 : decode cX3_pass 4 = .ok (.invokestatic 39, 3) := by decide +kernel
theorem dX3_pass_7 : decode cX3_pass 7 = .ok (.aload_n 0, 1) := by decide +kernel
theorem dX3_pass_8 : decode cX3_pass 8 = .ok (.getfield 70, 3) := by decide +kernel
theorem dX3_pass_11 : decode cX3_pass 11 = .ok (.iload_n 1, 1) := by decide +kernel
theorem dX3_pass_12 : decode cX3_pass 12 = .ok (.iadd, 1) := by decide +kernel
theorem dX3_pass_13 : decode cX3_pass 13 = .ok (.sipush 10000, 3) := by decide +kernel
theorem dX3_pass_16 : decode cX3_pass 16 = .ok (.if_icmp .le 13, 3) := by decide +kernel
theorem dX3_pass_19 : decode cX3_pass 19 = .ok (.new 47, 3) := by decide +kernel
theorem dX3_pass_22 : decode cX3_pass 22 = .ok (.dup, 1) := by decide +kernel
theorem dX3_pass_23 : decode cX3_pass 23 = .ok (.ldc 162, 2) := by decide +kernel
theorem dX3_pass_25 : decode cX3_pass 25 = .ok (.invokespecial 51, 3) := by decide +kernel
theorem dX3_pass_28 : decode cX3_pass 28 = .ok (.athrow, 1) := by decide +kernel
theorem dX3_pass_29 : decode cX3_pass 29 = .ok (.iconst 0, 1) := by decide +kernel
theorem dX3_pass_30 : decode cX3_pass 30 = .ok (.istore_n 2, 1) := by decide +kernel
theorem dX3_pass_31 : decode cX3_pass 31 = .ok (.iconst 0, 1) := by decide +kernel
theorem dX3_pass_32 : decode cX3_pass 32 = .ok (.istore_n 3, 1) := by decide +kernel
theorem dX3_pass_33 : decode cX3_pass 33 = .ok (.iload_n 3, 1) := by decide +kernel
theorem dX3_pass_34 : decode cX3_pass 34 = .ok (.iload_n 1, 1) := by decide +kernel
theorem dX3_pass_35 : decode cX3_pass 35 = .ok (.if_icmp .ge 26, 3) := by decide +kernel
theorem dX3_pass_38 : decode cX3_pass 38 = .ok (.iload_n 2, 1) := by decide +kernel
theorem dX3_pass_39 : decode cX3_pass 39 = .ok (.aload_n 0, 1) := by decide +kernel
theorem dX3_pass_40 : decode cX3_pass 40 = .ok (.invokevirtual 164, 3) := by decide +kernel
theorem dX3_pass_43 : decode cX3_pass 43 = .ok (.iadd, 1) := by decide +kernel
theorem dX3_pass_44 : decode cX3_pass 44 = .ok (.istore_n 2, 1) := by decide +kernel
theorem dX3_pass_45 : decode cX3_pass 45 = .ok (.aload_n 0, 1) := by decide +kernel
theorem dX3_pass_46 : decode cX3_pass 46 = .ok (.dup, 1) := by decide +kernel
theorem dX3_pass_47 : decode cX3_pass 47 = .ok (.getfield 70, 3) := by decide +kernel
theorem dX3_pass_50 : decode cX3_pass 50 = .ok (.iconst 1, 1) := by decide +kernel
theorem dX3_pass_51 : decode cX3_pass 51 = .ok (.iadd, 1) := by decide +kernel
theorem dX3_pass_52 : decode cX3_pass 52 = .ok (.putfield 70, 3) := by decide +kernel
theorem dX3_pass_55 : decode cX3_pass 55 = .ok (.iinc 3 1, 3) := by decide +kernel
theorem dX3_pass_58 : decode cX3_pass 58 = .ok (.goto (-25), 3) := by decide +kernel
theorem dX3_pass_61 : decode cX3_pass 61 = .ok (.iload_n 2, 1) := by decide +kernel
theorem dX3_pass_62 : decode cX3_pass 62 = .ok (.ireturn, 1) := by decide +kernel
theorem dX3_day_0 : decode cX3_day 0 = .ok (.aload_n 0, 1) := by decide +kernel
theorem dX3_day_1 : decode cX3_day 1 = .ok (.getfield 70, 3) := by decide +kernel
theorem dX3_day_4 : decode cX3_day 4 = .ok (.ireturn, 1) := by decide +kernel
set_option maxRecDepth 20000 in
theorem ggX3_directories_Jx4a65c_size_8abf5 : GoodIn wsX3_directories wsJx4a65c_size_8abf5 := goodIn_r _ [6, 7, 12, 13, 14] (by decide +kernel) (by decide +kernel)
set_option maxRecDepth 20000 in
theorem gX3_directories_Jx4a65c_size_8abf5 : GoodIn wsX3_directories (wsV RX3 43 RJx4a65c yJx4a65c_size_8abf5 wsJx4a65c_size_8abf5) := goodIn_app (goodIn_of _ (by decide +kernel)) ggX3_directories_Jx4a65c_size_8abf5
theorem dX3_directories_0 : decode cX3_directories 0 = .ok (.aload_n 0, 1) := by decide +kernel
theorem dX3_directories_1 : decode cX3_directories 1 = .ok (.getfield 10, 3) := by decide +kernel
theorem dX3_directories_4 : decode cX3_directories 4 = .ok (.invokevirtual 43, 3) := by decide +kernel
theorem dX3_directories_7 : decode cX3_directories 7 = .ok (.ireturn, 1) := by decide +kernel
set_option maxRecDepth 20000 in
theorem ggX3_files_Jx4a65c_size_8abf5 : GoodIn wsX3_files wsJx4a65c_size_8abf5 := goodIn_r _ [6, 7, 12, 13, 14] (by decide +kernel) (by decide +kernel)
set_option maxRecDepth 20000 in
theorem gX3_files_Jx4a65c_size_8abf5 : GoodIn wsX3_files (wsV RX3 43 RJx4a65c yJx4a65c_size_8abf5 wsJx4a65c_size_8abf5) := goodIn_app (goodIn_of _ (by decide +kernel)) ggX3_files_Jx4a65c_size_8abf5
theorem dX3_files_0 : decode cX3_files 0 = .ok (.aload_n 0, 1) := by decide +kernel
theorem dX3_files_1 : decode cX3_files 1 = .ok (.getfield 16, 3) := by decide +kernel
theorem dX3_files_4 : decode cX3_files 4 = .ok (.invokevirtual 43, 3) := by decide +kernel
theorem dX3_files_7 : decode cX3_files 7 = .ok (.ireturn, 1) := by decide +kernel
set_option maxRecDepth 20000 in
theorem ggX3_usage_X3_directoryNumbered : GoodIn wsX3_usage wsX3_directoryNumbered := goodIn_ca (goodIn_r _ [6, 7, 8, 9, 10, 11, 12, 13, 14, 15, 16, 17, 18, 19, 20, 21, 22, 23, 24, 25, 26, 27, 28, 29, 30, 31, 32, 33, 38, 39, 40, 41, 42, 43, 44] (by decide +kernel) (by decide +kernel)) (goodIn_sub (fun _ h => List.mem_cons_of_mem _ (List.mem_append_right _ h)) (by decide +kernel))
set_option maxRecDepth 20000 in
theorem gX3_usage_X3_directoryNumbered : GoodIn wsX3_usage (wsV RX3 34 RX3 yX3_directoryNumbered wsX3_directoryNumbered) := goodIn_app (goodIn_of _ (by decide +kernel)) ggX3_usage_X3_directoryNumbered
theorem dX3_usage_0 : decode cX3_usage 0 = .ok (.aload_n 0, 1) := by decide +kernel
theorem dX3_usage_1 : decode cX3_usage 1 = .ok (.iload_n 1, 1) := by decide +kernel
theorem dX3_usage_2 : decode cX3_usage 2 = .ok (.invokevirtual 34, 3) := by decide +kernel
theorem dX3_usage_5 : decode cX3_usage 5 = .ok (.getfield 167, 3) := by decide +kernel
theorem dX3_usage_8 : decode cX3_usage 8 = .ok (.ireturn, 1) := by decide +kernel
set_option maxRecDepth 20000 in
theorem ggX3_usageByWalking_X3_directoryNumbered : GoodIn wsX3_usageByWalking wsX3_directoryNumbered := goodIn_ca (goodIn_r _ [8, 9, 10, 11, 12, 13, 14, 15, 16, 17, 18, 19, 20, 21, 22, 23, 24, 25, 26, 27, 28, 29, 30, 31, 32, 33, 34, 35, 54, 55, 56, 57, 64, 65, 66] (by decide +kernel) (by decide +kernel)) (goodIn_sub (fun _ h => List.mem_cons_of_mem _ (List.mem_append_right _ h)) (by decide +kernel))
set_option maxRecDepth 20000 in
theorem gX3_usageByWalking_X3_directoryNumbered : GoodIn wsX3_usageByWalking (wsV RX3 34 RX3 yX3_directoryNumbered wsX3_directoryNumbered) := goodIn_app (goodIn_of _ (by decide +kernel)) ggX3_usageByWalking_X3_directoryNumbered
set_option maxRecDepth 20000 in
theorem ggX3_usageByWalking_Jx4a65c_size_8abf5 : GoodIn wsX3_usageByWalking wsJx4a65c_size_8abf5 := goodIn_r _ [17, 18, 64, 65, 66] (by decide +kernel) (by decide +kernel)
set_option maxRecDepth 20000 in
theorem gX3_usageByWalking_Jx4a65c_size_8abf5 : GoodIn wsX3_usageByWalking (wsV RX3 43 RJx4a65c yJx4a65c_size_8abf5 wsJx4a65c_size_8abf5) := goodIn_app (goodIn_of _ (by decide +kernel)) ggX3_usageByWalking_Jx4a65c_size_8abf5
set_option maxRecDepth 20000 in
theorem ggX3_usageByWalking_Jx4a65c_get_915e3 : GoodIn wsX3_usageByWalking wsJx4a65c_get_915e3 := goodIn_r _ [22, 18, 23, 24, 25, 26, 27, 28, 29, 30, 31, 32, 33, 16, 34, 35, 64, 65, 66] (by decide +kernel) (by decide +kernel)
set_option maxRecDepth 20000 in
theorem gX3_usageByWalking_Jx4a65c_get_915e3 : GoodIn wsX3_usageByWalking (wsV RX3 149 RJx4a65c yJx4a65c_get_915e3 wsJx4a65c_get_915e3) := goodIn_app (goodIn_of _ (by decide +kernel)) ggX3_usageByWalking_Jx4a65c_get_915e3
set_option maxRecDepth 20000 in
theorem ggX3_usageByWalking_X2_firstLink : GoodIn wsX3_usageByWalking wsX2_firstLink := goodIn_r _ [40, 41, 42, 43, 44, 45, 16, 46, 18, 47, 20, 21, 22, 23, 24, 25, 26, 27, 28, 29, 30, 31, 32, 33, 34, 35, 58, 59, 60, 61, 62, 63, 64, 65, 66] (by decide +kernel) (by decide +kernel)
set_option maxRecDepth 20000 in
theorem gX3_usageByWalking_X2_firstLink : GoodIn wsX3_usageByWalking (wsV RX3 100 RX2 yX2_firstLink wsX2_firstLink) := goodIn_app (goodIn_of _ (by decide +kernel)) ggX3_usageByWalking_X2_firstLink
set_option maxRecDepth 20000 in
theorem ggX3_usageByWalking_X1_hasOnItsWay : GoodIn wsX3_usageByWalking wsX1_hasOnItsWay := goodIn_r _ [52, 53, 67, 68, 69, 70] (by decide +kernel) (by decide +kernel)
set_option maxRecDepth 20000 in
theorem gX3_usageByWalking_X1_hasOnItsWay : GoodIn wsX3_usageByWalking (wsV RX3 170 RX1 yX1_hasOnItsWay wsX1_hasOnItsWay) := goodIn_app (goodIn_of _ (by decide +kernel)) ggX3_usageByWalking_X1_hasOnItsWay
theorem dX3_usageByWalking_0 : decode cX3_usageByWalking 0 = .ok (.aload_n 0, 1) := by decide +kernel
theorem dX3_usageByWalking_1 : decode cX3_usageByWalking 1 = .ok (.iload_n 1, 1) := by decide +kernel
theorem dX3_usageByWalking_2 : decode cX3_usageByWalking 2 = .ok (.invokevirtual 34, 3) := by decide +kernel
theorem dX3_usageByWalking_5 : decode cX3_usageByWalking 5 = .ok (.astore_n 2, 1) := by decide +kernel
theorem dX3_usageByWalking_6 : decode cX3_usageByWalking 6 = .ok (.iconst 0, 1) := by decide +kernel
theorem dX3_usageByWalking_7 : decode cX3_usageByWalking 7 = .ok (.istore_n 3, 1) := by decide +kernel
theorem dX3_usageByWalking_8 : decode cX3_usageByWalking 8 = .ok (.iconst 0, 1) := by decide +kernel
theorem dX3_usageByWalking_9 : decode cX3_usageByWalking 9 = .ok (.istore 4, 2) := by decide +kernel
theorem dX3_usageByWalking_11 : decode cX3_usageByWalking 11 = .ok (.iload 4, 2) := by decide +kernel
theorem dX3_usageByWalking_13 : decode cX3_usageByWalking 13 = .ok (.aload_n 0, 1) := by decide +kernel
theorem dX3_usageByWalking_14 : decode cX3_usageByWalking 14 = .ok (.getfield 16, 3) := by decide +kernel
theorem dX3_usageByWalking_17 : decode cX3_usageByWalking 17 = .ok (.invokevirtual 43, 3) := by decide +kernel
theorem dX3_usageByWalking_20 : decode cX3_usageByWalking 20 = .ok (.if_icmp .ge 52, 3) := by decide +kernel
theorem dX3_usageByWalking_23 : decode cX3_usageByWalking 23 = .ok (.aload_n 0, 1) := by decide +kernel
theorem dX3_usageByWalking_24 : decode cX3_usageByWalking 24 = .ok (.getfield 16, 3) := by decide +kernel
theorem dX3_usageByWalking_27 : decode cX3_usageByWalking 27 = .ok (.iload 4, 2) := by decide +kernel
theorem dX3_usageByWalking_29 : decode cX3_usageByWalking 29 = .ok (.invokevirtual 149, 3) := by decide +kernel
theorem dX3_usageByWalking_32 : decode cX3_usageByWalking 32 = .ok (.checkcast 68, 3) := by decide +kernel
theorem dX3_usageByWalking_35 : decode cX3_usageByWalking 35 = .ok (.astore 5, 2) := by decide +kernel
theorem dX3_usageByWalking_37 : decode cX3_usageByWalking 37 = .ok (.aload 5, 2) := by decide +kernel
theorem dX3_usageByWalking_39 : decode cX3_usageByWalking 39 = .ok (.invokevirtual 100, 3) := by decide +kernel
theorem dX3_usageByWalking_42 : decode cX3_usageByWalking 42 = .ok (.astore 6, 2) := by decide +kernel
theorem dX3_usageByWalking_44 : decode cX3_usageByWalking 44 = .ok (.aload 6, 2) := by decide +kernel
theorem dX3_usageByWalking_46 : decode cX3_usageByWalking 46 = .ok (.ifnull 20, 3) := by decide +kernel
theorem dX3_usageByWalking_49 : decode cX3_usageByWalking 49 = .ok (.aload 6, 2) := by decide +kernel
theorem dX3_usageByWalking_51 : decode cX3_usageByWalking 51 = .ok (.aload_n 2, 1) := by decide +kernel
theorem dX3_usageByWalking_52 : decode cX3_usageByWalking 52 = .ok (.invokevirtual 170, 3) := by decide +kernel
theorem dX3_usageByWalking_55 : decode cX3_usageByWalking 55 = .ok (.ifCond .eq 11, 3) := by decide +kernel
theorem dX3_usageByWalking_58 : decode cX3_usageByWalking 58 = .ok (.iload_n 3, 1) := by decide +kernel
theorem dX3_usageByWalking_59 : decode cX3_usageByWalking 59 = .ok (.aload 5, 2) := by decide +kernel
theorem dX3_usageByWalking_61 : decode cX3_usageByWalking 61 = .ok (.getfield 110, 3) := by decide +kernel
theorem dX3_usageByWalking_64 : decode cX3_usageByWalking 64 = .ok (.iadd, 1) := by decide +kernel
theorem dX3_usageByWalking_65 : decode cX3_usageByWalking 65 = .ok (.istore_n 3, 1) := by decide +kernel
theorem dX3_usageByWalking_66 : decode cX3_usageByWalking 66 = .ok (.iinc 4 1, 3) := by decide +kernel
theorem dX3_usageByWalking_69 : decode cX3_usageByWalking 69 = .ok (.goto (-58), 3) := by decide +kernel
theorem dX3_usageByWalking_72 : decode cX3_usageByWalking 72 = .ok (.iload_n 3, 1) := by decide +kernel
theorem dX3_usageByWalking_73 : decode cX3_usageByWalking 73 = .ok (.ireturn, 1) := by decide +kernel
set_option maxRecDepth 20000 in
theorem ggX3_size_X3_fileNumbered : GoodIn wsX3_size wsX3_fileNumbered := goodIn_ca (goodIn_r _ [6, 7, 8, 9, 10, 11, 12, 13, 14, 15, 16, 17, 18, 19, 20, 21, 22, 23, 24, 25, 26, 27, 28, 29, 30, 31, 32, 33, 40, 41, 42, 43, 44, 45, 46] (by decide +kernel) (by decide +kernel)) (goodIn_sub (fun _ h => List.mem_cons_of_mem _ (List.mem_append_right _ h)) (by decide +kernel))
set_option maxRecDepth 20000 in
theorem gX3_size_X3_fileNumbered : GoodIn wsX3_size (wsV RX3 86 RX3 yX3_fileNumbered wsX3_fileNumbered) := goodIn_app (goodIn_of _ (by decide +kernel)) ggX3_size_X3_fileNumbered
theorem dX3_size_0 : decode cX3_size 0 = .ok (.aload_n 0, 1) := by decide +kernel
theorem dX3_size_1 : decode cX3_size 1 = .ok (.iload_n 1, 1) := by decide +kernel
theorem dX3_size_2 : decode cX3_size 2 = .ok (.invokevirtual 86, 3) := by decide +kernel
theorem dX3_size_5 : decode cX3_size 5 = .ok (.getfield 110, 3) := by decide +kernel
theorem dX3_size_8 : decode cX3_size 8 = .ok (.ireturn, 1) := by decide +kernel
set_option maxRecDepth 20000 in
theorem ggX3_home_X3_fileNumbered : GoodIn wsX3_home wsX3_fileNumbered := goodIn_ca (goodIn_r _ [6, 7, 8, 9, 10, 11, 12, 13, 14, 15, 16, 17, 18, 19, 20, 21, 22, 23, 24, 25, 26, 27, 28, 29, 30, 31, 32, 33, 50, 51, 52, 53, 54, 55, 56] (by decide +kernel) (by decide +kernel)) (goodIn_sub (fun _ h => List.mem_cons_of_mem _ (List.mem_append_right _ h)) (by decide +kernel))
set_option maxRecDepth 20000 in
theorem gX3_home_X3_fileNumbered : GoodIn wsX3_home (wsV RX3 86 RX3 yX3_fileNumbered wsX3_fileNumbered) := goodIn_app (goodIn_of _ (by decide +kernel)) ggX3_home_X3_fileNumbered
set_option maxRecDepth 20000 in
theorem ggX3_home_X2_firstLink : GoodIn wsX3_home wsX2_firstLink := goodIn_r _ [38, 39, 40, 41, 42, 43, 14, 44, 16, 45, 18, 19, 20, 21, 22, 23, 24, 25, 26, 27, 28, 29, 30, 31, 32, 33, 57, 58, 59, 60, 61, 62, 54, 55, 56] (by decide +kernel) (by decide +kernel)
set_option maxRecDepth 20000 in
theorem gX3_home_X2_firstLink : GoodIn wsX3_home (wsV RX3 100 RX2 yX2_firstLink wsX2_firstLink) := goodIn_app (goodIn_of _ (by decide +kernel)) ggX3_home_X2_firstLink
theorem dX3_home_0 : decode cX3_home 0 = .ok (.aload_n 0, 1) := by decide +kernel
theorem dX3_home_1 : decode cX3_home 1 = .ok (.iload_n 1, 1) := by decide +kernel
theorem dX3_home_2 : decode cX3_home 2 = .ok (.invokevirtual 86, 3) := by decide +kernel
theorem dX3_home_5 : decode cX3_home 5 = .ok (.invokevirtual 100, 3) := by decide +kernel
theorem dX3_home_8 : decode cX3_home 8 = .ok (.astore_n 2, 1) := by decide +kernel
theorem dX3_home_9 : decode cX3_home 9 = .ok (.aload_n 2, 1) := by decide +kernel
theorem dX3_home_10 : decode cX3_home 10 = .ok (.ifnonnull 7, 3) := by decide +kernel
theorem dX3_home_13 : decode cX3_home 13 = .ok (.iconst (-1), 1) := by decide +kernel
theorem dX3_home_14 : decode cX3_home 14 = .ok (.goto 7, 3) := by decide +kernel
theorem dX3_home_17 : decode cX3_home 17 = .ok (.aload_n 2, 1) := by decide +kernel
theorem dX3_home_18 : decode cX3_home 18 = .ok (.getfield 173, 3) := by decide +kernel
theorem dX3_home_21 : decode cX3_home 21 = .ok (.ireturn, 1) := by decide +kernel
set_option maxRecDepth 20000 in
theorem ggX3_kept_X3_fileNumbered : GoodIn wsX3_kept wsX3_fileNumbered := goodIn_ca (goodIn_r _ [6, 7, 8, 9, 10, 11, 12, 13, 14, 15, 16, 17, 18, 19, 20, 21, 22, 23, 24, 25, 26, 27, 28, 29, 30, 31, 32, 33, 40, 41, 42, 43, 44, 45, 46] (by decide +kernel) (by decide +kernel)) (goodIn_sub (fun _ h => List.mem_cons_of_mem _ (List.mem_append_right _ h)) (by decide +kernel))
set_option maxRecDepth 20000 in
theorem gX3_kept_X3_fileNumbered : GoodIn wsX3_kept (wsV RX3 86 RX3 yX3_fileNumbered wsX3_fileNumbered) := goodIn_app (goodIn_of _ (by decide +kernel)) ggX3_kept_X3_fileNumbered
theorem dX3_kept_0 : decode cX3_kept 0 = .ok (.aload_n 0, 1) := by decide +kernel
theorem dX3_kept_1 : decode cX3_kept 1 = .ok (.iload_n 1, 1) := by decide +kernel
theorem dX3_kept_2 : decode cX3_kept 2 = .ok (.invokevirtual 86, 3) := by decide +kernel
theorem dX3_kept_5 : decode cX3_kept 5 = .ok (.getfield 128, 3) := by decide +kernel
theorem dX3_kept_8 : decode cX3_kept 8 = .ok (.ireturn, 1) := by decide +kernel
set_option maxRecDepth 20000 in
theorem ggX3_holders_X3_fileNumbered : GoodIn wsX3_holders wsX3_fileNumbered := goodIn_ca (goodIn_r _ [6, 7, 8, 9, 10, 11, 12, 13, 14, 15, 16, 17, 18, 19, 20, 21, 22, 23, 24, 25, 26, 27, 28, 29, 30, 31, 32, 33, 40, 41, 42, 43, 44, 45, 46] (by decide +kernel) (by decide +kernel)) (goodIn_sub (fun _ h => List.mem_cons_of_mem _ (List.mem_append_right _ h)) (by decide +kernel))
set_option maxRecDepth 20000 in
theorem gX3_holders_X3_fileNumbered : GoodIn wsX3_holders (wsV RX3 86 RX3 yX3_fileNumbered wsX3_fileNumbered) := goodIn_app (goodIn_of _ (by decide +kernel)) ggX3_holders_X3_fileNumbered
theorem dX3_holders_0 : decode cX3_holders 0 = .ok (.aload_n 0, 1) := by decide +kernel
theorem dX3_holders_1 : decode cX3_holders 1 = .ok (.iload_n 1, 1) := by decide +kernel
theorem dX3_holders_2 : decode cX3_holders 2 = .ok (.invokevirtual 86, 3) := by decide +kernel
theorem dX3_holders_5 : decode cX3_holders 5 = .ok (.getfield 141, 3) := by decide +kernel
theorem dX3_holders_8 : decode cX3_holders 8 = .ok (.ireturn, 1) := by decide +kernel
set_option maxRecDepth 20000 in
theorem ggX3_tier_X3_fileNumbered : GoodIn wsX3_tier wsX3_fileNumbered := goodIn_ca (goodIn_r _ [6, 7, 8, 9, 10, 11, 12, 13, 14, 15, 16, 17, 18, 19, 20, 21, 22, 23, 24, 25, 26, 27, 28, 29, 30, 31, 32, 33, 53, 54, 55, 56, 57, 58, 59] (by decide +kernel) (by decide +kernel)) (goodIn_sub (fun _ h => List.mem_cons_of_mem _ (List.mem_append_right _ h)) (by decide +kernel))
set_option maxRecDepth 20000 in
theorem gX3_tier_X3_fileNumbered : GoodIn wsX3_tier (wsV RX3 86 RX3 yX3_fileNumbered wsX3_fileNumbered) := goodIn_app (goodIn_of _ (by decide +kernel)) ggX3_tier_X3_fileNumbered
set_option maxRecDepth 20000 in
theorem ggX3_tier_X2_tierOn : GoodIn wsX3_tier wsX2_tierOn := goodIn_r _ [38, 39, 40, 41, 42, 37, 43, 44, 45, 46, 47, 14, 48, 16, 49, 50, 51, 52, 60, 61, 62, 63, 64, 65, 57, 58, 59] (by decide +kernel) (by decide +kernel)
set_option maxRecDepth 20000 in
theorem gX3_tier_X2_tierOn : GoodIn wsX3_tier (wsV RX3 115 RX2 yX2_tierOn wsX2_tierOn) := goodIn_app (goodIn_of _ (by decide +kernel)) ggX3_tier_X2_tierOn
theorem dX3_tier_0 : decode cX3_tier 0 = .ok (.aload_n 0, 1) := by decide +kernel
theorem dX3_tier_1 : decode cX3_tier 1 = .ok (.iload_n 1, 1) := by decide +kernel
theorem dX3_tier_2 : decode cX3_tier 2 = .ok (.invokevirtual 86, 3) := by decide +kernel
theorem dX3_tier_5 : decode cX3_tier 5 = .ok (.aload_n 0, 1) := by decide +kernel
theorem dX3_tier_6 : decode cX3_tier 6 = .ok (.getfield 70, 3) := by decide +kernel
theorem dX3_tier_9 : decode cX3_tier 9 = .ok (.invokevirtual 115, 3) := by decide +kernel
theorem dX3_tier_12 : decode cX3_tier 12 = .ok (.ireturn, 1) := by decide +kernel
set_option maxRecDepth 20000 in
theorem ggX3_coins_X3_departmentNumbered : GoodIn wsX3_coins wsX3_departmentNumbered := goodIn_ca (goodIn_r _ [6, 7, 8, 9, 10, 11, 12, 13, 14, 15, 16, 17, 18, 19, 20, 21, 22, 23, 24, 25, 26, 27, 28, 29, 30, 31, 32, 33, 36, 37, 38, 39, 40, 41, 42] (by decide +kernel) (by decide +kernel)) (goodIn_sub (fun _ h => List.mem_cons_of_mem _ (List.mem_append_right _ h)) (by decide +kernel))
set_option maxRecDepth 20000 in
theorem gX3_coins_X3_departmentNumbered : GoodIn wsX3_coins (wsV RX3 58 RX3 yX3_departmentNumbered wsX3_departmentNumbered) := goodIn_app (goodIn_of _ (by decide +kernel)) ggX3_coins_X3_departmentNumbered
theorem dX3_coins_0 : decode cX3_coins 0 = .ok (.aload_n 0, 1) := by decide +kernel
theorem dX3_coins_1 : decode cX3_coins 1 = .ok (.iload_n 1, 1) := by decide +kernel
theorem dX3_coins_2 : decode cX3_coins 2 = .ok (.invokevirtual 58, 3) := by decide +kernel
theorem dX3_coins_5 : decode cX3_coins 5 = .ok (.getfield 156, 3) := by decide +kernel
theorem dX3_coins_8 : decode cX3_coins 8 = .ok (.ireturn, 1) := by decide +kernel
set_option maxRecDepth 20000 in
theorem ggX3_bill_X3_departmentNumbered : GoodIn wsX3_bill wsX3_departmentNumbered := goodIn_ca (goodIn_r _ [6, 7, 8, 9, 10, 11, 12, 13, 14, 15, 16, 17, 18, 19, 20, 21, 22, 23, 24, 25, 26, 27, 28, 29, 30, 31, 32, 33, 68, 69, 70, 71, 72, 73, 74] (by decide +kernel) (by decide +kernel)) (goodIn_sub (fun _ h => List.mem_cons_of_mem _ (List.mem_append_right _ h)) (by decide +kernel))
set_option maxRecDepth 20000 in
theorem gX3_bill_X3_departmentNumbered : GoodIn wsX3_bill (wsV RX3 58 RX3 yX3_departmentNumbered wsX3_departmentNumbered) := goodIn_app (goodIn_of _ (by decide +kernel)) ggX3_bill_X3_departmentNumbered
set_option maxRecDepth 20000 in
theorem ggX3_bill_X0_billOn : GoodIn wsX3_bill wsX0_billOn := goodIn_r _ [38, 39, 40, 41, 12, 13, 14, 15, 16, 42, 18, 19, 20, 21, 22, 23, 24, 25, 26, 27, 28, 29, 30, 31, 32, 33, 43, 44, 45, 46, 47, 48, 49, 50, 51, 52, 53, 54, 55, 56, 57, 58, 59, 60, 61, 62, 63, 64, 65, 66, 67, 75, 76, 72, 73, 74, 77, 78, 79, 80, 81, 82] (by decide +kernel) (by decide +kernel)
set_option maxRecDepth 20000 in
theorem gX3_bill_X0_billOn : GoodIn wsX3_bill (wsV RX3 176 RX0 yX0_billOn wsX0_billOn) := goodIn_app (goodIn_of _ (by decide +kernel)) ggX3_bill_X0_billOn
theorem dX3_bill_0 : decode cX3_bill 0 = .ok (.aload_n 0, 1) := by decide +kernel
theorem dX3_bill_1 : decode cX3_bill 1 = .ok (.iload_n 1, 1) := by decide +kernel
theorem dX3_bill_2 : decode cX3_bill 2 = .ok (.invokevirtual 58, 3) := by decide +kernel
theorem dX3_bill_5 : decode cX3_bill 5 = .ok (.aload_n 0, 1) := by decide +kernel
theorem dX3_bill_6 : decode cX3_bill 6 = .ok (.getfield 70, 3) := by decide +kernel
theorem dX3_bill_9 : decode cX3_bill 9 = .ok (.invokevirtual 176, 3) := by decide +kernel
theorem dX3_bill_12 : decode cX3_bill 12 = .ok (.ireturn, 1) := by decide +kernel
set_option maxRecDepth 20000 in
theorem ggX3_directoryNumbered_Jx4a65c_size_8abf5 : GoodIn wsX3_directoryNumbered wsJx4a65c_size_8abf5 := goodIn_r _ [9, 10, 32, 33, 34] (by decide +kernel) (by decide +kernel)
set_option maxRecDepth 20000 in
theorem gX3_directoryNumbered_Jx4a65c_size_8abf5 : GoodIn wsX3_directoryNumbered (wsV RX3 43 RJx4a65c yJx4a65c_size_8abf5 wsJx4a65c_size_8abf5) := goodIn_app (goodIn_of _ (by decide +kernel)) ggX3_directoryNumbered_Jx4a65c_size_8abf5
set_option maxRecDepth 20000 in
theorem ggX3_directoryNumbered_Jx4a65c_get_915e3 : GoodIn wsX3_directoryNumbered wsJx4a65c_get_915e3 := goodIn_r _ [14, 10, 15, 16, 17, 18, 19, 20, 21, 22, 23, 24, 25, 8, 26, 27, 32, 33, 34] (by decide +kernel) (by decide +kernel)
set_option maxRecDepth 20000 in
theorem gX3_directoryNumbered_Jx4a65c_get_915e3 : GoodIn wsX3_directoryNumbered (wsV RX3 149 RJx4a65c yJx4a65c_get_915e3 wsJx4a65c_get_915e3) := goodIn_app (goodIn_of _ (by decide +kernel)) ggX3_directoryNumbered_Jx4a65c_get_915e3
theorem dX3_directoryNumbered_0 : decode cX3_directoryNumbered 0 = .ok (.iload_n 1, 1) := by decide +kernel
theorem dX3_directoryNumbered_1 : decode cX3_directoryNumbered 1 = .ok (.ifCond .lt 14, 3) := by decide +kernel
theorem dX3_directoryNumbered_4 : decode cX3_directoryNumbered 4 = .ok (.iload_n 1, 1) := by decide +kernel
theorem dX3_directoryNumbered_5 : decode cX3_directoryNumbered 5 = .ok (.aload_n 0, 1) := by decide +kernel
theorem dX3_directoryNumbered_6 : decode cX3_directoryNumbered 6 = .ok (.getfield 10, 3) := by decide +kernel
theorem dX3_directoryNumbered_9 : decode cX3_directoryNumbered 9 = .ok (.invokevirtual 43, 3) := by decide +kernel
theorem dX3_directoryNumbered_12 : decode cX3_directoryNumbered 12 = .ok (.if_icmp .lt 13, 3) := by decide +kernel
theorem dX3_directoryNumbered_15 : decode cX3_directoryNumbered 15 = .ok (.new 179, 3) := by decide +kernel
theorem dX3_directoryNumbered_18 : decode cX3_directoryNumbered 18 = .ok (.dup, 1) := by decide +kernel
theorem dX3_directoryNumbered_19 : decode cX3_directoryNumbered 19 = .ok (.ldc 181, 2) := by decide +kernel
theorem dX3_directoryNumbered_21 : decode cX3_directoryNumbered 21 = .ok (.invokespecial 183, 3) := by decide +kernel
theorem dX3_directoryNumbered_24 : decode cX3_directoryNumbered 24 = .ok (.athrow, 1) := by decide +kernel
theorem dX3_directoryNumbered_25 : decode cX3_directoryNumbered 25 = .ok (.aload_n 0, 1) := by decide +kernel
theorem dX3_directoryNumbered_26 : decode cX3_directoryNumbered 26 = .ok (.getfield 10, 3) := by decide +kernel
theorem dX3_directoryNumbered_29 : decode cX3_directoryNumbered 29 = .ok (.iload_n 1, 1) := by decide +kernel
theorem dX3_directoryNumbered_30 : decode cX3_directoryNumbered 30 = .ok (.invokevirtual 149, 3) := by decide +kernel
theorem dX3_directoryNumbered_33 : decode cX3_directoryNumbered 33 = .ok (.checkcast 22, 3) := by decide +kernel
theorem dX3_directoryNumbered_36 : decode cX3_directoryNumbered 36 = .ok (.areturn, 1) := by decide +kernel
set_option maxRecDepth 20000 in
theorem ggX3_fileNumbered_Jx4a65c_size_8abf5 : GoodIn wsX3_fileNumbered wsJx4a65c_size_8abf5 := goodIn_r _ [9, 10, 32, 33, 34] (by decide +kernel) (by decide +kernel)
set_option maxRecDepth 20000 in
theorem gX3_fileNumbered_Jx4a65c_size_8abf5 : GoodIn wsX3_fileNumbered (wsV RX3 43 RJx4a65c yJx4a65c_size_8abf5 wsJx4a65c_size_8abf5) := goodIn_app (goodIn_of _ (by decide +kernel)) ggX3_fileNumbered_Jx4a65c_size_8abf5
set_option maxRecDepth 20000 in
theorem ggX3_fileNumbered_Jx4a65c_get_915e3 : GoodIn wsX3_fileNumbered wsJx4a65c_get_915e3 := goodIn_r _ [14, 10, 15, 16, 17, 18, 19, 20, 21, 22, 23, 24, 25, 8, 26, 27, 32, 33, 34] (by decide +kernel) (by decide +kernel)
set_option maxRecDepth 20000 in
theorem gX3_fileNumbered_Jx4a65c_get_915e3 : GoodIn wsX3_fileNumbered (wsV RX3 149 RJx4a65c yJx4a65c_get_915e3 wsJx4a65c_get_915e3) := goodIn_app (goodIn_of _ (by decide +kernel)) ggX3_fileNumbered_Jx4a65c_get_915e3
theorem dX3_fileNumbered_0 : decode cX3_fileNumbered 0 = .ok (.iload_n 1, 1) := by decide +kernel
theorem dX3_fileNumbered_1 : decode cX3_fileNumbered 1 = .ok (.ifCond .lt 14, 3) := by decide +kernel
theorem dX3_fileNumbered_4 : decode cX3_fileNumbered 4 = .ok (.iload_n 1, 1) := by decide +kernel
theorem dX3_fileNumbered_5 : decode cX3_fileNumbered 5 = .ok (.aload_n 0, 1) := by decide +kernel
theorem dX3_fileNumbered_6 : decode cX3_fileNumbered 6 = .ok (.getfield 16, 3) := by decide +kernel
theorem dX3_fileNumbered_9 : decode cX3_fileNumbered 9 = .ok (.invokevirtual 43, 3) := by decide +kernel
theorem dX3_fileNumbered_12 : decode cX3_fileNumbered 12 = .ok (.if_icmp .lt 13, 3) := by decide +kernel
theorem dX3_fileNumbered_15 : decode cX3_fileNumbered 15 = .ok (.new 179, 3) := by decide +kernel
theorem dX3_fileNumbered_18 : decode cX3_fileNumbered 18 = .ok (.dup, 1) := by decide +kernel
theorem dX3_fileNumbered_19 : decode cX3_fileNumbered 19 = .ok (.ldc 184, 2) := by decide +kernel
theorem dX3_fileNumbered_21 : decode cX3_fileNumbered 21 = .ok (.invokespecial 183, 3) := by decide +kernel
theorem dX3_fileNumbered_24 : decode cX3_fileNumbered 24 = .ok (.athrow, 1) := by decide +kernel
theorem dX3_fileNumbered_25 : decode cX3_fileNumbered 25 = .ok (.aload_n 0, 1) := by decide +kernel
theorem dX3_fileNumbered_26 : decode cX3_fileNumbered 26 = .ok (.getfield 16, 3) := by decide +kernel
theorem dX3_fileNumbered_29 : decode cX3_fileNumbered 29 = .ok (.iload_n 1, 1) := by decide +kernel
theorem dX3_fileNumbered_30 : decode cX3_fileNumbered 30 = .ok (.invokevirtual 149, 3) := by decide +kernel
theorem dX3_fileNumbered_33 : decode cX3_fileNumbered 33 = .ok (.checkcast 68, 3) := by decide +kernel
theorem dX3_fileNumbered_36 : decode cX3_fileNumbered 36 = .ok (.areturn, 1) := by decide +kernel
set_option maxRecDepth 20000 in
theorem ggX3_departmentNumbered_Jx4a65c_size_8abf5 : GoodIn wsX3_departmentNumbered wsJx4a65c_size_8abf5 := goodIn_r _ [9, 10, 32, 33, 34] (by decide +kernel) (by decide +kernel)
set_option maxRecDepth 20000 in
theorem gX3_departmentNumbered_Jx4a65c_size_8abf5 : GoodIn wsX3_departmentNumbered (wsV RX3 43 RJx4a65c yJx4a65c_size_8abf5 wsJx4a65c_size_8abf5) := goodIn_app (goodIn_of _ (by decide +kernel)) ggX3_departmentNumbered_Jx4a65c_size_8abf5
set_option maxRecDepth 20000 in
theorem ggX3_departmentNumbered_Jx4a65c_get_915e3 : GoodIn wsX3_departmentNumbered wsJx4a65c_get_915e3 := goodIn_r _ [14, 10, 15, 16, 17, 18, 19, 20, 21, 22, 23, 24, 25, 8, 26, 27, 32, 33, 34] (by decide +kernel) (by decide +kernel)
set_option maxRecDepth 20000 in
theorem gX3_departmentNumbered_Jx4a65c_get_915e3 : GoodIn wsX3_departmentNumbered (wsV RX3 149 RJx4a65c yJx4a65c_get_915e3 wsJx4a65c_get_915e3) := goodIn_app (goodIn_of _ (by decide +kernel)) ggX3_departmentNumbered_Jx4a65c_get_915e3
theorem dX3_departmentNumbered_0 : decode cX3_departmentNumbered 0 = .ok (.iload_n 1, 1) := by decide +kernel
theorem dX3_departmentNumbered_1 : decode cX3_departmentNumbered 1 = .ok (.ifCond .lt 14, 3) := by decide +kernel
theorem dX3_departmentNumbered_4 : decode cX3_departmentNumbered 4 = .ok (.iload_n 1, 1) := by decide +kernel
theorem dX3_departmentNumbered_5 : decode cX3_departmentNumbered 5 = .ok (.aload_n 0, 1) := by decide +kernel
theorem dX3_departmentNumbered_6 : decode cX3_departmentNumbered 6 = .ok (.getfield 19, 3) := by decide +kernel
theorem dX3_departmentNumbered_9 : decode cX3_departmentNumbered 9 = .ok (.invokevirtual 43, 3) := by decide +kernel
theorem dX3_departmentNumbered_12 : decode cX3_departmentNumbered 12 = .ok (.if_icmp .lt 13, 3) := by decide +kernel
theorem dX3_departmentNumbered_15 : decode cX3_departmentNumbered 15 = .ok (.new 179, 3) := by decide +kernel
theorem dX3_departmentNumbered_18 : decode cX3_departmentNumbered 18 = .ok (.dup, 1) := by decide +kernel
theorem dX3_departmentNumbered_19 : decode cX3_departmentNumbered 19 = .ok (.ldc 186, 2) := by decide +kernel
theorem dX3_departmentNumbered_21 : decode cX3_departmentNumbered 21 = .ok (.invokespecial 183, 3) := by decide +kernel
theorem dX3_departmentNumbered_24 : decode cX3_departmentNumbered 24 = .ok (.athrow, 1) := by decide +kernel
theorem dX3_departmentNumbered_25 : decode cX3_departmentNumbered 25 = .ok (.aload_n 0, 1) := by decide +kernel
theorem dX3_departmentNumbered_26 : decode cX3_departmentNumbered 26 = .ok (.getfield 19, 3) := by decide +kernel
theorem dX3_departmentNumbered_29 : decode cX3_departmentNumbered 29 = .ok (.iload_n 1, 1) := by decide +kernel
theorem dX3_departmentNumbered_30 : decode cX3_departmentNumbered 30 = .ok (.invokevirtual 149, 3) := by decide +kernel
theorem dX3_departmentNumbered_33 : decode cX3_departmentNumbered 33 = .ok (.checkcast 31, 3) := by decide +kernel
theorem dX3_departmentNumbered_36 : decode cX3_departmentNumbered 36 = .ok (.areturn, 1) := by decide +kernel
theorem dX3_bitOfMatter_0 : decode cX3_bitOfMatter 0 = .ok (.iload_n 0, 1) := by decide +kernel
theorem dX3_bitOfMatter_1 : decode cX3_bitOfMatter 1 = .ok (.ifCond .lt 8, 3) := by decide +kernel
theorem dX3_bitOfMatter_4 : decode cX3_bitOfMatter 4 = .ok (.iload_n 0, 1) := by decide +kernel
theorem dX3_bitOfMatter_5 : decode cX3_bitOfMatter 5 = .ok (.iconst 5, 1) := by decide +kernel
theorem dX3_bitOfMatter_6 : decode cX3_bitOfMatter 6 = .ok (.if_icmp .lt 13, 3) := by decide +kernel
theorem dX3_bitOfMatter_9 : decode cX3_bitOfMatter 9 = .ok (.new 179, 3) := by decide +kernel
theorem dX3_bitOfMatter_12 : decode cX3_bitOfMatter 12 = .ok (.dup, 1) := by decide +kernel
theorem dX3_bitOfMatter_13 : decode cX3_bitOfMatter 13 = .ok (.ldc 188, 2) := by decide +kernel
theorem dX3_bitOfMatter_15 : decode cX3_bitOfMatter 15 = .ok (.invokespecial 183, 3) := by decide +kernel
theorem dX3_bitOfMatter_18 : decode cX3_bitOfMatter 18 = .ok (.athrow, 1) := by decide +kernel
theorem dX3_bitOfMatter_19 : decode cX3_bitOfMatter 19 = .ok (.iconst 1, 1) := by decide +kernel
theorem dX3_bitOfMatter_20 : decode cX3_bitOfMatter 20 = .ok (.iload_n 0, 1) := by decide +kernel
theorem dX3_bitOfMatter_21 : decode cX3_bitOfMatter 21 = .ok (.ishl, 1) := by decide +kernel
theorem dX3_bitOfMatter_22 : decode cX3_bitOfMatter 22 = .ok (.ireturn, 1) := by decide +kernel
theorem dX3_requireBetween_0 : decode cX3_requireBetween 0 = .ok (.iload_n 1, 1) := by decide +kernel
theorem dX3_requireBetween_1 : decode cX3_requireBetween 1 = .ok (.iload_n 0, 1) := by decide +kernel
theorem dX3_requireBetween_2 : decode cX3_requireBetween 2 = .ok (.if_icmp .lt 8, 3) := by decide +kernel
theorem dX3_requireBetween_5 : decode cX3_requireBetween 5 = .ok (.iload_n 1, 1) := by decide +kernel
theorem dX3_requireBetween_6 : decode cX3_requireBetween 6 = .ok (.iload_n 2, 1) := by decide +kernel
theorem dX3_requireBetween_7 : decode cX3_requireBetween 7 = .ok (.if_icmp .le 13, 3) := by decide +kernel
theorem dX3_requireBetween_10 : decode cX3_requireBetween 10 = .ok (.new 190, 3) := by decide +kernel
theorem dX3_requireBetween_13 : decode cX3_requireBetween 13 = .ok (.dup, 1) := by decide +kernel
theorem dX3_requireBetween_14 : decode cX3_requireBetween 14 = .ok (.ldc 192, 2) := by decide +kernel
theorem dX3_requireBetween_16 : decode cX3_requireBetween 16 = .ok (.invokespecial 194, 3) := by decide +kernel
theorem dX3_requireBetween_19 : decode cX3_requireBetween 19 = .ok (.athrow, 1) := by decide +kernel
theorem dX3_requireBetween_20 : decode cX3_requireBetween 20 = .ok (.return_, 1) := by decide +kernel
set_option maxRecDepth 20000 in
theorem ggX3_requireNotGone_X2_isGone : GoodIn wsX3_requireNotGone wsX2_isGone := goodIn_r _ [7, 8, 9, 10, 11, 12, 13, 14, 15, 16, 17, 18, 19, 20, 21, 22, 23] (by decide +kernel) (by decide +kernel)
set_option maxRecDepth 20000 in
theorem gX3_requireNotGone_X2_isGone : GoodIn wsX3_requireNotGone (wsV RX3 195 RX2 yX2_isGone wsX2_isGone) := goodIn_app (goodIn_of _ (by decide +kernel)) ggX3_requireNotGone_X2_isGone
theorem dX3_requireNotGone_0 : decode cX3_requireNotGone 0 = .ok (.aload_n 0, 1) := by decide +kernel
theorem dX3_requireNotGone_1 : decode cX3_requireNotGone 1 = .ok (.invokevirtual 195, 3) := by decide +kernel
theorem dX3_requireNotGone_4 : decode cX3_requireNotGone 4 = .ok (.ifCond .eq 13, 3) := by decide +kernel
theorem dX3_requireNotGone_7 : decode cX3_requireNotGone 7 = .ok (.new 47, 3) := by decide +kernel
theorem dX3_requireNotGone_10 : decode cX3_requireNotGone 10 = .ok (.dup, 1) := by decide +kernel
theorem dX3_requireNotGone_11 : decode cX3_requireNotGone 11 = .ok (.ldc 199, 2) := by decide +kernel
theorem dX3_requireNotGone_13 : decode cX3_requireNotGone 13 = .ok (.invokespecial 51, 3) := by decide +kernel
theorem dX3_requireNotGone_16 : decode cX3_requireNotGone 16 = .ok (.athrow, 1) := by decide +kernel
theorem dX3_requireNotGone_17 : decode cX3_requireNotGone 17 = .ok (.return_, 1) := by decide +kernel
set_option maxRecDepth 20000 in
theorem ggX3_requireGrowthPossible_X1_hasRoomFor : GoodIn wsX3_requireGrowthPossible wsX1_hasRoomFor := goodIn_r _ [8, 9, 10, 11, 14, 15, 16, 17] (by decide +kernel) (by decide +kernel)
set_option maxRecDepth 20000 in
theorem gX3_requireGrowthPossible_X1_hasRoomFor : GoodIn wsX3_requireGrowthPossible (wsV RX3 201 RX1 yX1_hasRoomFor wsX1_hasRoomFor) := goodIn_app (goodIn_of _ (by decide +kernel)) ggX3_requireGrowthPossible_X1_hasRoomFor
theorem dX3_requireGrowthPossible_0 : decode cX3_requireGrowthPossible 0 = .ok (.aload_n 0, 1) := by decide +kernel
theorem dX3_requireGrowthPossible_1 : decode cX3_requireGrowthPossible 1 = .ok (.getfield 156, 3) := by decide +kernel
theorem dX3_requireGrowthPossible_4 : decode cX3_requireGrowthPossible 4 = .ok (.ifCond .eq 11, 3) := by decide +kernel
theorem dX3_requireGrowthPossible_7 : decode cX3_requireGrowthPossible 7 = .ok (.aload_n 1, 1) := by decide +kernel
theorem dX3_requireGrowthPossible_8 : decode cX3_requireGrowthPossible 8 = .ok (.iload_n 2, 1) := by decide +kernel
theorem dX3_requireGrowthPossible_9 : decode cX3_requireGrowthPossible 9 = .ok (.invokevirtual 201, 3) := by decide +kernel
theorem dX3_requireGrowthPossible_12 : decode cX3_requireGrowthPossible 12 = .ok (.ifCond .ne 13, 3) := by decide +kernel
theorem dX3_requireGrowthPossible_15 : decode cX3_requireGrowthPossible 15 = .ok (.new 47, 3) := by decide +kernel
theorem dX3_requireGrowthPossible_18 : decode cX3_requireGrowthPossible 18 = .ok (.dup, 1) := by decide +kernel
theorem dX3_requireGrowthPossible_19 : decode cX3_requireGrowthPossible 19 = .ok (.ldc 204, 2) := by decide +kernel
theorem dX3_requireGrowthPossible_21 : decode cX3_requireGrowthPossible 21 = .ok (.invokespecial 51, 3) := by decide +kernel
theorem dX3_requireGrowthPossible_24 : decode cX3_requireGrowthPossible 24 = .ok (.athrow, 1) := by decide +kernel
theorem dX3_requireGrowthPossible_25 : decode cX3_requireGrowthPossible 25 = .ok (.return_, 1) := by decide +kernel
set_option maxRecDepth 20000 in
theorem ggX3_startBringingBack_X2_costToBringBack : GoodIn wsX3_startBringingBack wsX2_costToBringBack := goodIn_r _ [11, 12, 13, 14, 15, 16, 17, 18] (by decide +kernel) (by decide +kernel)
set_option maxRecDepth 20000 in
theorem gX3_startBringingBack_X2_costToBringBack : GoodIn wsX3_startBringingBack (wsV RX3 206 RX2 yX2_costToBringBack wsX2_costToBringBack) := goodIn_app (goodIn_of _ (by decide +kernel)) ggX3_startBringingBack_X2_costToBringBack
theorem dX3_startBringingBack_0 : decode cX3_startBringingBack 0 = .ok (.aload_n 1, 1) := by decide +kernel
theorem dX3_startBringingBack_1 : decode cX3_startBringingBack 1 = .ok (.invokevirtual 206, 3) := by decide +kernel
theorem dX3_startBringingBack_4 : decode cX3_startBringingBack 4 = .ok (.istore_n 2, 1) := by decide +kernel
theorem dX3_startBringingBack_5 : decode cX3_startBringingBack 5 = .ok (.aload_n 1, 1) := by decide +kernel
theorem dX3_startBringingBack_6 : decode cX3_startBringingBack 6 = .ok (.getfield 121, 3) := by decide +kernel
theorem dX3_startBringingBack_9 : decode cX3_startBringingBack 9 = .ok (.getfield 156, 3) := by decide +kernel
theorem dX3_startBringingBack_12 : decode cX3_startBringingBack 12 = .ok (.iload_n 2, 1) := by decide +kernel
theorem dX3_startBringingBack_13 : decode cX3_startBringingBack 13 = .ok (.if_icmp .ge 13, 3) := by decide +kernel
theorem dX3_startBringingBack_16 : decode cX3_startBringingBack 16 = .ok (.new 47, 3) := by decide +kernel
theorem dX3_startBringingBack_19 : decode cX3_startBringingBack 19 = .ok (.dup, 1) := by decide +kernel
theorem dX3_startBringingBack_20 : decode cX3_startBringingBack 20 = .ok (.ldc 209, 2) := by decide +kernel
theorem dX3_startBringingBack_22 : decode cX3_startBringingBack 22 = .ok (.invokespecial 51, 3) := by decide +kernel
theorem dX3_startBringingBack_25 : decode cX3_startBringingBack 25 = .ok (.athrow, 1) := by decide +kernel
theorem dX3_startBringingBack_26 : decode cX3_startBringingBack 26 = .ok (.aload_n 1, 1) := by decide +kernel
theorem dX3_startBringingBack_27 : decode cX3_startBringingBack 27 = .ok (.getfield 121, 3) := by decide +kernel
theorem dX3_startBringingBack_30 : decode cX3_startBringingBack 30 = .ok (.dup, 1) := by decide +kernel
theorem dX3_startBringingBack_31 : decode cX3_startBringingBack 31 = .ok (.getfield 156, 3) := by decide +kernel
theorem dX3_startBringingBack_34 : decode cX3_startBringingBack 34 = .ok (.iload_n 2, 1) := by decide +kernel
theorem dX3_startBringingBack_35 : decode cX3_startBringingBack 35 = .ok (.isub, 1) := by decide +kernel
theorem dX3_startBringingBack_36 : decode cX3_startBringingBack 36 = .ok (.putfield 156, 3) := by decide +kernel
theorem dX3_startBringingBack_39 : decode cX3_startBringingBack 39 = .ok (.aload_n 1, 1) := by decide +kernel
theorem dX3_startBringingBack_40 : decode cX3_startBringingBack 40 = .ok (.aload_n 0, 1) := by decide +kernel
theorem dX3_startBringingBack_41 : decode cX3_startBringingBack 41 = .ok (.getfield 70, 3) := by decide +kernel
theorem dX3_startBringingBack_44 : decode cX3_startBringingBack 44 = .ok (.iconst 2, 1) := by decide +kernel
theorem dX3_startBringingBack_45 : decode cX3_startBringingBack 45 = .ok (.iadd, 1) := by decide +kernel
theorem dX3_startBringingBack_46 : decode cX3_startBringingBack 46 = .ok (.putfield 125, 3) := by decide +kernel
theorem dX3_startBringingBack_49 : decode cX3_startBringingBack 49 = .ok (.return_, 1) := by decide +kernel
set_option maxRecDepth 20000 in
theorem ggX3_payBills_Jx4a65c_size_8abf5 : GoodIn wsX3_payBills wsJx4a65c_size_8abf5 := goodIn_r _ [13, 14, 72, 73, 74] (by decide +kernel) (by decide +kernel)
set_option maxRecDepth 20000 in
theorem gX3_payBills_Jx4a65c_size_8abf5 : GoodIn wsX3_payBills (wsV RX3 43 RJx4a65c yJx4a65c_size_8abf5 wsJx4a65c_size_8abf5) := goodIn_app (goodIn_of _ (by decide +kernel)) ggX3_payBills_Jx4a65c_size_8abf5
set_option maxRecDepth 20000 in
theorem ggX3_payBills_Jx4a65c_get_915e3 : GoodIn wsX3_payBills wsJx4a65c_get_915e3 := goodIn_r _ [18, 14, 19, 20, 21, 22, 23, 24, 25, 26, 27, 28, 29, 12, 30, 31, 72, 73, 74] (by decide +kernel) (by decide +kernel)
set_option maxRecDepth 20000 in
theorem gX3_payBills_Jx4a65c_get_915e3 : GoodIn wsX3_payBills (wsV RX3 149 RJx4a65c yJx4a65c_get_915e3 wsJx4a65c_get_915e3) := goodIn_app (goodIn_of _ (by decide +kernel)) ggX3_payBills_Jx4a65c_get_915e3
set_option maxRecDepth 20000 in
theorem ggX3_payBills_X0_billOn : GoodIn wsX3_payBills wsX0_billOn := goodIn_r _ [36, 37, 38, 39, 10, 11, 12, 13, 14, 40, 16, 17, 18, 19, 20, 21, 22, 23, 24, 25, 26, 27, 28, 29, 30, 31, 41, 42, 43, 44, 45, 46, 47, 48, 49, 50, 51, 52, 53, 54, 55, 56, 57, 58, 59, 60, 61, 62, 63, 64, 65, 70, 71, 72, 73, 74, 75, 76, 77, 78, 79, 80] (by decide +kernel) (by decide +kernel)
set_option maxRecDepth 20000 in
theorem gX3_payBills_X0_billOn : GoodIn wsX3_payBills (wsV RX3 176 RX0 yX0_billOn wsX0_billOn) := goodIn_app (goodIn_of _ (by decide +kernel)) ggX3_payBills_X0_billOn
theorem dX3_payBills_0 : decode cX3_payBills 0 = .ok (.iconst 0, 1) := by decide +kernel
theorem dX3_payBills_1 : decode cX3_payBills 1 = .ok (.istore_n 1, 1) := by decide +kernel
theorem dX3_payBills_2 : decode cX3_payBills 2 = .ok (.iconst 0, 1) := by decide +kernel
theorem dX3_payBills_3 : decode cX3_payBills 3 = .ok (.istore_n 2, 1) := by decide +kernel
theorem dX3_payBills_4 : decode cX3_payBills 4 = .ok (.iload_n 2, 1) := by decide +kernel
theorem dX3_payBills_5 : decode cX3_payBills 5 = .ok (.aload_n 0, 1) := by decide +kernel
theorem dX3_payBills_6 : decode cX3_payBills 6 = .ok (.getfield 19, 3) := by decide +kernel
theorem dX3_payBills_9 : decode cX3_payBills 9 = .ok (.invokevirtual 43, 3) := by decide +kernel
theorem dX3_payBills_12 : decode cX3_payBills 12 = .ok (.if_icmp .ge 54, 3) := by decide +kernel
theorem dX3_payBills_15 : decode cX3_payBills 15 = .ok (.aload_n 0, 1) := by decide +kernel
theorem dX3_payBills_16 : decode cX3_payBills 16 = .ok (.getfield 19, 3) := by decide +kernel
theorem dX3_payBills_19 : decode cX3_payBills 19 = .ok (.iload_n 2, 1) := by decide +kernel
theorem dX3_payBills_20 : decode cX3_payBills 20 = .ok (.invokevirtual 149, 3) := by decide +kernel
theorem dX3_payBills_23 : decode cX3_payBills 23 = .ok (.checkcast 31, 3) := by decide +kernel
theorem dX3_payBills_26 : decode cX3_payBills 26 = .ok (.astore_n 3, 1) := by decide +kernel
theorem dX3_payBills_27 : decode cX3_payBills 27 = .ok (.aload_n 3, 1) := by decide +kernel
theorem dX3_payBills_28 : decode cX3_payBills 28 = .ok (.aload_n 0, 1) := by decide +kernel
theorem dX3_payBills_29 : decode cX3_payBills 29 = .ok (.getfield 70, 3) := by decide +kernel
theorem dX3_payBills_32 : decode cX3_payBills 32 = .ok (.invokevirtual 176, 3) := by decide +kernel
theorem dX3_payBills_35 : decode cX3_payBills 35 = .ok (.aload_n 3, 1) := by decide +kernel
theorem dX3_payBills_36 : decode cX3_payBills 36 = .ok (.getfield 156, 3) := by decide +kernel
theorem dX3_payBills_39 : decode cX3_payBills 39 = .ok (.invokestatic 211, 3) := by decide +kernel
theorem dX3_payBills_42 : decode cX3_payBills 42 = .ok (.istore 4, 2) := by decide +kernel
theorem dX3_payBills_44 : decode cX3_payBills 44 = .ok (.aload_n 3, 1) := by decide +kernel
theorem dX3_payBills_45 : decode cX3_payBills 45 = .ok (.dup, 1) := by decide +kernel
theorem dX3_payBills_46 : decode cX3_payBills 46 = .ok (.getfield 156, 3) := by decide +kernel
theorem dX3_payBills_49 : decode cX3_payBills 49 = .ok (.iload 4, 2) := by decide +kernel
theorem dX3_payBills_51 : decode cX3_payBills 51 = .ok (.isub, 1) := by decide +kernel
theorem dX3_payBills_52 : decode cX3_payBills 52 = .ok (.putfield 156, 3) := by decide +kernel
theorem dX3_payBills_55 : decode cX3_payBills 55 = .ok (.iload_n 1, 1) := by decide +kernel
theorem dX3_payBills_56 : decode cX3_payBills 56 = .ok (.iload 4, 2) := by decide +kernel
theorem dX3_payBills_58 : decode cX3_payBills 58 = .ok (.iadd, 1) := by decide +kernel
theorem dX3_payBills_59 : decode cX3_payBills 59 = .ok (.istore_n 1, 1) := by decide +kernel
theorem dX3_payBills_60 : decode cX3_payBills 60 = .ok (.iinc 2 1, 3) := by decide +kernel
theorem dX3_payBills_63 : decode cX3_payBills 63 = .ok (.goto (-59), 3) := by decide +kernel
theorem dX3_payBills_66 : decode cX3_payBills 66 = .ok (.iload_n 1, 1) := by decide +kernel
theorem dX3_payBills_67 : decode cX3_payBills 67 = .ok (.ireturn, 1) := by decide +kernel
theorem dX4_init_0 : decode cX4_init 0 = .ok (.aload_n 0, 1) := by decide +kernel
theorem dX4_init_1 : decode cX4_init 1 = .ok (.invokespecial 1, 3) := by decide +kernel
theorem dX4_init_4 : decode cX4_init 4 = .ok (.aload_n 0, 1) := by decide +kernel
theorem dX4_init_5 : decode cX4_init 5 = .ok (.bipush 12, 2) := by decide +kernel
theorem dX4_init_7 : decode cX4_init 7 = .ok (.newarray .int, 2) := by decide +kernel
theorem dX4_init_9 : decode cX4_init 9 = .ok (.putfield 7, 3) := by decide +kernel
theorem dX4_init_12 : decode cX4_init 12 = .ok (.aload_n 0, 1) := by decide +kernel
theorem dX4_init_13 : decode cX4_init 13 = .ok (.bipush 12, 2) := by decide +kernel
theorem dX4_init_15 : decode cX4_init 15 = .ok (.newarray .int, 2) := by decide +kernel
theorem dX4_init_17 : decode cX4_init 17 = .ok (.putfield 13, 3) := by decide +kernel
theorem dX4_init_20 : decode cX4_init 20 = .ok (.aload_n 0, 1) := by decide +kernel
theorem dX4_init_21 : decode cX4_init 21 = .ok (.iconst 1, 1) := by decide +kernel
theorem dX4_init_22 : decode cX4_init 22 = .ok (.putfield 16, 3) := by decide +kernel
theorem dX4_init_25 : decode cX4_init 25 = .ok (.aload_n 0, 1) := by decide +kernel
theorem dX4_init_26 : decode cX4_init 26 = .ok (.bipush 30, 2) := by decide +kernel
theorem dX4_init_28 : decode cX4_init 28 = .ok (.newarray .int, 2) := by decide +kernel
theorem dX4_init_30 : decode cX4_init 30 = .ok (.putfield 20, 3) := by decide +kernel
theorem dX4_init_33 : decode cX4_init 33 = .ok (.aload_n 0, 1) := by decide +kernel
theorem dX4_init_34 : decode cX4_init 34 = .ok (.bipush 30, 2) := by decide +kernel
theorem dX4_init_36 : decode cX4_init 36 = .ok (.newarray .int, 2) := by decide +kernel
theorem dX4_init_38 : decode cX4_init 38 = .ok (.putfield 23, 3) := by decide +kernel
theorem dX4_init_41 : decode cX4_init 41 = .ok (.aload_n 0, 1) := by decide +kernel
theorem dX4_init_42 : decode cX4_init 42 = .ok (.sipush 360, 3) := by decide +kernel
theorem dX4_init_45 : decode cX4_init 45 = .ok (.newarray .int, 2) := by decide +kernel
theorem dX4_init_47 : decode cX4_init 47 = .ok (.putfield 26, 3) := by decide +kernel
theorem dX4_init_50 : decode cX4_init 50 = .ok (.aload_n 0, 1) := by decide +kernel
theorem dX4_init_51 : decode cX4_init 51 = .ok (.bipush 30, 2) := by decide +kernel
theorem dX4_init_53 : decode cX4_init 53 = .ok (.newarray .int, 2) := by decide +kernel
theorem dX4_init_55 : decode cX4_init 55 = .ok (.putfield 29, 3) := by decide +kernel
theorem dX4_init_58 : decode cX4_init 58 = .ok (.aload_n 0, 1) := by decide +kernel
theorem dX4_init_59 : decode cX4_init 59 = .ok (.bipush 30, 2) := by decide +kernel
theorem dX4_init_61 : decode cX4_init 61 = .ok (.newarray .int, 2) := by decide +kernel
theorem dX4_init_63 : decode cX4_init 63 = .ok (.putfield 32, 3) := by decide +kernel
theorem dX4_init_66 : decode cX4_init 66 = .ok (.aload_n 0, 1) := by decide +kernel
theorem dX4_init_67 : decode cX4_init 67 = .ok (.bipush 30, 2) := by decide +kernel
theorem dX4_init_69 : decode cX4_init 69 = .ok (.newarray .int, 2) := by decide +kernel
theorem dX4_init_71 : decode cX4_init 71 = .ok (.putfield 35, 3) := by decide +kernel
theorem dX4_init_74 : decode cX4_init 74 = .ok (.aload_n 0, 1) := by decide +kernel
theorem dX4_init_75 : decode cX4_init 75 = .ok (.bipush 30, 2) := by decide +kernel
theorem dX4_init_77 : decode cX4_init 77 = .ok (.newarray .int, 2) := by decide +kernel
theorem dX4_init_79 : decode cX4_init 79 = .ok (.putfield 38, 3) := by decide +kernel
theorem dX4_init_82 : decode cX4_init 82 = .ok (.aload_n 0, 1) := by decide +kernel
theorem dX4_init_83 : decode cX4_init 83 = .ok (.bipush 30, 2) := by decide +kernel
theorem dX4_init_85 : decode cX4_init 85 = .ok (.newarray .int, 2) := by decide +kernel
theorem dX4_init_87 : decode cX4_init 87 = .ok (.putfield 41, 3) := by decide +kernel
theorem dX4_init_90 : decode cX4_init 90 = .ok (.aload_n 0, 1) := by decide +kernel
theorem dX4_init_91 : decode cX4_init 91 = .ok (.iconst 4, 1) := by decide +kernel
theorem dX4_init_92 : decode cX4_init 92 = .ok (.newarray .int, 2) := by decide +kernel
theorem dX4_init_94 : decode cX4_init 94 = .ok (.putfield 44, 3) := by decide +kernel
theorem dX4_init_97 : decode cX4_init 97 = .ok (.aload_n 0, 1) := by decide +kernel
theorem dX4_init_98 : decode cX4_init 98 = .ok (.getfield 7, 3) := by decide +kernel
theorem dX4_init_101 : decode cX4_init 101 = .ok (.iconst 0, 1) := by decide +kernel
theorem dX4_init_102 : decode cX4_init 102 = .ok (.iconst (-1), 1) := by decide +kernel
theorem dX4_init_103 : decode cX4_init 103 = .ok (.iastore, 1) := by decide +kernel
theorem dX4_init_104 : decode cX4_init 104 = .ok (.aload_n 0, 1) := by decide +kernel
theorem dX4_init_105 : decode cX4_init 105 = .ok (.getfield 13, 3) := by decide +kernel
theorem dX4_init_108 : decode cX4_init 108 = .ok (.iconst 0, 1) := by decide +kernel
theorem dX4_init_109 : decode cX4_init 109 = .ok (.iconst (-1), 1) := by decide +kernel
theorem dX4_init_110 : decode cX4_init 110 = .ok (.iastore, 1) := by decide +kernel
theorem dX4_init_111 : decode cX4_init 111 = .ok (.iconst 0, 1) := by decide +kernel
theorem dX4_init_112 : decode cX4_init 112 = .ok (.istore_n 1, 1) := by decide +kernel
theorem dX4_init_113 : decode cX4_init 113 = .ok (.iload_n 1, 1) := by decide +kernel
theorem dX4_init_114 : decode cX4_init 114 = .ok (.iconst 4, 1) := by decide +kernel
theorem dX4_init_115 : decode cX4_init 115 = .ok (.if_icmp .ge 17, 3) := by decide +kernel
theorem dX4_init_118 : decode cX4_init 118 = .ok (.aload_n 0, 1) := by decide +kernel
theorem dX4_init_119 : decode cX4_init 119 = .ok (.getfield 44, 3) := by decide +kernel
theorem dX4_init_122 : decode cX4_init 122 = .ok (.iload_n 1, 1) := by decide +kernel
theorem dX4_init_123 : decode cX4_init 123 = .ok (.bipush 100, 2) := by decide +kernel
theorem dX4_init_125 : decode cX4_init 125 = .ok (.iastore, 1) := by decide +kernel
theorem dX4_init_126 : decode cX4_init 126 = .ok (.iinc 1 1, 3) := by decide +kernel
theorem dX4_init_129 : decode cX4_init 129 = .ok (.goto (-16), 3) := by decide +kernel
theorem dX4_init_132 : decode cX4_init 132 = .ok (.return_, 1) := by decide +kernel
theorem dX4_thrown_0 : decode cX4_thrown 0 = .ok (.aload_n 0, 1) := by decide +kernel
theorem dX4_thrown_1 : decode cX4_thrown 1 = .ok (.getfield 47, 3) := by decide +kernel
theorem dX4_thrown_4 : decode cX4_thrown 4 = .ok (.ireturn, 1) := by decide +kernel
theorem dX4_in_0 : decode cX4_in 0 = .ok (.iload_n 0, 1) := by decide +kernel
theorem dX4_in_1 : decode cX4_in 1 = .ok (.iload_n 1, 1) := by decide +kernel
theorem dX4_in_2 : decode cX4_in 2 = .ok (.if_icmp .lt 12, 3) := by decide +kernel
theorem dX4_in_5 : decode cX4_in 5 = .ok (.iload_n 0, 1) := by decide +kernel
theorem dX4_in_6 : decode cX4_in 6 = .ok (.iload_n 2, 1) := by decide +kernel
theorem dX4_in_7 : decode cX4_in 7 = .ok (.if_icmp .gt 7, 3) := by decide +kernel
theorem dX4_in_10 : decode cX4_in 10 = .ok (.iconst 1, 1) := by decide +kernel
theorem dX4_in_11 : decode cX4_in 11 = .ok (.goto 4, 3) := by decide +kernel
theorem dX4_in_14 : decode cX4_in 14 = .ok (.iconst 0, 1) := by decide +kernel
theorem dX4_in_15 : decode cX4_in 15 = .ok (.ireturn, 1) := by decide +kernel
theorem dX4_isFine_0 : decode cX4_isFine 0 = .ok (.aload_n 0, 1) := by decide +kernel
theorem dX4_isFine_1 : decode cX4_isFine 1 = .ok (.iload_n 1, 1) := by decide +kernel
theorem dX4_isFine_2 : decode cX4_isFine 2 = .ok (.putfield 47, 3) := by decide +kernel
theorem dX4_isFine_5 : decode cX4_isFine 5 = .ok (.iload_n 1, 1) := by decide +kernel
theorem dX4_isFine_6 : decode cX4_isFine 6 = .ok (.ifCond .ne 7, 3) := by decide +kernel
theorem dX4_isFine_9 : decode cX4_isFine 9 = .ok (.iconst 1, 1) := by decide +kernel
theorem dX4_isFine_10 : decode cX4_isFine 10 = .ok (.goto 4, 3) := by decide +kernel
theorem dX4_isFine_13 : decode cX4_isFine 13 = .ok (.iconst 0, 1) := by decide +kernel
theorem dX4_isFine_14 : decode cX4_isFine 14 = .ok (.ireturn, 1) := by decide +kernel
set_option maxRecDepth 20000 in
theorem ggX4_isDirectory_X4_in : GoodIn wsX4_isDirectory wsX4_in := goodIn_r _ [5] (by decide +kernel) (by decide +kernel)
set_option maxRecDepth 20000 in
theorem gX4_isDirectory_X4_in : GoodIn wsX4_isDirectory (va_wsS RX4 50 yX4_in wsX4_in) := goodIn_app (goodIn_of _ (by decide +kernel)) ggX4_isDirectory_X4_in
theorem dX4_isDirectory_0 : decode cX4_isDirectory 0 = .ok (.iload_n 1, 1) := by decide +kernel
theorem dX4_isDirectory_1 : decode cX4_isDirectory 1 = .ok (.iconst 0, 1) := by decide +kernel
theorem dX4_isDirectory_2 : decode cX4_isDirectory 2 = .ok (.aload_n 0, 1) := by decide +kernel
theorem dX4_isDirectory_3 : decode cX4_isDirectory 3 = .ok (.getfield 16, 3) := by decide +kernel
theorem dX4_isDirectory_6 : decode cX4_isDirectory 6 = .ok (.iconst 1, 1) := by decide +kernel
theorem dX4_isDirectory_7 : decode cX4_isDirectory 7 = .ok (.isub, 1) := by decide +kernel
theorem dX4_isDirectory_8 : decode cX4_isDirectory 8 = .ok (.invokestatic 50, 3) := by decide +kernel
theorem dX4_isDirectory_11 : decode cX4_isDirectory 11 = .ok (.ireturn, 1) := by decide +kernel
set_option maxRecDepth 20000 in
theorem ggX4_isFile_X4_in : GoodIn wsX4_isFile wsX4_in := goodIn_r _ [5] (by decide +kernel) (by decide +kernel)
set_option maxRecDepth 20000 in
theorem gX4_isFile_X4_in : GoodIn wsX4_isFile (va_wsS RX4 50 yX4_in wsX4_in) := goodIn_app (goodIn_of _ (by decide +kernel)) ggX4_isFile_X4_in
theorem dX4_isFile_0 : decode cX4_isFile 0 = .ok (.iload_n 1, 1) := by decide +kernel
theorem dX4_isFile_1 : decode cX4_isFile 1 = .ok (.iconst 0, 1) := by decide +kernel
theorem dX4_isFile_2 : decode cX4_isFile 2 = .ok (.aload_n 0, 1) := by decide +kernel
theorem dX4_isFile_3 : decode cX4_isFile 3 = .ok (.getfield 54, 3) := by decide +kernel
theorem dX4_isFile_6 : decode cX4_isFile 6 = .ok (.iconst 1, 1) := by decide +kernel
theorem dX4_isFile_7 : decode cX4_isFile 7 = .ok (.isub, 1) := by decide +kernel
theorem dX4_isFile_8 : decode cX4_isFile 8 = .ok (.invokestatic 50, 3) := by decide +kernel
theorem dX4_isFile_11 : decode cX4_isFile 11 = .ok (.ireturn, 1) := by decide +kernel
set_option maxRecDepth 20000 in
theorem ggX4_isDepartment_X4_in : GoodIn wsX4_isDepartment wsX4_in := goodIn_r _ [4] (by decide +kernel) (by decide +kernel)
set_option maxRecDepth 20000 in
theorem gX4_isDepartment_X4_in : GoodIn wsX4_isDepartment (va_wsS RX4 50 yX4_in wsX4_in) := goodIn_app (goodIn_of _ (by decide +kernel)) ggX4_isDepartment_X4_in
theorem dX4_isDepartment_0 : decode cX4_isDepartment 0 = .ok (.iload_n 0, 1) := by decide +kernel
theorem dX4_isDepartment_1 : decode cX4_isDepartment 1 = .ok (.iconst 0, 1) := by decide +kernel
theorem dX4_isDepartment_2 : decode cX4_isDepartment 2 = .ok (.iconst 3, 1) := by decide +kernel
theorem dX4_isDepartment_3 : decode cX4_isDepartment 3 = .ok (.invokestatic 50, 3) := by decide +kernel
theorem dX4_isDepartment_6 : decode cX4_isDepartment 6 = .ok (.ireturn, 1) := by decide +kernel
set_option maxRecDepth 20000 in
theorem ggX4_addDirectory_X4_isDirectory : GoodIn wsX4_addDirectory wsX4_isDirectory := goodIn_r _ [9, 2, 10, 11, 8, 12, 18, 19, 20, 21, 22, 23, 24, 25, 26, 27, 28, 29, 30, 31, 32] (by decide +kernel) (by decide +kernel)
set_option maxRecDepth 20000 in
theorem gX4_addDirectory_X4_isDirectory : GoodIn wsX4_addDirectory (wsV RX4 57 RX4 yX4_isDirectory wsX4_isDirectory) := goodIn_app (goodIn_of _ (by decide +kernel)) ggX4_addDirectory_X4_isDirectory
set_option maxRecDepth 20000 in
theorem ggX4_addDirectory_X4_in : GoodIn wsX4_addDirectory wsX4_in := goodIn_r _ [12] (by decide +kernel) (by decide +kernel)
set_option maxRecDepth 20000 in
theorem gX4_addDirectory_X4_in : GoodIn wsX4_addDirectory (va_wsS RX4 50 yX4_in wsX4_in) := goodIn_app (goodIn_of _ (by decide +kernel)) ggX4_addDirectory_X4_in
set_option maxRecDepth 20000 in
theorem ggX4_addDirectory_X4_isFine : GoodIn wsX4_addDirectory wsX4_isFine := goodIn_r _ [16, 17, 18, 19, 20, 21, 22, 23, 24, 25, 26, 27, 28, 29, 30, 31, 32] (by decide +kernel) (by decide +kernel)
set_option maxRecDepth 20000 in
theorem gX4_addDirectory_X4_isFine : GoodIn wsX4_addDirectory (wsV RX4 62 RX4 yX4_isFine wsX4_isFine) := goodIn_app (goodIn_of _ (by decide +kernel)) ggX4_addDirectory_X4_isFine
theorem dX4_addDirectory_0 : decode cX4_addDirectory 0 = .ok (.aload_n 0, 1) := by decide +kernel
theorem dX4_addDirectory_1 : decode cX4_addDirectory 1 = .ok (.aload_n 0, 1) := by decide +kernel
theorem dX4_addDirectory_2 : decode cX4_addDirectory 2 = .ok (.iload_n 1, 1) := by decide +kernel
theorem dX4_addDirectory_3 : decode cX4_addDirectory 3 = .ok (.invokevirtual 57, 3) := by decide +kernel
theorem dX4_addDirectory_6 : decode cX4_addDirectory 6 = .ok (.ifCond .ne 7, 3) := by decide +kernel
theorem dX4_addDirectory_9 : decode cX4_addDirectory 9 = .ok (.iconst 1, 1) := by decide +kernel
theorem dX4_addDirectory_10 : decode cX4_addDirectory 10 = .ok (.goto 31, 3) := by decide +kernel
theorem dX4_addDirectory_13 : decode cX4_addDirectory 13 = .ok (.iload_n 2, 1) := by decide +kernel
theorem dX4_addDirectory_14 : decode cX4_addDirectory 14 = .ok (.iconst (-1), 1) := by decide +kernel
theorem dX4_addDirectory_15 : decode cX4_addDirectory 15 = .ok (.ldc 61, 2) := by decide +kernel
theorem dX4_addDirectory_17 : decode cX4_addDirectory 17 = .ok (.invokestatic 50, 3) := by decide +kernel
theorem dX4_addDirectory_20 : decode cX4_addDirectory 20 = .ok (.ifCond .ne 7, 3) := by decide +kernel
theorem dX4_addDirectory_23 : decode cX4_addDirectory 23 = .ok (.iconst 2, 1) := by decide +kernel
theorem dX4_addDirectory_24 : decode cX4_addDirectory 24 = .ok (.goto 17, 3) := by decide +kernel
theorem dX4_addDirectory_27 : decode cX4_addDirectory 27 = .ok (.aload_n 0, 1) := by decide +kernel
theorem dX4_addDirectory_28 : decode cX4_addDirectory 28 = .ok (.getfield 16, 3) := by decide +kernel
theorem dX4_addDirectory_31 : decode cX4_addDirectory 31 = .ok (.bipush 12, 2) := by decide +kernel
theorem dX4_addDirectory_33 : decode cX4_addDirectory 33 = .ok (.if_icmp .ne 7, 3) := by decide +kernel
theorem dX4_addDirectory_36 : decode cX4_addDirectory 36 = .ok (.iconst 3, 1) := by decide +kernel
theorem dX4_addDirectory_37 : decode cX4_addDirectory 37 = .ok (.goto 4, 3) := by decide +kernel
theorem dX4_addDirectory_40 : decode cX4_addDirectory 40 = .ok (.iconst 0, 1) := by decide +kernel
theorem dX4_addDirectory_41 : decode cX4_addDirectory 41 = .ok (.invokevirtual 62, 3) := by decide +kernel
theorem dX4_addDirectory_44 : decode cX4_addDirectory 44 = .ok (.ifCond .ne 5, 3) := by decide +kernel
theorem dX4_addDirectory_47 : decode cX4_addDirectory 47 = .ok (.iconst 0, 1) := by decide +kernel
theorem dX4_addDirectory_48 : decode cX4_addDirectory 48 = .ok (.ireturn, 1) := by decide +kernel
theorem dX4_addDirectory_49 : decode cX4_addDirectory 49 = .ok (.aload_n 0, 1) := by decide +kernel
theorem dX4_addDirectory_50 : decode cX4_addDirectory 50 = .ok (.getfield 7, 3) := by decide +kernel
theorem dX4_addDirectory_53 : decode cX4_addDirectory 53 = .ok (.aload_n 0, 1) := by decide +kernel
theorem dX4_addDirectory_54 : decode cX4_addDirectory 54 = .ok (.getfield 16, 3) := by decide +kernel
theorem dX4_addDirectory_57 : decode cX4_addDirectory 57 = .ok (.iload_n 1, 1) := by decide +kernel
theorem dX4_addDirectory_58 : decode cX4_addDirectory 58 = .ok (.iastore, 1) := by decide +kernel
theorem dX4_addDirectory_59 : decode cX4_addDirectory 59 = .ok (.aload_n 0, 1) := by decide +kernel
theorem dX4_addDirectory_60 : decode cX4_addDirectory 60 = .ok (.getfield 13, 3) := by decide +kernel
theorem dX4_addDirectory_63 : decode cX4_addDirectory 63 = .ok (.aload_n 0, 1) := by decide +kernel
theorem dX4_addDirectory_64 : decode cX4_addDirectory 64 = .ok (.getfield 16, 3) := by decide +kernel
theorem dX4_addDirectory_67 : decode cX4_addDirectory 67 = .ok (.iload_n 2, 1) := by decide +kernel
theorem dX4_addDirectory_68 : decode cX4_addDirectory 68 = .ok (.iastore, 1) := by decide +kernel
theorem dX4_addDirectory_69 : decode cX4_addDirectory 69 = .ok (.aload_n 0, 1) := by decide +kernel
theorem dX4_addDirectory_70 : decode cX4_addDirectory 70 = .ok (.dup, 1) := by decide +kernel
theorem dX4_addDirectory_71 : decode cX4_addDirectory 71 = .ok (.getfield 16, 3) := by decide +kernel
theorem dX4_addDirectory_74 : decode cX4_addDirectory 74 = .ok (.iconst 1, 1) := by decide +kernel
theorem dX4_addDirectory_75 : decode cX4_addDirectory 75 = .ok (.iadd, 1) := by decide +kernel
theorem dX4_addDirectory_76 : decode cX4_addDirectory 76 = .ok (.putfield 16, 3) := by decide +kernel
theorem dX4_addDirectory_79 : decode cX4_addDirectory 79 = .ok (.aload_n 0, 1) := by decide +kernel
theorem dX4_addDirectory_80 : decode cX4_addDirectory 80 = .ok (.getfield 16, 3) := by decide +kernel
theorem dX4_addDirectory_83 : decode cX4_addDirectory 83 = .ok (.iconst 1, 1) := by decide +kernel
theorem dX4_addDirectory_84 : decode cX4_addDirectory 84 = .ok (.isub, 1) := by decide +kernel
theorem dX4_addDirectory_85 : decode cX4_addDirectory 85 = .ok (.ireturn, 1) := by decide +kernel
set_option maxRecDepth 20000 in
theorem ggX4_setQuota_X4_isDirectory : GoodIn wsX4_setQuota wsX4_isDirectory := goodIn_r _ [7, 8, 9, 10, 6, 11, 17, 18, 19, 20, 21, 22, 23, 24, 25, 26, 27, 28, 29, 30, 31] (by decide +kernel) (by decide +kernel)
set_option maxRecDepth 20000 in
theorem gX4_setQuota_X4_isDirectory : GoodIn wsX4_setQuota (wsV RX4 57 RX4 yX4_isDirectory wsX4_isDirectory) := goodIn_app (goodIn_of _ (by decide +kernel)) ggX4_setQuota_X4_isDirectory
set_option maxRecDepth 20000 in
theorem ggX4_setQuota_X4_in : GoodIn wsX4_setQuota wsX4_in := goodIn_r _ [11] (by decide +kernel) (by decide +kernel)
set_option maxRecDepth 20000 in
theorem gX4_setQuota_X4_in : GoodIn wsX4_setQuota (va_wsS RX4 50 yX4_in wsX4_in) := goodIn_app (goodIn_of _ (by decide +kernel)) ggX4_setQuota_X4_in
set_option maxRecDepth 20000 in
theorem ggX4_setQuota_X4_isFine : GoodIn wsX4_setQuota wsX4_isFine := goodIn_r _ [15, 16, 17, 18, 19, 20, 21, 22, 23, 24, 25, 26, 27, 28, 29, 30, 31] (by decide +kernel) (by decide +kernel)
set_option maxRecDepth 20000 in
theorem gX4_setQuota_X4_isFine : GoodIn wsX4_setQuota (wsV RX4 62 RX4 yX4_isFine wsX4_isFine) := goodIn_app (goodIn_of _ (by decide +kernel)) ggX4_setQuota_X4_isFine
theorem dX4_setQuota_0 : decode cX4_setQuota 0 = .ok (.aload_n 0, 1) := by decide +kernel
theorem dX4_setQuota_1 : decode cX4_setQuota 1 = .ok (.aload_n 0, 1) := by decide +kernel
theorem dX4_setQuota_2 : decode cX4_setQuota 2 = .ok (.iload_n 1, 1) := by decide +kernel
theorem dX4_setQuota_3 : decode cX4_setQuota 3 = .ok (.invokevirtual 57, 3) := by decide +kernel
theorem dX4_setQuota_6 : decode cX4_setQuota 6 = .ok (.ifCond .ne 7, 3) := by decide +kernel
theorem dX4_setQuota_9 : decode cX4_setQuota 9 = .ok (.iconst 1, 1) := by decide +kernel
theorem dX4_setQuota_10 : decode cX4_setQuota 10 = .ok (.goto 18, 3) := by decide +kernel
theorem dX4_setQuota_13 : decode cX4_setQuota 13 = .ok (.iload_n 2, 1) := by decide +kernel
theorem dX4_setQuota_14 : decode cX4_setQuota 14 = .ok (.iconst (-1), 1) := by decide +kernel
theorem dX4_setQuota_15 : decode cX4_setQuota 15 = .ok (.ldc 61, 2) := by decide +kernel
theorem dX4_setQuota_17 : decode cX4_setQuota 17 = .ok (.invokestatic 50, 3) := by decide +kernel
theorem dX4_setQuota_20 : decode cX4_setQuota 20 = .ok (.ifCond .ne 7, 3) := by decide +kernel
theorem dX4_setQuota_23 : decode cX4_setQuota 23 = .ok (.iconst 2, 1) := by decide +kernel
theorem dX4_setQuota_24 : decode cX4_setQuota 24 = .ok (.goto 4, 3) := by decide +kernel
theorem dX4_setQuota_27 : decode cX4_setQuota 27 = .ok (.iconst 0, 1) := by decide +kernel
theorem dX4_setQuota_28 : decode cX4_setQuota 28 = .ok (.invokevirtual 62, 3) := by decide +kernel
theorem dX4_setQuota_31 : decode cX4_setQuota 31 = .ok (.ifCond .ne 5, 3) := by decide +kernel
theorem dX4_setQuota_34 : decode cX4_setQuota 34 = .ok (.iconst 0, 1) := by decide +kernel
theorem dX4_setQuota_35 : decode cX4_setQuota 35 = .ok (.ireturn, 1) := by decide +kernel
theorem dX4_setQuota_36 : decode cX4_setQuota 36 = .ok (.aload_n 0, 1) := by decide +kernel
theorem dX4_setQuota_37 : decode cX4_setQuota 37 = .ok (.getfield 13, 3) := by decide +kernel
theorem dX4_setQuota_40 : decode cX4_setQuota 40 = .ok (.iload_n 1, 1) := by decide +kernel
theorem dX4_setQuota_41 : decode cX4_setQuota 41 = .ok (.iaload, 1) := by decide +kernel
theorem dX4_setQuota_42 : decode cX4_setQuota 42 = .ok (.istore_n 3, 1) := by decide +kernel
theorem dX4_setQuota_43 : decode cX4_setQuota 43 = .ok (.aload_n 0, 1) := by decide +kernel
theorem dX4_setQuota_44 : decode cX4_setQuota 44 = .ok (.getfield 13, 3) := by decide +kernel
theorem dX4_setQuota_47 : decode cX4_setQuota 47 = .ok (.iload_n 1, 1) := by decide +kernel
theorem dX4_setQuota_48 : decode cX4_setQuota 48 = .ok (.iload_n 2, 1) := by decide +kernel
theorem dX4_setQuota_49 : decode cX4_setQuota 49 = .ok (.iastore, 1) := by decide +kernel
theorem dX4_setQuota_50 : decode cX4_setQuota 50 = .ok (.iload_n 3, 1) := by decide +kernel
theorem dX4_setQuota_51 : decode cX4_setQuota 51 = .ok (.ireturn, 1) := by decide +kernel
theorem dX4_homeOf_0 : decode cX4_homeOf 0 = .ok (.aload_n 0, 1) := by decide +kernel
theorem dX4_homeOf_1 : decode cX4_homeOf 1 = .ok (.getfield 29, 3) := by decide +kernel
theorem dX4_homeOf_4 : decode cX4_homeOf 4 = .ok (.iload_n 1, 1) := by decide +kernel
theorem dX4_homeOf_5 : decode cX4_homeOf 5 = .ok (.iaload, 1) := by decide +kernel
theorem dX4_homeOf_6 : decode cX4_homeOf 6 = .ok (.ifCond .ne 7, 3) := by decide +kernel
theorem dX4_homeOf_9 : decode cX4_homeOf 9 = .ok (.iconst (-1), 1) := by decide +kernel
theorem dX4_homeOf_10 : decode cX4_homeOf 10 = .ok (.goto 12, 3) := by decide +kernel
theorem dX4_homeOf_13 : decode cX4_homeOf 13 = .ok (.aload_n 0, 1) := by decide +kernel
theorem dX4_homeOf_14 : decode cX4_homeOf 14 = .ok (.getfield 26, 3) := by decide +kernel
theorem dX4_homeOf_17 : decode cX4_homeOf 17 = .ok (.bipush 12, 2) := by decide +kernel
theorem dX4_homeOf_19 : decode cX4_homeOf 19 = .ok (.iload_n 1, 1) := by decide +kernel
theorem dX4_homeOf_20 : decode cX4_homeOf 20 = .ok (.imul, 1) := by decide +kernel
theorem dX4_homeOf_21 : decode cX4_homeOf 21 = .ok (.iaload, 1) := by decide +kernel
theorem dX4_homeOf_22 : decode cX4_homeOf 22 = .ok (.ireturn, 1) := by decide +kernel
theorem dX4_isOver_0 : decode cX4_isOver 0 = .ok (.iload_n 1, 1) := by decide +kernel
theorem dX4_isOver_1 : decode cX4_isOver 1 = .ok (.istore_n 3, 1) := by decide +kernel
theorem dX4_isOver_2 : decode cX4_isOver 2 = .ok (.iload_n 3, 1) := by decide +kernel
theorem dX4_isOver_3 : decode cX4_isOver 3 = .ok (.iconst (-1), 1) := by decide +kernel
theorem dX4_isOver_4 : decode cX4_isOver 4 = .ok (.if_icmp .eq 18, 3) := by decide +kernel
theorem dX4_isOver_7 : decode cX4_isOver 7 = .ok (.iload_n 3, 1) := by decide +kernel
theorem dX4_isOver_8 : decode cX4_isOver 8 = .ok (.iload_n 2, 1) := by decide +kernel
theorem dX4_isOver_9 : decode cX4_isOver 9 = .ok (.if_icmp .eq 13, 3) := by decide +kernel
theorem dX4_isOver_12 : decode cX4_isOver 12 = .ok (.aload_n 0, 1) := by decide +kernel
theorem dX4_isOver_13 : decode cX4_isOver 13 = .ok (.getfield 7, 3) := by decide +kernel
theorem dX4_isOver_16 : decode cX4_isOver 16 = .ok (.iload_n 3, 1) := by decide +kernel
theorem dX4_isOver_17 : decode cX4_isOver 17 = .ok (.iaload, 1) := by decide +kernel
theorem dX4_isOver_18 : decode cX4_isOver 18 = .ok (.istore_n 3, 1) := by decide +kernel
theorem dX4_isOver_19 : decode cX4_isOver 19 = .ok (.goto (-17), 3) := by decide +kernel
theorem dX4_isOver_22 : decode cX4_isOver 22 = .ok (.iload_n 3, 1) := by decide +kernel
theorem dX4_isOver_23 : decode cX4_isOver 23 = .ok (.iload_n 2, 1) := by decide +kernel
theorem dX4_isOver_24 : decode cX4_isOver 24 = .ok (.if_icmp .ne 7, 3) := by decide +kernel
theorem dX4_isOver_27 : decode cX4_isOver 27 = .ok (.iconst 1, 1) := by decide +kernel
theorem dX4_isOver_28 : decode cX4_isOver 28 = .ok (.goto 4, 3) := by decide +kernel
theorem dX4_isOver_31 : decode cX4_isOver 31 = .ok (.iconst 0, 1) := by decide +kernel
theorem dX4_isOver_32 : decode cX4_isOver 32 = .ok (.ireturn, 1) := by decide +kernel
set_option maxRecDepth 20000 in
theorem ggX4_usageOf_X4_homeOf : GoodIn wsX4_usageOf wsX4_homeOf := goodIn_r _ [8, 2, 9, 15, 16, 17, 18, 19, 20, 21, 22, 23, 24, 25, 26, 27, 28, 29] (by decide +kernel) (by decide +kernel)
set_option maxRecDepth 20000 in
theorem gX4_usageOf_X4_homeOf : GoodIn wsX4_usageOf (wsV RX4 65 RX4 yX4_homeOf wsX4_homeOf) := goodIn_app (goodIn_of _ (by decide +kernel)) ggX4_usageOf_X4_homeOf
set_option maxRecDepth 20000 in
theorem ggX4_usageOf_X4_isOver : GoodIn wsX4_usageOf wsX4_isOver := goodIn_r _ [13, 14, 15, 16, 17, 18, 19, 20, 21, 22, 23, 24, 25, 26, 27, 28, 29] (by decide +kernel) (by decide +kernel)
set_option maxRecDepth 20000 in
theorem gX4_usageOf_X4_isOver : GoodIn wsX4_usageOf (wsV RX4 69 RX4 yX4_isOver wsX4_isOver) := goodIn_app (goodIn_of _ (by decide +kernel)) ggX4_usageOf_X4_isOver
theorem dX4_usageOf_0 : decode cX4_usageOf 0 = .ok (.iconst 0, 1) := by decide +kernel
theorem dX4_usageOf_1 : decode cX4_usageOf 1 = .ok (.istore_n 2, 1) := by decide +kernel
theorem dX4_usageOf_2 : decode cX4_usageOf 2 = .ok (.iconst 0, 1) := by decide +kernel
theorem dX4_usageOf_3 : decode cX4_usageOf 3 = .ok (.istore_n 3, 1) := by decide +kernel
theorem dX4_usageOf_4 : decode cX4_usageOf 4 = .ok (.iload_n 3, 1) := by decide +kernel
theorem dX4_usageOf_5 : decode cX4_usageOf 5 = .ok (.aload_n 0, 1) := by decide +kernel
theorem dX4_usageOf_6 : decode cX4_usageOf 6 = .ok (.getfield 54, 3) := by decide +kernel
theorem dX4_usageOf_9 : decode cX4_usageOf 9 = .ok (.if_icmp .ge 44, 3) := by decide +kernel
theorem dX4_usageOf_12 : decode cX4_usageOf 12 = .ok (.iload_n 2, 1) := by decide +kernel
theorem dX4_usageOf_13 : decode cX4_usageOf 13 = .ok (.aload_n 0, 1) := by decide +kernel
theorem dX4_usageOf_14 : decode cX4_usageOf 14 = .ok (.getfield 29, 3) := by decide +kernel
theorem dX4_usageOf_17 : decode cX4_usageOf 17 = .ok (.iload_n 3, 1) := by decide +kernel
theorem dX4_usageOf_18 : decode cX4_usageOf 18 = .ok (.iaload, 1) := by decide +kernel
theorem dX4_usageOf_19 : decode cX4_usageOf 19 = .ok (.ifCond .le 25, 3) := by decide +kernel
theorem dX4_usageOf_22 : decode cX4_usageOf 22 = .ok (.aload_n 0, 1) := by decide +kernel
theorem dX4_usageOf_23 : decode cX4_usageOf 23 = .ok (.aload_n 0, 1) := by decide +kernel
theorem dX4_usageOf_24 : decode cX4_usageOf 24 = .ok (.iload_n 3, 1) := by decide +kernel
theorem dX4_usageOf_25 : decode cX4_usageOf 25 = .ok (.invokevirtual 65, 3) := by decide +kernel
theorem dX4_usageOf_28 : decode cX4_usageOf 28 = .ok (.iload_n 1, 1) := by decide +kernel
theorem dX4_usageOf_29 : decode cX4_usageOf 29 = .ok (.invokevirtual 69, 3) := by decide +kernel
theorem dX4_usageOf_32 : decode cX4_usageOf 32 = .ok (.ifCond .eq 12, 3) := by decide +kernel
theorem dX4_usageOf_35 : decode cX4_usageOf 35 = .ok (.aload_n 0, 1) := by decide +kernel
theorem dX4_usageOf_36 : decode cX4_usageOf 36 = .ok (.getfield 23, 3) := by decide +kernel
theorem dX4_usageOf_39 : decode cX4_usageOf 39 = .ok (.iload_n 3, 1) := by decide +kernel
theorem dX4_usageOf_40 : decode cX4_usageOf 40 = .ok (.iaload, 1) := by decide +kernel
theorem dX4_usageOf_41 : decode cX4_usageOf 41 = .ok (.goto 4, 3) := by decide +kernel
theorem dX4_usageOf_44 : decode cX4_usageOf 44 = .ok (.iconst 0, 1) := by decide +kernel
theorem dX4_usageOf_45 : decode cX4_usageOf 45 = .ok (.iadd, 1) := by decide +kernel
theorem dX4_usageOf_46 : decode cX4_usageOf 46 = .ok (.istore_n 2, 1) := by decide +kernel
theorem dX4_usageOf_47 : decode cX4_usageOf 47 = .ok (.iinc 3 1, 3) := by decide +kernel
theorem dX4_usageOf_50 : decode cX4_usageOf 50 = .ok (.goto (-46), 3) := by decide +kernel
theorem dX4_usageOf_53 : decode cX4_usageOf 53 = .ok (.iload_n 2, 1) := by decide +kernel
theorem dX4_usageOf_54 : decode cX4_usageOf 54 = .ok (.ireturn, 1) := by decide +kernel
set_option maxRecDepth 20000 in
theorem ggX4_canGrow_X4_usageOf : GoodIn wsX4_canGrow wsX4_usageOf := goodIn_r _ [8, 9, 10, 11, 12, 13, 14, 7, 15, 16, 17, 18, 19, 20, 3, 21, 22, 23, 24, 25, 26, 27, 28, 29, 30, 31, 32, 33, 34, 35] (by decide +kernel) (by decide +kernel)
set_option maxRecDepth 20000 in
theorem gX4_canGrow_X4_usageOf : GoodIn wsX4_canGrow (wsV RX4 73 RX4 yX4_usageOf wsX4_usageOf) := goodIn_app (goodIn_of _ (by decide +kernel)) ggX4_canGrow_X4_usageOf
theorem dX4_canGrow_0 : decode cX4_canGrow 0 = .ok (.aload_n 0, 1) := by decide +kernel
theorem dX4_canGrow_1 : decode cX4_canGrow 1 = .ok (.getfield 44, 3) := by decide +kernel
theorem dX4_canGrow_4 : decode cX4_canGrow 4 = .ok (.iload_n 1, 1) := by decide +kernel
theorem dX4_canGrow_5 : decode cX4_canGrow 5 = .ok (.iaload, 1) := by decide +kernel
theorem dX4_canGrow_6 : decode cX4_canGrow 6 = .ok (.ifCond .le 7, 3) := by decide +kernel
theorem dX4_canGrow_9 : decode cX4_canGrow 9 = .ok (.iconst 1, 1) := by decide +kernel
theorem dX4_canGrow_10 : decode cX4_canGrow 10 = .ok (.goto 4, 3) := by decide +kernel
theorem dX4_canGrow_13 : decode cX4_canGrow 13 = .ok (.iconst 0, 1) := by decide +kernel
theorem dX4_canGrow_14 : decode cX4_canGrow 14 = .ok (.istore 4, 2) := by decide +kernel
theorem dX4_canGrow_16 : decode cX4_canGrow 16 = .ok (.iload_n 2, 1) := by decide +kernel
theorem dX4_canGrow_17 : decode cX4_canGrow 17 = .ok (.istore 5, 2) := by decide +kernel
theorem dX4_canGrow_19 : decode cX4_canGrow 19 = .ok (.iload 5, 2) := by decide +kernel
theorem dX4_canGrow_21 : decode cX4_canGrow 21 = .ok (.iconst (-1), 1) := by decide +kernel
theorem dX4_canGrow_22 : decode cX4_canGrow 22 = .ok (.if_icmp .eq 56, 3) := by decide +kernel
theorem dX4_canGrow_25 : decode cX4_canGrow 25 = .ok (.iload 4, 2) := by decide +kernel
theorem dX4_canGrow_27 : decode cX4_canGrow 27 = .ok (.ifCond .eq 36, 3) := by decide +kernel
theorem dX4_canGrow_30 : decode cX4_canGrow 30 = .ok (.aload_n 0, 1) := by decide +kernel
theorem dX4_canGrow_31 : decode cX4_canGrow 31 = .ok (.getfield 13, 3) := by decide +kernel
theorem dX4_canGrow_34 : decode cX4_canGrow 34 = .ok (.iload 5, 2) := by decide +kernel
theorem dX4_canGrow_36 : decode cX4_canGrow 36 = .ok (.iaload, 1) := by decide +kernel
theorem dX4_canGrow_37 : decode cX4_canGrow 37 = .ok (.iconst (-1), 1) := by decide +kernel
theorem dX4_canGrow_38 : decode cX4_canGrow 38 = .ok (.if_icmp .eq 21, 3) := by decide +kernel
theorem dX4_canGrow_41 : decode cX4_canGrow 41 = .ok (.aload_n 0, 1) := by decide +kernel
theorem dX4_canGrow_42 : decode cX4_canGrow 42 = .ok (.iload 5, 2) := by decide +kernel
theorem dX4_canGrow_44 : decode cX4_canGrow 44 = .ok (.invokevirtual 73, 3) := by decide +kernel
theorem dX4_canGrow_47 : decode cX4_canGrow 47 = .ok (.iload_n 3, 1) := by decide +kernel
theorem dX4_canGrow_48 : decode cX4_canGrow 48 = .ok (.iadd, 1) := by decide +kernel
theorem dX4_canGrow_49 : decode cX4_canGrow 49 = .ok (.aload_n 0, 1) := by decide +kernel
theorem dX4_canGrow_50 : decode cX4_canGrow 50 = .ok (.getfield 13, 3) := by decide +kernel
theorem dX4_canGrow_53 : decode cX4_canGrow 53 = .ok (.iload 5, 2) := by decide +kernel
theorem dX4_canGrow_55 : decode cX4_canGrow 55 = .ok (.iaload, 1) := by decide +kernel
theorem dX4_canGrow_56 : decode cX4_canGrow 56 = .ok (.if_icmp .gt 7, 3) := by decide +kernel
theorem dX4_canGrow_59 : decode cX4_canGrow 59 = .ok (.iconst 1, 1) := by decide +kernel
theorem dX4_canGrow_60 : decode cX4_canGrow 60 = .ok (.goto 4, 3) := by decide +kernel
theorem dX4_canGrow_63 : decode cX4_canGrow 63 = .ok (.iconst 0, 1) := by decide +kernel
theorem dX4_canGrow_64 : decode cX4_canGrow 64 = .ok (.istore 4, 2) := by decide +kernel
theorem dX4_canGrow_66 : decode cX4_canGrow 66 = .ok (.aload_n 0, 1) := by decide +kernel
theorem dX4_canGrow_67 : decode cX4_canGrow 67 = .ok (.getfield 7, 3) := by decide +kernel
theorem dX4_canGrow_70 : decode cX4_canGrow 70 = .ok (.iload 5, 2) := by decide +kernel
theorem dX4_canGrow_72 : decode cX4_canGrow 72 = .ok (.iaload, 1) := by decide +kernel
theorem dX4_canGrow_73 : decode cX4_canGrow 73 = .ok (.istore 5, 2) := by decide +kernel
theorem dX4_canGrow_75 : decode cX4_canGrow 75 = .ok (.goto (-56), 3) := by decide +kernel
theorem dX4_canGrow_78 : decode cX4_canGrow 78 = .ok (.iload 4, 2) := by decide +kernel
theorem dX4_canGrow_80 : decode cX4_canGrow 80 = .ok (.ireturn, 1) := by decide +kernel
set_option maxRecDepth 20000 in
theorem ggX4_make_X4_isDepartment : GoodIn wsX4_make wsX4_isDepartment := goodIn_r _ [12, 13, 14, 11, 15] (by decide +kernel) (by decide +kernel)
set_option maxRecDepth 20000 in
theorem gX4_make_X4_isDepartment : GoodIn wsX4_make (va_wsS RX4 76 yX4_isDepartment wsX4_isDepartment) := goodIn_app (goodIn_of _ (by decide +kernel)) ggX4_make_X4_isDepartment
set_option maxRecDepth 20000 in
theorem ggX4_make_X4_isDirectory : GoodIn wsX4_make wsX4_isDirectory := goodIn_r _ [19, 20, 13, 14, 11, 15, 45, 46, 47, 48, 49, 50, 51, 52, 53, 54, 55, 56, 57, 58, 59] (by decide +kernel) (by decide +kernel)
set_option maxRecDepth 20000 in
theorem gX4_make_X4_isDirectory : GoodIn wsX4_make (wsV RX4 57 RX4 yX4_isDirectory wsX4_isDirectory) := goodIn_app (goodIn_of _ (by decide +kernel)) ggX4_make_X4_isDirectory
set_option maxRecDepth 20000 in
theorem ggX4_make_X4_in : GoodIn wsX4_make wsX4_in := goodIn_r _ [15] (by decide +kernel) (by decide +kernel)
set_option maxRecDepth 20000 in
theorem gX4_make_X4_in : GoodIn wsX4_make (va_wsS RX4 50 yX4_in wsX4_in) := goodIn_app (goodIn_of _ (by decide +kernel)) ggX4_make_X4_in
set_option maxRecDepth 20000 in
theorem ggX4_make_X4_canGrow : GoodIn wsX4_make wsX4_canGrow := goodIn_r _ [24, 25, 26, 27, 28, 29, 30, 11, 31, 1, 5, 3, 32, 33, 34, 35, 4, 36, 37, 38, 39, 45, 46, 47, 48, 49, 50, 51, 52, 53, 54, 55, 56, 57, 58, 59] (by decide +kernel) (by decide +kernel)
set_option maxRecDepth 20000 in
theorem gX4_make_X4_canGrow : GoodIn wsX4_make (wsV RX4 79 RX4 yX4_canGrow wsX4_canGrow) := goodIn_app (goodIn_of _ (by decide +kernel)) ggX4_make_X4_canGrow
set_option maxRecDepth 20000 in
theorem ggX4_make_X4_isFine : GoodIn wsX4_make wsX4_isFine := goodIn_r _ [43, 44, 45, 46, 47, 48, 49, 50, 51, 52, 53, 54, 55, 56, 57, 58, 59] (by decide +kernel) (by decide +kernel)
set_option maxRecDepth 20000 in
theorem gX4_make_X4_isFine : GoodIn wsX4_make (wsV RX4 62 RX4 yX4_isFine wsX4_isFine) := goodIn_app (goodIn_of _ (by decide +kernel)) ggX4_make_X4_isFine
theorem dX4_make_0 : decode cX4_make 0 = .ok (.iload_n 1, 1) := by decide +kernel
theorem dX4_make_1 : decode cX4_make 1 = .ok (.invokestatic 76, 3) := by decide +kernel
theorem dX4_make_4 : decode cX4_make 4 = .ok (.ifCond .eq 11, 3) := by decide +kernel
theorem dX4_make_7 : decode cX4_make 7 = .ok (.aload_n 0, 1) := by decide +kernel
theorem dX4_make_8 : decode cX4_make 8 = .ok (.iload_n 2, 1) := by decide +kernel
theorem dX4_make_9 : decode cX4_make 9 = .ok (.invokevirtual 57, 3) := by decide +kernel
theorem dX4_make_12 : decode cX4_make 12 = .ok (.ifCond .ne 7, 3) := by decide +kernel
theorem dX4_make_15 : decode cX4_make 15 = .ok (.iconst 1, 1) := by decide +kernel
theorem dX4_make_16 : decode cX4_make 16 = .ok (.goto 19, 3) := by decide +kernel
theorem dX4_make_19 : decode cX4_make 19 = .ok (.iload_n 3, 1) := by decide +kernel
theorem dX4_make_20 : decode cX4_make 20 = .ok (.iconst 1, 1) := by decide +kernel
theorem dX4_make_21 : decode cX4_make 21 = .ok (.sipush 1000, 3) := by decide +kernel
theorem dX4_make_24 : decode cX4_make 24 = .ok (.invokestatic 50, 3) := by decide +kernel
theorem dX4_make_27 : decode cX4_make 27 = .ok (.ifCond .ne 7, 3) := by decide +kernel
theorem dX4_make_30 : decode cX4_make 30 = .ok (.iconst 2, 1) := by decide +kernel
theorem dX4_make_31 : decode cX4_make 31 = .ok (.goto 4, 3) := by decide +kernel
theorem dX4_make_34 : decode cX4_make 34 = .ok (.iconst 0, 1) := by decide +kernel
theorem dX4_make_35 : decode cX4_make 35 = .ok (.istore 4, 2) := by decide +kernel
theorem dX4_make_37 : decode cX4_make 37 = .ok (.aload_n 0, 1) := by decide +kernel
theorem dX4_make_38 : decode cX4_make 38 = .ok (.iload 4, 2) := by decide +kernel
theorem dX4_make_40 : decode cX4_make 40 = .ok (.ifCond .ne 26, 3) := by decide +kernel
theorem dX4_make_43 : decode cX4_make 43 = .ok (.aload_n 0, 1) := by decide +kernel
theorem dX4_make_44 : decode cX4_make 44 = .ok (.getfield 54, 3) := by decide +kernel
theorem dX4_make_47 : decode cX4_make 47 = .ok (.bipush 30, 2) := by decide +kernel
theorem dX4_make_49 : decode cX4_make 49 = .ok (.if_icmp .eq 13, 3) := by decide +kernel
theorem dX4_make_52 : decode cX4_make 52 = .ok (.aload_n 0, 1) := by decide +kernel
theorem dX4_make_53 : decode cX4_make 53 = .ok (.iload_n 1, 1) := by decide +kernel
theorem dX4_make_54 : decode cX4_make 54 = .ok (.iload_n 2, 1) := by decide +kernel
theorem dX4_make_55 : decode cX4_make 55 = .ok (.iload_n 3, 1) := by decide +kernel
theorem dX4_make_56 : decode cX4_make 56 = .ok (.invokevirtual 79, 3) := by decide +kernel
theorem dX4_make_59 : decode cX4_make 59 = .ok (.ifCond .ne 7, 3) := by decide +kernel
theorem dX4_make_62 : decode cX4_make 62 = .ok (.iconst 3, 1) := by decide +kernel
theorem dX4_make_63 : decode cX4_make 63 = .ok (.goto 5, 3) := by decide +kernel
theorem dX4_make_66 : decode cX4_make 66 = .ok (.iload 4, 2) := by decide +kernel
theorem dX4_make_68 : decode cX4_make 68 = .ok (.invokevirtual 62, 3) := by decide +kernel
theorem dX4_make_71 : decode cX4_make 71 = .ok (.ifCond .ne 5, 3) := by decide +kernel
theorem dX4_make_74 : decode cX4_make 74 = .ok (.iconst 0, 1) := by decide +kernel
theorem dX4_make_75 : decode cX4_make 75 = .ok (.ireturn, 1) := by decide +kernel
theorem dX4_make_76 : decode cX4_make 76 = .ok (.aload_n 0, 1) := by decide +kernel
theorem dX4_make_77 : decode cX4_make 77 = .ok (.getfield 20, 3) := by decide +kernel
theorem dX4_make_80 : decode cX4_make 80 = .ok (.aload_n 0, 1) := by decide +kernel
theorem dX4_make_81 : decode cX4_make 81 = .ok (.getfield 54, 3) := by decide +kernel
theorem dX4_make_84 : decode cX4_make 84 = .ok (.iload_n 1, 1) := by decide +kernel
theorem dX4_make_85 : decode cX4_make 85 = .ok (.iastore, 1) := by decide +kernel
theorem dX4_make_86 : decode cX4_make 86 = .ok (.aload_n 0, 1) := by decide +kernel
theorem dX4_make_87 : decode cX4_make 87 = .ok (.getfield 23, 3) := by decide +kernel
theorem dX4_make_90 : decode cX4_make 90 = .ok (.aload_n 0, 1) := by decide +kernel
theorem dX4_make_91 : decode cX4_make 91 = .ok (.getfield 54, 3) := by decide +kernel
theorem dX4_make_94 : decode cX4_make 94 = .ok (.iload_n 3, 1) := by decide +kernel
theorem dX4_make_95 : decode cX4_make 95 = .ok (.iastore, 1) := by decide +kernel
theorem dX4_make_96 : decode cX4_make 96 = .ok (.aload_n 0, 1) := by decide +kernel
theorem dX4_make_97 : decode cX4_make 97 = .ok (.getfield 26, 3) := by decide +kernel
theorem dX4_make_100 : decode cX4_make 100 = .ok (.bipush 12, 2) := by decide +kernel
theorem dX4_make_102 : decode cX4_make 102 = .ok (.aload_n 0, 1) := by decide +kernel
theorem dX4_make_103 : decode cX4_make 103 = .ok (.getfield 54, 3) := by decide +kernel
theorem dX4_make_106 : decode cX4_make 106 = .ok (.imul, 1) := by decide +kernel
theorem dX4_make_107 : decode cX4_make 107 = .ok (.iload_n 2, 1) := by decide +kernel
theorem dX4_make_108 : decode cX4_make 108 = .ok (.iastore, 1) := by decide +kernel
theorem dX4_make_109 : decode cX4_make 109 = .ok (.aload_n 0, 1) := by decide +kernel
theorem dX4_make_110 : decode cX4_make 110 = .ok (.getfield 29, 3) := by decide +kernel
theorem dX4_make_113 : decode cX4_make 113 = .ok (.aload_n 0, 1) := by decide +kernel
theorem dX4_make_114 : decode cX4_make 114 = .ok (.getfield 54, 3) := by decide +kernel
theorem dX4_make_117 : decode cX4_make 117 = .ok (.iconst 1, 1) := by decide +kernel
theorem dX4_make_118 : decode cX4_make 118 = .ok (.iastore, 1) := by decide +kernel
theorem dX4_make_119 : decode cX4_make 119 = .ok (.aload_n 0, 1) := by decide +kernel
theorem dX4_make_120 : decode cX4_make 120 = .ok (.getfield 38, 3) := by decide +kernel
theorem dX4_make_123 : decode cX4_make 123 = .ok (.aload_n 0, 1) := by decide +kernel
theorem dX4_make_124 : decode cX4_make 124 = .ok (.getfield 54, 3) := by decide +kernel
theorem dX4_make_127 : decode cX4_make 127 = .ok (.aload_n 0, 1) := by decide +kernel
theorem dX4_make_128 : decode cX4_make 128 = .ok (.getfield 82, 3) := by decide +kernel
theorem dX4_make_131 : decode cX4_make 131 = .ok (.iastore, 1) := by decide +kernel
theorem dX4_make_132 : decode cX4_make 132 = .ok (.aload_n 0, 1) := by decide +kernel
theorem dX4_make_133 : decode cX4_make 133 = .ok (.getfield 41, 3) := by decide +kernel
theorem dX4_make_136 : decode cX4_make 136 = .ok (.aload_n 0, 1) := by decide +kernel
theorem dX4_make_137 : decode cX4_make 137 = .ok (.getfield 54, 3) := by decide +kernel
theorem dX4_make_140 : decode cX4_make 140 = .ok (.iconst (-1), 1) := by decide +kernel
theorem dX4_make_141 : decode cX4_make 141 = .ok (.iastore, 1) := by decide +kernel
theorem dX4_make_142 : decode cX4_make 142 = .ok (.aload_n 0, 1) := by decide +kernel
theorem dX4_make_143 : decode cX4_make 143 = .ok (.dup, 1) := by decide +kernel
theorem dX4_make_144 : decode cX4_make 144 = .ok (.getfield 54, 3) := by decide +kernel
theorem dX4_make_147 : decode cX4_make 147 = .ok (.iconst 1, 1) := by decide +kernel
theorem dX4_make_148 : decode cX4_make 148 = .ok (.iadd, 1) := by decide +kernel
theorem dX4_make_149 : decode cX4_make 149 = .ok (.putfield 54, 3) := by decide +kernel
theorem dX4_make_152 : decode cX4_make 152 = .ok (.aload_n 0, 1) := by decide +kernel
theorem dX4_make_153 : decode cX4_make 153 = .ok (.getfield 54, 3) := by decide +kernel
theorem dX4_make_156 : decode cX4_make 156 = .ok (.iconst 1, 1) := by decide +kernel
theorem dX4_make_157 : decode cX4_make 157 = .ok (.isub, 1) := by decide +kernel
theorem dX4_make_158 : decode cX4_make 158 = .ok (.ireturn, 1) := by decide +kernel
theorem dX4_linkTo_0 : decode cX4_linkTo 0 = .ok (.iconst (-1), 1) := by decide +kernel
theorem dX4_linkTo_1 : decode cX4_linkTo 1 = .ok (.istore_n 3, 1) := by decide +kernel
theorem dX4_linkTo_2 : decode cX4_linkTo 2 = .ok (.iconst 0, 1) := by decide +kernel
theorem dX4_linkTo_3 : decode cX4_linkTo 3 = .ok (.istore 4, 2) := by decide +kernel
theorem dX4_linkTo_5 : decode cX4_linkTo 5 = .ok (.iload 4, 2) := by decide +kernel
theorem dX4_linkTo_7 : decode cX4_linkTo 7 = .ok (.aload_n 0, 1) := by decide +kernel
theorem dX4_linkTo_8 : decode cX4_linkTo 8 = .ok (.getfield 29, 3) := by decide +kernel
theorem dX4_linkTo_11 : decode cX4_linkTo 11 = .ok (.iload_n 1, 1) := by decide +kernel
theorem dX4_linkTo_12 : decode cX4_linkTo 12 = .ok (.iaload, 1) := by decide +kernel
theorem dX4_linkTo_13 : decode cX4_linkTo 13 = .ok (.if_icmp .ge 32, 3) := by decide +kernel
theorem dX4_linkTo_16 : decode cX4_linkTo 16 = .ok (.aload_n 0, 1) := by decide +kernel
theorem dX4_linkTo_17 : decode cX4_linkTo 17 = .ok (.getfield 26, 3) := by decide +kernel
theorem dX4_linkTo_20 : decode cX4_linkTo 20 = .ok (.bipush 12, 2) := by decide +kernel
theorem dX4_linkTo_22 : decode cX4_linkTo 22 = .ok (.iload_n 1, 1) := by decide +kernel
theorem dX4_linkTo_23 : decode cX4_linkTo 23 = .ok (.imul, 1) := by decide +kernel
theorem dX4_linkTo_24 : decode cX4_linkTo 24 = .ok (.iload 4, 2) := by decide +kernel
theorem dX4_linkTo_26 : decode cX4_linkTo 26 = .ok (.iadd, 1) := by decide +kernel
theorem dX4_linkTo_27 : decode cX4_linkTo 27 = .ok (.iaload, 1) := by decide +kernel
theorem dX4_linkTo_28 : decode cX4_linkTo 28 = .ok (.iload_n 2, 1) := by decide +kernel
theorem dX4_linkTo_29 : decode cX4_linkTo 29 = .ok (.if_icmp .ne 8, 3) := by decide +kernel
theorem dX4_linkTo_32 : decode cX4_linkTo 32 = .ok (.iload 4, 2) := by decide +kernel
theorem dX4_linkTo_34 : decode cX4_linkTo 34 = .ok (.goto 4, 3) := by decide +kernel
theorem dX4_linkTo_37 : decode cX4_linkTo 37 = .ok (.iload_n 3, 1) := by decide +kernel
theorem dX4_linkTo_38 : decode cX4_linkTo 38 = .ok (.istore_n 3, 1) := by decide +kernel
theorem dX4_linkTo_39 : decode cX4_linkTo 39 = .ok (.iinc 4 1, 3) := by decide +kernel
theorem dX4_linkTo_42 : decode cX4_linkTo 42 = .ok (.goto (-37), 3) := by decide +kernel
theorem dX4_linkTo_45 : decode cX4_linkTo 45 = .ok (.iload_n 3, 1) := by decide +kernel
theorem dX4_linkTo_46 : decode cX4_linkTo 46 = .ok (.ireturn, 1) := by decide +kernel
set_option maxRecDepth 20000 in
theorem ggX4_link_X4_isFile : GoodIn wsX4_link wsX4_isFile := goodIn_r _ [7, 8, 9, 10, 6, 11, 26, 27, 28, 29, 30, 31, 32, 33, 34, 35, 36, 37, 38, 39, 40] (by decide +kernel) (by decide +kernel)
set_option maxRecDepth 20000 in
theorem gX4_link_X4_isFile : GoodIn wsX4_link (wsV RX4 85 RX4 yX4_isFile wsX4_isFile) := goodIn_app (goodIn_of _ (by decide +kernel)) ggX4_link_X4_isFile
set_option maxRecDepth 20000 in
theorem ggX4_link_X4_isDirectory : GoodIn wsX4_link wsX4_isDirectory := goodIn_r _ [15, 16, 9, 10, 6, 11, 26, 27, 28, 29, 30, 31, 32, 33, 34, 35, 36, 37, 38, 39, 40] (by decide +kernel) (by decide +kernel)
set_option maxRecDepth 20000 in
theorem gX4_link_X4_isDirectory : GoodIn wsX4_link (wsV RX4 57 RX4 yX4_isDirectory wsX4_isDirectory) := goodIn_app (goodIn_of _ (by decide +kernel)) ggX4_link_X4_isDirectory
set_option maxRecDepth 20000 in
theorem ggX4_link_X4_linkTo : GoodIn wsX4_link wsX4_linkTo := goodIn_r _ [20, 1, 2, 26, 27, 28, 29, 30, 31, 32, 33, 34, 35, 36, 37, 38, 39, 40] (by decide +kernel) (by decide +kernel)
set_option maxRecDepth 20000 in
theorem gX4_link_X4_linkTo : GoodIn wsX4_link (wsV RX4 88 RX4 yX4_linkTo wsX4_linkTo) := goodIn_app (goodIn_of _ (by decide +kernel)) ggX4_link_X4_linkTo
set_option maxRecDepth 20000 in
theorem ggX4_link_X4_isFine : GoodIn wsX4_link wsX4_isFine := goodIn_r _ [24, 25, 26, 27, 28, 29, 30, 31, 32, 33, 34, 35, 36, 37, 38, 39, 40] (by decide +kernel) (by decide +kernel)
set_option maxRecDepth 20000 in
theorem gX4_link_X4_isFine : GoodIn wsX4_link (wsV RX4 62 RX4 yX4_isFine wsX4_isFine) := goodIn_app (goodIn_of _ (by decide +kernel)) ggX4_link_X4_isFine
theorem dX4_link_0 : decode cX4_link 0 = .ok (.aload_n 0, 1) := by decide +kernel
theorem dX4_link_1 : decode cX4_link 1 = .ok (.iload_n 1, 1) := by decide +kernel
theorem dX4_link_2 : decode cX4_link 2 = .ok (.invokevirtual 85, 3) := by decide +kernel
theorem dX4_link_5 : decode cX4_link 5 = .ok (.ifCond .eq 11, 3) := by decide +kernel
theorem dX4_link_8 : decode cX4_link 8 = .ok (.aload_n 0, 1) := by decide +kernel
theorem dX4_link_9 : decode cX4_link 9 = .ok (.iload_n 2, 1) := by decide +kernel
end
section
theorem dX4_link_10 : decode cX4_link 10 = .ok (.invokevirtual 57, 3) := by decide +kernel
theorem dX4_link_13 : decode cX4_link 13 = .ok (.ifCond .ne 7, 3) := by decide +kernel
theorem dX4_link_16 : decode cX4_link 16 = .ok (.iconst 1, 1) := by decide +kernel
theorem dX4_link_17 : decode cX4_link 17 = .ok (.goto 27, 3) := by decide +kernel
theorem dX4_link_20 : decode cX4_link 20 = .ok (.aload_n 0, 1) := by decide +kernel
theorem dX4_link_21 : decode cX4_link 21 = .ok (.getfield 29, 3) := by decide +kernel
theorem dX4_link_24 : decode cX4_link 24 = .ok (.iload_n 1, 1) := by decide +kernel
theorem dX4_link_25 : decode cX4_link 25 = .ok (.iaload, 1) := by decide +kernel
theorem dX4_link_26 : decode cX4_link 26 = .ok (.ifCond .eq 13, 3) := by decide +kernel
theorem dX4_link_29 : decode cX4_link 29 = .ok (.aload_n 0, 1) := by decide +kernel
theorem dX4_link_30 : decode cX4_link 30 = .ok (.iload_n 1, 1) := by decide +kernel
theorem dX4_link_31 : decode cX4_link 31 = .ok (.iload_n 2, 1) := by decide +kernel
theorem dX4_link_32 : decode cX4_link 32 = .ok (.invokevirtual 88, 3) := by decide +kernel
theorem dX4_link_35 : decode cX4_link 35 = .ok (.iconst (-1), 1) := by decide +kernel
theorem dX4_link_36 : decode cX4_link 36 = .ok (.if_icmp .eq 7, 3) := by decide +kernel
theorem dX4_link_39 : decode cX4_link 39 = .ok (.iconst 2, 1) := by decide +kernel
theorem dX4_link_40 : decode cX4_link 40 = .ok (.goto 4, 3) := by decide +kernel
theorem dX4_link_43 : decode cX4_link 43 = .ok (.iconst 0, 1) := by decide +kernel
theorem dX4_link_44 : decode cX4_link 44 = .ok (.istore_n 3, 1) := by decide +kernel
theorem dX4_link_45 : decode cX4_link 45 = .ok (.aload_n 0, 1) := by decide +kernel
theorem dX4_link_46 : decode cX4_link 46 = .ok (.iload_n 3, 1) := by decide +kernel
theorem dX4_link_47 : decode cX4_link 47 = .ok (.invokevirtual 62, 3) := by decide +kernel
theorem dX4_link_50 : decode cX4_link 50 = .ok (.ifCond .ne 5, 3) := by decide +kernel
theorem dX4_link_53 : decode cX4_link 53 = .ok (.iconst 0, 1) := by decide +kernel
theorem dX4_link_54 : decode cX4_link 54 = .ok (.ireturn, 1) := by decide +kernel
theorem dX4_link_55 : decode cX4_link 55 = .ok (.aload_n 0, 1) := by decide +kernel
theorem dX4_link_56 : decode cX4_link 56 = .ok (.getfield 26, 3) := by decide +kernel
theorem dX4_link_59 : decode cX4_link 59 = .ok (.bipush 12, 2) := by decide +kernel
theorem dX4_link_61 : decode cX4_link 61 = .ok (.iload_n 1, 1) := by decide +kernel
theorem dX4_link_62 : decode cX4_link 62 = .ok (.imul, 1) := by decide +kernel
theorem dX4_link_63 : decode cX4_link 63 = .ok (.aload_n 0, 1) := by decide +kernel
theorem dX4_link_64 : decode cX4_link 64 = .ok (.getfield 29, 3) := by decide +kernel
theorem dX4_link_67 : decode cX4_link 67 = .ok (.iload_n 1, 1) := by decide +kernel
theorem dX4_link_68 : decode cX4_link 68 = .ok (.iaload, 1) := by decide +kernel
theorem dX4_link_69 : decode cX4_link 69 = .ok (.iadd, 1) := by decide +kernel
theorem dX4_link_70 : decode cX4_link 70 = .ok (.iload_n 2, 1) := by decide +kernel
theorem dX4_link_71 : decode cX4_link 71 = .ok (.iastore, 1) := by decide +kernel
theorem dX4_link_72 : decode cX4_link 72 = .ok (.aload_n 0, 1) := by decide +kernel
theorem dX4_link_73 : decode cX4_link 73 = .ok (.getfield 29, 3) := by decide +kernel
theorem dX4_link_76 : decode cX4_link 76 = .ok (.iload_n 1, 1) := by decide +kernel
theorem dX4_link_77 : decode cX4_link 77 = .ok (.dup2, 1) := by decide +kernel
theorem dX4_link_78 : decode cX4_link 78 = .ok (.iaload, 1) := by decide +kernel
theorem dX4_link_79 : decode cX4_link 79 = .ok (.iconst 1, 1) := by decide +kernel
theorem dX4_link_80 : decode cX4_link 80 = .ok (.iadd, 1) := by decide +kernel
theorem dX4_link_81 : decode cX4_link 81 = .ok (.iastore, 1) := by decide +kernel
theorem dX4_link_82 : decode cX4_link 82 = .ok (.aload_n 0, 1) := by decide +kernel
theorem dX4_link_83 : decode cX4_link 83 = .ok (.getfield 29, 3) := by decide +kernel
theorem dX4_link_86 : decode cX4_link 86 = .ok (.iload_n 1, 1) := by decide +kernel
theorem dX4_link_87 : decode cX4_link 87 = .ok (.iaload, 1) := by decide +kernel
theorem dX4_link_88 : decode cX4_link 88 = .ok (.ireturn, 1) := by decide +kernel
set_option maxRecDepth 20000 in
theorem ggX4_unlink_X4_isFile : GoodIn wsX4_unlink wsX4_isFile := goodIn_r _ [11, 12, 13, 14, 10, 15, 30, 31, 32, 33, 34, 35, 36, 37, 38, 39, 40, 41, 42, 43, 44] (by decide +kernel) (by decide +kernel)
set_option maxRecDepth 20000 in
theorem gX4_unlink_X4_isFile : GoodIn wsX4_unlink (wsV RX4 85 RX4 yX4_isFile wsX4_isFile) := goodIn_app (goodIn_of _ (by decide +kernel)) ggX4_unlink_X4_isFile
set_option maxRecDepth 20000 in
theorem ggX4_unlink_X4_isDirectory : GoodIn wsX4_unlink wsX4_isDirectory := goodIn_r _ [19, 20, 13, 14, 10, 15, 30, 31, 32, 33, 34, 35, 36, 37, 38, 39, 40, 41, 42, 43, 44] (by decide +kernel) (by decide +kernel)
set_option maxRecDepth 20000 in
theorem gX4_unlink_X4_isDirectory : GoodIn wsX4_unlink (wsV RX4 57 RX4 yX4_isDirectory wsX4_isDirectory) := goodIn_app (goodIn_of _ (by decide +kernel)) ggX4_unlink_X4_isDirectory
set_option maxRecDepth 20000 in
theorem ggX4_unlink_X4_linkTo : GoodIn wsX4_unlink wsX4_linkTo := goodIn_r _ [24, 1, 2, 30, 31, 32, 33, 34, 35, 36, 37, 38, 39, 40, 41, 42, 43, 44] (by decide +kernel) (by decide +kernel)
set_option maxRecDepth 20000 in
theorem gX4_unlink_X4_linkTo : GoodIn wsX4_unlink (wsV RX4 88 RX4 yX4_linkTo wsX4_linkTo) := goodIn_app (goodIn_of _ (by decide +kernel)) ggX4_unlink_X4_linkTo
set_option maxRecDepth 20000 in
theorem ggX4_unlink_X4_isFine : GoodIn wsX4_unlink wsX4_isFine := goodIn_r _ [28, 29, 30, 31, 32, 33, 34, 35, 36, 37, 38, 39, 40, 41, 42, 43, 44] (by decide +kernel) (by decide +kernel)
set_option maxRecDepth 20000 in
theorem gX4_unlink_X4_isFine : GoodIn wsX4_unlink (wsV RX4 62 RX4 yX4_isFine wsX4_isFine) := goodIn_app (goodIn_of _ (by decide +kernel)) ggX4_unlink_X4_isFine
theorem dX4_unlink_0 : decode cX4_unlink 0 = .ok (.aload_n 0, 1) := by decide +kernel
theorem dX4_unlink_1 : decode cX4_unlink 1 = .ok (.iload_n 1, 1) := by decide +kernel
theorem dX4_unlink_2 : decode cX4_unlink 2 = .ok (.invokevirtual 85, 3) := by decide +kernel
theorem dX4_unlink_5 : decode cX4_unlink 5 = .ok (.ifCond .eq 11, 3) := by decide +kernel
theorem dX4_unlink_8 : decode cX4_unlink 8 = .ok (.aload_n 0, 1) := by decide +kernel
theorem dX4_unlink_9 : decode cX4_unlink 9 = .ok (.iload_n 2, 1) := by decide +kernel
theorem dX4_unlink_10 : decode cX4_unlink 10 = .ok (.invokevirtual 57, 3) := by decide +kernel
theorem dX4_unlink_13 : decode cX4_unlink 13 = .ok (.ifCond .ne 7, 3) := by decide +kernel
theorem dX4_unlink_16 : decode cX4_unlink 16 = .ok (.iconst 1, 1) := by decide +kernel
theorem dX4_unlink_17 : decode cX4_unlink 17 = .ok (.goto 18, 3) := by decide +kernel
theorem dX4_unlink_20 : decode cX4_unlink 20 = .ok (.aload_n 0, 1) := by decide +kernel
theorem dX4_unlink_21 : decode cX4_unlink 21 = .ok (.iload_n 1, 1) := by decide +kernel
theorem dX4_unlink_22 : decode cX4_unlink 22 = .ok (.iload_n 2, 1) := by decide +kernel
theorem dX4_unlink_23 : decode cX4_unlink 23 = .ok (.invokevirtual 88, 3) := by decide +kernel
theorem dX4_unlink_26 : decode cX4_unlink 26 = .ok (.iconst (-1), 1) := by decide +kernel
theorem dX4_unlink_27 : decode cX4_unlink 27 = .ok (.if_icmp .ne 7, 3) := by decide +kernel
theorem dX4_unlink_30 : decode cX4_unlink 30 = .ok (.iconst 2, 1) := by decide +kernel
theorem dX4_unlink_31 : decode cX4_unlink 31 = .ok (.goto 4, 3) := by decide +kernel
theorem dX4_unlink_34 : decode cX4_unlink 34 = .ok (.iconst 0, 1) := by decide +kernel
theorem dX4_unlink_35 : decode cX4_unlink 35 = .ok (.istore_n 3, 1) := by decide +kernel
theorem dX4_unlink_36 : decode cX4_unlink 36 = .ok (.aload_n 0, 1) := by decide +kernel
theorem dX4_unlink_37 : decode cX4_unlink 37 = .ok (.iload_n 3, 1) := by decide +kernel
theorem dX4_unlink_38 : decode cX4_unlink 38 = .ok (.invokevirtual 62, 3) := by decide +kernel
theorem dX4_unlink_41 : decode cX4_unlink 41 = .ok (.ifCond .ne 5, 3) := by decide +kernel
theorem dX4_unlink_44 : decode cX4_unlink 44 = .ok (.iconst 0, 1) := by decide +kernel
theorem dX4_unlink_45 : decode cX4_unlink 45 = .ok (.ireturn, 1) := by decide +kernel
theorem dX4_unlink_46 : decode cX4_unlink 46 = .ok (.aload_n 0, 1) := by decide +kernel
theorem dX4_unlink_47 : decode cX4_unlink 47 = .ok (.iload_n 1, 1) := by decide +kernel
theorem dX4_unlink_48 : decode cX4_unlink 48 = .ok (.iload_n 2, 1) := by decide +kernel
theorem dX4_unlink_49 : decode cX4_unlink 49 = .ok (.invokevirtual 88, 3) := by decide +kernel
theorem dX4_unlink_52 : decode cX4_unlink 52 = .ok (.istore 4, 2) := by decide +kernel
theorem dX4_unlink_54 : decode cX4_unlink 54 = .ok (.aload_n 0, 1) := by decide +kernel
theorem dX4_unlink_55 : decode cX4_unlink 55 = .ok (.getfield 29, 3) := by decide +kernel
theorem dX4_unlink_58 : decode cX4_unlink 58 = .ok (.iload_n 1, 1) := by decide +kernel
theorem dX4_unlink_59 : decode cX4_unlink 59 = .ok (.dup2, 1) := by decide +kernel
theorem dX4_unlink_60 : decode cX4_unlink 60 = .ok (.iaload, 1) := by decide +kernel
theorem dX4_unlink_61 : decode cX4_unlink 61 = .ok (.iconst 1, 1) := by decide +kernel
theorem dX4_unlink_62 : decode cX4_unlink 62 = .ok (.isub, 1) := by decide +kernel
theorem dX4_unlink_63 : decode cX4_unlink 63 = .ok (.iastore, 1) := by decide +kernel
theorem dX4_unlink_64 : decode cX4_unlink 64 = .ok (.iload 4, 2) := by decide +kernel
theorem dX4_unlink_66 : decode cX4_unlink 66 = .ok (.istore 5, 2) := by decide +kernel
theorem dX4_unlink_68 : decode cX4_unlink 68 = .ok (.iload 5, 2) := by decide +kernel
theorem dX4_unlink_70 : decode cX4_unlink 70 = .ok (.aload_n 0, 1) := by decide +kernel
theorem dX4_unlink_71 : decode cX4_unlink 71 = .ok (.getfield 29, 3) := by decide +kernel
theorem dX4_unlink_74 : decode cX4_unlink 74 = .ok (.iload_n 1, 1) := by decide +kernel
theorem dX4_unlink_75 : decode cX4_unlink 75 = .ok (.iaload, 1) := by decide +kernel
theorem dX4_unlink_76 : decode cX4_unlink 76 = .ok (.if_icmp .ge 35, 3) := by decide +kernel
theorem dX4_unlink_79 : decode cX4_unlink 79 = .ok (.aload_n 0, 1) := by decide +kernel
theorem dX4_unlink_80 : decode cX4_unlink 80 = .ok (.getfield 26, 3) := by decide +kernel
theorem dX4_unlink_83 : decode cX4_unlink 83 = .ok (.bipush 12, 2) := by decide +kernel
theorem dX4_unlink_85 : decode cX4_unlink 85 = .ok (.iload_n 1, 1) := by decide +kernel
theorem dX4_unlink_86 : decode cX4_unlink 86 = .ok (.imul, 1) := by decide +kernel
theorem dX4_unlink_87 : decode cX4_unlink 87 = .ok (.iload 5, 2) := by decide +kernel
theorem dX4_unlink_89 : decode cX4_unlink 89 = .ok (.iadd, 1) := by decide +kernel
theorem dX4_unlink_90 : decode cX4_unlink 90 = .ok (.aload_n 0, 1) := by decide +kernel
theorem dX4_unlink_91 : decode cX4_unlink 91 = .ok (.getfield 26, 3) := by decide +kernel
theorem dX4_unlink_94 : decode cX4_unlink 94 = .ok (.bipush 12, 2) := by decide +kernel
theorem dX4_unlink_96 : decode cX4_unlink 96 = .ok (.iload_n 1, 1) := by decide +kernel
theorem dX4_unlink_97 : decode cX4_unlink 97 = .ok (.imul, 1) := by decide +kernel
theorem dX4_unlink_98 : decode cX4_unlink 98 = .ok (.iload 5, 2) := by decide +kernel
theorem dX4_unlink_100 : decode cX4_unlink 100 = .ok (.iadd, 1) := by decide +kernel
theorem dX4_unlink_101 : decode cX4_unlink 101 = .ok (.iconst 1, 1) := by decide +kernel
theorem dX4_unlink_102 : decode cX4_unlink 102 = .ok (.iadd, 1) := by decide +kernel
theorem dX4_unlink_103 : decode cX4_unlink 103 = .ok (.iaload, 1) := by decide +kernel
theorem dX4_unlink_104 : decode cX4_unlink 104 = .ok (.iastore, 1) := by decide +kernel
theorem dX4_unlink_105 : decode cX4_unlink 105 = .ok (.iinc 5 1, 3) := by decide +kernel
theorem dX4_unlink_108 : decode cX4_unlink 108 = .ok (.goto (-40), 3) := by decide +kernel
theorem dX4_unlink_111 : decode cX4_unlink 111 = .ok (.aload_n 0, 1) := by decide +kernel
theorem dX4_unlink_112 : decode cX4_unlink 112 = .ok (.getfield 29, 3) := by decide +kernel
theorem dX4_unlink_115 : decode cX4_unlink 115 = .ok (.iload_n 1, 1) := by decide +kernel
theorem dX4_unlink_116 : decode cX4_unlink 116 = .ok (.iaload, 1) := by decide +kernel
theorem dX4_unlink_117 : decode cX4_unlink 117 = .ok (.ifCond .ne 45, 3) := by decide +kernel
theorem dX4_unlink_120 : decode cX4_unlink 120 = .ok (.aload_n 0, 1) := by decide +kernel
theorem dX4_unlink_121 : decode cX4_unlink 121 = .ok (.getfield 32, 3) := by decide +kernel
theorem dX4_unlink_124 : decode cX4_unlink 124 = .ok (.iload_n 1, 1) := by decide +kernel
theorem dX4_unlink_125 : decode cX4_unlink 125 = .ok (.dup2, 1) := by decide +kernel
theorem dX4_unlink_126 : decode cX4_unlink 126 = .ok (.iaload, 1) := by decide +kernel
theorem dX4_unlink_127 : decode cX4_unlink 127 = .ok (.aload_n 0, 1) := by decide +kernel
theorem dX4_unlink_128 : decode cX4_unlink 128 = .ok (.getfield 35, 3) := by decide +kernel
theorem dX4_unlink_131 : decode cX4_unlink 131 = .ok (.iload_n 1, 1) := by decide +kernel
theorem dX4_unlink_132 : decode cX4_unlink 132 = .ok (.iaload, 1) := by decide +kernel
theorem dX4_unlink_133 : decode cX4_unlink 133 = .ok (.ifCond .ne 7, 3) := by decide +kernel
theorem dX4_unlink_136 : decode cX4_unlink 136 = .ok (.iconst 0, 1) := by decide +kernel
theorem dX4_unlink_137 : decode cX4_unlink 137 = .ok (.goto 9, 3) := by decide +kernel
theorem dX4_unlink_140 : decode cX4_unlink 140 = .ok (.aload_n 0, 1) := by decide +kernel
theorem dX4_unlink_141 : decode cX4_unlink 141 = .ok (.getfield 23, 3) := by decide +kernel
theorem dX4_unlink_144 : decode cX4_unlink 144 = .ok (.iload_n 1, 1) := by decide +kernel
theorem dX4_unlink_145 : decode cX4_unlink 145 = .ok (.iaload, 1) := by decide +kernel
theorem dX4_unlink_146 : decode cX4_unlink 146 = .ok (.iadd, 1) := by decide +kernel
theorem dX4_unlink_147 : decode cX4_unlink 147 = .ok (.iastore, 1) := by decide +kernel
theorem dX4_unlink_148 : decode cX4_unlink 148 = .ok (.aload_n 0, 1) := by decide +kernel
theorem dX4_unlink_149 : decode cX4_unlink 149 = .ok (.getfield 23, 3) := by decide +kernel
theorem dX4_unlink_152 : decode cX4_unlink 152 = .ok (.iload_n 1, 1) := by decide +kernel
theorem dX4_unlink_153 : decode cX4_unlink 153 = .ok (.iconst 0, 1) := by decide +kernel
theorem dX4_unlink_154 : decode cX4_unlink 154 = .ok (.iastore, 1) := by decide +kernel
theorem dX4_unlink_155 : decode cX4_unlink 155 = .ok (.aload_n 0, 1) := by decide +kernel
theorem dX4_unlink_156 : decode cX4_unlink 156 = .ok (.getfield 41, 3) := by decide +kernel
theorem dX4_unlink_159 : decode cX4_unlink 159 = .ok (.iload_n 1, 1) := by decide +kernel
theorem dX4_unlink_160 : decode cX4_unlink 160 = .ok (.iconst (-1), 1) := by decide +kernel
theorem dX4_unlink_161 : decode cX4_unlink 161 = .ok (.iastore, 1) := by decide +kernel
theorem dX4_unlink_162 : decode cX4_unlink 162 = .ok (.aload_n 0, 1) := by decide +kernel
theorem dX4_unlink_163 : decode cX4_unlink 163 = .ok (.getfield 29, 3) := by decide +kernel
theorem dX4_unlink_166 : decode cX4_unlink 166 = .ok (.iload_n 1, 1) := by decide +kernel
theorem dX4_unlink_167 : decode cX4_unlink 167 = .ok (.iaload, 1) := by decide +kernel
theorem dX4_unlink_168 : decode cX4_unlink 168 = .ok (.ireturn, 1) := by decide +kernel
theorem dX4_tierOf_0 : decode cX4_tierOf 0 = .ok (.aload_n 0, 1) := by decide +kernel
theorem dX4_tierOf_1 : decode cX4_tierOf 1 = .ok (.getfield 82, 3) := by decide +kernel
theorem dX4_tierOf_4 : decode cX4_tierOf 4 = .ok (.aload_n 0, 1) := by decide +kernel
theorem dX4_tierOf_5 : decode cX4_tierOf 5 = .ok (.getfield 38, 3) := by decide +kernel
theorem dX4_tierOf_8 : decode cX4_tierOf 8 = .ok (.iload_n 1, 1) := by decide +kernel
theorem dX4_tierOf_9 : decode cX4_tierOf 9 = .ok (.iaload, 1) := by decide +kernel
theorem dX4_tierOf_10 : decode cX4_tierOf 10 = .ok (.isub, 1) := by decide +kernel
theorem dX4_tierOf_11 : decode cX4_tierOf 11 = .ok (.istore_n 2, 1) := by decide +kernel
theorem dX4_tierOf_12 : decode cX4_tierOf 12 = .ok (.aload_n 0, 1) := by decide +kernel
theorem dX4_tierOf_13 : decode cX4_tierOf 13 = .ok (.getfield 29, 3) := by decide +kernel
theorem dX4_tierOf_16 : decode cX4_tierOf 16 = .ok (.iload_n 1, 1) := by decide +kernel
theorem dX4_tierOf_17 : decode cX4_tierOf 17 = .ok (.iaload, 1) := by decide +kernel
theorem dX4_tierOf_18 : decode cX4_tierOf 18 = .ok (.ifCond .ne 7, 3) := by decide +kernel
theorem dX4_tierOf_21 : decode cX4_tierOf 21 = .ok (.iconst (-1), 1) := by decide +kernel
theorem dX4_tierOf_22 : decode cX4_tierOf 22 = .ok (.goto 24, 3) := by decide +kernel
theorem dX4_tierOf_25 : decode cX4_tierOf 25 = .ok (.iload_n 2, 1) := by decide +kernel
theorem dX4_tierOf_26 : decode cX4_tierOf 26 = .ok (.bipush 30, 2) := by decide +kernel
theorem dX4_tierOf_28 : decode cX4_tierOf 28 = .ok (.if_icmp .ge 7, 3) := by decide +kernel
theorem dX4_tierOf_31 : decode cX4_tierOf 31 = .ok (.iconst 0, 1) := by decide +kernel
theorem dX4_tierOf_32 : decode cX4_tierOf 32 = .ok (.goto 14, 3) := by decide +kernel
theorem dX4_tierOf_35 : decode cX4_tierOf 35 = .ok (.iload_n 2, 1) := by decide +kernel
theorem dX4_tierOf_36 : decode cX4_tierOf 36 = .ok (.bipush 90, 2) := by decide +kernel
theorem dX4_tierOf_38 : decode cX4_tierOf 38 = .ok (.if_icmp .ge 7, 3) := by decide +kernel
theorem dX4_tierOf_41 : decode cX4_tierOf 41 = .ok (.iconst 1, 1) := by decide +kernel
theorem dX4_tierOf_42 : decode cX4_tierOf 42 = .ok (.goto 4, 3) := by decide +kernel
theorem dX4_tierOf_45 : decode cX4_tierOf 45 = .ok (.iconst 2, 1) := by decide +kernel
theorem dX4_tierOf_46 : decode cX4_tierOf 46 = .ok (.ireturn, 1) := by decide +kernel
set_option maxRecDepth 20000 in
theorem ggX4_write_X4_isFile : GoodIn wsX4_write wsX4_isFile := goodIn_r _ [12, 13, 14, 15, 11, 16, 46, 47, 48, 49, 50, 51, 52, 53, 54, 55, 56, 57, 58, 59, 60] (by decide +kernel) (by decide +kernel)
set_option maxRecDepth 20000 in
theorem gX4_write_X4_isFile : GoodIn wsX4_write (wsV RX4 85 RX4 yX4_isFile wsX4_isFile) := goodIn_app (goodIn_of _ (by decide +kernel)) ggX4_write_X4_isFile
set_option maxRecDepth 20000 in
theorem ggX4_write_X4_in : GoodIn wsX4_write wsX4_in := goodIn_r _ [16] (by decide +kernel) (by decide +kernel)
set_option maxRecDepth 20000 in
theorem gX4_write_X4_in : GoodIn wsX4_write (va_wsS RX4 50 yX4_in wsX4_in) := goodIn_app (goodIn_of _ (by decide +kernel)) ggX4_write_X4_in
set_option maxRecDepth 20000 in
theorem ggX4_write_X4_tierOf : GoodIn wsX4_write wsX4_tierOf := goodIn_r _ [20, 7, 6, 1, 46, 47, 48, 49, 50, 51, 52, 53, 54, 55, 56, 57, 58, 59, 60] (by decide +kernel) (by decide +kernel)
set_option maxRecDepth 20000 in
theorem gX4_write_X4_tierOf : GoodIn wsX4_write (wsV RX4 92 RX4 yX4_tierOf wsX4_tierOf) := goodIn_app (goodIn_of _ (by decide +kernel)) ggX4_write_X4_tierOf
set_option maxRecDepth 20000 in
theorem ggX4_write_X4_homeOf : GoodIn wsX4_write wsX4_homeOf := goodIn_r _ [24, 1, 25, 46, 47, 48, 49, 50, 51, 52, 53, 54, 55, 56, 57, 58, 59, 60] (by decide +kernel) (by decide +kernel)
set_option maxRecDepth 20000 in
theorem gX4_write_X4_homeOf : GoodIn wsX4_write (wsV RX4 65 RX4 yX4_homeOf wsX4_homeOf) := goodIn_app (goodIn_of _ (by decide +kernel)) ggX4_write_X4_homeOf
set_option maxRecDepth 20000 in
theorem ggX4_write_X4_canGrow : GoodIn wsX4_write wsX4_canGrow := goodIn_r _ [29, 30, 31, 32, 33, 34, 35, 11, 36, 13, 1, 2, 21, 22, 23, 24, 25, 37, 38, 39, 40, 46, 47, 48, 49, 50, 51, 52, 53, 54, 55, 56, 57, 58, 59, 60] (by decide +kernel) (by decide +kernel)
set_option maxRecDepth 20000 in
theorem gX4_write_X4_canGrow : GoodIn wsX4_write (wsV RX4 79 RX4 yX4_canGrow wsX4_canGrow) := goodIn_app (goodIn_of _ (by decide +kernel)) ggX4_write_X4_canGrow
set_option maxRecDepth 20000 in
theorem ggX4_write_X4_isFine : GoodIn wsX4_write wsX4_isFine := goodIn_r _ [44, 45, 46, 47, 48, 49, 50, 51, 52, 53, 54, 55, 56, 57, 58, 59, 60] (by decide +kernel) (by decide +kernel)
set_option maxRecDepth 20000 in
theorem gX4_write_X4_isFine : GoodIn wsX4_write (wsV RX4 62 RX4 yX4_isFine wsX4_isFine) := goodIn_app (goodIn_of _ (by decide +kernel)) ggX4_write_X4_isFine
theorem dX4_write_0 : decode cX4_write 0 = .ok (.aload_n 0, 1) := by decide +kernel
theorem dX4_write_1 : decode cX4_write 1 = .ok (.iload_n 1, 1) := by decide +kernel
theorem dX4_write_2 : decode cX4_write 2 = .ok (.invokevirtual 85, 3) := by decide +kernel
theorem dX4_write_5 : decode cX4_write 5 = .ok (.ifCond .ne 7, 3) := by decide +kernel
theorem dX4_write_8 : decode cX4_write 8 = .ok (.iconst 1, 1) := by decide +kernel
theorem dX4_write_9 : decode cX4_write 9 = .ok (.goto 41, 3) := by decide +kernel
theorem dX4_write_12 : decode cX4_write 12 = .ok (.iload_n 2, 1) := by decide +kernel
theorem dX4_write_13 : decode cX4_write 13 = .ok (.iconst 1, 1) := by decide +kernel
theorem dX4_write_14 : decode cX4_write 14 = .ok (.sipush 1000, 3) := by decide +kernel
theorem dX4_write_17 : decode cX4_write 17 = .ok (.invokestatic 50, 3) := by decide +kernel
theorem dX4_write_20 : decode cX4_write 20 = .ok (.ifCond .ne 7, 3) := by decide +kernel
theorem dX4_write_23 : decode cX4_write 23 = .ok (.iconst 2, 1) := by decide +kernel
theorem dX4_write_24 : decode cX4_write 24 = .ok (.goto 26, 3) := by decide +kernel
theorem dX4_write_27 : decode cX4_write 27 = .ok (.aload_n 0, 1) := by decide +kernel
theorem dX4_write_28 : decode cX4_write 28 = .ok (.getfield 29, 3) := by decide +kernel
theorem dX4_write_31 : decode cX4_write 31 = .ok (.iload_n 1, 1) := by decide +kernel
theorem dX4_write_32 : decode cX4_write 32 = .ok (.iaload, 1) := by decide +kernel
theorem dX4_write_33 : decode cX4_write 33 = .ok (.ifCond .eq 12, 3) := by decide +kernel
theorem dX4_write_36 : decode cX4_write 36 = .ok (.aload_n 0, 1) := by decide +kernel
theorem dX4_write_37 : decode cX4_write 37 = .ok (.iload_n 1, 1) := by decide +kernel
theorem dX4_write_38 : decode cX4_write 38 = .ok (.invokevirtual 92, 3) := by decide +kernel
theorem dX4_write_41 : decode cX4_write 41 = .ok (.iconst 2, 1) := by decide +kernel
theorem dX4_write_42 : decode cX4_write 42 = .ok (.if_icmp .ne 7, 3) := by decide +kernel
theorem dX4_write_45 : decode cX4_write 45 = .ok (.iconst 3, 1) := by decide +kernel
theorem dX4_write_46 : decode cX4_write 46 = .ok (.goto 4, 3) := by decide +kernel
theorem dX4_write_49 : decode cX4_write 49 = .ok (.iconst 0, 1) := by decide +kernel
theorem dX4_write_50 : decode cX4_write 50 = .ok (.istore_n 3, 1) := by decide +kernel
theorem dX4_write_51 : decode cX4_write 51 = .ok (.iload_n 3, 1) := by decide +kernel
theorem dX4_write_52 : decode cX4_write 52 = .ok (.ifCond .ne 41, 3) := by decide +kernel
theorem dX4_write_55 : decode cX4_write 55 = .ok (.iload_n 2, 1) := by decide +kernel
theorem dX4_write_56 : decode cX4_write 56 = .ok (.aload_n 0, 1) := by decide +kernel
theorem dX4_write_57 : decode cX4_write 57 = .ok (.getfield 23, 3) := by decide +kernel
theorem dX4_write_60 : decode cX4_write 60 = .ok (.iload_n 1, 1) := by decide +kernel
theorem dX4_write_61 : decode cX4_write 61 = .ok (.iaload, 1) := by decide +kernel
theorem dX4_write_62 : decode cX4_write 62 = .ok (.if_icmp .le 31, 3) := by decide +kernel
theorem dX4_write_65 : decode cX4_write 65 = .ok (.aload_n 0, 1) := by decide +kernel
theorem dX4_write_66 : decode cX4_write 66 = .ok (.aload_n 0, 1) := by decide +kernel
theorem dX4_write_67 : decode cX4_write 67 = .ok (.getfield 20, 3) := by decide +kernel
theorem dX4_write_70 : decode cX4_write 70 = .ok (.iload_n 1, 1) := by decide +kernel
theorem dX4_write_71 : decode cX4_write 71 = .ok (.iaload, 1) := by decide +kernel
theorem dX4_write_72 : decode cX4_write 72 = .ok (.aload_n 0, 1) := by decide +kernel
theorem dX4_write_73 : decode cX4_write 73 = .ok (.iload_n 1, 1) := by decide +kernel
theorem dX4_write_74 : decode cX4_write 74 = .ok (.invokevirtual 65, 3) := by decide +kernel
theorem dX4_write_77 : decode cX4_write 77 = .ok (.iload_n 2, 1) := by decide +kernel
theorem dX4_write_78 : decode cX4_write 78 = .ok (.aload_n 0, 1) := by decide +kernel
theorem dX4_write_79 : decode cX4_write 79 = .ok (.getfield 23, 3) := by decide +kernel
theorem dX4_write_82 : decode cX4_write 82 = .ok (.iload_n 1, 1) := by decide +kernel
theorem dX4_write_83 : decode cX4_write 83 = .ok (.iaload, 1) := by decide +kernel
theorem dX4_write_84 : decode cX4_write 84 = .ok (.isub, 1) := by decide +kernel
theorem dX4_write_85 : decode cX4_write 85 = .ok (.invokevirtual 79, 3) := by decide +kernel
theorem dX4_write_88 : decode cX4_write 88 = .ok (.ifCond .ne 5, 3) := by decide +kernel
theorem dX4_write_91 : decode cX4_write 91 = .ok (.iconst 3, 1) := by decide +kernel
theorem dX4_write_92 : decode cX4_write 92 = .ok (.istore_n 3, 1) := by decide +kernel
theorem dX4_write_93 : decode cX4_write 93 = .ok (.aload_n 0, 1) := by decide +kernel
theorem dX4_write_94 : decode cX4_write 94 = .ok (.iload_n 3, 1) := by decide +kernel
theorem dX4_write_95 : decode cX4_write 95 = .ok (.invokevirtual 62, 3) := by decide +kernel
theorem dX4_write_98 : decode cX4_write 98 = .ok (.ifCond .ne 5, 3) := by decide +kernel
theorem dX4_write_101 : decode cX4_write 101 = .ok (.iconst 0, 1) := by decide +kernel
theorem dX4_write_102 : decode cX4_write 102 = .ok (.ireturn, 1) := by decide +kernel
theorem dX4_write_103 : decode cX4_write 103 = .ok (.aload_n 0, 1) := by decide +kernel
theorem dX4_write_104 : decode cX4_write 104 = .ok (.getfield 32, 3) := by decide +kernel
theorem dX4_write_107 : decode cX4_write 107 = .ok (.iload_n 1, 1) := by decide +kernel
theorem dX4_write_108 : decode cX4_write 108 = .ok (.dup2, 1) := by decide +kernel
theorem dX4_write_109 : decode cX4_write 109 = .ok (.iaload, 1) := by decide +kernel
theorem dX4_write_110 : decode cX4_write 110 = .ok (.aload_n 0, 1) := by decide +kernel
theorem dX4_write_111 : decode cX4_write 111 = .ok (.getfield 35, 3) := by decide +kernel
theorem dX4_write_114 : decode cX4_write 114 = .ok (.iload_n 1, 1) := by decide +kernel
theorem dX4_write_115 : decode cX4_write 115 = .ok (.iaload, 1) := by decide +kernel
theorem dX4_write_116 : decode cX4_write 116 = .ok (.ifCond .ne 7, 3) := by decide +kernel
theorem dX4_write_119 : decode cX4_write 119 = .ok (.iconst 0, 1) := by decide +kernel
theorem dX4_write_120 : decode cX4_write 120 = .ok (.goto 9, 3) := by decide +kernel
theorem dX4_write_123 : decode cX4_write 123 = .ok (.aload_n 0, 1) := by decide +kernel
theorem dX4_write_124 : decode cX4_write 124 = .ok (.getfield 23, 3) := by decide +kernel
theorem dX4_write_127 : decode cX4_write 127 = .ok (.iload_n 1, 1) := by decide +kernel
theorem dX4_write_128 : decode cX4_write 128 = .ok (.iaload, 1) := by decide +kernel
theorem dX4_write_129 : decode cX4_write 129 = .ok (.iadd, 1) := by decide +kernel
theorem dX4_write_130 : decode cX4_write 130 = .ok (.iastore, 1) := by decide +kernel
theorem dX4_write_131 : decode cX4_write 131 = .ok (.aload_n 0, 1) := by decide +kernel
theorem dX4_write_132 : decode cX4_write 132 = .ok (.getfield 23, 3) := by decide +kernel
theorem dX4_write_135 : decode cX4_write 135 = .ok (.iload_n 1, 1) := by decide +kernel
theorem dX4_write_136 : decode cX4_write 136 = .ok (.iload_n 2, 1) := by decide +kernel
theorem dX4_write_137 : decode cX4_write 137 = .ok (.iastore, 1) := by decide +kernel
theorem dX4_write_138 : decode cX4_write 138 = .ok (.aload_n 0, 1) := by decide +kernel
theorem dX4_write_139 : decode cX4_write 139 = .ok (.getfield 38, 3) := by decide +kernel
theorem dX4_write_142 : decode cX4_write 142 = .ok (.iload_n 1, 1) := by decide +kernel
theorem dX4_write_143 : decode cX4_write 143 = .ok (.aload_n 0, 1) := by decide +kernel
theorem dX4_write_144 : decode cX4_write 144 = .ok (.getfield 82, 3) := by decide +kernel
theorem dX4_write_147 : decode cX4_write 147 = .ok (.iastore, 1) := by decide +kernel
theorem dX4_write_148 : decode cX4_write 148 = .ok (.aload_n 0, 1) := by decide +kernel
theorem dX4_write_149 : decode cX4_write 149 = .ok (.getfield 32, 3) := by decide +kernel
theorem dX4_write_152 : decode cX4_write 152 = .ok (.iload_n 1, 1) := by decide +kernel
theorem dX4_write_153 : decode cX4_write 153 = .ok (.iaload, 1) := by decide +kernel
theorem dX4_write_154 : decode cX4_write 154 = .ok (.ireturn, 1) := by decide +kernel
set_option maxRecDepth 20000 in
theorem ggX4_read_X4_isFile : GoodIn wsX4_read wsX4_isFile := goodIn_r _ [12, 13, 14, 15, 11, 16, 26, 27, 28, 29, 30, 31, 32, 33, 34, 35, 36, 37, 38, 39, 40] (by decide +kernel) (by decide +kernel)
set_option maxRecDepth 20000 in
theorem gX4_read_X4_isFile : GoodIn wsX4_read (wsV RX4 85 RX4 yX4_isFile wsX4_isFile) := goodIn_app (goodIn_of _ (by decide +kernel)) ggX4_read_X4_isFile
set_option maxRecDepth 20000 in
theorem ggX4_read_X4_tierOf : GoodIn wsX4_read wsX4_tierOf := goodIn_r _ [20, 7, 6, 1, 26, 27, 28, 29, 30, 31, 32, 33, 34, 35, 36, 37, 38, 39, 40] (by decide +kernel) (by decide +kernel)
set_option maxRecDepth 20000 in
theorem gX4_read_X4_tierOf : GoodIn wsX4_read (wsV RX4 92 RX4 yX4_tierOf wsX4_tierOf) := goodIn_app (goodIn_of _ (by decide +kernel)) ggX4_read_X4_tierOf
set_option maxRecDepth 20000 in
theorem ggX4_read_X4_isFine : GoodIn wsX4_read wsX4_isFine := goodIn_r _ [24, 25, 26, 27, 28, 29, 30, 31, 32, 33, 34, 35, 36, 37, 38, 39, 40] (by decide +kernel) (by decide +kernel)
set_option maxRecDepth 20000 in
theorem gX4_read_X4_isFine : GoodIn wsX4_read (wsV RX4 62 RX4 yX4_isFine wsX4_isFine) := goodIn_app (goodIn_of _ (by decide +kernel)) ggX4_read_X4_isFine
theorem dX4_read_0 : decode cX4_read 0 = .ok (.aload_n 0, 1) := by decide +kernel
theorem dX4_read_1 : decode cX4_read 1 = .ok (.iload_n 1, 1) := by decide +kernel
theorem dX4_read_2 : decode cX4_read 2 = .ok (.invokevirtual 85, 3) := by decide +kernel
theorem dX4_read_5 : decode cX4_read 5 = .ok (.ifCond .ne 7, 3) := by decide +kernel
theorem dX4_read_8 : decode cX4_read 8 = .ok (.iconst 1, 1) := by decide +kernel
theorem dX4_read_9 : decode cX4_read 9 = .ok (.goto 17, 3) := by decide +kernel
theorem dX4_read_12 : decode cX4_read 12 = .ok (.aload_n 0, 1) := by decide +kernel
theorem dX4_read_13 : decode cX4_read 13 = .ok (.getfield 29, 3) := by decide +kernel
theorem dX4_read_16 : decode cX4_read 16 = .ok (.iload_n 1, 1) := by decide +kernel
theorem dX4_read_17 : decode cX4_read 17 = .ok (.iaload, 1) := by decide +kernel
theorem dX4_read_18 : decode cX4_read 18 = .ok (.ifCond .ne 7, 3) := by decide +kernel
theorem dX4_read_21 : decode cX4_read 21 = .ok (.iconst 2, 1) := by decide +kernel
theorem dX4_read_22 : decode cX4_read 22 = .ok (.goto 4, 3) := by decide +kernel
theorem dX4_read_25 : decode cX4_read 25 = .ok (.iconst 0, 1) := by decide +kernel
theorem dX4_read_26 : decode cX4_read 26 = .ok (.istore_n 2, 1) := by decide +kernel
theorem dX4_read_27 : decode cX4_read 27 = .ok (.iload_n 2, 1) := by decide +kernel
theorem dX4_read_28 : decode cX4_read 28 = .ok (.ifCond .ne 18, 3) := by decide +kernel
theorem dX4_read_31 : decode cX4_read 31 = .ok (.aload_n 0, 1) := by decide +kernel
theorem dX4_read_32 : decode cX4_read 32 = .ok (.getfield 23, 3) := by decide +kernel
theorem dX4_read_35 : decode cX4_read 35 = .ok (.iload_n 1, 1) := by decide +kernel
theorem dX4_read_36 : decode cX4_read 36 = .ok (.iaload, 1) := by decide +kernel
theorem dX4_read_37 : decode cX4_read 37 = .ok (.bipush 9, 2) := by decide +kernel
theorem dX4_read_39 : decode cX4_read 39 = .ok (.iadd, 1) := by decide +kernel
theorem dX4_read_40 : decode cX4_read 40 = .ok (.bipush 10, 2) := by decide +kernel
theorem dX4_read_42 : decode cX4_read 42 = .ok (.idiv, 1) := by decide +kernel
theorem dX4_read_43 : decode cX4_read 43 = .ok (.goto 4, 3) := by decide +kernel
theorem dX4_read_46 : decode cX4_read 46 = .ok (.iconst 0, 1) := by decide +kernel
theorem dX4_read_47 : decode cX4_read 47 = .ok (.istore_n 3, 1) := by decide +kernel
theorem dX4_read_48 : decode cX4_read 48 = .ok (.iload_n 2, 1) := by decide +kernel
theorem dX4_read_49 : decode cX4_read 49 = .ok (.ifCond .ne 39, 3) := by decide +kernel
theorem dX4_read_52 : decode cX4_read 52 = .ok (.aload_n 0, 1) := by decide +kernel
theorem dX4_read_53 : decode cX4_read 53 = .ok (.iload_n 1, 1) := by decide +kernel
theorem dX4_read_54 : decode cX4_read 54 = .ok (.invokevirtual 92, 3) := by decide +kernel
theorem dX4_read_57 : decode cX4_read 57 = .ok (.iconst 2, 1) := by decide +kernel
theorem dX4_read_58 : decode cX4_read 58 = .ok (.if_icmp .ne 30, 3) := by decide +kernel
theorem dX4_read_61 : decode cX4_read 61 = .ok (.aload_n 0, 1) := by decide +kernel
theorem dX4_read_62 : decode cX4_read 62 = .ok (.getfield 41, 3) := by decide +kernel
theorem dX4_read_65 : decode cX4_read 65 = .ok (.iload_n 1, 1) := by decide +kernel
theorem dX4_read_66 : decode cX4_read 66 = .ok (.iaload, 1) := by decide +kernel
theorem dX4_read_67 : decode cX4_read 67 = .ok (.iconst (-1), 1) := by decide +kernel
theorem dX4_read_68 : decode cX4_read 68 = .ok (.if_icmp .ne 20, 3) := by decide +kernel
theorem dX4_read_71 : decode cX4_read 71 = .ok (.aload_n 0, 1) := by decide +kernel
theorem dX4_read_72 : decode cX4_read 72 = .ok (.getfield 44, 3) := by decide +kernel
theorem dX4_read_75 : decode cX4_read 75 = .ok (.aload_n 0, 1) := by decide +kernel
theorem dX4_read_76 : decode cX4_read 76 = .ok (.getfield 20, 3) := by decide +kernel
theorem dX4_read_79 : decode cX4_read 79 = .ok (.iload_n 1, 1) := by decide +kernel
theorem dX4_read_80 : decode cX4_read 80 = .ok (.iaload, 1) := by decide +kernel
theorem dX4_read_81 : decode cX4_read 81 = .ok (.iaload, 1) := by decide +kernel
theorem dX4_read_82 : decode cX4_read 82 = .ok (.iload_n 3, 1) := by decide +kernel
theorem dX4_read_83 : decode cX4_read 83 = .ok (.if_icmp .ge 5, 3) := by decide +kernel
theorem dX4_read_86 : decode cX4_read 86 = .ok (.iconst 2, 1) := by decide +kernel
theorem dX4_read_87 : decode cX4_read 87 = .ok (.istore_n 2, 1) := by decide +kernel
theorem dX4_read_88 : decode cX4_read 88 = .ok (.aload_n 0, 1) := by decide +kernel
theorem dX4_read_89 : decode cX4_read 89 = .ok (.iload_n 2, 1) := by decide +kernel
theorem dX4_read_90 : decode cX4_read 90 = .ok (.invokevirtual 62, 3) := by decide +kernel
theorem dX4_read_93 : decode cX4_read 93 = .ok (.ifCond .ne 5, 3) := by decide +kernel
theorem dX4_read_96 : decode cX4_read 96 = .ok (.iconst 0, 1) := by decide +kernel
theorem dX4_read_97 : decode cX4_read 97 = .ok (.ireturn, 1) := by decide +kernel
theorem dX4_read_98 : decode cX4_read 98 = .ok (.aload_n 0, 1) := by decide +kernel
theorem dX4_read_99 : decode cX4_read 99 = .ok (.iload_n 1, 1) := by decide +kernel
theorem dX4_read_100 : decode cX4_read 100 = .ok (.invokevirtual 92, 3) := by decide +kernel
theorem dX4_read_103 : decode cX4_read 103 = .ok (.iconst 2, 1) := by decide +kernel
theorem dX4_read_104 : decode cX4_read 104 = .ok (.if_icmp .ge 15, 3) := by decide +kernel
theorem dX4_read_107 : decode cX4_read 107 = .ok (.aload_n 0, 1) := by decide +kernel
theorem dX4_read_108 : decode cX4_read 108 = .ok (.getfield 38, 3) := by decide +kernel
theorem dX4_read_111 : decode cX4_read 111 = .ok (.iload_n 1, 1) := by decide +kernel
theorem dX4_read_112 : decode cX4_read 112 = .ok (.aload_n 0, 1) := by decide +kernel
theorem dX4_read_113 : decode cX4_read 113 = .ok (.getfield 82, 3) := by decide +kernel
theorem dX4_read_116 : decode cX4_read 116 = .ok (.iastore, 1) := by decide +kernel
theorem dX4_read_117 : decode cX4_read 117 = .ok (.iconst 0, 1) := by decide +kernel
theorem dX4_read_118 : decode cX4_read 118 = .ok (.ireturn, 1) := by decide +kernel
theorem dX4_read_119 : decode cX4_read 119 = .ok (.aload_n 0, 1) := by decide +kernel
theorem dX4_read_120 : decode cX4_read 120 = .ok (.getfield 41, 3) := by decide +kernel
theorem dX4_read_123 : decode cX4_read 123 = .ok (.iload_n 1, 1) := by decide +kernel
theorem dX4_read_124 : decode cX4_read 124 = .ok (.iaload, 1) := by decide +kernel
theorem dX4_read_125 : decode cX4_read 125 = .ok (.iconst (-1), 1) := by decide +kernel
theorem dX4_read_126 : decode cX4_read 126 = .ok (.if_icmp .ne 30, 3) := by decide +kernel
theorem dX4_read_129 : decode cX4_read 129 = .ok (.aload_n 0, 1) := by decide +kernel
theorem dX4_read_130 : decode cX4_read 130 = .ok (.getfield 44, 3) := by decide +kernel
theorem dX4_read_133 : decode cX4_read 133 = .ok (.aload_n 0, 1) := by decide +kernel
theorem dX4_read_134 : decode cX4_read 134 = .ok (.getfield 20, 3) := by decide +kernel
theorem dX4_read_137 : decode cX4_read 137 = .ok (.iload_n 1, 1) := by decide +kernel
theorem dX4_read_138 : decode cX4_read 138 = .ok (.iaload, 1) := by decide +kernel
theorem dX4_read_139 : decode cX4_read 139 = .ok (.dup2, 1) := by decide +kernel
theorem dX4_read_140 : decode cX4_read 140 = .ok (.iaload, 1) := by decide +kernel
theorem dX4_read_141 : decode cX4_read 141 = .ok (.iload_n 3, 1) := by decide +kernel
theorem dX4_read_142 : decode cX4_read 142 = .ok (.isub, 1) := by decide +kernel
theorem dX4_read_143 : decode cX4_read 143 = .ok (.iastore, 1) := by decide +kernel
theorem dX4_read_144 : decode cX4_read 144 = .ok (.aload_n 0, 1) := by decide +kernel
theorem dX4_read_145 : decode cX4_read 145 = .ok (.getfield 41, 3) := by decide +kernel
theorem dX4_read_148 : decode cX4_read 148 = .ok (.iload_n 1, 1) := by decide +kernel
theorem dX4_read_149 : decode cX4_read 149 = .ok (.aload_n 0, 1) := by decide +kernel
theorem dX4_read_150 : decode cX4_read 150 = .ok (.getfield 82, 3) := by decide +kernel
theorem dX4_read_153 : decode cX4_read 153 = .ok (.iconst 2, 1) := by decide +kernel
theorem dX4_read_154 : decode cX4_read 154 = .ok (.iadd, 1) := by decide +kernel
theorem dX4_read_155 : decode cX4_read 155 = .ok (.iastore, 1) := by decide +kernel
theorem dX4_read_156 : decode cX4_read 156 = .ok (.aload_n 0, 1) := by decide +kernel
theorem dX4_read_157 : decode cX4_read 157 = .ok (.getfield 41, 3) := by decide +kernel
theorem dX4_read_160 : decode cX4_read 160 = .ok (.iload_n 1, 1) := by decide +kernel
theorem dX4_read_161 : decode cX4_read 161 = .ok (.iaload, 1) := by decide +kernel
theorem dX4_read_162 : decode cX4_read 162 = .ok (.aload_n 0, 1) := by decide +kernel
theorem dX4_read_163 : decode cX4_read 163 = .ok (.getfield 82, 3) := by decide +kernel
theorem dX4_read_166 : decode cX4_read 166 = .ok (.isub, 1) := by decide +kernel
theorem dX4_read_167 : decode cX4_read 167 = .ok (.ireturn, 1) := by decide +kernel
theorem dX4_many_0 : decode cX4_many 0 = .ok (.iconst 0, 1) := by decide +kernel
theorem dX4_many_1 : decode cX4_many 1 = .ok (.istore_n 1, 1) := by decide +kernel
theorem dX4_many_2 : decode cX4_many 2 = .ok (.iconst 0, 1) := by decide +kernel
theorem dX4_many_3 : decode cX4_many 3 = .ok (.istore_n 2, 1) := by decide +kernel
theorem dX4_many_4 : decode cX4_many 4 = .ok (.iload_n 2, 1) := by decide +kernel
theorem dX4_many_5 : decode cX4_many 5 = .ok (.iconst 5, 1) := by decide +kernel
theorem dX4_many_6 : decode cX4_many 6 = .ok (.if_icmp .ge 17, 3) := by decide +kernel
theorem dX4_many_9 : decode cX4_many 9 = .ok (.iload_n 1, 1) := by decide +kernel
theorem dX4_many_10 : decode cX4_many 10 = .ok (.iload_n 0, 1) := by decide +kernel
theorem dX4_many_11 : decode cX4_many 11 = .ok (.iload_n 2, 1) := by decide +kernel
theorem dX4_many_12 : decode cX4_many 12 = .ok (.ishr, 1) := by decide +kernel
theorem dX4_many_13 : decode cX4_many 13 = .ok (.iconst 1, 1) := by decide +kernel
theorem dX4_many_14 : decode cX4_many 14 = .ok (.iand, 1) := by decide +kernel
theorem dX4_many_15 : decode cX4_many 15 = .ok (.iadd, 1) := by decide +kernel
theorem dX4_many_16 : decode cX4_many 16 = .ok (.istore_n 1, 1) := by decide +kernel
theorem dX4_many_17 : decode cX4_many 17 = .ok (.iinc 2 1, 3) := by decide +kernel
theorem dX4_many_20 : decode cX4_many 20 = .ok (.goto (-16), 3) := by decide +kernel
theorem dX4_many_23 : decode cX4_many 23 = .ok (.iload_n 1, 1) := by decide +kernel
theorem dX4_many_24 : decode cX4_many 24 = .ok (.ireturn, 1) := by decide +kernel
set_option maxRecDepth 20000 in
theorem ggX4_hold_X4_in : GoodIn wsX4_hold wsX4_in := goodIn_r _ [6] (by decide +kernel) (by decide +kernel)
set_option maxRecDepth 20000 in
theorem gX4_hold_X4_in : GoodIn wsX4_hold (va_wsS RX4 50 yX4_in wsX4_in) := goodIn_app (goodIn_of _ (by decide +kernel)) ggX4_hold_X4_in
set_option maxRecDepth 20000 in
theorem ggX4_hold_X4_isFile : GoodIn wsX4_hold wsX4_isFile := goodIn_r _ [10, 11, 3, 4, 5, 6, 20, 21, 22, 23, 24, 25, 26, 27, 28, 29, 30, 31, 32, 33, 34] (by decide +kernel) (by decide +kernel)
set_option maxRecDepth 20000 in
theorem gX4_hold_X4_isFile : GoodIn wsX4_hold (wsV RX4 85 RX4 yX4_isFile wsX4_isFile) := goodIn_app (goodIn_of _ (by decide +kernel)) ggX4_hold_X4_isFile
set_option maxRecDepth 20000 in
theorem ggX4_hold_X4_isFine : GoodIn wsX4_hold wsX4_isFine := goodIn_r _ [15, 16, 20, 21, 22, 23, 24, 25, 26, 27, 28, 29, 30, 31, 32, 33, 34] (by decide +kernel) (by decide +kernel)
set_option maxRecDepth 20000 in
theorem gX4_hold_X4_isFine : GoodIn wsX4_hold (wsV RX4 62 RX4 yX4_isFine wsX4_isFine) := goodIn_app (goodIn_of _ (by decide +kernel)) ggX4_hold_X4_isFine
set_option maxRecDepth 20000 in
theorem ggX4_hold_X4_many : GoodIn wsX4_hold wsX4_many := goodIn_r _ [19] (by decide +kernel) (by decide +kernel)
set_option maxRecDepth 20000 in
theorem gX4_hold_X4_many : GoodIn wsX4_hold (va_wsS RX4 95 yX4_many wsX4_many) := goodIn_app (goodIn_of _ (by decide +kernel)) ggX4_hold_X4_many
theorem dX4_hold_0 : decode cX4_hold 0 = .ok (.aload_n 0, 1) := by decide +kernel
theorem dX4_hold_1 : decode cX4_hold 1 = .ok (.iload_n 1, 1) := by decide +kernel
theorem dX4_hold_2 : decode cX4_hold 2 = .ok (.iconst 0, 1) := by decide +kernel
theorem dX4_hold_3 : decode cX4_hold 3 = .ok (.iconst 4, 1) := by decide +kernel
theorem dX4_hold_4 : decode cX4_hold 4 = .ok (.invokestatic 50, 3) := by decide +kernel
theorem dX4_hold_7 : decode cX4_hold 7 = .ok (.ifCond .eq 11, 3) := by decide +kernel
theorem dX4_hold_10 : decode cX4_hold 10 = .ok (.aload_n 0, 1) := by decide +kernel
theorem dX4_hold_11 : decode cX4_hold 11 = .ok (.iload_n 2, 1) := by decide +kernel
theorem dX4_hold_12 : decode cX4_hold 12 = .ok (.invokevirtual 85, 3) := by decide +kernel
theorem dX4_hold_15 : decode cX4_hold 15 = .ok (.ifCond .ne 7, 3) := by decide +kernel
theorem dX4_hold_18 : decode cX4_hold 18 = .ok (.iconst 1, 1) := by decide +kernel
theorem dX4_hold_19 : decode cX4_hold 19 = .ok (.goto 17, 3) := by decide +kernel
theorem dX4_hold_22 : decode cX4_hold 22 = .ok (.aload_n 0, 1) := by decide +kernel
theorem dX4_hold_23 : decode cX4_hold 23 = .ok (.getfield 29, 3) := by decide +kernel
theorem dX4_hold_26 : decode cX4_hold 26 = .ok (.iload_n 2, 1) := by decide +kernel
theorem dX4_hold_27 : decode cX4_hold 27 = .ok (.iaload, 1) := by decide +kernel
theorem dX4_hold_28 : decode cX4_hold 28 = .ok (.ifCond .ne 7, 3) := by decide +kernel
theorem dX4_hold_31 : decode cX4_hold 31 = .ok (.iconst 2, 1) := by decide +kernel
theorem dX4_hold_32 : decode cX4_hold 32 = .ok (.goto 4, 3) := by decide +kernel
theorem dX4_hold_35 : decode cX4_hold 35 = .ok (.iconst 0, 1) := by decide +kernel
theorem dX4_hold_36 : decode cX4_hold 36 = .ok (.invokevirtual 62, 3) := by decide +kernel
theorem dX4_hold_39 : decode cX4_hold 39 = .ok (.ifCond .ne 5, 3) := by decide +kernel
theorem dX4_hold_42 : decode cX4_hold 42 = .ok (.iconst 0, 1) := by decide +kernel
theorem dX4_hold_43 : decode cX4_hold 43 = .ok (.ireturn, 1) := by decide +kernel
theorem dX4_hold_44 : decode cX4_hold 44 = .ok (.aload_n 0, 1) := by decide +kernel
theorem dX4_hold_45 : decode cX4_hold 45 = .ok (.getfield 35, 3) := by decide +kernel
theorem dX4_hold_48 : decode cX4_hold 48 = .ok (.iload_n 2, 1) := by decide +kernel
theorem dX4_hold_49 : decode cX4_hold 49 = .ok (.dup2, 1) := by decide +kernel
theorem dX4_hold_50 : decode cX4_hold 50 = .ok (.iaload, 1) := by decide +kernel
theorem dX4_hold_51 : decode cX4_hold 51 = .ok (.iconst 1, 1) := by decide +kernel
theorem dX4_hold_52 : decode cX4_hold 52 = .ok (.iload_n 1, 1) := by decide +kernel
theorem dX4_hold_53 : decode cX4_hold 53 = .ok (.ishl, 1) := by decide +kernel
theorem dX4_hold_54 : decode cX4_hold 54 = .ok (.ior, 1) := by decide +kernel
theorem dX4_hold_55 : decode cX4_hold 55 = .ok (.iastore, 1) := by decide +kernel
theorem dX4_hold_56 : decode cX4_hold 56 = .ok (.aload_n 0, 1) := by decide +kernel
theorem dX4_hold_57 : decode cX4_hold 57 = .ok (.getfield 35, 3) := by decide +kernel
theorem dX4_hold_60 : decode cX4_hold 60 = .ok (.iload_n 2, 1) := by decide +kernel
theorem dX4_hold_61 : decode cX4_hold 61 = .ok (.iaload, 1) := by decide +kernel
theorem dX4_hold_62 : decode cX4_hold 62 = .ok (.invokestatic 95, 3) := by decide +kernel
theorem dX4_hold_65 : decode cX4_hold 65 = .ok (.ireturn, 1) := by decide +kernel
set_option maxRecDepth 20000 in
theorem ggX4_release_X4_in : GoodIn wsX4_release wsX4_in := goodIn_r _ [7] (by decide +kernel) (by decide +kernel)
set_option maxRecDepth 20000 in
theorem gX4_release_X4_in : GoodIn wsX4_release (va_wsS RX4 50 yX4_in wsX4_in) := goodIn_app (goodIn_of _ (by decide +kernel)) ggX4_release_X4_in
set_option maxRecDepth 20000 in
theorem ggX4_release_X4_isFine : GoodIn wsX4_release wsX4_isFine := goodIn_r _ [11, 12, 13, 14, 15, 16, 17, 18, 19, 20, 21, 22, 23, 24, 25, 26, 27] (by decide +kernel) (by decide +kernel)
set_option maxRecDepth 20000 in
theorem gX4_release_X4_isFine : GoodIn wsX4_release (wsV RX4 62 RX4 yX4_isFine wsX4_isFine) := goodIn_app (goodIn_of _ (by decide +kernel)) ggX4_release_X4_isFine
theorem dX4_release_0 : decode cX4_release 0 = .ok (.iconst 0, 1) := by decide +kernel
theorem dX4_release_1 : decode cX4_release 1 = .ok (.istore_n 2, 1) := by decide +kernel
theorem dX4_release_2 : decode cX4_release 2 = .ok (.aload_n 0, 1) := by decide +kernel
theorem dX4_release_3 : decode cX4_release 3 = .ok (.iload_n 1, 1) := by decide +kernel
theorem dX4_release_4 : decode cX4_release 4 = .ok (.iconst 0, 1) := by decide +kernel
theorem dX4_release_5 : decode cX4_release 5 = .ok (.iconst 4, 1) := by decide +kernel
theorem dX4_release_6 : decode cX4_release 6 = .ok (.invokestatic 50, 3) := by decide +kernel
theorem dX4_release_9 : decode cX4_release 9 = .ok (.ifCond .eq 7, 3) := by decide +kernel
theorem dX4_release_12 : decode cX4_release 12 = .ok (.iconst 0, 1) := by decide +kernel
theorem dX4_release_13 : decode cX4_release 13 = .ok (.goto 4, 3) := by decide +kernel
theorem dX4_release_16 : decode cX4_release 16 = .ok (.iconst 1, 1) := by decide +kernel
theorem dX4_release_17 : decode cX4_release 17 = .ok (.invokevirtual 62, 3) := by decide +kernel
theorem dX4_release_20 : decode cX4_release 20 = .ok (.ifCond .eq 80, 3) := by decide +kernel
theorem dX4_release_23 : decode cX4_release 23 = .ok (.iconst 0, 1) := by decide +kernel
theorem dX4_release_24 : decode cX4_release 24 = .ok (.istore_n 3, 1) := by decide +kernel
theorem dX4_release_25 : decode cX4_release 25 = .ok (.iload_n 3, 1) := by decide +kernel
theorem dX4_release_26 : decode cX4_release 26 = .ok (.aload_n 0, 1) := by decide +kernel
theorem dX4_release_27 : decode cX4_release 27 = .ok (.getfield 54, 3) := by decide +kernel
theorem dX4_release_30 : decode cX4_release 30 = .ok (.if_icmp .ge 70, 3) := by decide +kernel
theorem dX4_release_33 : decode cX4_release 33 = .ok (.aload_n 0, 1) := by decide +kernel
theorem dX4_release_34 : decode cX4_release 34 = .ok (.getfield 35, 3) := by decide +kernel
theorem dX4_release_37 : decode cX4_release 37 = .ok (.iload_n 3, 1) := by decide +kernel
theorem dX4_release_38 : decode cX4_release 38 = .ok (.dup2, 1) := by decide +kernel
theorem dX4_release_39 : decode cX4_release 39 = .ok (.iaload, 1) := by decide +kernel
theorem dX4_release_40 : decode cX4_release 40 = .ok (.iconst 1, 1) := by decide +kernel
theorem dX4_release_41 : decode cX4_release 41 = .ok (.iload_n 1, 1) := by decide +kernel
theorem dX4_release_42 : decode cX4_release 42 = .ok (.ishl, 1) := by decide +kernel
theorem dX4_release_43 : decode cX4_release 43 = .ok (.iconst (-1), 1) := by decide +kernel
theorem dX4_release_44 : decode cX4_release 44 = .ok (.ixor, 1) := by decide +kernel
theorem dX4_release_45 : decode cX4_release 45 = .ok (.iand, 1) := by decide +kernel
theorem dX4_release_46 : decode cX4_release 46 = .ok (.iastore, 1) := by decide +kernel
theorem dX4_release_47 : decode cX4_release 47 = .ok (.iload_n 2, 1) := by decide +kernel
theorem dX4_release_48 : decode cX4_release 48 = .ok (.aload_n 0, 1) := by decide +kernel
theorem dX4_release_49 : decode cX4_release 49 = .ok (.getfield 35, 3) := by decide +kernel
theorem dX4_release_52 : decode cX4_release 52 = .ok (.iload_n 3, 1) := by decide +kernel
theorem dX4_release_53 : decode cX4_release 53 = .ok (.iaload, 1) := by decide +kernel
theorem dX4_release_54 : decode cX4_release 54 = .ok (.ifCond .ne 12, 3) := by decide +kernel
theorem dX4_release_57 : decode cX4_release 57 = .ok (.aload_n 0, 1) := by decide +kernel
theorem dX4_release_58 : decode cX4_release 58 = .ok (.getfield 32, 3) := by decide +kernel
theorem dX4_release_61 : decode cX4_release 61 = .ok (.iload_n 3, 1) := by decide +kernel
theorem dX4_release_62 : decode cX4_release 62 = .ok (.iaload, 1) := by decide +kernel
theorem dX4_release_63 : decode cX4_release 63 = .ok (.goto 4, 3) := by decide +kernel
theorem dX4_release_66 : decode cX4_release 66 = .ok (.iconst 0, 1) := by decide +kernel
theorem dX4_release_67 : decode cX4_release 67 = .ok (.iadd, 1) := by decide +kernel
theorem dX4_release_68 : decode cX4_release 68 = .ok (.istore_n 2, 1) := by decide +kernel
theorem dX4_release_69 : decode cX4_release 69 = .ok (.aload_n 0, 1) := by decide +kernel
theorem dX4_release_70 : decode cX4_release 70 = .ok (.getfield 32, 3) := by decide +kernel
theorem dX4_release_73 : decode cX4_release 73 = .ok (.iload_n 3, 1) := by decide +kernel
theorem dX4_release_74 : decode cX4_release 74 = .ok (.aload_n 0, 1) := by decide +kernel
theorem dX4_release_75 : decode cX4_release 75 = .ok (.getfield 35, 3) := by decide +kernel
theorem dX4_release_78 : decode cX4_release 78 = .ok (.iload_n 3, 1) := by decide +kernel
theorem dX4_release_79 : decode cX4_release 79 = .ok (.iaload, 1) := by decide +kernel
theorem dX4_release_80 : decode cX4_release 80 = .ok (.ifCond .ne 7, 3) := by decide +kernel
theorem dX4_release_83 : decode cX4_release 83 = .ok (.iconst 0, 1) := by decide +kernel
theorem dX4_release_84 : decode cX4_release 84 = .ok (.goto 9, 3) := by decide +kernel
theorem dX4_release_87 : decode cX4_release 87 = .ok (.aload_n 0, 1) := by decide +kernel
theorem dX4_release_88 : decode cX4_release 88 = .ok (.getfield 32, 3) := by decide +kernel
theorem dX4_release_91 : decode cX4_release 91 = .ok (.iload_n 3, 1) := by decide +kernel
theorem dX4_release_92 : decode cX4_release 92 = .ok (.iaload, 1) := by decide +kernel
theorem dX4_release_93 : decode cX4_release 93 = .ok (.iastore, 1) := by decide +kernel
theorem dX4_release_94 : decode cX4_release 94 = .ok (.iinc 3 1, 3) := by decide +kernel
theorem dX4_release_97 : decode cX4_release 97 = .ok (.goto (-72), 3) := by decide +kernel
theorem dX4_release_100 : decode cX4_release 100 = .ok (.iload_n 2, 1) := by decide +kernel
theorem dX4_release_101 : decode cX4_release 101 = .ok (.ireturn, 1) := by decide +kernel
set_option maxRecDepth 20000 in
theorem ggX4_fund_X4_isDepartment : GoodIn wsX4_fund wsX4_isDepartment := goodIn_r _ [6, 7, 8, 5, 9] (by decide +kernel) (by decide +kernel)
set_option maxRecDepth 20000 in
theorem gX4_fund_X4_isDepartment : GoodIn wsX4_fund (va_wsS RX4 76 yX4_isDepartment wsX4_isDepartment) := goodIn_app (goodIn_of _ (by decide +kernel)) ggX4_fund_X4_isDepartment
set_option maxRecDepth 20000 in
theorem ggX4_fund_X4_in : GoodIn wsX4_fund wsX4_in := goodIn_r _ [9] (by decide +kernel) (by decide +kernel)
set_option maxRecDepth 20000 in
theorem gX4_fund_X4_in : GoodIn wsX4_fund (va_wsS RX4 50 yX4_in wsX4_in) := goodIn_app (goodIn_of _ (by decide +kernel)) ggX4_fund_X4_in
set_option maxRecDepth 20000 in
theorem ggX4_fund_X4_isFine : GoodIn wsX4_fund wsX4_isFine := goodIn_r _ [13, 14, 15, 16, 17, 18, 19, 20, 21, 22, 23, 24, 25, 26, 27, 28, 29] (by decide +kernel) (by decide +kernel)
set_option maxRecDepth 20000 in
theorem gX4_fund_X4_isFine : GoodIn wsX4_fund (wsV RX4 62 RX4 yX4_isFine wsX4_isFine) := goodIn_app (goodIn_of _ (by decide +kernel)) ggX4_fund_X4_isFine
theorem dX4_fund_0 : decode cX4_fund 0 = .ok (.iload_n 1, 1) := by decide +kernel
theorem dX4_fund_1 : decode cX4_fund 1 = .ok (.invokestatic 76, 3) := by decide +kernel
theorem dX4_fund_4 : decode cX4_fund 4 = .ok (.ifCond .ne 7, 3) := by decide +kernel
theorem dX4_fund_7 : decode cX4_fund 7 = .ok (.iconst 1, 1) := by decide +kernel
theorem dX4_fund_8 : decode cX4_fund 8 = .ok (.goto 19, 3) := by decide +kernel
theorem dX4_fund_11 : decode cX4_fund 11 = .ok (.iload_n 2, 1) := by decide +kernel
theorem dX4_fund_12 : decode cX4_fund 12 = .ok (.iconst 1, 1) := by decide +kernel
theorem dX4_fund_13 : decode cX4_fund 13 = .ok (.sipush 10000, 3) := by decide +kernel
theorem dX4_fund_16 : decode cX4_fund 16 = .ok (.invokestatic 50, 3) := by decide +kernel
theorem dX4_fund_19 : decode cX4_fund 19 = .ok (.ifCond .ne 7, 3) := by decide +kernel
theorem dX4_fund_22 : decode cX4_fund 22 = .ok (.iconst 2, 1) := by decide +kernel
theorem dX4_fund_23 : decode cX4_fund 23 = .ok (.goto 4, 3) := by decide +kernel
theorem dX4_fund_26 : decode cX4_fund 26 = .ok (.iconst 0, 1) := by decide +kernel
theorem dX4_fund_27 : decode cX4_fund 27 = .ok (.istore_n 3, 1) := by decide +kernel
theorem dX4_fund_28 : decode cX4_fund 28 = .ok (.aload_n 0, 1) := by decide +kernel
theorem dX4_fund_29 : decode cX4_fund 29 = .ok (.iload_n 3, 1) := by decide +kernel
theorem dX4_fund_30 : decode cX4_fund 30 = .ok (.ifCond .ne 20, 3) := by decide +kernel
theorem dX4_fund_33 : decode cX4_fund 33 = .ok (.aload_n 0, 1) := by decide +kernel
theorem dX4_fund_34 : decode cX4_fund 34 = .ok (.getfield 44, 3) := by decide +kernel
theorem dX4_fund_37 : decode cX4_fund 37 = .ok (.iload_n 1, 1) := by decide +kernel
theorem dX4_fund_38 : decode cX4_fund 38 = .ok (.iaload, 1) := by decide +kernel
theorem dX4_fund_39 : decode cX4_fund 39 = .ok (.iload_n 2, 1) := by decide +kernel
theorem dX4_fund_40 : decode cX4_fund 40 = .ok (.iadd, 1) := by decide +kernel
theorem dX4_fund_41 : decode cX4_fund 41 = .ok (.ldc 98, 2) := by decide +kernel
theorem dX4_fund_43 : decode cX4_fund 43 = .ok (.if_icmp .le 7, 3) := by decide +kernel
theorem dX4_fund_46 : decode cX4_fund 46 = .ok (.iconst 3, 1) := by decide +kernel
theorem dX4_fund_47 : decode cX4_fund 47 = .ok (.goto 4, 3) := by decide +kernel
theorem dX4_fund_50 : decode cX4_fund 50 = .ok (.iload_n 3, 1) := by decide +kernel
theorem dX4_fund_51 : decode cX4_fund 51 = .ok (.invokevirtual 62, 3) := by decide +kernel
theorem dX4_fund_54 : decode cX4_fund 54 = .ok (.ifCond .ne 5, 3) := by decide +kernel
theorem dX4_fund_57 : decode cX4_fund 57 = .ok (.iconst 0, 1) := by decide +kernel
theorem dX4_fund_58 : decode cX4_fund 58 = .ok (.ireturn, 1) := by decide +kernel
theorem dX4_fund_59 : decode cX4_fund 59 = .ok (.aload_n 0, 1) := by decide +kernel
theorem dX4_fund_60 : decode cX4_fund 60 = .ok (.getfield 44, 3) := by decide +kernel
theorem dX4_fund_63 : decode cX4_fund 63 = .ok (.iload_n 1, 1) := by decide +kernel
theorem dX4_fund_64 : decode cX4_fund 64 = .ok (.dup2, 1) := by decide +kernel
theorem dX4_fund_65 : decode cX4_fund 65 = .ok (.iaload, 1) := by decide +kernel
theorem dX4_fund_66 : decode cX4_fund 66 = .ok (.iload_n 2, 1) := by decide +kernel
theorem dX4_fund_67 : decode cX4_fund 67 = .ok (.iadd, 1) := by decide +kernel
theorem dX4_fund_68 : decode cX4_fund 68 = .ok (.iastore, 1) := by decide +kernel
theorem dX4_fund_69 : decode cX4_fund 69 = .ok (.aload_n 0, 1) := by decide +kernel
theorem dX4_fund_70 : decode cX4_fund 70 = .ok (.getfield 44, 3) := by decide +kernel
theorem dX4_fund_73 : decode cX4_fund 73 = .ok (.iload_n 1, 1) := by decide +kernel
theorem dX4_fund_74 : decode cX4_fund 74 = .ok (.iaload, 1) := by decide +kernel
theorem dX4_fund_75 : decode cX4_fund 75 = .ok (.ireturn, 1) := by decide +kernel
set_option maxRecDepth 20000 in
theorem ggX4_billOf_X4_tierOf : GoodIn wsX4_billOf wsX4_tierOf := goodIn_r _ [10, 11, 12, 4, 13, 14, 15, 16, 17, 18, 19, 20, 21, 22, 23, 24, 25, 26, 27] (by decide +kernel) (by decide +kernel)
set_option maxRecDepth 20000 in
theorem gX4_billOf_X4_tierOf : GoodIn wsX4_billOf (wsV RX4 92 RX4 yX4_tierOf wsX4_tierOf) := goodIn_app (goodIn_of _ (by decide +kernel)) ggX4_billOf_X4_tierOf
theorem dX4_billOf_0 : decode cX4_billOf 0 = .ok (.iconst 0, 1) := by decide +kernel
theorem dX4_billOf_1 : decode cX4_billOf 1 = .ok (.istore_n 2, 1) := by decide +kernel
theorem dX4_billOf_2 : decode cX4_billOf 2 = .ok (.iconst 0, 1) := by decide +kernel
theorem dX4_billOf_3 : decode cX4_billOf 3 = .ok (.istore_n 3, 1) := by decide +kernel
theorem dX4_billOf_4 : decode cX4_billOf 4 = .ok (.iload_n 3, 1) := by decide +kernel
theorem dX4_billOf_5 : decode cX4_billOf 5 = .ok (.aload_n 0, 1) := by decide +kernel
theorem dX4_billOf_6 : decode cX4_billOf 6 = .ok (.getfield 54, 3) := by decide +kernel
theorem dX4_billOf_9 : decode cX4_billOf 9 = .ok (.if_icmp .ge 56, 3) := by decide +kernel
theorem dX4_billOf_12 : decode cX4_billOf 12 = .ok (.aload_n 0, 1) := by decide +kernel
theorem dX4_billOf_13 : decode cX4_billOf 13 = .ok (.getfield 20, 3) := by decide +kernel
theorem dX4_billOf_16 : decode cX4_billOf 16 = .ok (.iload_n 3, 1) := by decide +kernel
theorem dX4_billOf_17 : decode cX4_billOf 17 = .ok (.iaload, 1) := by decide +kernel
theorem dX4_billOf_18 : decode cX4_billOf 18 = .ok (.iload_n 1, 1) := by decide +kernel
theorem dX4_billOf_19 : decode cX4_billOf 19 = .ok (.if_icmp .ne 40, 3) := by decide +kernel
theorem dX4_billOf_22 : decode cX4_billOf 22 = .ok (.iload_n 2, 1) := by decide +kernel
theorem dX4_billOf_23 : decode cX4_billOf 23 = .ok (.aload_n 0, 1) := by decide +kernel
theorem dX4_billOf_24 : decode cX4_billOf 24 = .ok (.getfield 32, 3) := by decide +kernel
theorem dX4_billOf_27 : decode cX4_billOf 27 = .ok (.iload_n 3, 1) := by decide +kernel
theorem dX4_billOf_28 : decode cX4_billOf 28 = .ok (.iaload, 1) := by decide +kernel
theorem dX4_billOf_29 : decode cX4_billOf 29 = .ok (.aload_n 0, 1) := by decide +kernel
theorem dX4_billOf_30 : decode cX4_billOf 30 = .ok (.getfield 29, 3) := by decide +kernel
theorem dX4_billOf_33 : decode cX4_billOf 33 = .ok (.iload_n 3, 1) := by decide +kernel
theorem dX4_billOf_34 : decode cX4_billOf 34 = .ok (.iaload, 1) := by decide +kernel
theorem dX4_billOf_35 : decode cX4_billOf 35 = .ok (.ifCond .ne 7, 3) := by decide +kernel
theorem dX4_billOf_38 : decode cX4_billOf 38 = .ok (.iconst 0, 1) := by decide +kernel
theorem dX4_billOf_39 : decode cX4_billOf 39 = .ok (.goto 17, 3) := by decide +kernel
theorem dX4_billOf_42 : decode cX4_billOf 42 = .ok (.iconst 3, 1) := by decide +kernel
theorem dX4_billOf_43 : decode cX4_billOf 43 = .ok (.aload_n 0, 1) := by decide +kernel
theorem dX4_billOf_44 : decode cX4_billOf 44 = .ok (.iload_n 3, 1) := by decide +kernel
theorem dX4_billOf_45 : decode cX4_billOf 45 = .ok (.invokevirtual 92, 3) := by decide +kernel
theorem dX4_billOf_48 : decode cX4_billOf 48 = .ok (.isub, 1) := by decide +kernel
theorem dX4_billOf_49 : decode cX4_billOf 49 = .ok (.aload_n 0, 1) := by decide +kernel
theorem dX4_billOf_50 : decode cX4_billOf 50 = .ok (.getfield 23, 3) := by decide +kernel
theorem dX4_billOf_53 : decode cX4_billOf 53 = .ok (.iload_n 3, 1) := by decide +kernel
theorem dX4_billOf_54 : decode cX4_billOf 54 = .ok (.iaload, 1) := by decide +kernel
theorem dX4_billOf_55 : decode cX4_billOf 55 = .ok (.imul, 1) := by decide +kernel
theorem dX4_billOf_56 : decode cX4_billOf 56 = .ok (.iadd, 1) := by decide +kernel
theorem dX4_billOf_57 : decode cX4_billOf 57 = .ok (.iadd, 1) := by decide +kernel
theorem dX4_billOf_58 : decode cX4_billOf 58 = .ok (.istore_n 2, 1) := by decide +kernel
theorem dX4_billOf_59 : decode cX4_billOf 59 = .ok (.iinc 3 1, 3) := by decide +kernel
theorem dX4_billOf_62 : decode cX4_billOf 62 = .ok (.goto (-58), 3) := by decide +kernel
theorem dX4_billOf_65 : decode cX4_billOf 65 = .ok (.iload_n 2, 1) := by decide +kernel
theorem dX4_billOf_66 : decode cX4_billOf 66 = .ok (.bipush 99, 2) := by decide +kernel
theorem dX4_billOf_68 : decode cX4_billOf 68 = .ok (.iadd, 1) := by decide +kernel
theorem dX4_billOf_69 : decode cX4_billOf 69 = .ok (.bipush 100, 2) := by decide +kernel
theorem dX4_billOf_71 : decode cX4_billOf 71 = .ok (.idiv, 1) := by decide +kernel
theorem dX4_billOf_72 : decode cX4_billOf 72 = .ok (.ireturn, 1) := by decide +kernel
set_option maxRecDepth 20000 in
theorem ggX4_goesDay_X4_billOf : GoodIn wsX4_goesDay wsX4_billOf := goodIn_r _ [10, 3, 11, 12, 13, 14, 15, 16, 17, 9, 18, 2, 5, 19, 20, 21, 22, 23, 24, 25, 26, 27, 28, 29, 30, 31, 32, 33] (by decide +kernel) (by decide +kernel)
set_option maxRecDepth 20000 in
theorem gX4_goesDay_X4_billOf : GoodIn wsX4_goesDay (wsV RX4 99 RX4 yX4_billOf wsX4_billOf) := goodIn_app (goodIn_of _ (by decide +kernel)) ggX4_goesDay_X4_billOf
theorem dX4_goesDay_0 : decode cX4_goesDay 0 = .ok (.iconst 0, 1) := by decide +kernel
theorem dX4_goesDay_1 : decode cX4_goesDay 1 = .ok (.istore_n 1, 1) := by decide +kernel
theorem dX4_goesDay_2 : decode cX4_goesDay 2 = .ok (.iconst 0, 1) := by decide +kernel
theorem dX4_goesDay_3 : decode cX4_goesDay 3 = .ok (.istore_n 2, 1) := by decide +kernel
theorem dX4_goesDay_4 : decode cX4_goesDay 4 = .ok (.iload_n 2, 1) := by decide +kernel
theorem dX4_goesDay_5 : decode cX4_goesDay 5 = .ok (.iconst 4, 1) := by decide +kernel
theorem dX4_goesDay_6 : decode cX4_goesDay 6 = .ok (.if_icmp .ge 52, 3) := by decide +kernel
theorem dX4_goesDay_9 : decode cX4_goesDay 9 = .ok (.aload_n 0, 1) := by decide +kernel
theorem dX4_goesDay_10 : decode cX4_goesDay 10 = .ok (.iload_n 2, 1) := by decide +kernel
theorem dX4_goesDay_11 : decode cX4_goesDay 11 = .ok (.invokevirtual 99, 3) := by decide +kernel
theorem dX4_goesDay_14 : decode cX4_goesDay 14 = .ok (.aload_n 0, 1) := by decide +kernel
theorem dX4_goesDay_15 : decode cX4_goesDay 15 = .ok (.getfield 44, 3) := by decide +kernel
theorem dX4_goesDay_18 : decode cX4_goesDay 18 = .ok (.iload_n 2, 1) := by decide +kernel
theorem dX4_goesDay_19 : decode cX4_goesDay 19 = .ok (.iaload, 1) := by decide +kernel
theorem dX4_goesDay_20 : decode cX4_goesDay 20 = .ok (.if_icmp .ge 11, 3) := by decide +kernel
theorem dX4_goesDay_23 : decode cX4_goesDay 23 = .ok (.aload_n 0, 1) := by decide +kernel
theorem dX4_goesDay_24 : decode cX4_goesDay 24 = .ok (.iload_n 2, 1) := by decide +kernel
theorem dX4_goesDay_25 : decode cX4_goesDay 25 = .ok (.invokevirtual 99, 3) := by decide +kernel
theorem dX4_goesDay_28 : decode cX4_goesDay 28 = .ok (.goto 9, 3) := by decide +kernel
theorem dX4_goesDay_31 : decode cX4_goesDay 31 = .ok (.aload_n 0, 1) := by decide +kernel
theorem dX4_goesDay_32 : decode cX4_goesDay 32 = .ok (.getfield 44, 3) := by decide +kernel
theorem dX4_goesDay_35 : decode cX4_goesDay 35 = .ok (.iload_n 2, 1) := by decide +kernel
theorem dX4_goesDay_36 : decode cX4_goesDay 36 = .ok (.iaload, 1) := by decide +kernel
theorem dX4_goesDay_37 : decode cX4_goesDay 37 = .ok (.istore_n 3, 1) := by decide +kernel
theorem dX4_goesDay_38 : decode cX4_goesDay 38 = .ok (.aload_n 0, 1) := by decide +kernel
theorem dX4_goesDay_39 : decode cX4_goesDay 39 = .ok (.getfield 44, 3) := by decide +kernel
theorem dX4_goesDay_42 : decode cX4_goesDay 42 = .ok (.iload_n 2, 1) := by decide +kernel
theorem dX4_goesDay_43 : decode cX4_goesDay 43 = .ok (.dup2, 1) := by decide +kernel
theorem dX4_goesDay_44 : decode cX4_goesDay 44 = .ok (.iaload, 1) := by decide +kernel
theorem dX4_goesDay_45 : decode cX4_goesDay 45 = .ok (.iload_n 3, 1) := by decide +kernel
theorem dX4_goesDay_46 : decode cX4_goesDay 46 = .ok (.isub, 1) := by decide +kernel
theorem dX4_goesDay_47 : decode cX4_goesDay 47 = .ok (.iastore, 1) := by decide +kernel
theorem dX4_goesDay_48 : decode cX4_goesDay 48 = .ok (.iload_n 1, 1) := by decide +kernel
theorem dX4_goesDay_49 : decode cX4_goesDay 49 = .ok (.iload_n 3, 1) := by decide +kernel
theorem dX4_goesDay_50 : decode cX4_goesDay 50 = .ok (.iadd, 1) := by decide +kernel
theorem dX4_goesDay_51 : decode cX4_goesDay 51 = .ok (.istore_n 1, 1) := by decide +kernel
theorem dX4_goesDay_52 : decode cX4_goesDay 52 = .ok (.iinc 2 1, 3) := by decide +kernel
theorem dX4_goesDay_55 : decode cX4_goesDay 55 = .ok (.goto (-51), 3) := by decide +kernel
theorem dX4_goesDay_58 : decode cX4_goesDay 58 = .ok (.aload_n 0, 1) := by decide +kernel
theorem dX4_goesDay_59 : decode cX4_goesDay 59 = .ok (.dup, 1) := by decide +kernel
theorem dX4_goesDay_60 : decode cX4_goesDay 60 = .ok (.getfield 82, 3) := by decide +kernel
theorem dX4_goesDay_63 : decode cX4_goesDay 63 = .ok (.iconst 1, 1) := by decide +kernel
theorem dX4_goesDay_64 : decode cX4_goesDay 64 = .ok (.iadd, 1) := by decide +kernel
theorem dX4_goesDay_65 : decode cX4_goesDay 65 = .ok (.putfield 82, 3) := by decide +kernel
theorem dX4_goesDay_68 : decode cX4_goesDay 68 = .ok (.iconst 0, 1) := by decide +kernel
theorem dX4_goesDay_69 : decode cX4_goesDay 69 = .ok (.istore_n 2, 1) := by decide +kernel
theorem dX4_goesDay_70 : decode cX4_goesDay 70 = .ok (.iload_n 2, 1) := by decide +kernel
theorem dX4_goesDay_71 : decode cX4_goesDay 71 = .ok (.aload_n 0, 1) := by decide +kernel
theorem dX4_goesDay_72 : decode cX4_goesDay 72 = .ok (.getfield 54, 3) := by decide +kernel
theorem dX4_goesDay_75 : decode cX4_goesDay 75 = .ok (.if_icmp .ge 39, 3) := by decide +kernel
theorem dX4_goesDay_78 : decode cX4_goesDay 78 = .ok (.aload_n 0, 1) := by decide +kernel
theorem dX4_goesDay_79 : decode cX4_goesDay 79 = .ok (.getfield 41, 3) := by decide +kernel
theorem dX4_goesDay_82 : decode cX4_goesDay 82 = .ok (.iload_n 2, 1) := by decide +kernel
theorem dX4_goesDay_83 : decode cX4_goesDay 83 = .ok (.iaload, 1) := by decide +kernel
theorem dX4_goesDay_84 : decode cX4_goesDay 84 = .ok (.aload_n 0, 1) := by decide +kernel
theorem dX4_goesDay_85 : decode cX4_goesDay 85 = .ok (.getfield 82, 3) := by decide +kernel
theorem dX4_goesDay_88 : decode cX4_goesDay 88 = .ok (.if_icmp .ne 20, 3) := by decide +kernel
theorem dX4_goesDay_91 : decode cX4_goesDay 91 = .ok (.aload_n 0, 1) := by decide +kernel
theorem dX4_goesDay_92 : decode cX4_goesDay 92 = .ok (.getfield 38, 3) := by decide +kernel
theorem dX4_goesDay_95 : decode cX4_goesDay 95 = .ok (.iload_n 2, 1) := by decide +kernel
theorem dX4_goesDay_96 : decode cX4_goesDay 96 = .ok (.aload_n 0, 1) := by decide +kernel
theorem dX4_goesDay_97 : decode cX4_goesDay 97 = .ok (.getfield 82, 3) := by decide +kernel
theorem dX4_goesDay_100 : decode cX4_goesDay 100 = .ok (.iastore, 1) := by decide +kernel
theorem dX4_goesDay_101 : decode cX4_goesDay 101 = .ok (.aload_n 0, 1) := by decide +kernel
theorem dX4_goesDay_102 : decode cX4_goesDay 102 = .ok (.getfield 41, 3) := by decide +kernel
theorem dX4_goesDay_105 : decode cX4_goesDay 105 = .ok (.iload_n 2, 1) := by decide +kernel
theorem dX4_goesDay_106 : decode cX4_goesDay 106 = .ok (.iconst (-1), 1) := by decide +kernel
theorem dX4_goesDay_107 : decode cX4_goesDay 107 = .ok (.iastore, 1) := by decide +kernel
theorem dX4_goesDay_108 : decode cX4_goesDay 108 = .ok (.iinc 2 1, 3) := by decide +kernel
theorem dX4_goesDay_111 : decode cX4_goesDay 111 = .ok (.goto (-41), 3) := by decide +kernel
theorem dX4_goesDay_114 : decode cX4_goesDay 114 = .ok (.iload_n 1, 1) := by decide +kernel
theorem dX4_goesDay_115 : decode cX4_goesDay 115 = .ok (.ireturn, 1) := by decide +kernel
set_option maxRecDepth 20000 in
theorem ggX4_pass_X4_in : GoodIn wsX4_pass wsX4_in := goodIn_r _ [5] (by decide +kernel) (by decide +kernel)
set_option maxRecDepth 20000 in
theorem gX4_pass_X4_in : GoodIn wsX4_pass (va_wsS RX4 50 yX4_in wsX4_in) := goodIn_app (goodIn_of _ (by decide +kernel)) ggX4_pass_X4_in
set_option maxRecDepth 20000 in
theorem ggX4_pass_X4_isFine : GoodIn wsX4_pass wsX4_isFine := goodIn_r _ [9, 10, 31, 32, 33, 34, 35, 36, 37, 38, 39, 40, 41, 42, 43, 44, 45] (by decide +kernel) (by decide +kernel)
set_option maxRecDepth 20000 in
theorem gX4_pass_X4_isFine : GoodIn wsX4_pass (wsV RX4 62 RX4 yX4_isFine wsX4_isFine) := goodIn_app (goodIn_of _ (by decide +kernel)) ggX4_pass_X4_isFine
set_option maxRecDepth 20000 in
theorem ggX4_pass_X4_goesDay : GoodIn wsX4_pass wsX4_goesDay := goodIn_r _ [14, 15, 1, 16, 17, 18, 19, 20, 21, 4, 22, 23, 24, 25, 26, 27, 28, 29, 30, 31, 32, 33, 34, 35, 36, 37, 38, 39, 40, 41, 42, 43, 44, 45] (by decide +kernel) (by decide +kernel)
set_option maxRecDepth 20000 in
theorem gX4_pass_X4_goesDay : GoodIn wsX4_pass (wsV RX4 102 RX4 yX4_goesDay wsX4_goesDay) := goodIn_app (goodIn_of _ (by decide +kernel)) ggX4_pass_X4_goesDay
theorem dX4_pass_0 : decode cX4_pass 0 = .ok (.aload_n 0, 1) := by decide +kernel
theorem dX4_pass_1 : decode cX4_pass 1 = .ok (.iload_n 1, 1) := by decide +kernel
theorem dX4_pass_2 : decode cX4_pass 2 = .ok (.iconst 1, 1) := by decide +kernel
theorem dX4_pass_3 : decode cX4_pass 3 = .ok (.bipush 100, 2) := by decide +kernel
theorem dX4_pass_5 : decode cX4_pass 5 = .ok (.invokestatic 50, 3) := by decide +kernel
theorem dX4_pass_8 : decode cX4_pass 8 = .ok (.ifCond .ne 7, 3) := by decide +kernel
theorem dX4_pass_11 : decode cX4_pass 11 = .ok (.iconst 1, 1) := by decide +kernel
theorem dX4_pass_12 : decode cX4_pass 12 = .ok (.goto 20, 3) := by decide +kernel
theorem dX4_pass_15 : decode cX4_pass 15 = .ok (.aload_n 0, 1) := by decide +kernel
theorem dX4_pass_16 : decode cX4_pass 16 = .ok (.getfield 82, 3) := by decide +kernel
theorem dX4_pass_19 : decode cX4_pass 19 = .ok (.iload_n 1, 1) := by decide +kernel
theorem dX4_pass_20 : decode cX4_pass 20 = .ok (.iadd, 1) := by decide +kernel
theorem dX4_pass_21 : decode cX4_pass 21 = .ok (.sipush 10000, 3) := by decide +kernel
theorem dX4_pass_24 : decode cX4_pass 24 = .ok (.if_icmp .le 7, 3) := by decide +kernel
theorem dX4_pass_27 : decode cX4_pass 27 = .ok (.iconst 2, 1) := by decide +kernel
theorem dX4_pass_28 : decode cX4_pass 28 = .ok (.goto 4, 3) := by decide +kernel
theorem dX4_pass_31 : decode cX4_pass 31 = .ok (.iconst 0, 1) := by decide +kernel
theorem dX4_pass_32 : decode cX4_pass 32 = .ok (.invokevirtual 62, 3) := by decide +kernel
theorem dX4_pass_35 : decode cX4_pass 35 = .ok (.ifCond .ne 5, 3) := by decide +kernel
theorem dX4_pass_38 : decode cX4_pass 38 = .ok (.iconst 0, 1) := by decide +kernel
theorem dX4_pass_39 : decode cX4_pass 39 = .ok (.ireturn, 1) := by decide +kernel
theorem dX4_pass_40 : decode cX4_pass 40 = .ok (.iconst 0, 1) := by decide +kernel
theorem dX4_pass_41 : decode cX4_pass 41 = .ok (.istore_n 2, 1) := by decide +kernel
theorem dX4_pass_42 : decode cX4_pass 42 = .ok (.iconst 0, 1) := by decide +kernel
theorem dX4_pass_43 : decode cX4_pass 43 = .ok (.istore_n 3, 1) := by decide +kernel
theorem dX4_pass_44 : decode cX4_pass 44 = .ok (.iload_n 3, 1) := by decide +kernel
theorem dX4_pass_45 : decode cX4_pass 45 = .ok (.iload_n 1, 1) := by decide +kernel
theorem dX4_pass_46 : decode cX4_pass 46 = .ok (.if_icmp .ge 16, 3) := by decide +kernel
theorem dX4_pass_49 : decode cX4_pass 49 = .ok (.iload_n 2, 1) := by decide +kernel
theorem dX4_pass_50 : decode cX4_pass 50 = .ok (.aload_n 0, 1) := by decide +kernel
theorem dX4_pass_51 : decode cX4_pass 51 = .ok (.invokevirtual 102, 3) := by decide +kernel
theorem dX4_pass_54 : decode cX4_pass 54 = .ok (.iadd, 1) := by decide +kernel
theorem dX4_pass_55 : decode cX4_pass 55 = .ok (.istore_n 2, 1) := by decide +kernel
theorem dX4_pass_56 : decode cX4_pass 56 = .ok (.iinc 3 1, 3) := by decide +kernel
theorem dX4_pass_59 : decode cX4_pass 59 = .ok (.goto (-15), 3) := by decide +kernel
theorem dX4_pass_62 : decode cX4_pass 62 = .ok (.iload_n 2, 1) := by decide +kernel
theorem dX4_pass_63 : decode cX4_pass 63 = .ok (.ireturn, 1) := by decide +kernel
theorem dX4_day_0 : decode cX4_day 0 = .ok (.aload_n 0, 1) := by decide +kernel
theorem dX4_day_1 : decode cX4_day 1 = .ok (.iconst 0, 1) := by decide +kernel
theorem dX4_day_2 : decode cX4_day 2 = .ok (.putfield 47, 3) := by decide +kernel
theorem dX4_day_5 : decode cX4_day 5 = .ok (.aload_n 0, 1) := by decide +kernel
theorem dX4_day_6 : decode cX4_day 6 = .ok (.getfield 82, 3) := by decide +kernel
theorem dX4_day_9 : decode cX4_day 9 = .ok (.ireturn, 1) := by decide +kernel
theorem dX4_directories_0 : decode cX4_directories 0 = .ok (.aload_n 0, 1) := by decide +kernel
theorem dX4_directories_1 : decode cX4_directories 1 = .ok (.iconst 0, 1) := by decide +kernel
theorem dX4_directories_2 : decode cX4_directories 2 = .ok (.putfield 47, 3) := by decide +kernel
theorem dX4_directories_5 : decode cX4_directories 5 = .ok (.aload_n 0, 1) := by decide +kernel
theorem dX4_directories_6 : decode cX4_directories 6 = .ok (.getfield 16, 3) := by decide +kernel
theorem dX4_directories_9 : decode cX4_directories 9 = .ok (.ireturn, 1) := by decide +kernel
theorem dX4_files_0 : decode cX4_files 0 = .ok (.aload_n 0, 1) := by decide +kernel
theorem dX4_files_1 : decode cX4_files 1 = .ok (.iconst 0, 1) := by decide +kernel
theorem dX4_files_2 : decode cX4_files 2 = .ok (.putfield 47, 3) := by decide +kernel
theorem dX4_files_5 : decode cX4_files 5 = .ok (.aload_n 0, 1) := by decide +kernel
theorem dX4_files_6 : decode cX4_files 6 = .ok (.getfield 54, 3) := by decide +kernel
theorem dX4_files_9 : decode cX4_files 9 = .ok (.ireturn, 1) := by decide +kernel
set_option maxRecDepth 20000 in
theorem ggX4_usage_X4_isDirectory : GoodIn wsX4_usage wsX4_isDirectory := goodIn_r _ [5, 6, 7, 8, 4, 9, 32, 33, 34, 35, 36, 37, 38, 39, 40, 41, 42, 43, 44, 45, 46] (by decide +kernel) (by decide +kernel)
set_option maxRecDepth 20000 in
theorem gX4_usage_X4_isDirectory : GoodIn wsX4_usage (wsV RX4 57 RX4 yX4_isDirectory wsX4_isDirectory) := goodIn_app (goodIn_of _ (by decide +kernel)) ggX4_usage_X4_isDirectory
set_option maxRecDepth 20000 in
theorem ggX4_usage_X4_isFine : GoodIn wsX4_usage wsX4_isFine := goodIn_r _ [13, 14, 32, 33, 34, 35, 36, 37, 38, 39, 40, 41, 42, 43, 44, 45, 46] (by decide +kernel) (by decide +kernel)
set_option maxRecDepth 20000 in
theorem gX4_usage_X4_isFine : GoodIn wsX4_usage (wsV RX4 62 RX4 yX4_isFine wsX4_isFine) := goodIn_app (goodIn_of _ (by decide +kernel)) ggX4_usage_X4_isFine
set_option maxRecDepth 20000 in
theorem ggX4_usage_X4_usageOf : GoodIn wsX4_usage wsX4_usageOf := goodIn_r _ [18, 19, 20, 21, 22, 23, 24, 4, 25, 26, 27, 28, 29, 30, 31, 32, 33, 34, 35, 36, 37, 38, 39, 40, 41, 42, 43, 44, 45, 46] (by decide +kernel) (by decide +kernel)
set_option maxRecDepth 20000 in
theorem gX4_usage_X4_usageOf : GoodIn wsX4_usage (wsV RX4 73 RX4 yX4_usageOf wsX4_usageOf) := goodIn_app (goodIn_of _ (by decide +kernel)) ggX4_usage_X4_usageOf
theorem dX4_usage_0 : decode cX4_usage 0 = .ok (.aload_n 0, 1) := by decide +kernel
theorem dX4_usage_1 : decode cX4_usage 1 = .ok (.aload_n 0, 1) := by decide +kernel
theorem dX4_usage_2 : decode cX4_usage 2 = .ok (.iload_n 1, 1) := by decide +kernel
theorem dX4_usage_3 : decode cX4_usage 3 = .ok (.invokevirtual 57, 3) := by decide +kernel
theorem dX4_usage_6 : decode cX4_usage 6 = .ok (.ifCond .eq 7, 3) := by decide +kernel
theorem dX4_usage_9 : decode cX4_usage 9 = .ok (.iconst 0, 1) := by decide +kernel
theorem dX4_usage_10 : decode cX4_usage 10 = .ok (.goto 4, 3) := by decide +kernel
theorem dX4_usage_13 : decode cX4_usage 13 = .ok (.iconst 1, 1) := by decide +kernel
theorem dX4_usage_14 : decode cX4_usage 14 = .ok (.invokevirtual 62, 3) := by decide +kernel
theorem dX4_usage_17 : decode cX4_usage 17 = .ok (.ifCond .eq 11, 3) := by decide +kernel
theorem dX4_usage_20 : decode cX4_usage 20 = .ok (.aload_n 0, 1) := by decide +kernel
theorem dX4_usage_21 : decode cX4_usage 21 = .ok (.iload_n 1, 1) := by decide +kernel
theorem dX4_usage_22 : decode cX4_usage 22 = .ok (.invokevirtual 73, 3) := by decide +kernel
theorem dX4_usage_25 : decode cX4_usage 25 = .ok (.goto 4, 3) := by decide +kernel
theorem dX4_usage_28 : decode cX4_usage 28 = .ok (.iconst 0, 1) := by decide +kernel
theorem dX4_usage_29 : decode cX4_usage 29 = .ok (.ireturn, 1) := by decide +kernel
set_option maxRecDepth 20000 in
theorem ggX4_usageByWalking_X4_isDirectory : GoodIn wsX4_usageByWalking wsX4_isDirectory := goodIn_r _ [5, 6, 7, 8, 4, 9, 32, 33, 34, 35, 36, 37, 38, 39, 40, 41, 42, 43, 44, 45, 46] (by decide +kernel) (by decide +kernel)
set_option maxRecDepth 20000 in
theorem gX4_usageByWalking_X4_isDirectory : GoodIn wsX4_usageByWalking (wsV RX4 57 RX4 yX4_isDirectory wsX4_isDirectory) := goodIn_app (goodIn_of _ (by decide +kernel)) ggX4_usageByWalking_X4_isDirectory
set_option maxRecDepth 20000 in
theorem ggX4_usageByWalking_X4_isFine : GoodIn wsX4_usageByWalking wsX4_isFine := goodIn_r _ [13, 14, 32, 33, 34, 35, 36, 37, 38, 39, 40, 41, 42, 43, 44, 45, 46] (by decide +kernel) (by decide +kernel)
set_option maxRecDepth 20000 in
theorem gX4_usageByWalking_X4_isFine : GoodIn wsX4_usageByWalking (wsV RX4 62 RX4 yX4_isFine wsX4_isFine) := goodIn_app (goodIn_of _ (by decide +kernel)) ggX4_usageByWalking_X4_isFine
set_option maxRecDepth 20000 in
theorem ggX4_usageByWalking_X4_usageOf : GoodIn wsX4_usageByWalking wsX4_usageOf := goodIn_r _ [18, 19, 20, 21, 22, 23, 24, 4, 25, 26, 27, 28, 29, 30, 31, 32, 33, 34, 35, 36, 37, 38, 39, 40, 41, 42, 43, 44, 45, 46] (by decide +kernel) (by decide +kernel)
set_option maxRecDepth 20000 in
theorem gX4_usageByWalking_X4_usageOf : GoodIn wsX4_usageByWalking (wsV RX4 73 RX4 yX4_usageOf wsX4_usageOf) := goodIn_app (goodIn_of _ (by decide +kernel)) ggX4_usageByWalking_X4_usageOf
theorem dX4_usageByWalking_0 : decode cX4_usageByWalking 0 = .ok (.aload_n 0, 1) := by decide +kernel
theorem dX4_usageByWalking_1 : decode cX4_usageByWalking 1 = .ok (.aload_n 0, 1) := by decide +kernel
theorem dX4_usageByWalking_2 : decode cX4_usageByWalking 2 = .ok (.iload_n 1, 1) := by decide +kernel
theorem dX4_usageByWalking_3 : decode cX4_usageByWalking 3 = .ok (.invokevirtual 57, 3) := by decide +kernel
theorem dX4_usageByWalking_6 : decode cX4_usageByWalking 6 = .ok (.ifCond .eq 7, 3) := by decide +kernel
theorem dX4_usageByWalking_9 : decode cX4_usageByWalking 9 = .ok (.iconst 0, 1) := by decide +kernel
theorem dX4_usageByWalking_10 : decode cX4_usageByWalking 10 = .ok (.goto 4, 3) := by decide +kernel
theorem dX4_usageByWalking_13 : decode cX4_usageByWalking 13 = .ok (.iconst 1, 1) := by decide +kernel
theorem dX4_usageByWalking_14 : decode cX4_usageByWalking 14 = .ok (.invokevirtual 62, 3) := by decide +kernel
theorem dX4_usageByWalking_17 : decode cX4_usageByWalking 17 = .ok (.ifCond .eq 11, 3) := by decide +kernel
theorem dX4_usageByWalking_20 : decode cX4_usageByWalking 20 = .ok (.aload_n 0, 1) := by decide +kernel
theorem dX4_usageByWalking_21 : decode cX4_usageByWalking 21 = .ok (.iload_n 1, 1) := by decide +kernel
theorem dX4_usageByWalking_22 : decode cX4_usageByWalking 22 = .ok (.invokevirtual 73, 3) := by decide +kernel
theorem dX4_usageByWalking_25 : decode cX4_usageByWalking 25 = .ok (.goto 4, 3) := by decide +kernel
theorem dX4_usageByWalking_28 : decode cX4_usageByWalking 28 = .ok (.iconst 0, 1) := by decide +kernel
theorem dX4_usageByWalking_29 : decode cX4_usageByWalking 29 = .ok (.ireturn, 1) := by decide +kernel
set_option maxRecDepth 20000 in
theorem ggX4_size_X4_isFile : GoodIn wsX4_size wsX4_isFile := goodIn_r _ [6, 7, 8, 9, 5, 10, 16, 17, 18, 19, 20, 21, 22, 23, 24, 25, 26, 27, 28, 29, 30] (by decide +kernel) (by decide +kernel)
set_option maxRecDepth 20000 in
theorem gX4_size_X4_isFile : GoodIn wsX4_size (wsV RX4 85 RX4 yX4_isFile wsX4_isFile) := goodIn_app (goodIn_of _ (by decide +kernel)) ggX4_size_X4_isFile
set_option maxRecDepth 20000 in
theorem ggX4_size_X4_isFine : GoodIn wsX4_size wsX4_isFine := goodIn_r _ [14, 15, 16, 17, 18, 19, 20, 21, 22, 23, 24, 25, 26, 27, 28, 29, 30] (by decide +kernel) (by decide +kernel)
set_option maxRecDepth 20000 in
theorem gX4_size_X4_isFine : GoodIn wsX4_size (wsV RX4 62 RX4 yX4_isFine wsX4_isFine) := goodIn_app (goodIn_of _ (by decide +kernel)) ggX4_size_X4_isFine
theorem dX4_size_0 : decode cX4_size 0 = .ok (.aload_n 0, 1) := by decide +kernel
theorem dX4_size_1 : decode cX4_size 1 = .ok (.aload_n 0, 1) := by decide +kernel
theorem dX4_size_2 : decode cX4_size 2 = .ok (.iload_n 1, 1) := by decide +kernel
theorem dX4_size_3 : decode cX4_size 3 = .ok (.invokevirtual 85, 3) := by decide +kernel
theorem dX4_size_6 : decode cX4_size 6 = .ok (.ifCond .eq 7, 3) := by decide +kernel
theorem dX4_size_9 : decode cX4_size 9 = .ok (.iconst 0, 1) := by decide +kernel
theorem dX4_size_10 : decode cX4_size 10 = .ok (.goto 4, 3) := by decide +kernel
theorem dX4_size_13 : decode cX4_size 13 = .ok (.iconst 1, 1) := by decide +kernel
theorem dX4_size_14 : decode cX4_size 14 = .ok (.invokevirtual 62, 3) := by decide +kernel
theorem dX4_size_17 : decode cX4_size 17 = .ok (.ifCond .eq 12, 3) := by decide +kernel
theorem dX4_size_20 : decode cX4_size 20 = .ok (.aload_n 0, 1) := by decide +kernel
theorem dX4_size_21 : decode cX4_size 21 = .ok (.getfield 23, 3) := by decide +kernel
theorem dX4_size_24 : decode cX4_size 24 = .ok (.iload_n 1, 1) := by decide +kernel
theorem dX4_size_25 : decode cX4_size 25 = .ok (.iaload, 1) := by decide +kernel
theorem dX4_size_26 : decode cX4_size 26 = .ok (.goto 4, 3) := by decide +kernel
theorem dX4_size_29 : decode cX4_size 29 = .ok (.iconst 0, 1) := by decide +kernel
theorem dX4_size_30 : decode cX4_size 30 = .ok (.ireturn, 1) := by decide +kernel
set_option maxRecDepth 20000 in
theorem ggX4_home_X4_isFile : GoodIn wsX4_home wsX4_isFile := goodIn_r _ [5, 6, 7, 8, 4, 9, 21, 22, 23, 24, 25, 26, 27, 28, 29, 30, 31, 32, 33, 34, 35] (by decide +kernel) (by decide +kernel)
set_option maxRecDepth 20000 in
theorem gX4_home_X4_isFile : GoodIn wsX4_home (wsV RX4 85 RX4 yX4_isFile wsX4_isFile) := goodIn_app (goodIn_of _ (by decide +kernel)) ggX4_home_X4_isFile
set_option maxRecDepth 20000 in
theorem ggX4_home_X4_isFine : GoodIn wsX4_home wsX4_isFine := goodIn_r _ [13, 14, 21, 22, 23, 24, 25, 26, 27, 28, 29, 30, 31, 32, 33, 34, 35] (by decide +kernel) (by decide +kernel)
set_option maxRecDepth 20000 in
theorem gX4_home_X4_isFine : GoodIn wsX4_home (wsV RX4 62 RX4 yX4_isFine wsX4_isFine) := goodIn_app (goodIn_of _ (by decide +kernel)) ggX4_home_X4_isFine
set_option maxRecDepth 20000 in
theorem ggX4_home_X4_homeOf : GoodIn wsX4_home wsX4_homeOf := goodIn_r _ [18, 19, 20, 21, 22, 23, 24, 25, 26, 27, 28, 29, 30, 31, 32, 33, 34, 35] (by decide +kernel) (by decide +kernel)
set_option maxRecDepth 20000 in
theorem gX4_home_X4_homeOf : GoodIn wsX4_home (wsV RX4 65 RX4 yX4_homeOf wsX4_homeOf) := goodIn_app (goodIn_of _ (by decide +kernel)) ggX4_home_X4_homeOf
theorem dX4_home_0 : decode cX4_home 0 = .ok (.aload_n 0, 1) := by decide +kernel
theorem dX4_home_1 : decode cX4_home 1 = .ok (.aload_n 0, 1) := by decide +kernel
theorem dX4_home_2 : decode cX4_home 2 = .ok (.iload_n 1, 1) := by decide +kernel
theorem dX4_home_3 : decode cX4_home 3 = .ok (.invokevirtual 85, 3) := by decide +kernel
theorem dX4_home_6 : decode cX4_home 6 = .ok (.ifCond .eq 7, 3) := by decide +kernel
theorem dX4_home_9 : decode cX4_home 9 = .ok (.iconst 0, 1) := by decide +kernel
theorem dX4_home_10 : decode cX4_home 10 = .ok (.goto 4, 3) := by decide +kernel
theorem dX4_home_13 : decode cX4_home 13 = .ok (.iconst 1, 1) := by decide +kernel
theorem dX4_home_14 : decode cX4_home 14 = .ok (.invokevirtual 62, 3) := by decide +kernel
theorem dX4_home_17 : decode cX4_home 17 = .ok (.ifCond .eq 11, 3) := by decide +kernel
theorem dX4_home_20 : decode cX4_home 20 = .ok (.aload_n 0, 1) := by decide +kernel
theorem dX4_home_21 : decode cX4_home 21 = .ok (.iload_n 1, 1) := by decide +kernel
theorem dX4_home_22 : decode cX4_home 22 = .ok (.invokevirtual 65, 3) := by decide +kernel
theorem dX4_home_25 : decode cX4_home 25 = .ok (.goto 4, 3) := by decide +kernel
theorem dX4_home_28 : decode cX4_home 28 = .ok (.iconst 0, 1) := by decide +kernel
theorem dX4_home_29 : decode cX4_home 29 = .ok (.ireturn, 1) := by decide +kernel
set_option maxRecDepth 20000 in
theorem ggX4_kept_X4_isFile : GoodIn wsX4_kept wsX4_isFile := goodIn_r _ [6, 7, 8, 9, 5, 10, 16, 17, 18, 19, 20, 21, 22, 23, 24, 25, 26, 27, 28, 29, 30] (by decide +kernel) (by decide +kernel)
set_option maxRecDepth 20000 in
theorem gX4_kept_X4_isFile : GoodIn wsX4_kept (wsV RX4 85 RX4 yX4_isFile wsX4_isFile) := goodIn_app (goodIn_of _ (by decide +kernel)) ggX4_kept_X4_isFile
set_option maxRecDepth 20000 in
theorem ggX4_kept_X4_isFine : GoodIn wsX4_kept wsX4_isFine := goodIn_r _ [14, 15, 16, 17, 18, 19, 20, 21, 22, 23, 24, 25, 26, 27, 28, 29, 30] (by decide +kernel) (by decide +kernel)
set_option maxRecDepth 20000 in
theorem gX4_kept_X4_isFine : GoodIn wsX4_kept (wsV RX4 62 RX4 yX4_isFine wsX4_isFine) := goodIn_app (goodIn_of _ (by decide +kernel)) ggX4_kept_X4_isFine
theorem dX4_kept_0 : decode cX4_kept 0 = .ok (.aload_n 0, 1) := by decide +kernel
theorem dX4_kept_1 : decode cX4_kept 1 = .ok (.aload_n 0, 1) := by decide +kernel
theorem dX4_kept_2 : decode cX4_kept 2 = .ok (.iload_n 1, 1) := by decide +kernel
theorem dX4_kept_3 : decode cX4_kept 3 = .ok (.invokevirtual 85, 3) := by decide +kernel
end
section
theorem dX4_kept_6 : decode cX4_kept 6 = .ok (.ifCond .eq 7, 3) := by decide +kernel
theorem dX4_kept_9 : decode cX4_kept 9 = .ok (.iconst 0, 1) := by decide +kernel
theorem dX4_kept_10 : decode cX4_kept 10 = .ok (.goto 4, 3) := by decide +kernel
theorem dX4_kept_13 : decode cX4_kept 13 = .ok (.iconst 1, 1) := by decide +kernel
theorem dX4_kept_14 : decode cX4_kept 14 = .ok (.invokevirtual 62, 3) := by decide +kernel
theorem dX4_kept_17 : decode cX4_kept 17 = .ok (.ifCond .eq 12, 3) := by decide +kernel
theorem dX4_kept_20 : decode cX4_kept 20 = .ok (.aload_n 0, 1) := by decide +kernel
theorem dX4_kept_21 : decode cX4_kept 21 = .ok (.getfield 32, 3) := by decide +kernel
theorem dX4_kept_24 : decode cX4_kept 24 = .ok (.iload_n 1, 1) := by decide +kernel
theorem dX4_kept_25 : decode cX4_kept 25 = .ok (.iaload, 1) := by decide +kernel
theorem dX4_kept_26 : decode cX4_kept 26 = .ok (.goto 4, 3) := by decide +kernel
theorem dX4_kept_29 : decode cX4_kept 29 = .ok (.iconst 0, 1) := by decide +kernel
theorem dX4_kept_30 : decode cX4_kept 30 = .ok (.ireturn, 1) := by decide +kernel
set_option maxRecDepth 20000 in
theorem ggX4_holders_X4_isFile : GoodIn wsX4_holders wsX4_isFile := goodIn_r _ [6, 7, 8, 9, 5, 10, 16, 17, 18, 19, 20, 21, 22, 23, 24, 25, 26, 27, 28, 29, 30] (by decide +kernel) (by decide +kernel)
set_option maxRecDepth 20000 in
theorem gX4_holders_X4_isFile : GoodIn wsX4_holders (wsV RX4 85 RX4 yX4_isFile wsX4_isFile) := goodIn_app (goodIn_of _ (by decide +kernel)) ggX4_holders_X4_isFile
set_option maxRecDepth 20000 in
theorem ggX4_holders_X4_isFine : GoodIn wsX4_holders wsX4_isFine := goodIn_r _ [14, 15, 16, 17, 18, 19, 20, 21, 22, 23, 24, 25, 26, 27, 28, 29, 30] (by decide +kernel) (by decide +kernel)
set_option maxRecDepth 20000 in
theorem gX4_holders_X4_isFine : GoodIn wsX4_holders (wsV RX4 62 RX4 yX4_isFine wsX4_isFine) := goodIn_app (goodIn_of _ (by decide +kernel)) ggX4_holders_X4_isFine
theorem dX4_holders_0 : decode cX4_holders 0 = .ok (.aload_n 0, 1) := by decide +kernel
theorem dX4_holders_1 : decode cX4_holders 1 = .ok (.aload_n 0, 1) := by decide +kernel
theorem dX4_holders_2 : decode cX4_holders 2 = .ok (.iload_n 1, 1) := by decide +kernel
theorem dX4_holders_3 : decode cX4_holders 3 = .ok (.invokevirtual 85, 3) := by decide +kernel
theorem dX4_holders_6 : decode cX4_holders 6 = .ok (.ifCond .eq 7, 3) := by decide +kernel
theorem dX4_holders_9 : decode cX4_holders 9 = .ok (.iconst 0, 1) := by decide +kernel
theorem dX4_holders_10 : decode cX4_holders 10 = .ok (.goto 4, 3) := by decide +kernel
theorem dX4_holders_13 : decode cX4_holders 13 = .ok (.iconst 1, 1) := by decide +kernel
theorem dX4_holders_14 : decode cX4_holders 14 = .ok (.invokevirtual 62, 3) := by decide +kernel
theorem dX4_holders_17 : decode cX4_holders 17 = .ok (.ifCond .eq 12, 3) := by decide +kernel
theorem dX4_holders_20 : decode cX4_holders 20 = .ok (.aload_n 0, 1) := by decide +kernel
theorem dX4_holders_21 : decode cX4_holders 21 = .ok (.getfield 35, 3) := by decide +kernel
theorem dX4_holders_24 : decode cX4_holders 24 = .ok (.iload_n 1, 1) := by decide +kernel
theorem dX4_holders_25 : decode cX4_holders 25 = .ok (.iaload, 1) := by decide +kernel
theorem dX4_holders_26 : decode cX4_holders 26 = .ok (.goto 4, 3) := by decide +kernel
theorem dX4_holders_29 : decode cX4_holders 29 = .ok (.iconst 0, 1) := by decide +kernel
theorem dX4_holders_30 : decode cX4_holders 30 = .ok (.ireturn, 1) := by decide +kernel
set_option maxRecDepth 20000 in
theorem ggX4_tier_X4_isFile : GoodIn wsX4_tier wsX4_isFile := goodIn_r _ [5, 6, 7, 8, 4, 9, 22, 23, 24, 25, 26, 27, 28, 29, 30, 31, 32, 33, 34, 35, 36] (by decide +kernel) (by decide +kernel)
set_option maxRecDepth 20000 in
theorem gX4_tier_X4_isFile : GoodIn wsX4_tier (wsV RX4 85 RX4 yX4_isFile wsX4_isFile) := goodIn_app (goodIn_of _ (by decide +kernel)) ggX4_tier_X4_isFile
set_option maxRecDepth 20000 in
theorem ggX4_tier_X4_isFine : GoodIn wsX4_tier wsX4_isFine := goodIn_r _ [13, 14, 22, 23, 24, 25, 26, 27, 28, 29, 30, 31, 32, 33, 34, 35, 36] (by decide +kernel) (by decide +kernel)
set_option maxRecDepth 20000 in
theorem gX4_tier_X4_isFine : GoodIn wsX4_tier (wsV RX4 62 RX4 yX4_isFine wsX4_isFine) := goodIn_app (goodIn_of _ (by decide +kernel)) ggX4_tier_X4_isFine
set_option maxRecDepth 20000 in
theorem ggX4_tier_X4_tierOf : GoodIn wsX4_tier wsX4_tierOf := goodIn_r _ [18, 19, 20, 21, 22, 23, 24, 25, 26, 27, 28, 29, 30, 31, 32, 33, 34, 35, 36] (by decide +kernel) (by decide +kernel)
set_option maxRecDepth 20000 in
theorem gX4_tier_X4_tierOf : GoodIn wsX4_tier (wsV RX4 92 RX4 yX4_tierOf wsX4_tierOf) := goodIn_app (goodIn_of _ (by decide +kernel)) ggX4_tier_X4_tierOf
theorem dX4_tier_0 : decode cX4_tier 0 = .ok (.aload_n 0, 1) := by decide +kernel
theorem dX4_tier_1 : decode cX4_tier 1 = .ok (.aload_n 0, 1) := by decide +kernel
theorem dX4_tier_2 : decode cX4_tier 2 = .ok (.iload_n 1, 1) := by decide +kernel
theorem dX4_tier_3 : decode cX4_tier 3 = .ok (.invokevirtual 85, 3) := by decide +kernel
theorem dX4_tier_6 : decode cX4_tier 6 = .ok (.ifCond .eq 7, 3) := by decide +kernel
theorem dX4_tier_9 : decode cX4_tier 9 = .ok (.iconst 0, 1) := by decide +kernel
theorem dX4_tier_10 : decode cX4_tier 10 = .ok (.goto 4, 3) := by decide +kernel
theorem dX4_tier_13 : decode cX4_tier 13 = .ok (.iconst 1, 1) := by decide +kernel
theorem dX4_tier_14 : decode cX4_tier 14 = .ok (.invokevirtual 62, 3) := by decide +kernel
theorem dX4_tier_17 : decode cX4_tier 17 = .ok (.ifCond .eq 11, 3) := by decide +kernel
theorem dX4_tier_20 : decode cX4_tier 20 = .ok (.aload_n 0, 1) := by decide +kernel
theorem dX4_tier_21 : decode cX4_tier 21 = .ok (.iload_n 1, 1) := by decide +kernel
theorem dX4_tier_22 : decode cX4_tier 22 = .ok (.invokevirtual 92, 3) := by decide +kernel
theorem dX4_tier_25 : decode cX4_tier 25 = .ok (.goto 4, 3) := by decide +kernel
theorem dX4_tier_28 : decode cX4_tier 28 = .ok (.iconst 0, 1) := by decide +kernel
theorem dX4_tier_29 : decode cX4_tier 29 = .ok (.ireturn, 1) := by decide +kernel
set_option maxRecDepth 20000 in
theorem ggX4_coins_X4_isDepartment : GoodIn wsX4_coins wsX4_isDepartment := goodIn_r _ [5, 6, 7, 4, 8] (by decide +kernel) (by decide +kernel)
set_option maxRecDepth 20000 in
theorem gX4_coins_X4_isDepartment : GoodIn wsX4_coins (va_wsS RX4 76 yX4_isDepartment wsX4_isDepartment) := goodIn_app (goodIn_of _ (by decide +kernel)) ggX4_coins_X4_isDepartment
set_option maxRecDepth 20000 in
theorem ggX4_coins_X4_isFine : GoodIn wsX4_coins wsX4_isFine := goodIn_r _ [12, 13, 14, 15, 16, 17, 18, 19, 20, 21, 22, 23, 24, 25, 26, 27, 28] (by decide +kernel) (by decide +kernel)
set_option maxRecDepth 20000 in
theorem gX4_coins_X4_isFine : GoodIn wsX4_coins (wsV RX4 62 RX4 yX4_isFine wsX4_isFine) := goodIn_app (goodIn_of _ (by decide +kernel)) ggX4_coins_X4_isFine
theorem dX4_coins_0 : decode cX4_coins 0 = .ok (.aload_n 0, 1) := by decide +kernel
theorem dX4_coins_1 : decode cX4_coins 1 = .ok (.iload_n 1, 1) := by decide +kernel
theorem dX4_coins_2 : decode cX4_coins 2 = .ok (.invokestatic 76, 3) := by decide +kernel
theorem dX4_coins_5 : decode cX4_coins 5 = .ok (.ifCond .eq 7, 3) := by decide +kernel
theorem dX4_coins_8 : decode cX4_coins 8 = .ok (.iconst 0, 1) := by decide +kernel
theorem dX4_coins_9 : decode cX4_coins 9 = .ok (.goto 4, 3) := by decide +kernel
theorem dX4_coins_12 : decode cX4_coins 12 = .ok (.iconst 1, 1) := by decide +kernel
theorem dX4_coins_13 : decode cX4_coins 13 = .ok (.invokevirtual 62, 3) := by decide +kernel
theorem dX4_coins_16 : decode cX4_coins 16 = .ok (.ifCond .eq 12, 3) := by decide +kernel
theorem dX4_coins_19 : decode cX4_coins 19 = .ok (.aload_n 0, 1) := by decide +kernel
theorem dX4_coins_20 : decode cX4_coins 20 = .ok (.getfield 44, 3) := by decide +kernel
theorem dX4_coins_23 : decode cX4_coins 23 = .ok (.iload_n 1, 1) := by decide +kernel
theorem dX4_coins_24 : decode cX4_coins 24 = .ok (.iaload, 1) := by decide +kernel
theorem dX4_coins_25 : decode cX4_coins 25 = .ok (.goto 4, 3) := by decide +kernel
theorem dX4_coins_28 : decode cX4_coins 28 = .ok (.iconst 0, 1) := by decide +kernel
theorem dX4_coins_29 : decode cX4_coins 29 = .ok (.ireturn, 1) := by decide +kernel
set_option maxRecDepth 20000 in
theorem ggX4_bill_X4_isDepartment : GoodIn wsX4_bill wsX4_isDepartment := goodIn_r _ [4, 5, 6, 3, 7] (by decide +kernel) (by decide +kernel)
set_option maxRecDepth 20000 in
theorem gX4_bill_X4_isDepartment : GoodIn wsX4_bill (va_wsS RX4 76 yX4_isDepartment wsX4_isDepartment) := goodIn_app (goodIn_of _ (by decide +kernel)) ggX4_bill_X4_isDepartment
set_option maxRecDepth 20000 in
theorem ggX4_bill_X4_isFine : GoodIn wsX4_bill wsX4_isFine := goodIn_r _ [11, 12, 28, 29, 30, 31, 32, 33, 34, 35, 36, 37, 38, 39, 40, 41, 42] (by decide +kernel) (by decide +kernel)
set_option maxRecDepth 20000 in
theorem gX4_bill_X4_isFine : GoodIn wsX4_bill (wsV RX4 62 RX4 yX4_isFine wsX4_isFine) := goodIn_app (goodIn_of _ (by decide +kernel)) ggX4_bill_X4_isFine
set_option maxRecDepth 20000 in
theorem ggX4_bill_X4_billOf : GoodIn wsX4_bill wsX4_billOf := goodIn_r _ [16, 17, 18, 19, 20, 21, 22, 23, 24, 3, 25, 26, 27, 28, 29, 30, 31, 32, 33, 34, 35, 36, 37, 38, 39, 40, 41, 42] (by decide +kernel) (by decide +kernel)
set_option maxRecDepth 20000 in
theorem gX4_bill_X4_billOf : GoodIn wsX4_bill (wsV RX4 99 RX4 yX4_billOf wsX4_billOf) := goodIn_app (goodIn_of _ (by decide +kernel)) ggX4_bill_X4_billOf
theorem dX4_bill_0 : decode cX4_bill 0 = .ok (.aload_n 0, 1) := by decide +kernel
theorem dX4_bill_1 : decode cX4_bill 1 = .ok (.iload_n 1, 1) := by decide +kernel
theorem dX4_bill_2 : decode cX4_bill 2 = .ok (.invokestatic 76, 3) := by decide +kernel
theorem dX4_bill_5 : decode cX4_bill 5 = .ok (.ifCond .eq 7, 3) := by decide +kernel
theorem dX4_bill_8 : decode cX4_bill 8 = .ok (.iconst 0, 1) := by decide +kernel
theorem dX4_bill_9 : decode cX4_bill 9 = .ok (.goto 4, 3) := by decide +kernel
theorem dX4_bill_12 : decode cX4_bill 12 = .ok (.iconst 1, 1) := by decide +kernel
theorem dX4_bill_13 : decode cX4_bill 13 = .ok (.invokevirtual 62, 3) := by decide +kernel
theorem dX4_bill_16 : decode cX4_bill 16 = .ok (.ifCond .eq 11, 3) := by decide +kernel
theorem dX4_bill_19 : decode cX4_bill 19 = .ok (.aload_n 0, 1) := by decide +kernel
theorem dX4_bill_20 : decode cX4_bill 20 = .ok (.iload_n 1, 1) := by decide +kernel
theorem dX4_bill_21 : decode cX4_bill 21 = .ok (.invokevirtual 99, 3) := by decide +kernel
theorem dX4_bill_24 : decode cX4_bill 24 = .ok (.goto 4, 3) := by decide +kernel
theorem dX4_bill_27 : decode cX4_bill 27 = .ok (.iconst 0, 1) := by decide +kernel
theorem dX4_bill_28 : decode cX4_bill 28 = .ok (.ireturn, 1) := by decide +kernel
theorem dJ6_bitCount_0f7a4_0 : decode cJ6_bitCount_0f7a4 0 = .ok (.iload_n 0, 1) := by decide +kernel
theorem dJ6_bitCount_0f7a4_1 : decode cJ6_bitCount_0f7a4 1 = .ok (.iload_n 0, 1) := by decide +kernel
theorem dJ6_bitCount_0f7a4_2 : decode cJ6_bitCount_0f7a4 2 = .ok (.iconst 1, 1) := by decide +kernel
theorem dJ6_bitCount_0f7a4_3 : decode cJ6_bitCount_0f7a4 3 = .ok (.iushr, 1) := by decide +kernel
theorem dJ6_bitCount_0f7a4_4 : decode cJ6_bitCount_0f7a4 4 = .ok (.ldc_w 265, 3) := by decide +kernel
theorem dJ6_bitCount_0f7a4_7 : decode cJ6_bitCount_0f7a4 7 = .ok (.iand, 1) := by decide +kernel
theorem dJ6_bitCount_0f7a4_8 : decode cJ6_bitCount_0f7a4 8 = .ok (.isub, 1) := by decide +kernel
theorem dJ6_bitCount_0f7a4_9 : decode cJ6_bitCount_0f7a4 9 = .ok (.istore_n 0, 1) := by decide +kernel
theorem dJ6_bitCount_0f7a4_10 : decode cJ6_bitCount_0f7a4 10 = .ok (.iload_n 0, 1) := by decide +kernel
theorem dJ6_bitCount_0f7a4_11 : decode cJ6_bitCount_0f7a4 11 = .ok (.ldc_w 266, 3) := by decide +kernel
theorem dJ6_bitCount_0f7a4_14 : decode cJ6_bitCount_0f7a4 14 = .ok (.iand, 1) := by decide +kernel
theorem dJ6_bitCount_0f7a4_15 : decode cJ6_bitCount_0f7a4 15 = .ok (.iload_n 0, 1) := by decide +kernel
theorem dJ6_bitCount_0f7a4_16 : decode cJ6_bitCount_0f7a4 16 = .ok (.iconst 2, 1) := by decide +kernel
theorem dJ6_bitCount_0f7a4_17 : decode cJ6_bitCount_0f7a4 17 = .ok (.iushr, 1) := by decide +kernel
theorem dJ6_bitCount_0f7a4_18 : decode cJ6_bitCount_0f7a4 18 = .ok (.ldc_w 266, 3) := by decide +kernel
theorem dJ6_bitCount_0f7a4_21 : decode cJ6_bitCount_0f7a4 21 = .ok (.iand, 1) := by decide +kernel
theorem dJ6_bitCount_0f7a4_22 : decode cJ6_bitCount_0f7a4 22 = .ok (.iadd, 1) := by decide +kernel
theorem dJ6_bitCount_0f7a4_23 : decode cJ6_bitCount_0f7a4 23 = .ok (.istore_n 0, 1) := by decide +kernel
theorem dJ6_bitCount_0f7a4_24 : decode cJ6_bitCount_0f7a4 24 = .ok (.iload_n 0, 1) := by decide +kernel
theorem dJ6_bitCount_0f7a4_25 : decode cJ6_bitCount_0f7a4 25 = .ok (.iload_n 0, 1) := by decide +kernel
theorem dJ6_bitCount_0f7a4_26 : decode cJ6_bitCount_0f7a4 26 = .ok (.iconst 4, 1) := by decide +kernel
theorem dJ6_bitCount_0f7a4_27 : decode cJ6_bitCount_0f7a4 27 = .ok (.iushr, 1) := by decide +kernel
theorem dJ6_bitCount_0f7a4_28 : decode cJ6_bitCount_0f7a4 28 = .ok (.iadd, 1) := by decide +kernel
theorem dJ6_bitCount_0f7a4_29 : decode cJ6_bitCount_0f7a4 29 = .ok (.ldc_w 267, 3) := by decide +kernel
theorem dJ6_bitCount_0f7a4_32 : decode cJ6_bitCount_0f7a4 32 = .ok (.iand, 1) := by decide +kernel
theorem dJ6_bitCount_0f7a4_33 : decode cJ6_bitCount_0f7a4 33 = .ok (.istore_n 0, 1) := by decide +kernel
theorem dJ6_bitCount_0f7a4_34 : decode cJ6_bitCount_0f7a4 34 = .ok (.iload_n 0, 1) := by decide +kernel
theorem dJ6_bitCount_0f7a4_35 : decode cJ6_bitCount_0f7a4 35 = .ok (.iload_n 0, 1) := by decide +kernel
theorem dJ6_bitCount_0f7a4_36 : decode cJ6_bitCount_0f7a4 36 = .ok (.bipush 8, 2) := by decide +kernel
theorem dJ6_bitCount_0f7a4_38 : decode cJ6_bitCount_0f7a4 38 = .ok (.iushr, 1) := by decide +kernel
theorem dJ6_bitCount_0f7a4_39 : decode cJ6_bitCount_0f7a4 39 = .ok (.iadd, 1) := by decide +kernel
theorem dJ6_bitCount_0f7a4_40 : decode cJ6_bitCount_0f7a4 40 = .ok (.istore_n 0, 1) := by decide +kernel
theorem dJ6_bitCount_0f7a4_41 : decode cJ6_bitCount_0f7a4 41 = .ok (.iload_n 0, 1) := by decide +kernel
theorem dJ6_bitCount_0f7a4_42 : decode cJ6_bitCount_0f7a4 42 = .ok (.iload_n 0, 1) := by decide +kernel
theorem dJ6_bitCount_0f7a4_43 : decode cJ6_bitCount_0f7a4 43 = .ok (.bipush 16, 2) := by decide +kernel
theorem dJ6_bitCount_0f7a4_45 : decode cJ6_bitCount_0f7a4 45 = .ok (.iushr, 1) := by decide +kernel
theorem dJ6_bitCount_0f7a4_46 : decode cJ6_bitCount_0f7a4 46 = .ok (.iadd, 1) := by decide +kernel
theorem dJ6_bitCount_0f7a4_47 : decode cJ6_bitCount_0f7a4 47 = .ok (.istore_n 0, 1) := by decide +kernel
theorem dJ6_bitCount_0f7a4_48 : decode cJ6_bitCount_0f7a4 48 = .ok (.iload_n 0, 1) := by decide +kernel
theorem dJ6_bitCount_0f7a4_49 : decode cJ6_bitCount_0f7a4 49 = .ok (.bipush 63, 2) := by decide +kernel
theorem dJ6_bitCount_0f7a4_51 : decode cJ6_bitCount_0f7a4 51 = .ok (.iand, 1) := by decide +kernel
theorem dJ6_bitCount_0f7a4_52 : decode cJ6_bitCount_0f7a4 52 = .ok (.ireturn, 1) := by decide +kernel
theorem dJ9_max_7cf53_0 : decode cJ9_max_7cf53 0 = .ok (.iload_n 0, 1) := by decide +kernel
theorem dJ9_max_7cf53_1 : decode cJ9_max_7cf53 1 = .ok (.iload_n 1, 1) := by decide +kernel
theorem dJ9_max_7cf53_2 : decode cJ9_max_7cf53 2 = .ok (.if_icmp .lt 7, 3) := by decide +kernel
theorem dJ9_max_7cf53_5 : decode cJ9_max_7cf53 5 = .ok (.iload_n 0, 1) := by decide +kernel
theorem dJ9_max_7cf53_6 : decode cJ9_max_7cf53 6 = .ok (.goto 4, 3) := by decide +kernel
theorem dJ9_max_7cf53_9 : decode cJ9_max_7cf53 9 = .ok (.iload_n 1, 1) := by decide +kernel
theorem dJ9_max_7cf53_10 : decode cJ9_max_7cf53 10 = .ok (.ireturn, 1) := by decide +kernel
theorem dJ9_min_7cf53_0 : decode cJ9_min_7cf53 0 = .ok (.iload_n 0, 1) := by decide +kernel
theorem dJ9_min_7cf53_1 : decode cJ9_min_7cf53 1 = .ok (.iload_n 1, 1) := by decide +kernel
theorem dJ9_min_7cf53_2 : decode cJ9_min_7cf53 2 = .ok (.if_icmp .gt 7, 3) := by decide +kernel
theorem dJ9_min_7cf53_5 : decode cJ9_min_7cf53 5 = .ok (.iload_n 0, 1) := by decide +kernel
theorem dJ9_min_7cf53_6 : decode cJ9_min_7cf53 6 = .ok (.goto 4, 3) := by decide +kernel
theorem dJ9_min_7cf53_9 : decode cJ9_min_7cf53 9 = .ok (.iload_n 1, 1) := by decide +kernel
theorem dJ9_min_7cf53_10 : decode cJ9_min_7cf53 10 = .ok (.ireturn, 1) := by decide +kernel
theorem dJxa1e45_init_da8c8_0 : decode cJxa1e45_init_da8c8 0 = .ok (.aload_n 0, 1) := by decide +kernel
theorem dJxa1e45_init_da8c8_1 : decode cJxa1e45_init_da8c8 1 = .ok (.invokespecial 1, 3) := by decide +kernel
theorem dJxa1e45_init_da8c8_4 : decode cJxa1e45_init_da8c8 4 = .ok (.return_, 1) := by decide +kernel
set_option maxRecDepth 20000 in
theorem ggJxc12de_init_da8c8_Jxa1e45_init_da8c8 : GoodIn wsJxc12de_init_da8c8 wsJxa1e45_init_da8c8 := goodIn_r _ [5, 6, 7, 8] (by decide +kernel) (by decide +kernel)
set_option maxRecDepth 20000 in
theorem gJxc12de_init_da8c8_Jxa1e45_init_da8c8 : GoodIn wsJxc12de_init_da8c8 (wsJxa1e45_init_da8c8) := ggJxc12de_init_da8c8_Jxa1e45_init_da8c8
theorem dJxc12de_init_da8c8_0 : decode cJxc12de_init_da8c8 0 = .ok (.aload_n 0, 1) := by decide +kernel
theorem dJxc12de_init_da8c8_1 : decode cJxc12de_init_da8c8 1 = .ok (.invokespecial 1, 3) := by decide +kernel
theorem dJxc12de_init_da8c8_4 : decode cJxc12de_init_da8c8 4 = .ok (.aload_n 0, 1) := by decide +kernel
theorem dJxc12de_init_da8c8_5 : decode cJxc12de_init_da8c8 5 = .ok (.iconst 0, 1) := by decide +kernel
theorem dJxc12de_init_da8c8_6 : decode cJxc12de_init_da8c8 6 = .ok (.putfield 7, 3) := by decide +kernel
theorem dJxc12de_init_da8c8_9 : decode cJxc12de_init_da8c8 9 = .ok (.return_, 1) := by decide +kernel
set_option maxRecDepth 20000 in
theorem ggJx4a65c_init_da8c8_Jxc12de_init_da8c8 : GoodIn wsJx4a65c_init_da8c8 wsJxc12de_init_da8c8 := goodIn_r _ [6, 7, 8, 9, 10, 11, 12, 13, 14, 15, 16, 17] (by decide +kernel) (by decide +kernel)
set_option maxRecDepth 20000 in
theorem gJx4a65c_init_da8c8_Jxc12de_init_da8c8 : GoodIn wsJx4a65c_init_da8c8 (wsJxc12de_init_da8c8) := ggJx4a65c_init_da8c8_Jxc12de_init_da8c8
theorem dJx4a65c_init_da8c8_0 : decode cJx4a65c_init_da8c8 0 = .ok (.aload_n 0, 1) := by decide +kernel
theorem dJx4a65c_init_da8c8_1 : decode cJx4a65c_init_da8c8 1 = .ok (.invokespecial 1, 3) := by decide +kernel
theorem dJx4a65c_init_da8c8_4 : decode cJx4a65c_init_da8c8 4 = .ok (.aload_n 0, 1) := by decide +kernel
theorem dJx4a65c_init_da8c8_5 : decode cJx4a65c_init_da8c8 5 = .ok (.getstatic 39, 3) := by decide +kernel
theorem dJx4a65c_init_da8c8_8 : decode cJx4a65c_init_da8c8 8 = .ok (.putfield 9, 3) := by decide +kernel
theorem dJx4a65c_init_da8c8_11 : decode cJx4a65c_init_da8c8 11 = .ok (.return_, 1) := by decide +kernel
set_option maxRecDepth 20000 in
theorem ggJx4a65c_grow_92f84_J8_newLength_cabcc : GoodIn wsJx4a65c_grow_92f84 wsJ8_newLength_cabcc := goodIn_r _ [11, 12, 4, 5, 6, 13, 14, 15, 10, 16] (by decide +kernel) (by decide +kernel)
set_option maxRecDepth 20000 in
theorem gJx4a65c_grow_92f84_J8_newLength_cabcc : GoodIn wsJx4a65c_grow_92f84 (va_wsS RJx4a65c 73 yJ8_newLength_cabcc wsJ8_newLength_cabcc) := goodIn_app (goodIn_of _ (by decide +kernel)) ggJx4a65c_grow_92f84_J8_newLength_cabcc
set_option maxRecDepth 20000 in
theorem ggJx4a65c_grow_92f84_J7_copyOf_1904c : GoodIn wsJx4a65c_grow_92f84 wsJ7_copyOf_1904c := goodIn_r _ [20, 21, 22, 23, 24, 25, 26, 19, 27, 28, 29, 30, 31, 5, 32, 33, 34, 35, 36] (by decide +kernel) (by decide +kernel)
set_option maxRecDepth 20000 in
theorem gJx4a65c_grow_92f84_J7_copyOf_1904c : GoodIn wsJx4a65c_grow_92f84 (va_wsS RJx4a65c 66 yJ7_copyOf_1904c wsJ7_copyOf_1904c) := goodIn_app (goodIn_of _ (by decide +kernel)) ggJx4a65c_grow_92f84_J7_copyOf_1904c
theorem dJx4a65c_grow_92f84_0 : decode cJx4a65c_grow_92f84 0 = .ok (.aload_n 0, 1) := by decide +kernel
theorem dJx4a65c_grow_92f84_1 : decode cJx4a65c_grow_92f84 1 = .ok (.getfield 9, 3) := by decide +kernel
theorem dJx4a65c_grow_92f84_4 : decode cJx4a65c_grow_92f84 4 = .ok (.arraylength, 1) := by decide +kernel
theorem dJx4a65c_grow_92f84_5 : decode cJx4a65c_grow_92f84 5 = .ok (.istore_n 2, 1) := by decide +kernel
theorem dJx4a65c_grow_92f84_6 : decode cJx4a65c_grow_92f84 6 = .ok (.iload_n 2, 1) := by decide +kernel
theorem dJx4a65c_grow_92f84_7 : decode cJx4a65c_grow_92f84 7 = .ok (.ifCond .gt 13, 3) := by decide +kernel
theorem dJx4a65c_grow_92f84_10 : decode cJx4a65c_grow_92f84 10 = .ok (.aload_n 0, 1) := by decide +kernel
theorem dJx4a65c_grow_92f84_11 : decode cJx4a65c_grow_92f84 11 = .ok (.getfield 9, 3) := by decide +kernel
theorem dJx4a65c_grow_92f84_14 : decode cJx4a65c_grow_92f84 14 = .ok (.getstatic 39, 3) := by decide +kernel
theorem dJx4a65c_grow_92f84_17 : decode cJx4a65c_grow_92f84 17 = .ok (.if_acmp .eq 28, 3) := by decide +kernel
theorem dJx4a65c_grow_92f84_20 : decode cJx4a65c_grow_92f84 20 = .ok (.iload_n 2, 1) := by decide +kernel
theorem dJx4a65c_grow_92f84_21 : decode cJx4a65c_grow_92f84 21 = .ok (.iload_n 1, 1) := by decide +kernel
theorem dJx4a65c_grow_92f84_22 : decode cJx4a65c_grow_92f84 22 = .ok (.iload_n 2, 1) := by decide +kernel
theorem dJx4a65c_grow_92f84_23 : decode cJx4a65c_grow_92f84 23 = .ok (.isub, 1) := by decide +kernel
theorem dJx4a65c_grow_92f84_24 : decode cJx4a65c_grow_92f84 24 = .ok (.iload_n 2, 1) := by decide +kernel
theorem dJx4a65c_grow_92f84_25 : decode cJx4a65c_grow_92f84 25 = .ok (.iconst 1, 1) := by decide +kernel
theorem dJx4a65c_grow_92f84_26 : decode cJx4a65c_grow_92f84 26 = .ok (.ishr, 1) := by decide +kernel
theorem dJx4a65c_grow_92f84_27 : decode cJx4a65c_grow_92f84 27 = .ok (.invokestatic 73, 3) := by decide +kernel
theorem dJx4a65c_grow_92f84_30 : decode cJx4a65c_grow_92f84 30 = .ok (.istore_n 3, 1) := by decide +kernel
theorem dJx4a65c_grow_92f84_31 : decode cJx4a65c_grow_92f84 31 = .ok (.aload_n 0, 1) := by decide +kernel
theorem dJx4a65c_grow_92f84_32 : decode cJx4a65c_grow_92f84 32 = .ok (.aload_n 0, 1) := by decide +kernel
theorem dJx4a65c_grow_92f84_33 : decode cJx4a65c_grow_92f84 33 = .ok (.getfield 9, 3) := by decide +kernel
theorem dJx4a65c_grow_92f84_36 : decode cJx4a65c_grow_92f84 36 = .ok (.iload_n 3, 1) := by decide +kernel
theorem dJx4a65c_grow_92f84_37 : decode cJx4a65c_grow_92f84 37 = .ok (.invokestatic 66, 3) := by decide +kernel
theorem dJx4a65c_grow_92f84_40 : decode cJx4a65c_grow_92f84 40 = .ok (.dup_x1, 1) := by decide +kernel
theorem dJx4a65c_grow_92f84_41 : decode cJx4a65c_grow_92f84 41 = .ok (.putfield 9, 3) := by decide +kernel
theorem dJx4a65c_grow_92f84_44 : decode cJx4a65c_grow_92f84 44 = .ok (.areturn, 1) := by decide +kernel
theorem dJx4a65c_grow_92f84_45 : decode cJx4a65c_grow_92f84 45 = .ok (.aload_n 0, 1) := by decide +kernel
theorem dJx4a65c_grow_92f84_46 : decode cJx4a65c_grow_92f84 46 = .ok (.bipush 10, 2) := by decide +kernel
theorem dJx4a65c_grow_92f84_48 : decode cJx4a65c_grow_92f84 48 = .ok (.iload_n 1, 1) := by decide +kernel
theorem dJx4a65c_grow_92f84_49 : decode cJx4a65c_grow_92f84 49 = .ok (.invokestatic 79, 3) := by decide +kernel
theorem dJx4a65c_grow_92f84_52 : decode cJx4a65c_grow_92f84 52 = .ok (.anewarray 7, 3) := by decide +kernel
theorem dJx4a65c_grow_92f84_55 : decode cJx4a65c_grow_92f84 55 = .ok (.dup_x1, 1) := by decide +kernel
theorem dJx4a65c_grow_92f84_56 : decode cJx4a65c_grow_92f84 56 = .ok (.putfield 9, 3) := by decide +kernel
theorem dJx4a65c_grow_92f84_59 : decode cJx4a65c_grow_92f84 59 = .ok (.areturn, 1) := by decide +kernel
set_option maxRecDepth 20000 in
theorem ggJx4a65c_grow_d5877_Jx4a65c_grow_92f84 : GoodIn wsJx4a65c_grow_d5877 wsJx4a65c_grow_92f84 := goodIn_r _ [6, 7, 8, 9, 10, 11, 12, 13, 14, 15, 16, 17, 18, 19, 20, 21, 22, 23, 24, 25, 26, 27, 28, 29, 30, 31, 32, 33, 34, 35, 36, 37, 38, 39, 40, 41, 42, 43, 44, 45] (by decide +kernel) (by decide +kernel)
set_option maxRecDepth 20000 in
theorem gJx4a65c_grow_d5877_Jx4a65c_grow_92f84 : GoodIn wsJx4a65c_grow_d5877 (wsV RJx4a65c 69 RJx4a65c yJx4a65c_grow_92f84 wsJx4a65c_grow_92f84) := goodIn_app (goodIn_of _ (by decide +kernel)) ggJx4a65c_grow_d5877_Jx4a65c_grow_92f84
theorem dJx4a65c_grow_d5877_0 : decode cJx4a65c_grow_d5877 0 = .ok (.aload_n 0, 1) := by decide +kernel
theorem dJx4a65c_grow_d5877_1 : decode cJx4a65c_grow_d5877 1 = .ok (.aload_n 0, 1) := by decide +kernel
theorem dJx4a65c_grow_d5877_2 : decode cJx4a65c_grow_d5877 2 = .ok (.getfield 48, 3) := by decide +kernel
theorem dJx4a65c_grow_d5877_5 : decode cJx4a65c_grow_d5877 5 = .ok (.iconst 1, 1) := by decide +kernel
theorem dJx4a65c_grow_d5877_6 : decode cJx4a65c_grow_d5877 6 = .ok (.iadd, 1) := by decide +kernel
theorem dJx4a65c_grow_d5877_7 : decode cJx4a65c_grow_d5877 7 = .ok (.invokevirtual 69, 3) := by decide +kernel
theorem dJx4a65c_grow_d5877_10 : decode cJx4a65c_grow_d5877 10 = .ok (.areturn, 1) := by decide +kernel
theorem dJx4a65c_size_8abf5_0 : decode cJx4a65c_size_8abf5 0 = .ok (.aload_n 0, 1) := by decide +kernel
theorem dJx4a65c_size_8abf5_1 : decode cJx4a65c_size_8abf5 1 = .ok (.getfield 48, 3) := by decide +kernel
theorem dJx4a65c_size_8abf5_4 : decode cJx4a65c_size_8abf5 4 = .ok (.ireturn, 1) := by decide +kernel
theorem dJx4a65c_isEmpty_aae02_0 : decode cJx4a65c_isEmpty_aae02 0 = .ok (.aload_n 0, 1) := by decide +kernel
theorem dJx4a65c_isEmpty_aae02_1 : decode cJx4a65c_isEmpty_aae02 1 = .ok (.getfield 48, 3) := by decide +kernel
theorem dJx4a65c_isEmpty_aae02_4 : decode cJx4a65c_isEmpty_aae02 4 = .ok (.ifCond .ne 7, 3) := by decide +kernel
theorem dJx4a65c_isEmpty_aae02_7 : decode cJx4a65c_isEmpty_aae02 7 = .ok (.iconst 1, 1) := by decide +kernel
theorem dJx4a65c_isEmpty_aae02_8 : decode cJx4a65c_isEmpty_aae02 8 = .ok (.goto 4, 3) := by decide +kernel
theorem dJx4a65c_isEmpty_aae02_11 : decode cJx4a65c_isEmpty_aae02 11 = .ok (.iconst 0, 1) := by decide +kernel
theorem dJx4a65c_isEmpty_aae02_12 : decode cJx4a65c_isEmpty_aae02 12 = .ok (.ireturn, 1) := by decide +kernel
theorem dJx4a65c_elementData_915e3_0 : decode cJx4a65c_elementData_915e3 0 = .ok (.aload_n 0, 1) := by decide +kernel
theorem dJx4a65c_elementData_915e3_1 : decode cJx4a65c_elementData_915e3 1 = .ok (.getfield 9, 3) := by decide +kernel
theorem dJx4a65c_elementData_915e3_4 : decode cJx4a65c_elementData_915e3 4 = .ok (.iload_n 1, 1) := by decide +kernel
theorem dJx4a65c_elementData_915e3_5 : decode cJx4a65c_elementData_915e3 5 = .ok (.aaload, 1) := by decide +kernel
theorem dJx4a65c_elementData_915e3_6 : decode cJx4a65c_elementData_915e3 6 = .ok (.areturn, 1) := by decide +kernel
set_option maxRecDepth 20000 in
theorem ggJx4a65c_get_915e3_J15_checkIndex_7cf53 : GoodIn wsJx4a65c_get_915e3 wsJ15_checkIndex_7cf53 := goodIn_r _ [5, 6, 7, 8, 9] (by decide +kernel) (by decide +kernel)
set_option maxRecDepth 20000 in
theorem gJx4a65c_get_915e3_J15_checkIndex_7cf53 : GoodIn wsJx4a65c_get_915e3 (va_wsS RJx4a65c 118 yJ15_checkIndex_7cf53 wsJ15_checkIndex_7cf53) := goodIn_app (goodIn_of _ (by decide +kernel)) ggJx4a65c_get_915e3_J15_checkIndex_7cf53
set_option maxRecDepth 20000 in
theorem ggJx4a65c_get_915e3_Jx4a65c_elementData_915e3 : GoodIn wsJx4a65c_get_915e3 wsJx4a65c_elementData_915e3 := goodIn_r _ [14, 15, 16, 17, 18] (by decide +kernel) (by decide +kernel)
set_option maxRecDepth 20000 in
theorem gJx4a65c_get_915e3_Jx4a65c_elementData_915e3 : GoodIn wsJx4a65c_get_915e3 (wsV RJx4a65c 123 RJx4a65c yJx4a65c_elementData_915e3 wsJx4a65c_elementData_915e3) := goodIn_app (goodIn_of _ (by decide +kernel)) ggJx4a65c_get_915e3_Jx4a65c_elementData_915e3
theorem dJx4a65c_get_915e3_0 : decode cJx4a65c_get_915e3 0 = .ok (.iload_n 1, 1) := by decide +kernel
theorem dJx4a65c_get_915e3_1 : decode cJx4a65c_get_915e3 1 = .ok (.aload_n 0, 1) := by decide +kernel
theorem dJx4a65c_get_915e3_2 : decode cJx4a65c_get_915e3 2 = .ok (.getfield 48, 3) := by decide +kernel
theorem dJx4a65c_get_915e3_5 : decode cJx4a65c_get_915e3 5 = .ok (.invokestatic 118, 3) := by decide +kernel
theorem dJx4a65c_get_915e3_8 : decode cJx4a65c_get_915e3 8 = .ok (.pop, 1) := by decide +kernel
theorem dJx4a65c_get_915e3_9 : decode cJx4a65c_get_915e3 9 = .ok (.aload_n 0, 1) := by decide +kernel
theorem dJx4a65c_get_915e3_10 : decode cJx4a65c_get_915e3 10 = .ok (.iload_n 1, 1) := by decide +kernel
theorem dJx4a65c_get_915e3_11 : decode cJx4a65c_get_915e3 11 = .ok (.invokevirtual 123, 3) := by decide +kernel
theorem dJx4a65c_get_915e3_14 : decode cJx4a65c_get_915e3 14 = .ok (.areturn, 1) := by decide +kernel
set_option maxRecDepth 20000 in
theorem ggJx4a65c_add_72be8_Jx4a65c_grow_d5877 : GoodIn wsJx4a65c_add_72be8 wsJx4a65c_grow_d5877 := goodIn_r _ [6, 1, 7, 8, 9, 5, 10, 11, 12, 13, 14, 15, 16, 17, 18, 19, 20, 21, 22, 23, 24, 25, 26, 27, 28, 29, 30, 31, 32, 33, 34, 35, 36, 37, 38, 39, 40, 41, 42, 43, 44, 45, 46, 47, 48, 49] (by decide +kernel) (by decide +kernel)
set_option maxRecDepth 20000 in
theorem gJx4a65c_add_72be8_Jx4a65c_grow_d5877 : GoodIn wsJx4a65c_add_72be8 (wsV RJx4a65c 129 RJx4a65c yJx4a65c_grow_d5877 wsJx4a65c_grow_d5877) := goodIn_app (goodIn_of _ (by decide +kernel)) ggJx4a65c_add_72be8_Jx4a65c_grow_d5877
theorem dJx4a65c_add_72be8_0 : decode cJx4a65c_add_72be8 0 = .ok (.iload_n 3, 1) := by decide +kernel
theorem dJx4a65c_add_72be8_1 : decode cJx4a65c_add_72be8 1 = .ok (.aload_n 2, 1) := by decide +kernel
theorem dJx4a65c_add_72be8_2 : decode cJx4a65c_add_72be8 2 = .ok (.arraylength, 1) := by decide +kernel
theorem dJx4a65c_add_72be8_3 : decode cJx4a65c_add_72be8 3 = .ok (.if_icmp .ne 8, 3) := by decide +kernel
theorem dJx4a65c_add_72be8_6 : decode cJx4a65c_add_72be8 6 = .ok (.aload_n 0, 1) := by decide +kernel
theorem dJx4a65c_add_72be8_7 : decode cJx4a65c_add_72be8 7 = .ok (.invokevirtual 129, 3) := by decide +kernel
theorem dJx4a65c_add_72be8_10 : decode cJx4a65c_add_72be8 10 = .ok (.astore_n 2, 1) := by decide +kernel
theorem dJx4a65c_add_72be8_11 : decode cJx4a65c_add_72be8 11 = .ok (.aload_n 2, 1) := by decide +kernel
theorem dJx4a65c_add_72be8_12 : decode cJx4a65c_add_72be8 12 = .ok (.iload_n 3, 1) := by decide +kernel
theorem dJx4a65c_add_72be8_13 : decode cJx4a65c_add_72be8 13 = .ok (.aload_n 1, 1) := by decide +kernel
theorem dJx4a65c_add_72be8_14 : decode cJx4a65c_add_72be8 14 = .ok (.aastore, 1) := by decide +kernel
theorem dJx4a65c_add_72be8_15 : decode cJx4a65c_add_72be8 15 = .ok (.aload_n 0, 1) := by decide +kernel
theorem dJx4a65c_add_72be8_16 : decode cJx4a65c_add_72be8 16 = .ok (.iload_n 3, 1) := by decide +kernel
theorem dJx4a65c_add_72be8_17 : decode cJx4a65c_add_72be8 17 = .ok (.iconst 1, 1) := by decide +kernel
theorem dJx4a65c_add_72be8_18 : decode cJx4a65c_add_72be8 18 = .ok (.iadd, 1) := by decide +kernel
theorem dJx4a65c_add_72be8_19 : decode cJx4a65c_add_72be8 19 = .ok (.putfield 48, 3) := by decide +kernel
theorem dJx4a65c_add_72be8_22 : decode cJx4a65c_add_72be8 22 = .ok (.return_, 1) := by decide +kernel
set_option maxRecDepth 20000 in
theorem ggJx4a65c_add_9ea2d_Jx4a65c_add_72be8 : GoodIn wsJx4a65c_add_9ea2d wsJx4a65c_add_72be8 := goodIn_r _ [9, 4, 10, 11, 12, 8, 13, 14, 15, 16, 17, 3, 18, 19, 20, 21, 22, 23, 24, 25, 26, 27, 28, 29, 30, 31, 32, 33, 34, 35, 36, 37, 38, 39, 40, 41, 42, 43, 44, 45, 46, 47, 48, 49, 50, 51, 52, 53, 54, 55] (by decide +kernel) (by decide +kernel)
set_option maxRecDepth 20000 in
theorem gJx4a65c_add_9ea2d_Jx4a65c_add_72be8 : GoodIn wsJx4a65c_add_9ea2d (wsV RJx4a65c 131 RJx4a65c yJx4a65c_add_72be8 wsJx4a65c_add_72be8) := goodIn_app (goodIn_of _ (by decide +kernel)) ggJx4a65c_add_9ea2d_Jx4a65c_add_72be8
theorem dJx4a65c_add_9ea2d_0 : decode cJx4a65c_add_9ea2d 0 = .ok (.aload_n 0, 1) := by decide +kernel
theorem dJx4a65c_add_9ea2d_1 : decode cJx4a65c_add_9ea2d 1 = .ok (.dup, 1) := by decide +kernel
theorem dJx4a65c_add_9ea2d_2 : decode cJx4a65c_add_9ea2d 2 = .ok (.getfield 63, 3) := by decide +kernel
theorem dJx4a65c_add_9ea2d_5 : decode cJx4a65c_add_9ea2d 5 = .ok (.iconst 1, 1) := by decide +kernel
theorem dJx4a65c_add_9ea2d_6 : decode cJx4a65c_add_9ea2d 6 = .ok (.iadd, 1) := by decide +kernel
theorem dJx4a65c_add_9ea2d_7 : decode cJx4a65c_add_9ea2d 7 = .ok (.putfield 63, 3) := by decide +kernel
theorem dJx4a65c_add_9ea2d_10 : decode cJx4a65c_add_9ea2d 10 = .ok (.aload_n 0, 1) := by decide +kernel
theorem dJx4a65c_add_9ea2d_11 : decode cJx4a65c_add_9ea2d 11 = .ok (.aload_n 1, 1) := by decide +kernel
theorem dJx4a65c_add_9ea2d_12 : decode cJx4a65c_add_9ea2d 12 = .ok (.aload_n 0, 1) := by decide +kernel
theorem dJx4a65c_add_9ea2d_13 : decode cJx4a65c_add_9ea2d 13 = .ok (.getfield 9, 3) := by decide +kernel
theorem dJx4a65c_add_9ea2d_16 : decode cJx4a65c_add_9ea2d 16 = .ok (.aload_n 0, 1) := by decide +kernel
theorem dJx4a65c_add_9ea2d_17 : decode cJx4a65c_add_9ea2d 17 = .ok (.getfield 48, 3) := by decide +kernel
theorem dJx4a65c_add_9ea2d_20 : decode cJx4a65c_add_9ea2d 20 = .ok (.invokevirtual 131, 3) := by decide +kernel
theorem dJx4a65c_add_9ea2d_23 : decode cJx4a65c_add_9ea2d 23 = .ok (.iconst 1, 1) := by decide +kernel
theorem dJx4a65c_add_9ea2d_24 : decode cJx4a65c_add_9ea2d 24 = .ok (.ireturn, 1) := by decide +kernel
set_option maxRecDepth 20000 in
theorem ggJx4a65c_remove_915e3_J15_checkIndex_7cf53 : GoodIn wsJx4a65c_remove_915e3 wsJ15_checkIndex_7cf53 := goodIn_r _ [6, 7, 8, 9, 10] (by decide +kernel) (by decide +kernel)
set_option maxRecDepth 20000 in
theorem gJx4a65c_remove_915e3_J15_checkIndex_7cf53 : GoodIn wsJx4a65c_remove_915e3 (va_wsS RJx4a65c 118 yJ15_checkIndex_7cf53 wsJ15_checkIndex_7cf53) := goodIn_app (goodIn_of _ (by decide +kernel)) ggJx4a65c_remove_915e3_J15_checkIndex_7cf53
set_option maxRecDepth 20000 in
theorem ggJx4a65c_remove_915e3_Jx4a65c_fastRemove_b59b0 : GoodIn wsJx4a65c_remove_915e3 wsJx4a65c_fastRemove_b59b0 := goodIn_r _ [15, 16, 17, 1, 18, 19, 20, 21, 22, 23, 24] (by decide +kernel) (by decide +kernel)
set_option maxRecDepth 20000 in
theorem gJx4a65c_remove_915e3_Jx4a65c_fastRemove_b59b0 : GoodIn wsJx4a65c_remove_915e3 (wsV RJx4a65c 144 RJx4a65c yJx4a65c_fastRemove_b59b0 wsJx4a65c_fastRemove_b59b0) := goodIn_app (goodIn_of _ (by decide +kernel)) ggJx4a65c_remove_915e3_Jx4a65c_fastRemove_b59b0
theorem dJx4a65c_remove_915e3_0 : decode cJx4a65c_remove_915e3 0 = .ok (.iload_n 1, 1) := by decide +kernel
theorem dJx4a65c_remove_915e3_1 : decode cJx4a65c_remove_915e3 1 = .ok (.aload_n 0, 1) := by decide +kernel
theorem dJx4a65c_remove_915e3_2 : decode cJx4a65c_remove_915e3 2 = .ok (.getfield 48, 3) := by decide +kernel
theorem dJx4a65c_remove_915e3_5 : decode cJx4a65c_remove_915e3 5 = .ok (.invokestatic 118, 3) := by decide +kernel
theorem dJx4a65c_remove_915e3_8 : decode cJx4a65c_remove_915e3 8 = .ok (.pop, 1) := by decide +kernel
theorem dJx4a65c_remove_915e3_9 : decode cJx4a65c_remove_915e3 9 = .ok (.aload_n 0, 1) := by decide +kernel
theorem dJx4a65c_remove_915e3_10 : decode cJx4a65c_remove_915e3 10 = .ok (.getfield 9, 3) := by decide +kernel
theorem dJx4a65c_remove_915e3_13 : decode cJx4a65c_remove_915e3 13 = .ok (.astore_n 2, 1) := by decide +kernel
theorem dJx4a65c_remove_915e3_14 : decode cJx4a65c_remove_915e3 14 = .ok (.aload_n 2, 1) := by decide +kernel
theorem dJx4a65c_remove_915e3_15 : decode cJx4a65c_remove_915e3 15 = .ok (.iload_n 1, 1) := by decide +kernel
theorem dJx4a65c_remove_915e3_16 : decode cJx4a65c_remove_915e3 16 = .ok (.aaload, 1) := by decide +kernel
theorem dJx4a65c_remove_915e3_17 : decode cJx4a65c_remove_915e3 17 = .ok (.astore_n 3, 1) := by decide +kernel
theorem dJx4a65c_remove_915e3_18 : decode cJx4a65c_remove_915e3 18 = .ok (.aload_n 0, 1) := by decide +kernel
theorem dJx4a65c_remove_915e3_19 : decode cJx4a65c_remove_915e3 19 = .ok (.aload_n 2, 1) := by decide +kernel
theorem dJx4a65c_remove_915e3_20 : decode cJx4a65c_remove_915e3 20 = .ok (.iload_n 1, 1) := by decide +kernel
theorem dJx4a65c_remove_915e3_21 : decode cJx4a65c_remove_915e3 21 = .ok (.invokevirtual 144, 3) := by decide +kernel
theorem dJx4a65c_remove_915e3_24 : decode cJx4a65c_remove_915e3 24 = .ok (.aload_n 3, 1) := by decide +kernel
theorem dJx4a65c_remove_915e3_25 : decode cJx4a65c_remove_915e3 25 = .ok (.areturn, 1) := by decide +kernel
theorem dJx4a65c_fastRemove_b59b0_0 : decode cJx4a65c_fastRemove_b59b0 0 = .ok (.aload_n 0, 1) := by decide +kernel
theorem dJx4a65c_fastRemove_b59b0_1 : decode cJx4a65c_fastRemove_b59b0 1 = .ok (.dup, 1) := by decide +kernel
theorem dJx4a65c_fastRemove_b59b0_2 : decode cJx4a65c_fastRemove_b59b0 2 = .ok (.getfield 63, 3) := by decide +kernel
theorem dJx4a65c_fastRemove_b59b0_5 : decode cJx4a65c_fastRemove_b59b0 5 = .ok (.iconst 1, 1) := by decide +kernel
theorem dJx4a65c_fastRemove_b59b0_6 : decode cJx4a65c_fastRemove_b59b0 6 = .ok (.iadd, 1) := by decide +kernel
theorem dJx4a65c_fastRemove_b59b0_7 : decode cJx4a65c_fastRemove_b59b0 7 = .ok (.putfield 63, 3) := by decide +kernel
theorem dJx4a65c_fastRemove_b59b0_10 : decode cJx4a65c_fastRemove_b59b0 10 = .ok (.aload_n 0, 1) := by decide +kernel
theorem dJx4a65c_fastRemove_b59b0_11 : decode cJx4a65c_fastRemove_b59b0 11 = .ok (.getfield 48, 3) := by decide +kernel
theorem dJx4a65c_fastRemove_b59b0_14 : decode cJx4a65c_fastRemove_b59b0 14 = .ok (.iconst 1, 1) := by decide +kernel
theorem dJx4a65c_fastRemove_b59b0_15 : decode cJx4a65c_fastRemove_b59b0 15 = .ok (.isub, 1) := by decide +kernel
theorem dJx4a65c_fastRemove_b59b0_16 : decode cJx4a65c_fastRemove_b59b0 16 = .ok (.dup, 1) := by decide +kernel
theorem dJx4a65c_fastRemove_b59b0_17 : decode cJx4a65c_fastRemove_b59b0 17 = .ok (.istore_n 3, 1) := by decide +kernel
theorem dJx4a65c_fastRemove_b59b0_18 : decode cJx4a65c_fastRemove_b59b0 18 = .ok (.iload_n 2, 1) := by decide +kernel
theorem dJx4a65c_fastRemove_b59b0_19 : decode cJx4a65c_fastRemove_b59b0 19 = .ok (.if_icmp .le 15, 3) := by decide +kernel
theorem dJx4a65c_fastRemove_b59b0_22 : decode cJx4a65c_fastRemove_b59b0 22 = .ok (.aload_n 1, 1) := by decide +kernel
theorem dJx4a65c_fastRemove_b59b0_23 : decode cJx4a65c_fastRemove_b59b0 23 = .ok (.iload_n 2, 1) := by decide +kernel
theorem dJx4a65c_fastRemove_b59b0_24 : decode cJx4a65c_fastRemove_b59b0 24 = .ok (.iconst 1, 1) := by decide +kernel
theorem dJx4a65c_fastRemove_b59b0_25 : decode cJx4a65c_fastRemove_b59b0 25 = .ok (.iadd, 1) := by decide +kernel
theorem dJx4a65c_fastRemove_b59b0_26 : decode cJx4a65c_fastRemove_b59b0 26 = .ok (.aload_n 1, 1) := by decide +kernel
theorem dJx4a65c_fastRemove_b59b0_27 : decode cJx4a65c_fastRemove_b59b0 27 = .ok (.iload_n 2, 1) := by decide +kernel
theorem dJx4a65c_fastRemove_b59b0_28 : decode cJx4a65c_fastRemove_b59b0 28 = .ok (.iload_n 3, 1) := by decide +kernel
theorem dJx4a65c_fastRemove_b59b0_29 : decode cJx4a65c_fastRemove_b59b0 29 = .ok (.iload_n 2, 1) := by decide +kernel
theorem dJx4a65c_fastRemove_b59b0_30 : decode cJx4a65c_fastRemove_b59b0 30 = .ok (.isub, 1) := by decide +kernel
theorem dJx4a65c_fastRemove_b59b0_31 : decode cJx4a65c_fastRemove_b59b0 31 = .ok (.invokestatic 112, 3) := by decide +kernel
theorem dJx4a65c_fastRemove_b59b0_34 : decode cJx4a65c_fastRemove_b59b0 34 = .ok (.aload_n 1, 1) := by decide +kernel
theorem dJx4a65c_fastRemove_b59b0_35 : decode cJx4a65c_fastRemove_b59b0 35 = .ok (.aload_n 0, 1) := by decide +kernel
theorem dJx4a65c_fastRemove_b59b0_36 : decode cJx4a65c_fastRemove_b59b0 36 = .ok (.iload_n 3, 1) := by decide +kernel
theorem dJx4a65c_fastRemove_b59b0_37 : decode cJx4a65c_fastRemove_b59b0 37 = .ok (.dup_x1, 1) := by decide +kernel
theorem dJx4a65c_fastRemove_b59b0_38 : decode cJx4a65c_fastRemove_b59b0 38 = .ok (.putfield 48, 3) := by decide +kernel
theorem dJx4a65c_fastRemove_b59b0_41 : decode cJx4a65c_fastRemove_b59b0 41 = .ok (.aconst_null, 1) := by decide +kernel
theorem dJx4a65c_fastRemove_b59b0_42 : decode cJx4a65c_fastRemove_b59b0 42 = .ok (.aastore, 1) := by decide +kernel
theorem dJx4a65c_fastRemove_b59b0_43 : decode cJx4a65c_fastRemove_b59b0 43 = .ok (.return_, 1) := by decide +kernel
set_option maxRecDepth 20000 in
theorem ggJ7_copyOf_1904c_J7_copyOf_6403c : GoodIn wsJ7_copyOf_1904c wsJ7_copyOf_6403c := goodIn_r _ [8, 9, 10, 11, 12, 13, 14, 15, 16, 17, 18] (by decide +kernel) (by decide +kernel)
set_option maxRecDepth 20000 in
theorem gJ7_copyOf_1904c_J7_copyOf_6403c : GoodIn wsJ7_copyOf_1904c (va_wsS RJ7 300 yJ7_copyOf_6403c wsJ7_copyOf_6403c) := goodIn_app (goodIn_of _ (by decide +kernel)) ggJ7_copyOf_1904c_J7_copyOf_6403c
theorem dJ7_copyOf_1904c_0 : decode cJ7_copyOf_1904c 0 = .ok (.aload_n 0, 1) := by decide +kernel
theorem dJ7_copyOf_1904c_1 : decode cJ7_copyOf_1904c 1 = .ok (.iload_n 1, 1) := by decide +kernel
theorem dJ7_copyOf_1904c_2 : decode cJ7_copyOf_1904c 2 = .ok (.aload_n 0, 1) := by decide +kernel
theorem dJ7_copyOf_1904c_3 : decode cJ7_copyOf_1904c 3 = .ok (.invokevirtual 86, 3) := by decide +kernel
theorem dJ7_copyOf_1904c_6 : decode cJ7_copyOf_1904c 6 = .ok (.invokestatic 300, 3) := by decide +kernel
theorem dJ7_copyOf_1904c_9 : decode cJ7_copyOf_1904c 9 = .ok (.areturn, 1) := by decide +kernel
theorem dJ7_copyOf_6403c_0 : decode cJ7_copyOf_6403c 0 = .ok (.aload_n 2, 1) := by decide +kernel
theorem dJ7_copyOf_6403c_1 : decode cJ7_copyOf_6403c 1 = .ok (.ldc 110, 2) := by decide +kernel
theorem dJ7_copyOf_6403c_3 : decode cJ7_copyOf_6403c 3 = .ok (.if_acmp .ne 10, 3) := by decide +kernel
theorem dJ7_copyOf_6403c_6 : decode cJ7_copyOf_6403c 6 = .ok (.iload_n 1, 1) := by decide +kernel
theorem dJ7_copyOf_6403c_7 : decode cJ7_copyOf_6403c 7 = .ok (.anewarray 2, 3) := by decide +kernel
theorem dJ7_copyOf_6403c_10 : decode cJ7_copyOf_6403c 10 = .ok (.goto 14, 3) := by decide +kernel
theorem dJ7_copyOf_6403c_13 : decode cJ7_copyOf_6403c 13 = .ok (.aload_n 2, 1) := by decide +kernel
theorem dJ7_copyOf_6403c_14 : decode cJ7_copyOf_6403c 14 = .ok (.invokevirtual 90, 3) := by decide +kernel
theorem dJ7_copyOf_6403c_17 : decode cJ7_copyOf_6403c 17 = .ok (.iload_n 1, 1) := by decide +kernel
theorem dJ7_copyOf_6403c_18 : decode cJ7_copyOf_6403c 18 = .ok (.invokestatic 95, 3) := by decide +kernel
theorem dJ7_copyOf_6403c_21 : decode cJ7_copyOf_6403c 21 = .ok (.checkcast 110, 3) := by decide +kernel
theorem dJ7_copyOf_6403c_24 : decode cJ7_copyOf_6403c 24 = .ok (.astore_n 3, 1) := by decide +kernel
theorem dJ7_copyOf_6403c_25 : decode cJ7_copyOf_6403c 25 = .ok (.aload_n 0, 1) := by decide +kernel
theorem dJ7_copyOf_6403c_26 : decode cJ7_copyOf_6403c 26 = .ok (.iconst 0, 1) := by decide +kernel
theorem dJ7_copyOf_6403c_27 : decode cJ7_copyOf_6403c 27 = .ok (.aload_n 3, 1) := by decide +kernel
theorem dJ7_copyOf_6403c_28 : decode cJ7_copyOf_6403c 28 = .ok (.iconst 0, 1) := by decide +kernel
theorem dJ7_copyOf_6403c_29 : decode cJ7_copyOf_6403c 29 = .ok (.aload_n 0, 1) := by decide +kernel
theorem dJ7_copyOf_6403c_30 : decode cJ7_copyOf_6403c 30 = .ok (.arraylength, 1) := by decide +kernel
theorem dJ7_copyOf_6403c_31 : decode cJ7_copyOf_6403c 31 = .ok (.iload_n 1, 1) := by decide +kernel
theorem dJ7_copyOf_6403c_32 : decode cJ7_copyOf_6403c 32 = .ok (.invokestatic 304, 3) := by decide +kernel
theorem dJ7_copyOf_6403c_35 : decode cJ7_copyOf_6403c 35 = .ok (.invokestatic 150, 3) := by decide +kernel
theorem dJ7_copyOf_6403c_38 : decode cJ7_copyOf_6403c 38 = .ok (.aload_n 3, 1) := by decide +kernel
theorem dJ7_copyOf_6403c_39 : decode cJ7_copyOf_6403c 39 = .ok (.areturn, 1) := by decide +kernel
set_option maxRecDepth 20000 in
theorem ggJ15_checkIndex_7cf53_J3_checkIndex_8e157 : GoodIn wsJ15_checkIndex_7cf53 wsJ3_checkIndex_8e157 := goodIn_r _ [4] (by decide +kernel) (by decide +kernel)
set_option maxRecDepth 20000 in
theorem gJ15_checkIndex_7cf53_J3_checkIndex_8e157 : GoodIn wsJ15_checkIndex_7cf53 (va_wsS RJ15 105 yJ3_checkIndex_8e157 wsJ3_checkIndex_8e157) := goodIn_app (goodIn_of _ (by decide +kernel)) ggJ15_checkIndex_7cf53_J3_checkIndex_8e157
theorem dJ15_checkIndex_7cf53_0 : decode cJ15_checkIndex_7cf53 0 = .ok (.iload_n 0, 1) := by decide +kernel
theorem dJ15_checkIndex_7cf53_1 : decode cJ15_checkIndex_7cf53 1 = .ok (.iload_n 1, 1) := by decide +kernel
theorem dJ15_checkIndex_7cf53_2 : decode cJ15_checkIndex_7cf53 2 = .ok (.aconst_null, 1) := by decide +kernel
theorem dJ15_checkIndex_7cf53_3 : decode cJ15_checkIndex_7cf53 3 = .ok (.invokestatic 105, 3) := by decide +kernel
theorem dJ15_checkIndex_7cf53_6 : decode cJ15_checkIndex_7cf53 6 = .ok (.ireturn, 1) := by decide +kernel
set_option maxRecDepth 20000 in
theorem ggJ8_newLength_cabcc_J8_hugeLength_7cf53 : GoodIn wsJ8_newLength_cabcc wsJ8_hugeLength_7cf53 := goodIn_r _ [9, 5] (by decide +kernel) (by decide +kernel)
set_option maxRecDepth 20000 in
theorem gJ8_newLength_cabcc_J8_hugeLength_7cf53 : GoodIn wsJ8_newLength_cabcc (va_wsS RJ8 201 yJ8_hugeLength_7cf53 wsJ8_hugeLength_7cf53) := goodIn_app (goodIn_of _ (by decide +kernel)) ggJ8_newLength_cabcc_J8_hugeLength_7cf53
theorem dJ8_newLength_cabcc_0 : decode cJ8_newLength_cabcc 0 = .ok (.iload_n 0, 1) := by decide +kernel
theorem dJ8_newLength_cabcc_1 : decode cJ8_newLength_cabcc 1 = .ok (.iload_n 1, 1) := by decide +kernel
theorem dJ8_newLength_cabcc_2 : decode cJ8_newLength_cabcc 2 = .ok (.iload_n 2, 1) := by decide +kernel
theorem dJ8_newLength_cabcc_3 : decode cJ8_newLength_cabcc 3 = .ok (.invokestatic 194, 3) := by decide +kernel
theorem dJ8_newLength_cabcc_6 : decode cJ8_newLength_cabcc 6 = .ok (.iadd, 1) := by decide +kernel
theorem dJ8_newLength_cabcc_7 : decode cJ8_newLength_cabcc 7 = .ok (.istore_n 3, 1) := by decide +kernel
theorem dJ8_newLength_cabcc_8 : decode cJ8_newLength_cabcc 8 = .ok (.iconst 0, 1) := by decide +kernel
theorem dJ8_newLength_cabcc_9 : decode cJ8_newLength_cabcc 9 = .ok (.iload_n 3, 1) := by decide +kernel
theorem dJ8_newLength_cabcc_10 : decode cJ8_newLength_cabcc 10 = .ok (.if_icmp .ge 11, 3) := by decide +kernel
theorem dJ8_newLength_cabcc_13 : decode cJ8_newLength_cabcc 13 = .ok (.iload_n 3, 1) := by decide +kernel
theorem dJ8_newLength_cabcc_14 : decode cJ8_newLength_cabcc 14 = .ok (.ldc 200, 2) := by decide +kernel
theorem dJ8_newLength_cabcc_16 : decode cJ8_newLength_cabcc 16 = .ok (.if_icmp .gt 5, 3) := by decide +kernel
theorem dJ8_newLength_cabcc_19 : decode cJ8_newLength_cabcc 19 = .ok (.iload_n 3, 1) := by decide +kernel
theorem dJ8_newLength_cabcc_20 : decode cJ8_newLength_cabcc 20 = .ok (.ireturn, 1) := by decide +kernel
theorem dJ8_newLength_cabcc_21 : decode cJ8_newLength_cabcc 21 = .ok (.iload_n 0, 1) := by decide +kernel
theorem dJ8_newLength_cabcc_22 : decode cJ8_newLength_cabcc 22 = .ok (.iload_n 1, 1) := by decide +kernel
theorem dJ8_newLength_cabcc_23 : decode cJ8_newLength_cabcc 23 = .ok (.invokestatic 201, 3) := by decide +kernel
theorem dJ8_newLength_cabcc_26 : decode cJ8_newLength_cabcc 26 = .ok (.ireturn, 1) := by decide +kernel
theorem dJ8_hugeLength_7cf53_0 : decode cJ8_hugeLength_7cf53 0 = .ok (.iload_n 0, 1) := by decide +kernel
theorem dJ8_hugeLength_7cf53_1 : decode cJ8_hugeLength_7cf53 1 = .ok (.iload_n 1, 1) := by decide +kernel
theorem dJ8_hugeLength_7cf53_2 : decode cJ8_hugeLength_7cf53 2 = .ok (.iadd, 1) := by decide +kernel
theorem dJ8_hugeLength_7cf53_3 : decode cJ8_hugeLength_7cf53 3 = .ok (.istore_n 2, 1) := by decide +kernel
theorem dJ8_hugeLength_7cf53_4 : decode cJ8_hugeLength_7cf53 4 = .ok (.iload_n 2, 1) := by decide +kernel
theorem dJ8_hugeLength_7cf53_5 : decode cJ8_hugeLength_7cf53 5 = .ok (.ifCond .ge 44, 3) := by decide +kernel
theorem dJ8_hugeLength_7cf53_8 : decode cJ8_hugeLength_7cf53 8 = .ok (.new 204, 3) := by decide +kernel
theorem dJ8_hugeLength_7cf53_11 : decode cJ8_hugeLength_7cf53 11 = .ok (.dup, 1) := by decide +kernel
theorem dJ8_hugeLength_7cf53_12 : decode cJ8_hugeLength_7cf53 12 = .ok (.new 89, 3) := by decide +kernel
theorem dJ8_hugeLength_7cf53_15 : decode cJ8_hugeLength_7cf53 15 = .ok (.dup, 1) := by decide +kernel
theorem dJ8_hugeLength_7cf53_16 : decode cJ8_hugeLength_7cf53 16 = .ok (.invokespecial 91, 3) := by decide +kernel
theorem dJ8_hugeLength_7cf53_19 : decode cJ8_hugeLength_7cf53 19 = .ok (.ldc 206, 2) := by decide +kernel
theorem dJ8_hugeLength_7cf53_21 : decode cJ8_hugeLength_7cf53 21 = .ok (.invokevirtual 94, 3) := by decide +kernel
theorem dJ8_hugeLength_7cf53_24 : decode cJ8_hugeLength_7cf53 24 = .ok (.iload_n 0, 1) := by decide +kernel
theorem dJ8_hugeLength_7cf53_25 : decode cJ8_hugeLength_7cf53 25 = .ok (.invokevirtual 98, 3) := by decide +kernel
theorem dJ8_hugeLength_7cf53_28 : decode cJ8_hugeLength_7cf53 28 = .ok (.ldc 208, 2) := by decide +kernel
theorem dJ8_hugeLength_7cf53_30 : decode cJ8_hugeLength_7cf53 30 = .ok (.invokevirtual 94, 3) := by decide +kernel
theorem dJ8_hugeLength_7cf53_33 : decode cJ8_hugeLength_7cf53 33 = .ok (.iload_n 1, 1) := by decide +kernel
theorem dJ8_hugeLength_7cf53_34 : decode cJ8_hugeLength_7cf53 34 = .ok (.invokevirtual 98, 3) := by decide +kernel
theorem dJ8_hugeLength_7cf53_37 : decode cJ8_hugeLength_7cf53 37 = .ok (.ldc 210, 2) := by decide +kernel
theorem dJ8_hugeLength_7cf53_39 : decode cJ8_hugeLength_7cf53 39 = .ok (.invokevirtual 94, 3) := by decide +kernel
theorem dJ8_hugeLength_7cf53_42 : decode cJ8_hugeLength_7cf53 42 = .ok (.invokevirtual 101, 3) := by decide +kernel
theorem dJ8_hugeLength_7cf53_45 : decode cJ8_hugeLength_7cf53 45 = .ok (.invokespecial 212, 3) := by decide +kernel
theorem dJ8_hugeLength_7cf53_48 : decode cJ8_hugeLength_7cf53 48 = .ok (.athrow, 1) := by decide +kernel
theorem dJ8_hugeLength_7cf53_49 : decode cJ8_hugeLength_7cf53 49 = .ok (.iload_n 2, 1) := by decide +kernel
theorem dJ8_hugeLength_7cf53_50 : decode cJ8_hugeLength_7cf53 50 = .ok (.ldc 200, 2) := by decide +kernel
theorem dJ8_hugeLength_7cf53_52 : decode cJ8_hugeLength_7cf53 52 = .ok (.if_icmp .gt 6, 3) := by decide +kernel
theorem dJ8_hugeLength_7cf53_55 : decode cJ8_hugeLength_7cf53 55 = .ok (.ldc 200, 2) := by decide +kernel
theorem dJ8_hugeLength_7cf53_57 : decode cJ8_hugeLength_7cf53 57 = .ok (.ireturn, 1) := by decide +kernel
theorem dJ8_hugeLength_7cf53_58 : decode cJ8_hugeLength_7cf53 58 = .ok (.iload_n 2, 1) := by decide +kernel
theorem dJ8_hugeLength_7cf53_59 : decode cJ8_hugeLength_7cf53 59 = .ok (.ireturn, 1) := by decide +kernel
theorem dJ3_checkIndex_8e157_0 : decode cJ3_checkIndex_8e157 0 = .ok (.iload_n 0, 1) := by decide +kernel
theorem dJ3_checkIndex_8e157_1 : decode cJ3_checkIndex_8e157 1 = .ok (.ifCond .lt 8, 3) := by decide +kernel
theorem dJ3_checkIndex_8e157_4 : decode cJ3_checkIndex_8e157 4 = .ok (.iload_n 0, 1) := by decide +kernel
theorem dJ3_checkIndex_8e157_5 : decode cJ3_checkIndex_8e157 5 = .ok (.iload_n 1, 1) := by decide +kernel
theorem dJ3_checkIndex_8e157_6 : decode cJ3_checkIndex_8e157 6 = .ok (.if_icmp .lt 10, 3) := by decide +kernel
theorem dJ3_checkIndex_8e157_9 : decode cJ3_checkIndex_8e157 9 = .ok (.aload_n 2, 1) := by decide +kernel
theorem dJ3_checkIndex_8e157_10 : decode cJ3_checkIndex_8e157 10 = .ok (.iload_n 0, 1) := by decide +kernel
theorem dJ3_checkIndex_8e157_11 : decode cJ3_checkIndex_8e157 11 = .ok (.iload_n 1, 1) := by decide +kernel
theorem dJ3_checkIndex_8e157_12 : decode cJ3_checkIndex_8e157 12 = .ok (.invokestatic 95, 3) := by decide +kernel
theorem dJ3_checkIndex_8e157_15 : decode cJ3_checkIndex_8e157 15 = .ok (.athrow, 1) := by decide +kernel
theorem dJ3_checkIndex_8e157_16 : decode cJ3_checkIndex_8e157 16 = .ok (.iload_n 0, 1) := by decide +kernel
theorem dJ3_checkIndex_8e157_17 : decode cJ3_checkIndex_8e157 17 = .ok (.ireturn, 1) := by decide +kernel
set_option maxRecDepth 20000 in
theorem ggL_addDirectory_X3_addDirectory : GoodIn wsL_addDirectory wsX3_addDirectory := goodIn_ca (goodIn_ca (goodIn_ca (goodIn_r _ [8, 9, 10, 11, 12, 13, 14, 15, 16, 17, 18, 7, 19, 20, 21, 22, 23, 24, 25, 26, 27, 28, 29, 30, 31, 32, 33, 34, 35, 36, 37, 38, 39, 40, 41, 42, 43, 44, 45, 46, 47, 48, 49, 50, 51, 52, 53, 54, 55, 56, 57, 58, 59, 60, 61, 62, 63, 64, 65, 66, 67, 68, 69, 70, 71, 72, 73, 74, 75, 76, 77, 78, 79, 80, 81, 82, 83, 84, 85, 86, 87, 88, 89, 90, 91, 92, 93, 94, 95, 96, 97, 98, 99, 100, 101, 102, 103, 104, 105, 106, 107, 108, 109, 110, 111, 112, 113, 114, 115, 116, 117, 118, 119, 120, 121, 122, 123] (by decide +kernel) (by decide +kernel)) (goodIn_sub (fun _ h => List.mem_cons_of_mem _ (List.mem_append_left _ (List.mem_append_left _ (List.mem_append_right _ h)))) (by decide +kernel))) (goodIn_sub (fun _ h => List.mem_cons_of_mem _ (List.mem_append_left _ (List.mem_append_right _ h))) (by decide +kernel))) (goodIn_sub (fun _ h => List.mem_cons_of_mem _ (List.mem_append_right _ h)) (by decide +kernel))
set_option maxRecDepth 20000 in
theorem gL_addDirectory_X3_addDirectory : GoodIn wsL_addDirectory (wsV RL 7 RX3 yX3_addDirectory wsX3_addDirectory) := goodIn_app (goodIn_of _ (by decide +kernel)) ggL_addDirectory_X3_addDirectory
theorem dL_addDirectory_0 : decode cL_addDirectory 0 = .ok (.aload_n 3, 1) := by decide +kernel
theorem dL_addDirectory_1 : decode cL_addDirectory 1 = .ok (.iconst 0, 1) := by decide +kernel
theorem dL_addDirectory_2 : decode cL_addDirectory 2 = .ok (.aload_n 0, 1) := by decide +kernel
theorem dL_addDirectory_3 : decode cL_addDirectory 3 = .ok (.iload_n 1, 1) := by decide +kernel
theorem dL_addDirectory_4 : decode cL_addDirectory 4 = .ok (.iload_n 2, 1) := by decide +kernel
theorem dL_addDirectory_5 : decode cL_addDirectory 5 = .ok (.invokevirtual 7, 3) := by decide +kernel
theorem dL_addDirectory_8 : decode cL_addDirectory 8 = .ok (.i2l, 1) := by decide +kernel
theorem dL_addDirectory_9 : decode cL_addDirectory 9 = .ok (.lastore, 1) := by decide +kernel
theorem dL_addDirectory_10 : decode cL_addDirectory 10 = .ok (.goto 15, 3) := by decide +kernel
theorem dL_addDirectory_13 : decode cL_addDirectory 13 = .ok (.astore 4, 2) := by decide +kernel
theorem dL_addDirectory_15 : decode cL_addDirectory 15 = .ok (.iconst 1, 1) := by decide +kernel
theorem dL_addDirectory_16 : decode cL_addDirectory 16 = .ok (.ireturn, 1) := by decide +kernel
theorem dL_addDirectory_17 : decode cL_addDirectory 17 = .ok (.astore 4, 2) := by decide +kernel
theorem dL_addDirectory_19 : decode cL_addDirectory 19 = .ok (.iconst 2, 1) := by decide +kernel
theorem dL_addDirectory_20 : decode cL_addDirectory 20 = .ok (.ireturn, 1) := by decide +kernel
theorem dL_addDirectory_21 : decode cL_addDirectory 21 = .ok (.astore 4, 2) := by decide +kernel
theorem dL_addDirectory_23 : decode cL_addDirectory 23 = .ok (.iconst 3, 1) := by decide +kernel
theorem dL_addDirectory_24 : decode cL_addDirectory 24 = .ok (.ireturn, 1) := by decide +kernel
theorem dL_addDirectory_25 : decode cL_addDirectory 25 = .ok (.iconst 0, 1) := by decide +kernel
theorem dL_addDirectory_26 : decode cL_addDirectory 26 = .ok (.ireturn, 1) := by decide +kernel
set_option maxRecDepth 20000 in
theorem ggL_setQuota_X3_setQuota : GoodIn wsL_setQuota wsX3_setQuota := goodIn_ca (goodIn_ca (goodIn_r _ [7, 8, 9, 10, 11, 12, 6, 13, 14, 15, 16, 17, 18, 19, 20, 21, 22, 23, 24, 25, 26, 27, 28, 29, 30, 31, 32, 33, 34, 35, 36, 37, 38, 39, 40, 41, 42, 43, 44, 45, 46, 47, 48, 49, 50, 51, 52, 53, 54, 55, 56] (by decide +kernel) (by decide +kernel)) (goodIn_sub (fun _ h => List.mem_cons_of_mem _ (List.mem_append_left _ (List.mem_append_right _ h))) (by decide +kernel))) (goodIn_sub (fun _ h => List.mem_cons_of_mem _ (List.mem_append_right _ h)) (by decide +kernel))
set_option maxRecDepth 20000 in
theorem gL_setQuota_X3_setQuota : GoodIn wsL_setQuota (wsV RL 19 RX3 yX3_setQuota wsX3_setQuota) := goodIn_app (goodIn_of _ (by decide +kernel)) ggL_setQuota_X3_setQuota
theorem dL_setQuota_0 : decode cL_setQuota 0 = .ok (.aload_n 3, 1) := by decide +kernel
theorem dL_setQuota_1 : decode cL_setQuota 1 = .ok (.iconst 0, 1) := by decide +kernel
theorem dL_setQuota_2 : decode cL_setQuota 2 = .ok (.aload_n 0, 1) := by decide +kernel
theorem dL_setQuota_3 : decode cL_setQuota 3 = .ok (.iload_n 1, 1) := by decide +kernel
theorem dL_setQuota_4 : decode cL_setQuota 4 = .ok (.iload_n 2, 1) := by decide +kernel
theorem dL_setQuota_5 : decode cL_setQuota 5 = .ok (.invokevirtual 19, 3) := by decide +kernel
theorem dL_setQuota_8 : decode cL_setQuota 8 = .ok (.i2l, 1) := by decide +kernel
theorem dL_setQuota_9 : decode cL_setQuota 9 = .ok (.lastore, 1) := by decide +kernel
theorem dL_setQuota_10 : decode cL_setQuota 10 = .ok (.goto 11, 3) := by decide +kernel
theorem dL_setQuota_13 : decode cL_setQuota 13 = .ok (.astore 4, 2) := by decide +kernel
theorem dL_setQuota_15 : decode cL_setQuota 15 = .ok (.iconst 1, 1) := by decide +kernel
theorem dL_setQuota_16 : decode cL_setQuota 16 = .ok (.ireturn, 1) := by decide +kernel
theorem dL_setQuota_17 : decode cL_setQuota 17 = .ok (.astore 4, 2) := by decide +kernel
theorem dL_setQuota_19 : decode cL_setQuota 19 = .ok (.iconst 2, 1) := by decide +kernel
theorem dL_setQuota_20 : decode cL_setQuota 20 = .ok (.ireturn, 1) := by decide +kernel
theorem dL_setQuota_21 : decode cL_setQuota 21 = .ok (.iconst 0, 1) := by decide +kernel
theorem dL_setQuota_22 : decode cL_setQuota 22 = .ok (.ireturn, 1) := by decide +kernel
set_option maxRecDepth 20000 in
theorem ggL_make_X3_make : GoodIn wsL_make wsX3_make := goodIn_ca (goodIn_ca (goodIn_ca (goodIn_r _ [8, 9, 10, 11, 12, 13, 14, 15, 16, 17, 18, 19, 20, 7, 21, 22, 23, 24, 25, 26, 27, 28, 29, 30, 31, 32, 33, 34, 35, 36, 37, 38, 39, 40, 41, 42, 43, 44, 45, 46, 47, 48, 49, 50, 51, 52, 53, 54, 55, 56, 57, 58, 59, 60, 61, 62, 63, 64, 65, 66, 67, 68, 69, 70, 71, 72, 73, 74, 75, 76, 77, 78, 79, 80, 81, 82, 83, 84, 85, 86, 87, 88, 89, 90, 91, 92, 93, 94, 95, 96, 97, 98, 99, 100, 101, 102, 103, 104, 105, 106, 107, 108, 109, 110, 111, 112, 113, 114, 115, 116, 117, 118, 119, 120, 121, 122, 123, 124, 125, 126, 127, 128, 129, 130, 131, 132, 133, 134, 135, 136, 137, 138, 139, 140, 141, 142, 143, 144, 145, 146, 147, 148, 149, 150, 151, 152, 153, 154, 155, 156, 157, 158, 159, 160, 161, 162, 163, 164, 165, 166, 167, 168, 169, 170, 171, 172] (by decide +kernel) (by decide +kernel)) (goodIn_sub (fun _ h => List.mem_cons_of_mem _ (List.mem_append_left _ (List.mem_append_left _ (List.mem_append_right _ h)))) (by decide +kernel))) (goodIn_sub (fun _ h => List.mem_cons_of_mem _ (List.mem_append_left _ (List.mem_append_right _ h))) (by decide +kernel))) (goodIn_sub (fun _ h => List.mem_cons_of_mem _ (List.mem_append_right _ h)) (by decide +kernel))
set_option maxRecDepth 20000 in
theorem gL_make_X3_make : GoodIn wsL_make (wsV RL 22 RX3 yX3_make wsX3_make) := goodIn_app (goodIn_of _ (by decide +kernel)) ggL_make_X3_make
theorem dL_make_0 : decode cL_make 0 = .ok (.aload 4, 2) := by decide +kernel
theorem dL_make_2 : decode cL_make 2 = .ok (.iconst 0, 1) := by decide +kernel
theorem dL_make_3 : decode cL_make 3 = .ok (.aload_n 0, 1) := by decide +kernel
theorem dL_make_4 : decode cL_make 4 = .ok (.iload_n 1, 1) := by decide +kernel
theorem dL_make_5 : decode cL_make 5 = .ok (.iload_n 2, 1) := by decide +kernel
theorem dL_make_6 : decode cL_make 6 = .ok (.iload_n 3, 1) := by decide +kernel
theorem dL_make_7 : decode cL_make 7 = .ok (.invokevirtual 22, 3) := by decide +kernel
theorem dL_make_10 : decode cL_make 10 = .ok (.i2l, 1) := by decide +kernel
theorem dL_make_11 : decode cL_make 11 = .ok (.lastore, 1) := by decide +kernel
theorem dL_make_12 : decode cL_make 12 = .ok (.goto 15, 3) := by decide +kernel
theorem dL_make_15 : decode cL_make 15 = .ok (.astore 5, 2) := by decide +kernel
theorem dL_make_17 : decode cL_make 17 = .ok (.iconst 1, 1) := by decide +kernel
theorem dL_make_18 : decode cL_make 18 = .ok (.ireturn, 1) := by decide +kernel
theorem dL_make_19 : decode cL_make 19 = .ok (.astore 5, 2) := by decide +kernel
theorem dL_make_21 : decode cL_make 21 = .ok (.iconst 2, 1) := by decide +kernel
theorem dL_make_22 : decode cL_make 22 = .ok (.ireturn, 1) := by decide +kernel
theorem dL_make_23 : decode cL_make 23 = .ok (.astore 5, 2) := by decide +kernel
theorem dL_make_25 : decode cL_make 25 = .ok (.iconst 3, 1) := by decide +kernel
theorem dL_make_26 : decode cL_make 26 = .ok (.ireturn, 1) := by decide +kernel
theorem dL_make_27 : decode cL_make 27 = .ok (.iconst 0, 1) := by decide +kernel
theorem dL_make_28 : decode cL_make 28 = .ok (.ireturn, 1) := by decide +kernel
set_option maxRecDepth 20000 in
theorem ggL_link_X3_link : GoodIn wsL_link wsX3_link := goodIn_ca (goodIn_ca (goodIn_r _ [7, 8, 9, 10, 11, 12, 13, 6, 14, 15, 16, 17, 18, 19, 20, 21, 22, 23, 24, 25, 26, 27, 28, 29, 30, 31, 32, 33, 34, 35, 36, 37, 38, 39, 40, 41, 42, 43, 44, 45, 46, 47, 48, 49, 50, 51, 52, 53, 54, 55, 56, 57, 58, 59, 60, 61, 62, 63, 64, 65, 66, 67, 68, 69, 70, 71, 72, 73, 74, 75, 76, 77, 78, 79, 80, 81, 82, 83, 84, 85, 86, 87, 88, 89, 90, 91, 92, 93, 94, 95, 96, 97, 98, 99, 100, 101, 102, 103, 104, 105, 106, 107, 108, 109, 110, 111, 112, 113, 114, 115, 116, 117, 118, 119, 120, 121, 122, 123, 124, 125, 126, 127, 128, 129, 130, 131, 132] (by decide +kernel) (by decide +kernel)) (goodIn_sub (fun _ h => List.mem_cons_of_mem _ (List.mem_append_left _ (List.mem_append_right _ h))) (by decide +kernel))) (goodIn_sub (fun _ h => List.mem_cons_of_mem _ (List.mem_append_right _ h)) (by decide +kernel))
set_option maxRecDepth 20000 in
theorem gL_link_X3_link : GoodIn wsL_link (wsV RL 26 RX3 yX3_link wsX3_link) := goodIn_app (goodIn_of _ (by decide +kernel)) ggL_link_X3_link
theorem dL_link_0 : decode cL_link 0 = .ok (.aload_n 3, 1) := by decide +kernel
theorem dL_link_1 : decode cL_link 1 = .ok (.iconst 0, 1) := by decide +kernel
theorem dL_link_2 : decode cL_link 2 = .ok (.aload_n 0, 1) := by decide +kernel
theorem dL_link_3 : decode cL_link 3 = .ok (.iload_n 1, 1) := by decide +kernel
theorem dL_link_4 : decode cL_link 4 = .ok (.iload_n 2, 1) := by decide +kernel
theorem dL_link_5 : decode cL_link 5 = .ok (.invokevirtual 26, 3) := by decide +kernel
theorem dL_link_8 : decode cL_link 8 = .ok (.i2l, 1) := by decide +kernel
theorem dL_link_9 : decode cL_link 9 = .ok (.lastore, 1) := by decide +kernel
theorem dL_link_10 : decode cL_link 10 = .ok (.goto 11, 3) := by decide +kernel
theorem dL_link_13 : decode cL_link 13 = .ok (.astore 4, 2) := by decide +kernel
theorem dL_link_15 : decode cL_link 15 = .ok (.iconst 1, 1) := by decide +kernel
theorem dL_link_16 : decode cL_link 16 = .ok (.ireturn, 1) := by decide +kernel
theorem dL_link_17 : decode cL_link 17 = .ok (.astore 4, 2) := by decide +kernel
theorem dL_link_19 : decode cL_link 19 = .ok (.iconst 2, 1) := by decide +kernel
theorem dL_link_20 : decode cL_link 20 = .ok (.ireturn, 1) := by decide +kernel
theorem dL_link_21 : decode cL_link 21 = .ok (.iconst 0, 1) := by decide +kernel
theorem dL_link_22 : decode cL_link 22 = .ok (.ireturn, 1) := by decide +kernel
set_option maxRecDepth 20000 in
theorem ggL_unlink_X3_unlink : GoodIn wsL_unlink wsX3_unlink := goodIn_ca (goodIn_ca (goodIn_r _ [7, 8, 9, 10, 11, 12, 13, 14, 6, 15, 16, 17, 18, 19, 20, 21, 22, 23, 24, 25, 26, 27, 28, 29, 30, 31, 32, 33, 34, 35, 36, 37, 38, 39, 40, 41, 42, 43, 44, 45, 46, 47, 48, 49, 50, 51, 52, 53, 54, 55, 56, 57, 58, 59, 60, 61, 62, 63, 64, 65, 66, 67, 68, 69, 70, 71, 72, 73, 74, 75, 76, 77, 78, 79, 80, 81, 82, 83, 84, 85, 86, 87, 88, 89, 90, 91, 92, 93, 94, 95, 96, 97, 98, 99, 100, 101, 102, 103, 104, 105, 106, 107, 108, 109, 110, 111, 112, 113, 114] (by decide +kernel) (by decide +kernel)) (goodIn_sub (fun _ h => List.mem_cons_of_mem _ (List.mem_append_left _ (List.mem_append_right _ h))) (by decide +kernel))) (goodIn_sub (fun _ h => List.mem_cons_of_mem _ (List.mem_append_right _ h)) (by decide +kernel))
set_option maxRecDepth 20000 in
theorem gL_unlink_X3_unlink : GoodIn wsL_unlink (wsV RL 29 RX3 yX3_unlink wsX3_unlink) := goodIn_app (goodIn_of _ (by decide +kernel)) ggL_unlink_X3_unlink
theorem dL_unlink_0 : decode cL_unlink 0 = .ok (.aload_n 3, 1) := by decide +kernel
theorem dL_unlink_1 : decode cL_unlink 1 = .ok (.iconst 0, 1) := by decide +kernel
theorem dL_unlink_2 : decode cL_unlink 2 = .ok (.aload_n 0, 1) := by decide +kernel
theorem dL_unlink_3 : decode cL_unlink 3 = .ok (.iload_n 1, 1) := by decide +kernel
theorem dL_unlink_4 : decode cL_unlink 4 = .ok (.iload_n 2, 1) := by decide +kernel
theorem dL_unlink_5 : decode cL_unlink 5 = .ok (.invokevirtual 29, 3) := by decide +kernel
theorem dL_unlink_8 : decode cL_unlink 8 = .ok (.i2l, 1) := by decide +kernel
theorem dL_unlink_9 : decode cL_unlink 9 = .ok (.lastore, 1) := by decide +kernel
theorem dL_unlink_10 : decode cL_unlink 10 = .ok (.goto 11, 3) := by decide +kernel
theorem dL_unlink_13 : decode cL_unlink 13 = .ok (.astore 4, 2) := by decide +kernel
theorem dL_unlink_15 : decode cL_unlink 15 = .ok (.iconst 1, 1) := by decide +kernel
theorem dL_unlink_16 : decode cL_unlink 16 = .ok (.ireturn, 1) := by decide +kernel
theorem dL_unlink_17 : decode cL_unlink 17 = .ok (.astore 4, 2) := by decide +kernel
theorem dL_unlink_19 : decode cL_unlink 19 = .ok (.iconst 2, 1) := by decide +kernel
theorem dL_unlink_20 : decode cL_unlink 20 = .ok (.ireturn, 1) := by decide +kernel
theorem dL_unlink_21 : decode cL_unlink 21 = .ok (.iconst 0, 1) := by decide +kernel
theorem dL_unlink_22 : decode cL_unlink 22 = .ok (.ireturn, 1) := by decide +kernel
set_option maxRecDepth 20000 in
theorem ggL_write_X3_write : GoodIn wsL_write wsX3_write := goodIn_ca (goodIn_ca (goodIn_ca (goodIn_r _ [8, 9, 10, 11, 12, 13, 14, 15, 16, 17, 18, 7, 19, 20, 21, 22, 23, 24, 25, 26, 27, 28, 29, 30, 31, 32, 33, 34, 35, 36, 37, 38, 39, 40, 41, 42, 43, 44, 45, 46, 47, 48, 49, 50, 51, 52, 53, 54, 55, 56, 57, 58, 59, 60, 61, 62, 63, 64, 65, 66, 67, 68, 69, 70, 71, 72, 73, 74, 75, 76, 77, 78, 79, 80, 81, 82, 83, 84, 85, 86, 87, 88, 89, 90, 91, 92, 93, 94, 95, 96, 97, 98, 99, 100, 101, 102, 103, 104, 105, 106, 107, 108, 109, 110, 111, 112, 113, 114, 115, 116, 117, 118] (by decide +kernel) (by decide +kernel)) (goodIn_sub (fun _ h => List.mem_cons_of_mem _ (List.mem_append_left _ (List.mem_append_left _ (List.mem_append_right _ h)))) (by decide +kernel))) (goodIn_sub (fun _ h => List.mem_cons_of_mem _ (List.mem_append_left _ (List.mem_append_right _ h))) (by decide +kernel))) (goodIn_sub (fun _ h => List.mem_cons_of_mem _ (List.mem_append_right _ h)) (by decide +kernel))
set_option maxRecDepth 20000 in
theorem gL_write_X3_write : GoodIn wsL_write (wsV RL 32 RX3 yX3_write wsX3_write) := goodIn_app (goodIn_of _ (by decide +kernel)) ggL_write_X3_write
theorem dL_write_0 : decode cL_write 0 = .ok (.aload_n 3, 1) := by decide +kernel
theorem dL_write_1 : decode cL_write 1 = .ok (.iconst 0, 1) := by decide +kernel
theorem dL_write_2 : decode cL_write 2 = .ok (.aload_n 0, 1) := by decide +kernel
theorem dL_write_3 : decode cL_write 3 = .ok (.iload_n 1, 1) := by decide +kernel
theorem dL_write_4 : decode cL_write 4 = .ok (.iload_n 2, 1) := by decide +kernel
theorem dL_write_5 : decode cL_write 5 = .ok (.invokevirtual 32, 3) := by decide +kernel
theorem dL_write_8 : decode cL_write 8 = .ok (.i2l, 1) := by decide +kernel
theorem dL_write_9 : decode cL_write 9 = .ok (.lastore, 1) := by decide +kernel
theorem dL_write_10 : decode cL_write 10 = .ok (.goto 15, 3) := by decide +kernel
theorem dL_write_13 : decode cL_write 13 = .ok (.astore 4, 2) := by decide +kernel
theorem dL_write_15 : decode cL_write 15 = .ok (.iconst 1, 1) := by decide +kernel
theorem dL_write_16 : decode cL_write 16 = .ok (.ireturn, 1) := by decide +kernel
theorem dL_write_17 : decode cL_write 17 = .ok (.astore 4, 2) := by decide +kernel
theorem dL_write_19 : decode cL_write 19 = .ok (.iconst 2, 1) := by decide +kernel
theorem dL_write_20 : decode cL_write 20 = .ok (.ireturn, 1) := by decide +kernel
theorem dL_write_21 : decode cL_write 21 = .ok (.astore 4, 2) := by decide +kernel
theorem dL_write_23 : decode cL_write 23 = .ok (.iconst 3, 1) := by decide +kernel
theorem dL_write_24 : decode cL_write 24 = .ok (.ireturn, 1) := by decide +kernel
theorem dL_write_25 : decode cL_write 25 = .ok (.iconst 0, 1) := by decide +kernel
theorem dL_write_26 : decode cL_write 26 = .ok (.ireturn, 1) := by decide +kernel
set_option maxRecDepth 20000 in
theorem ggL_read_X3_read : GoodIn wsL_read wsX3_read := goodIn_ca (goodIn_ca (goodIn_r _ [7, 8, 9, 10, 11, 12, 6, 13, 14, 15, 16, 17, 18, 19, 20, 21, 22, 23, 24, 25, 26, 27, 28, 29, 30, 31, 32, 33, 34, 35, 36, 37, 38, 39, 40, 41, 42, 43, 44, 45, 46, 47, 48, 49, 50, 51, 52, 53, 54, 55, 56, 57, 58, 59, 60, 61, 62, 63, 64, 65, 66, 67, 68, 69, 70, 71, 72, 73, 74, 75, 76, 77, 78, 79, 80, 81, 82, 83, 84, 85, 86, 87, 88, 89, 90, 91, 92] (by decide +kernel) (by decide +kernel)) (goodIn_sub (fun _ h => List.mem_cons_of_mem _ (List.mem_append_left _ (List.mem_append_right _ h))) (by decide +kernel))) (goodIn_sub (fun _ h => List.mem_cons_of_mem _ (List.mem_append_right _ h)) (by decide +kernel))
set_option maxRecDepth 20000 in
theorem gL_read_X3_read : GoodIn wsL_read (wsV RL 35 RX3 yX3_read wsX3_read) := goodIn_app (goodIn_of _ (by decide +kernel)) ggL_read_X3_read
theorem dL_read_0 : decode cL_read 0 = .ok (.aload_n 2, 1) := by decide +kernel
theorem dL_read_1 : decode cL_read 1 = .ok (.iconst 0, 1) := by decide +kernel
theorem dL_read_2 : decode cL_read 2 = .ok (.aload_n 0, 1) := by decide +kernel
theorem dL_read_3 : decode cL_read 3 = .ok (.iload_n 1, 1) := by decide +kernel
theorem dL_read_4 : decode cL_read 4 = .ok (.invokevirtual 35, 3) := by decide +kernel
theorem dL_read_7 : decode cL_read 7 = .ok (.i2l, 1) := by decide +kernel
theorem dL_read_8 : decode cL_read 8 = .ok (.lastore, 1) := by decide +kernel
theorem dL_read_9 : decode cL_read 9 = .ok (.goto 9, 3) := by decide +kernel
theorem dL_read_12 : decode cL_read 12 = .ok (.astore_n 3, 1) := by decide +kernel
theorem dL_read_13 : decode cL_read 13 = .ok (.iconst 1, 1) := by decide +kernel
theorem dL_read_14 : decode cL_read 14 = .ok (.ireturn, 1) := by decide +kernel
theorem dL_read_15 : decode cL_read 15 = .ok (.astore_n 3, 1) := by decide +kernel
theorem dL_read_16 : decode cL_read 16 = .ok (.iconst 2, 1) := by decide +kernel
theorem dL_read_17 : decode cL_read 17 = .ok (.ireturn, 1) := by decide +kernel
theorem dL_read_18 : decode cL_read 18 = .ok (.iconst 0, 1) := by decide +kernel
theorem dL_read_19 : decode cL_read 19 = .ok (.ireturn, 1) := by decide +kernel
set_option maxRecDepth 20000 in
theorem ggL_hold_X3_hold : GoodIn wsL_hold wsX3_hold := goodIn_ca (goodIn_ca (goodIn_r _ [7, 8, 9, 10, 6, 11, 12, 13, 14, 15, 16, 17, 18, 19, 20, 21, 22, 23, 24, 25, 26, 27, 28, 29, 30, 31, 32, 33, 34, 35, 36, 37, 38, 39, 40, 41, 42, 43, 44, 45, 46, 47, 48, 49, 50, 51, 52, 53, 54, 55, 56, 57, 58, 59, 60, 61, 62, 63, 64, 65, 66, 67, 68, 69, 70, 71, 72, 73, 74, 75, 76, 77] (by decide +kernel) (by decide +kernel)) (goodIn_sub (fun _ h => List.mem_cons_of_mem _ (List.mem_append_left _ (List.mem_append_right _ h))) (by decide +kernel))) (goodIn_sub (fun _ h => List.mem_cons_of_mem _ (List.mem_append_right _ h)) (by decide +kernel))
set_option maxRecDepth 20000 in
theorem gL_hold_X3_hold : GoodIn wsL_hold (wsV RL 39 RX3 yX3_hold wsX3_hold) := goodIn_app (goodIn_of _ (by decide +kernel)) ggL_hold_X3_hold
theorem dL_hold_0 : decode cL_hold 0 = .ok (.aload_n 3, 1) := by decide +kernel
theorem dL_hold_1 : decode cL_hold 1 = .ok (.iconst 0, 1) := by decide +kernel
theorem dL_hold_2 : decode cL_hold 2 = .ok (.aload_n 0, 1) := by decide +kernel
theorem dL_hold_3 : decode cL_hold 3 = .ok (.iload_n 1, 1) := by decide +kernel
theorem dL_hold_4 : decode cL_hold 4 = .ok (.iload_n 2, 1) := by decide +kernel
theorem dL_hold_5 : decode cL_hold 5 = .ok (.invokevirtual 39, 3) := by decide +kernel
theorem dL_hold_8 : decode cL_hold 8 = .ok (.i2l, 1) := by decide +kernel
theorem dL_hold_9 : decode cL_hold 9 = .ok (.lastore, 1) := by decide +kernel
theorem dL_hold_10 : decode cL_hold 10 = .ok (.goto 11, 3) := by decide +kernel
theorem dL_hold_13 : decode cL_hold 13 = .ok (.astore 4, 2) := by decide +kernel
theorem dL_hold_15 : decode cL_hold 15 = .ok (.iconst 1, 1) := by decide +kernel
theorem dL_hold_16 : decode cL_hold 16 = .ok (.ireturn, 1) := by decide +kernel
theorem dL_hold_17 : decode cL_hold 17 = .ok (.astore 4, 2) := by decide +kernel
theorem dL_hold_19 : decode cL_hold 19 = .ok (.iconst 2, 1) := by decide +kernel
theorem dL_hold_20 : decode cL_hold 20 = .ok (.ireturn, 1) := by decide +kernel
theorem dL_hold_21 : decode cL_hold 21 = .ok (.iconst 0, 1) := by decide +kernel
theorem dL_hold_22 : decode cL_hold 22 = .ok (.ireturn, 1) := by decide +kernel
set_option maxRecDepth 20000 in
theorem ggL_release_X3_release : GoodIn wsL_release wsX3_release := goodIn_ca (goodIn_r _ [6, 7, 8, 9, 10, 5, 11, 12, 13, 14, 15, 16, 17, 18, 19, 20, 21, 22, 23, 24, 25, 26, 27, 28, 29, 30, 31, 32, 33, 34, 35, 36, 37, 38, 39, 40, 41, 42, 43, 44, 45, 46, 47, 48, 49, 50, 51, 52, 53, 54, 55, 56] (by decide +kernel) (by decide +kernel)) (goodIn_sub (fun _ h => List.mem_cons_of_mem _ (List.mem_append_right _ h)) (by decide +kernel))
set_option maxRecDepth 20000 in
theorem gL_release_X3_release : GoodIn wsL_release (wsV RL 42 RX3 yX3_release wsX3_release) := goodIn_app (goodIn_of _ (by decide +kernel)) ggL_release_X3_release
theorem dL_release_0 : decode cL_release 0 = .ok (.aload_n 2, 1) := by decide +kernel
theorem dL_release_1 : decode cL_release 1 = .ok (.iconst 0, 1) := by decide +kernel
theorem dL_release_2 : decode cL_release 2 = .ok (.aload_n 0, 1) := by decide +kernel
theorem dL_release_3 : decode cL_release 3 = .ok (.iload_n 1, 1) := by decide +kernel
theorem dL_release_4 : decode cL_release 4 = .ok (.invokevirtual 42, 3) := by decide +kernel
theorem dL_release_7 : decode cL_release 7 = .ok (.i2l, 1) := by decide +kernel
theorem dL_release_8 : decode cL_release 8 = .ok (.lastore, 1) := by decide +kernel
theorem dL_release_9 : decode cL_release 9 = .ok (.goto 6, 3) := by decide +kernel
theorem dL_release_12 : decode cL_release 12 = .ok (.astore_n 3, 1) := by decide +kernel
theorem dL_release_13 : decode cL_release 13 = .ok (.iconst 1, 1) := by decide +kernel
theorem dL_release_14 : decode cL_release 14 = .ok (.ireturn, 1) := by decide +kernel
theorem dL_release_15 : decode cL_release 15 = .ok (.iconst 0, 1) := by decide +kernel
theorem dL_release_16 : decode cL_release 16 = .ok (.ireturn, 1) := by decide +kernel
set_option maxRecDepth 20000 in
theorem ggL_fund_X3_fund : GoodIn wsL_fund wsX3_fund := goodIn_ca (goodIn_ca (goodIn_ca (goodIn_r _ [8, 9, 10, 11, 12, 13, 14, 15, 7, 16, 17, 18, 19, 20, 21, 22, 23, 24, 25, 26, 27, 28, 29, 30, 31, 32, 33, 34, 35, 36, 37, 38, 39, 40, 41, 42, 43, 44, 45, 46, 47, 48, 49, 50, 51, 52, 53, 54, 55, 56, 57] (by decide +kernel) (by decide +kernel)) (goodIn_sub (fun _ h => List.mem_cons_of_mem _ (List.mem_append_left _ (List.mem_append_left _ (List.mem_append_right _ h)))) (by decide +kernel))) (goodIn_sub (fun _ h => List.mem_cons_of_mem _ (List.mem_append_left _ (List.mem_append_right _ h))) (by decide +kernel))) (goodIn_sub (fun _ h => List.mem_cons_of_mem _ (List.mem_append_right _ h)) (by decide +kernel))
set_option maxRecDepth 20000 in
theorem gL_fund_X3_fund : GoodIn wsL_fund (wsV RL 45 RX3 yX3_fund wsX3_fund) := goodIn_app (goodIn_of _ (by decide +kernel)) ggL_fund_X3_fund
theorem dL_fund_0 : decode cL_fund 0 = .ok (.aload_n 3, 1) := by decide +kernel
theorem dL_fund_1 : decode cL_fund 1 = .ok (.iconst 0, 1) := by decide +kernel
theorem dL_fund_2 : decode cL_fund 2 = .ok (.aload_n 0, 1) := by decide +kernel
theorem dL_fund_3 : decode cL_fund 3 = .ok (.iload_n 1, 1) := by decide +kernel
theorem dL_fund_4 : decode cL_fund 4 = .ok (.iload_n 2, 1) := by decide +kernel
theorem dL_fund_5 : decode cL_fund 5 = .ok (.invokevirtual 45, 3) := by decide +kernel
theorem dL_fund_8 : decode cL_fund 8 = .ok (.i2l, 1) := by decide +kernel
theorem dL_fund_9 : decode cL_fund 9 = .ok (.lastore, 1) := by decide +kernel
theorem dL_fund_10 : decode cL_fund 10 = .ok (.goto 15, 3) := by decide +kernel
theorem dL_fund_13 : decode cL_fund 13 = .ok (.astore 4, 2) := by decide +kernel
theorem dL_fund_15 : decode cL_fund 15 = .ok (.iconst 1, 1) := by decide +kernel
theorem dL_fund_16 : decode cL_fund 16 = .ok (.ireturn, 1) := by decide +kernel
theorem dL_fund_17 : decode cL_fund 17 = .ok (.astore 4, 2) := by decide +kernel
theorem dL_fund_19 : decode cL_fund 19 = .ok (.iconst 2, 1) := by decide +kernel
theorem dL_fund_20 : decode cL_fund 20 = .ok (.ireturn, 1) := by decide +kernel
theorem dL_fund_21 : decode cL_fund 21 = .ok (.astore 4, 2) := by decide +kernel
theorem dL_fund_23 : decode cL_fund 23 = .ok (.iconst 3, 1) := by decide +kernel
theorem dL_fund_24 : decode cL_fund 24 = .ok (.ireturn, 1) := by decide +kernel
theorem dL_fund_25 : decode cL_fund 25 = .ok (.iconst 0, 1) := by decide +kernel
theorem dL_fund_26 : decode cL_fund 26 = .ok (.ireturn, 1) := by decide +kernel
set_option maxRecDepth 20000 in
theorem ggL_pass_X3_pass : GoodIn wsL_pass wsX3_pass := goodIn_ca (goodIn_ca (goodIn_r _ [7, 8, 9, 10, 11, 12, 6, 13, 14, 15, 16, 17, 18, 19, 20, 21, 22, 23, 24, 25, 26, 27, 28, 29, 30, 31, 32, 33, 34, 35, 36, 37, 38, 39, 40, 41, 42, 43, 44, 45, 46, 47, 48, 49, 50, 51, 52, 53, 54, 55, 56, 57, 58, 59, 60, 61, 62, 63, 64, 65, 66, 67, 68, 69, 70, 71, 72, 73, 74, 75, 76, 77, 78, 79, 80, 81, 82, 83, 84, 85, 86, 87, 88, 89, 90, 91, 92, 93, 94, 95, 96, 97, 98] (by decide +kernel) (by decide +kernel)) (goodIn_sub (fun _ h => List.mem_cons_of_mem _ (List.mem_append_left _ (List.mem_append_right _ h))) (by decide +kernel))) (goodIn_sub (fun _ h => List.mem_cons_of_mem _ (List.mem_append_right _ h)) (by decide +kernel))
set_option maxRecDepth 20000 in
theorem gL_pass_X3_pass : GoodIn wsL_pass (wsV RL 48 RX3 yX3_pass wsX3_pass) := goodIn_app (goodIn_of _ (by decide +kernel)) ggL_pass_X3_pass
theorem dL_pass_0 : decode cL_pass 0 = .ok (.aload_n 2, 1) := by decide +kernel
theorem dL_pass_1 : decode cL_pass 1 = .ok (.iconst 0, 1) := by decide +kernel
theorem dL_pass_2 : decode cL_pass 2 = .ok (.aload_n 0, 1) := by decide +kernel
theorem dL_pass_3 : decode cL_pass 3 = .ok (.iload_n 1, 1) := by decide +kernel
theorem dL_pass_4 : decode cL_pass 4 = .ok (.invokevirtual 48, 3) := by decide +kernel
theorem dL_pass_7 : decode cL_pass 7 = .ok (.i2l, 1) := by decide +kernel
theorem dL_pass_8 : decode cL_pass 8 = .ok (.lastore, 1) := by decide +kernel
theorem dL_pass_9 : decode cL_pass 9 = .ok (.goto 9, 3) := by decide +kernel
theorem dL_pass_12 : decode cL_pass 12 = .ok (.astore_n 3, 1) := by decide +kernel
theorem dL_pass_13 : decode cL_pass 13 = .ok (.iconst 1, 1) := by decide +kernel
theorem dL_pass_14 : decode cL_pass 14 = .ok (.ireturn, 1) := by decide +kernel
theorem dL_pass_15 : decode cL_pass 15 = .ok (.astore_n 3, 1) := by decide +kernel
theorem dL_pass_16 : decode cL_pass 16 = .ok (.iconst 2, 1) := by decide +kernel
theorem dL_pass_17 : decode cL_pass 17 = .ok (.ireturn, 1) := by decide +kernel
theorem dL_pass_18 : decode cL_pass 18 = .ok (.iconst 0, 1) := by decide +kernel
theorem dL_pass_19 : decode cL_pass 19 = .ok (.ireturn, 1) := by decide +kernel
set_option maxRecDepth 20000 in
theorem ggL_usage_X3_usage : GoodIn wsL_usage wsX3_usage := goodIn_ca (goodIn_r _ [6, 7, 8, 9, 10, 5, 11, 12, 13, 14, 15, 16, 17, 18, 19, 20, 21, 22, 23, 24, 25, 26, 27, 28, 29, 30, 31, 32, 33, 34, 35, 36, 37, 38, 39, 40, 41, 42, 43, 44, 45, 46, 47, 48, 49] (by decide +kernel) (by decide +kernel)) (goodIn_sub (fun _ h => List.mem_cons_of_mem _ (List.mem_append_right _ h)) (by decide +kernel))
set_option maxRecDepth 20000 in
theorem gL_usage_X3_usage : GoodIn wsL_usage (wsV RL 51 RX3 yX3_usage wsX3_usage) := goodIn_app (goodIn_of _ (by decide +kernel)) ggL_usage_X3_usage
theorem dL_usage_0 : decode cL_usage 0 = .ok (.aload_n 2, 1) := by decide +kernel
theorem dL_usage_1 : decode cL_usage 1 = .ok (.iconst 0, 1) := by decide +kernel
theorem dL_usage_2 : decode cL_usage 2 = .ok (.aload_n 0, 1) := by decide +kernel
theorem dL_usage_3 : decode cL_usage 3 = .ok (.iload_n 1, 1) := by decide +kernel
theorem dL_usage_4 : decode cL_usage 4 = .ok (.invokevirtual 51, 3) := by decide +kernel
theorem dL_usage_7 : decode cL_usage 7 = .ok (.i2l, 1) := by decide +kernel
theorem dL_usage_8 : decode cL_usage 8 = .ok (.lastore, 1) := by decide +kernel
theorem dL_usage_9 : decode cL_usage 9 = .ok (.goto 6, 3) := by decide +kernel
theorem dL_usage_12 : decode cL_usage 12 = .ok (.astore_n 3, 1) := by decide +kernel
theorem dL_usage_13 : decode cL_usage 13 = .ok (.iconst 1, 1) := by decide +kernel
theorem dL_usage_14 : decode cL_usage 14 = .ok (.ireturn, 1) := by decide +kernel
theorem dL_usage_15 : decode cL_usage 15 = .ok (.iconst 0, 1) := by decide +kernel
theorem dL_usage_16 : decode cL_usage 16 = .ok (.ireturn, 1) := by decide +kernel
set_option maxRecDepth 20000 in
theorem ggL_usageByWalking_X3_usageByWalking : GoodIn wsL_usageByWalking wsX3_usageByWalking := goodIn_ca (goodIn_r _ [6, 7, 8, 9, 10, 11, 12, 5, 13, 14, 15, 16, 17, 18, 19, 20, 21, 22, 23, 24, 25, 26, 27, 28, 29, 30, 31, 32, 33, 34, 35, 36, 37, 38, 39, 40, 41, 42, 43, 44, 45, 46, 47, 48, 49, 50, 51, 52, 53, 54, 55, 56, 57, 58, 59, 60, 61, 62, 63, 64, 65, 66, 67, 68, 69, 70, 71, 72, 73, 74, 75] (by decide +kernel) (by decide +kernel)) (goodIn_sub (fun _ h => List.mem_cons_of_mem _ (List.mem_append_right _ h)) (by decide +kernel))
set_option maxRecDepth 20000 in
theorem gL_usageByWalking_X3_usageByWalking : GoodIn wsL_usageByWalking (wsV RL 54 RX3 yX3_usageByWalking wsX3_usageByWalking) := goodIn_app (goodIn_of _ (by decide +kernel)) ggL_usageByWalking_X3_usageByWalking
theorem dL_usageByWalking_0 : decode cL_usageByWalking 0 = .ok (.aload_n 2, 1) := by decide +kernel
theorem dL_usageByWalking_1 : decode cL_usageByWalking 1 = .ok (.iconst 0, 1) := by decide +kernel
theorem dL_usageByWalking_2 : decode cL_usageByWalking 2 = .ok (.aload_n 0, 1) := by decide +kernel
theorem dL_usageByWalking_3 : decode cL_usageByWalking 3 = .ok (.iload_n 1, 1) := by decide +kernel
theorem dL_usageByWalking_4 : decode cL_usageByWalking 4 = .ok (.invokevirtual 54, 3) := by decide +kernel
theorem dL_usageByWalking_7 : decode cL_usageByWalking 7 = .ok (.i2l, 1) := by decide +kernel
theorem dL_usageByWalking_8 : decode cL_usageByWalking 8 = .ok (.lastore, 1) := by decide +kernel
theorem dL_usageByWalking_9 : decode cL_usageByWalking 9 = .ok (.goto 6, 3) := by decide +kernel
theorem dL_usageByWalking_12 : decode cL_usageByWalking 12 = .ok (.astore_n 3, 1) := by decide +kernel
theorem dL_usageByWalking_13 : decode cL_usageByWalking 13 = .ok (.iconst 1, 1) := by decide +kernel
theorem dL_usageByWalking_14 : decode cL_usageByWalking 14 = .ok (.ireturn, 1) := by decide +kernel
theorem dL_usageByWalking_15 : decode cL_usageByWalking 15 = .ok (.iconst 0, 1) := by decide +kernel
theorem dL_usageByWalking_16 : decode cL_usageByWalking 16 = .ok (.ireturn, 1) := by decide +kernel
set_option maxRecDepth 20000 in
theorem ggL_size_X3_size : GoodIn wsL_size wsX3_size := goodIn_ca (goodIn_r _ [6, 7, 8, 9, 10, 5, 11, 12, 13, 14, 15, 16, 17, 18, 19, 20, 21, 22, 23, 24, 25, 26, 27, 28, 29, 30, 31, 32, 33, 34, 35, 36, 37, 38, 39, 40, 41, 42, 43, 44, 45, 46, 47, 48, 49, 50, 51] (by decide +kernel) (by decide +kernel)) (goodIn_sub (fun _ h => List.mem_cons_of_mem _ (List.mem_append_right _ h)) (by decide +kernel))
set_option maxRecDepth 20000 in
theorem gL_size_X3_size : GoodIn wsL_size (wsV RL 57 RX3 yX3_size wsX3_size) := goodIn_app (goodIn_of _ (by decide +kernel)) ggL_size_X3_size
theorem dL_size_0 : decode cL_size 0 = .ok (.aload_n 2, 1) := by decide +kernel
theorem dL_size_1 : decode cL_size 1 = .ok (.iconst 0, 1) := by decide +kernel
theorem dL_size_2 : decode cL_size 2 = .ok (.aload_n 0, 1) := by decide +kernel
theorem dL_size_3 : decode cL_size 3 = .ok (.iload_n 1, 1) := by decide +kernel
theorem dL_size_4 : decode cL_size 4 = .ok (.invokevirtual 57, 3) := by decide +kernel
theorem dL_size_7 : decode cL_size 7 = .ok (.i2l, 1) := by decide +kernel
theorem dL_size_8 : decode cL_size 8 = .ok (.lastore, 1) := by decide +kernel
theorem dL_size_9 : decode cL_size 9 = .ok (.goto 6, 3) := by decide +kernel
theorem dL_size_12 : decode cL_size 12 = .ok (.astore_n 3, 1) := by decide +kernel
theorem dL_size_13 : decode cL_size 13 = .ok (.iconst 1, 1) := by decide +kernel
theorem dL_size_14 : decode cL_size 14 = .ok (.ireturn, 1) := by decide +kernel
theorem dL_size_15 : decode cL_size 15 = .ok (.iconst 0, 1) := by decide +kernel
theorem dL_size_16 : decode cL_size 16 = .ok (.ireturn, 1) := by decide +kernel
set_option maxRecDepth 20000 in
theorem ggL_home_X3_home : GoodIn wsL_home wsX3_home := goodIn_ca (goodIn_r _ [6, 7, 8, 9, 10, 5, 11, 12, 13, 14, 15, 16, 17, 18, 19, 20, 21, 22, 23, 24, 25, 26, 27, 28, 29, 30, 31, 32, 33, 34, 35, 36, 37, 38, 39, 40, 41, 42, 43, 44, 45, 46, 47, 48, 49, 50, 51, 52, 53, 54, 55, 56, 57, 58, 59, 60, 61, 62, 63, 64, 65, 66, 67] (by decide +kernel) (by decide +kernel)) (goodIn_sub (fun _ h => List.mem_cons_of_mem _ (List.mem_append_right _ h)) (by decide +kernel))
set_option maxRecDepth 20000 in
theorem gL_home_X3_home : GoodIn wsL_home (wsV RL 60 RX3 yX3_home wsX3_home) := goodIn_app (goodIn_of _ (by decide +kernel)) ggL_home_X3_home
theorem dL_home_0 : decode cL_home 0 = .ok (.aload_n 2, 1) := by decide +kernel
theorem dL_home_1 : decode cL_home 1 = .ok (.iconst 0, 1) := by decide +kernel
theorem dL_home_2 : decode cL_home 2 = .ok (.aload_n 0, 1) := by decide +kernel
theorem dL_home_3 : decode cL_home 3 = .ok (.iload_n 1, 1) := by decide +kernel
theorem dL_home_4 : decode cL_home 4 = .ok (.invokevirtual 60, 3) := by decide +kernel
theorem dL_home_7 : decode cL_home 7 = .ok (.i2l, 1) := by decide +kernel
theorem dL_home_8 : decode cL_home 8 = .ok (.lastore, 1) := by decide +kernel
theorem dL_home_9 : decode cL_home 9 = .ok (.goto 6, 3) := by decide +kernel
theorem dL_home_12 : decode cL_home 12 = .ok (.astore_n 3, 1) := by decide +kernel
theorem dL_home_13 : decode cL_home 13 = .ok (.iconst 1, 1) := by decide +kernel
theorem dL_home_14 : decode cL_home 14 = .ok (.ireturn, 1) := by decide +kernel
theorem dL_home_15 : decode cL_home 15 = .ok (.iconst 0, 1) := by decide +kernel
theorem dL_home_16 : decode cL_home 16 = .ok (.ireturn, 1) := by decide +kernel
set_option maxRecDepth 20000 in
theorem ggL_kept_X3_kept : GoodIn wsL_kept wsX3_kept := goodIn_ca (goodIn_r _ [6, 7, 8, 9, 10, 5, 11, 12, 13, 14, 15, 16, 17, 18, 19, 20, 21, 22, 23, 24, 25, 26, 27, 28, 29, 30, 31, 32, 33, 34, 35, 36, 37, 38, 39, 40, 41, 42, 43, 44, 45, 46, 47, 48, 49, 50, 51] (by decide +kernel) (by decide +kernel)) (goodIn_sub (fun _ h => List.mem_cons_of_mem _ (List.mem_append_right _ h)) (by decide +kernel))
set_option maxRecDepth 20000 in
theorem gL_kept_X3_kept : GoodIn wsL_kept (wsV RL 63 RX3 yX3_kept wsX3_kept) := goodIn_app (goodIn_of _ (by decide +kernel)) ggL_kept_X3_kept
theorem dL_kept_0 : decode cL_kept 0 = .ok (.aload_n 2, 1) := by decide +kernel
theorem dL_kept_1 : decode cL_kept 1 = .ok (.iconst 0, 1) := by decide +kernel
theorem dL_kept_2 : decode cL_kept 2 = .ok (.aload_n 0, 1) := by decide +kernel
theorem dL_kept_3 : decode cL_kept 3 = .ok (.iload_n 1, 1) := by decide +kernel
theorem dL_kept_4 : decode cL_kept 4 = .ok (.invokevirtual 63, 3) := by decide +kernel
theorem dL_kept_7 : decode cL_kept 7 = .ok (.i2l, 1) := by decide +kernel
theorem dL_kept_8 : decode cL_kept 8 = .ok (.lastore, 1) := by decide +kernel
theorem dL_kept_9 : decode cL_kept 9 = .ok (.goto 6, 3) := by decide +kernel
theorem dL_kept_12 : decode cL_kept 12 = .ok (.astore_n 3, 1) := by decide +kernel
theorem dL_kept_13 : decode cL_kept 13 = .ok (.iconst 1, 1) := by decide +kernel
theorem dL_kept_14 : decode cL_kept 14 = .ok (.ireturn, 1) := by decide +kernel
theorem dL_kept_15 : decode cL_kept 15 = .ok (.iconst 0, 1) := by decide +kernel
theorem dL_kept_16 : decode cL_kept 16 = .ok (.ireturn, 1) := by decide +kernel
set_option maxRecDepth 20000 in
theorem ggL_holders_X3_holders : GoodIn wsL_holders wsX3_holders := goodIn_ca (goodIn_r _ [6, 7, 8, 9, 10, 5, 11, 12, 13, 14, 15, 16, 17, 18, 19, 20, 21, 22, 23, 24, 25, 26, 27, 28, 29, 30, 31, 32, 33, 34, 35, 36, 37, 38, 39, 40, 41, 42, 43, 44, 45, 46, 47, 48, 49, 50, 51] (by decide +kernel) (by decide +kernel)) (goodIn_sub (fun _ h => List.mem_cons_of_mem _ (List.mem_append_right _ h)) (by decide +kernel))
set_option maxRecDepth 20000 in
theorem gL_holders_X3_holders : GoodIn wsL_holders (wsV RL 66 RX3 yX3_holders wsX3_holders) := goodIn_app (goodIn_of _ (by decide +kernel)) ggL_holders_X3_holders
theorem dL_holders_0 : decode cL_holders 0 = .ok (.aload_n 2, 1) := by decide +kernel
theorem dL_holders_1 : decode cL_holders 1 = .ok (.iconst 0, 1) := by decide +kernel
theorem dL_holders_2 : decode cL_holders 2 = .ok (.aload_n 0, 1) := by decide +kernel
theorem dL_holders_3 : decode cL_holders 3 = .ok (.iload_n 1, 1) := by decide +kernel
theorem dL_holders_4 : decode cL_holders 4 = .ok (.invokevirtual 66, 3) := by decide +kernel
theorem dL_holders_7 : decode cL_holders 7 = .ok (.i2l, 1) := by decide +kernel
theorem dL_holders_8 : decode cL_holders 8 = .ok (.lastore, 1) := by decide +kernel
theorem dL_holders_9 : decode cL_holders 9 = .ok (.goto 6, 3) := by decide +kernel
theorem dL_holders_12 : decode cL_holders 12 = .ok (.astore_n 3, 1) := by decide +kernel
theorem dL_holders_13 : decode cL_holders 13 = .ok (.iconst 1, 1) := by decide +kernel
theorem dL_holders_14 : decode cL_holders 14 = .ok (.ireturn, 1) := by decide +kernel
theorem dL_holders_15 : decode cL_holders 15 = .ok (.iconst 0, 1) := by decide +kernel
theorem dL_holders_16 : decode cL_holders 16 = .ok (.ireturn, 1) := by decide +kernel
set_option maxRecDepth 20000 in
theorem ggL_tier_X3_tier : GoodIn wsL_tier wsX3_tier := goodIn_ca (goodIn_r _ [6, 7, 8, 9, 10, 5, 11, 12, 13, 14, 15, 16, 17, 18, 19, 20, 21, 22, 23, 24, 25, 26, 27, 28, 29, 30, 31, 32, 33, 34, 35, 36, 37, 38, 39, 40, 41, 42, 43, 44, 45, 46, 47, 48, 49, 50, 51, 52, 53, 54, 55, 56, 57, 58, 59, 60, 61, 62, 63, 64, 65, 66, 67, 68, 69, 70] (by decide +kernel) (by decide +kernel)) (goodIn_sub (fun _ h => List.mem_cons_of_mem _ (List.mem_append_right _ h)) (by decide +kernel))
set_option maxRecDepth 20000 in
theorem gL_tier_X3_tier : GoodIn wsL_tier (wsV RL 69 RX3 yX3_tier wsX3_tier) := goodIn_app (goodIn_of _ (by decide +kernel)) ggL_tier_X3_tier
theorem dL_tier_0 : decode cL_tier 0 = .ok (.aload_n 2, 1) := by decide +kernel
theorem dL_tier_1 : decode cL_tier 1 = .ok (.iconst 0, 1) := by decide +kernel
theorem dL_tier_2 : decode cL_tier 2 = .ok (.aload_n 0, 1) := by decide +kernel
theorem dL_tier_3 : decode cL_tier 3 = .ok (.iload_n 1, 1) := by decide +kernel
theorem dL_tier_4 : decode cL_tier 4 = .ok (.invokevirtual 69, 3) := by decide +kernel
theorem dL_tier_7 : decode cL_tier 7 = .ok (.i2l, 1) := by decide +kernel
theorem dL_tier_8 : decode cL_tier 8 = .ok (.lastore, 1) := by decide +kernel
theorem dL_tier_9 : decode cL_tier 9 = .ok (.goto 6, 3) := by decide +kernel
theorem dL_tier_12 : decode cL_tier 12 = .ok (.astore_n 3, 1) := by decide +kernel
theorem dL_tier_13 : decode cL_tier 13 = .ok (.iconst 1, 1) := by decide +kernel
theorem dL_tier_14 : decode cL_tier 14 = .ok (.ireturn, 1) := by decide +kernel
theorem dL_tier_15 : decode cL_tier 15 = .ok (.iconst 0, 1) := by decide +kernel
theorem dL_tier_16 : decode cL_tier 16 = .ok (.ireturn, 1) := by decide +kernel
set_option maxRecDepth 20000 in
theorem ggL_coins_X3_coins : GoodIn wsL_coins wsX3_coins := goodIn_ca (goodIn_r _ [6, 7, 8, 9, 10, 5, 11, 12, 13, 14, 15, 16, 17, 18, 19, 20, 21, 22, 23, 24, 25, 26, 27, 28, 29, 30, 31, 32, 33, 34, 35, 36, 37, 38, 39, 40, 41, 42, 43, 44, 45, 46, 47] (by decide +kernel) (by decide +kernel)) (goodIn_sub (fun _ h => List.mem_cons_of_mem _ (List.mem_append_right _ h)) (by decide +kernel))
set_option maxRecDepth 20000 in
theorem gL_coins_X3_coins : GoodIn wsL_coins (wsV RL 72 RX3 yX3_coins wsX3_coins) := goodIn_app (goodIn_of _ (by decide +kernel)) ggL_coins_X3_coins
theorem dL_coins_0 : decode cL_coins 0 = .ok (.aload_n 2, 1) := by decide +kernel
theorem dL_coins_1 : decode cL_coins 1 = .ok (.iconst 0, 1) := by decide +kernel
theorem dL_coins_2 : decode cL_coins 2 = .ok (.aload_n 0, 1) := by decide +kernel
theorem dL_coins_3 : decode cL_coins 3 = .ok (.iload_n 1, 1) := by decide +kernel
theorem dL_coins_4 : decode cL_coins 4 = .ok (.invokevirtual 72, 3) := by decide +kernel
theorem dL_coins_7 : decode cL_coins 7 = .ok (.i2l, 1) := by decide +kernel
theorem dL_coins_8 : decode cL_coins 8 = .ok (.lastore, 1) := by decide +kernel
theorem dL_coins_9 : decode cL_coins 9 = .ok (.goto 6, 3) := by decide +kernel
theorem dL_coins_12 : decode cL_coins 12 = .ok (.astore_n 3, 1) := by decide +kernel
theorem dL_coins_13 : decode cL_coins 13 = .ok (.iconst 1, 1) := by decide +kernel
theorem dL_coins_14 : decode cL_coins 14 = .ok (.ireturn, 1) := by decide +kernel
theorem dL_coins_15 : decode cL_coins 15 = .ok (.iconst 0, 1) := by decide +kernel
theorem dL_coins_16 : decode cL_coins 16 = .ok (.ireturn, 1) := by decide +kernel
set_option maxRecDepth 20000 in
theorem ggL_bill_X3_bill : GoodIn wsL_bill wsX3_bill := goodIn_ca (goodIn_r _ [6, 7, 8, 9, 10, 5, 11, 12, 13, 14, 15, 16, 17, 18, 19, 20, 21, 22, 23, 24, 25, 26, 27, 28, 29, 30, 31, 32, 33, 34, 35, 36, 37, 38, 39, 40, 41, 42, 43, 44, 45, 46, 47, 48, 49, 50, 51, 52, 53, 54, 55, 56, 57, 58, 59, 60, 61, 62, 63, 64, 65, 66, 67, 68, 69, 70, 71, 72, 73, 74, 75, 76, 77, 78, 79, 80, 81, 82, 83, 84, 85, 86, 87] (by decide +kernel) (by decide +kernel)) (goodIn_sub (fun _ h => List.mem_cons_of_mem _ (List.mem_append_right _ h)) (by decide +kernel))
set_option maxRecDepth 20000 in
theorem gL_bill_X3_bill : GoodIn wsL_bill (wsV RL 75 RX3 yX3_bill wsX3_bill) := goodIn_app (goodIn_of _ (by decide +kernel)) ggL_bill_X3_bill
theorem dL_bill_0 : decode cL_bill 0 = .ok (.aload_n 2, 1) := by decide +kernel
theorem dL_bill_1 : decode cL_bill 1 = .ok (.iconst 0, 1) := by decide +kernel
theorem dL_bill_2 : decode cL_bill 2 = .ok (.aload_n 0, 1) := by decide +kernel
theorem dL_bill_3 : decode cL_bill 3 = .ok (.iload_n 1, 1) := by decide +kernel
theorem dL_bill_4 : decode cL_bill 4 = .ok (.invokevirtual 75, 3) := by decide +kernel
theorem dL_bill_7 : decode cL_bill 7 = .ok (.i2l, 1) := by decide +kernel
theorem dL_bill_8 : decode cL_bill 8 = .ok (.lastore, 1) := by decide +kernel
theorem dL_bill_9 : decode cL_bill 9 = .ok (.goto 6, 3) := by decide +kernel
theorem dL_bill_12 : decode cL_bill 12 = .ok (.astore_n 3, 1) := by decide +kernel
theorem dL_bill_13 : decode cL_bill 13 = .ok (.iconst 1, 1) := by decide +kernel
theorem dL_bill_14 : decode cL_bill 14 = .ok (.ireturn, 1) := by decide +kernel
theorem dL_bill_15 : decode cL_bill 15 = .ok (.iconst 0, 1) := by decide +kernel
theorem dL_bill_16 : decode cL_bill 16 = .ok (.ireturn, 1) := by decide +kernel
set_option maxRecDepth 20000 in
theorem ggL_law_X3_init : GoodIn wsL_law wsX3_init := goodIn_r _ [9, 10, 11, 12, 13, 14, 15, 16, 17, 18, 19, 20, 21, 22, 23, 24, 25, 26, 27, 28, 29, 30, 31, 32, 33, 34, 35, 36, 37, 38, 39, 40, 41, 42, 43, 44, 45, 46, 47, 48, 49, 50, 51, 52, 53, 54, 55, 56, 57, 58, 59, 60, 61, 62, 63, 64, 65, 66, 67, 68, 69, 70, 71, 72, 73, 74, 75, 76, 77, 78, 79, 80, 81, 82, 83, 84, 85, 86, 87, 88, 89, 90, 91, 92, 93, 94, 95, 96, 97, 98, 99, 100, 101, 102, 103, 104, 105, 106, 631, 632, 633, 612, 613, 614, 615, 634, 635, 636, 637, 638, 639] (by decide +kernel) (by decide +kernel)
set_option maxRecDepth 20000 in
theorem gL_law_X3_init : GoodIn wsL_law (wsX3_init) := ggL_law_X3_init
set_option maxRecDepth 20000 in
theorem ggL_law_X4_init : GoodIn wsL_law wsX4_init := goodIn_r _ [109, 110, 11, 12, 111, 112, 113, 114, 115, 116, 117, 118, 119, 120, 121, 122, 123, 616, 617, 618, 619, 620, 621, 622, 623, 624, 625, 626, 627, 628, 629, 630] (by decide +kernel) (by decide +kernel)
set_option maxRecDepth 20000 in
theorem gL_law_X4_init : GoodIn wsL_law (wsX4_init) := ggL_law_X4_init
set_option maxRecDepth 20000 in
theorem ggL_law_L_addDirectory : GoodIn wsL_law wsL_addDirectory := goodIn_ca (goodIn_ca (goodIn_ca (goodIn_r _ [127, 128, 129, 130, 131, 132, 133, 2, 134, 135, 136, 137, 16, 19, 20, 21, 138, 139, 140, 141, 142, 143, 144, 145, 146, 147, 15, 148, 53, 149, 150, 151, 152, 153, 154, 155, 156, 157, 158, 159, 160, 161, 162, 163, 164, 29, 165, 166, 167, 168, 169, 40, 41, 42, 43, 11, 12, 44, 45, 46, 47, 48, 49, 50, 51, 52, 54, 55, 56, 57, 58, 59, 60, 61, 62, 63, 64, 65, 28, 66, 67, 68, 69, 70, 71, 72, 73, 74, 75, 76, 77, 78, 79, 80, 81, 82, 83, 84, 85, 86, 87, 88, 89, 90, 91, 92, 93, 94, 95, 96, 97, 98, 99, 612, 613, 614, 615, 634, 635, 636, 637, 631, 632, 633] (by decide +kernel) (by decide +kernel)) (goodIn_sub (fun _ h => List.mem_append_left _ (List.mem_append_left _ (List.mem_append_right _ h))) (by decide +kernel))) (goodIn_sub (fun _ h => List.mem_append_left _ (List.mem_append_right _ h)) (by decide +kernel))) (goodIn_sub (fun _ h => List.mem_append_right _ h) (by decide +kernel))
set_option maxRecDepth 20000 in
theorem gL_law_L_addDirectory : GoodIn wsL_law (va_wsS RL 82 yL_addDirectory wsL_addDirectory) := goodIn_app (goodIn_of _ (by decide +kernel)) ggL_law_L_addDirectory
set_option maxRecDepth 20000 in
theorem ggL_law_X4_addDirectory : GoodIn wsL_law wsX4_addDirectory := goodIn_r _ [173, 174, 114, 112, 113, 175, 176, 177, 5, 178, 179, 180, 181, 182, 183, 184, 185, 186, 616, 617, 618, 619, 620, 621, 622, 623, 624, 625, 626, 627, 628, 629, 630] (by decide +kernel) (by decide +kernel)
set_option maxRecDepth 20000 in
theorem gL_law_X4_addDirectory : GoodIn wsL_law (wsV RL 87 RX4 yX4_addDirectory wsX4_addDirectory) := goodIn_app (goodIn_of _ (by decide +kernel)) ggL_law_X4_addDirectory
set_option maxRecDepth 20000 in
theorem ggL_law_X4_thrown : GoodIn wsL_law wsX4_thrown := goodIn_r _ [190, 186, 616, 617, 618, 619, 620, 621, 622, 623, 624, 625, 626, 627, 628, 629, 630] (by decide +kernel) (by decide +kernel)
set_option maxRecDepth 20000 in
theorem gL_law_X4_thrown : GoodIn wsL_law (wsV RL 88 RX4 yX4_thrown wsX4_thrown) := goodIn_app (goodIn_of _ (by decide +kernel)) ggL_law_X4_thrown
set_option maxRecDepth 20000 in
theorem ggL_law_L_setQuota : GoodIn wsL_law wsL_setQuota := goodIn_ca (goodIn_ca (goodIn_r _ [193, 128, 129, 194, 195, 196, 2, 197, 137, 198, 138, 139, 140, 141, 142, 143, 16, 144, 145, 146, 147, 15, 148, 53, 149, 150, 151, 152, 153, 154, 155, 156, 157, 158, 159, 160, 161, 162, 163, 164, 29, 165, 166, 167, 168, 169, 634, 635, 636, 637, 612, 613, 614, 615, 631, 632, 633] (by decide +kernel) (by decide +kernel)) (goodIn_sub (fun _ h => List.mem_append_left _ (List.mem_append_right _ h)) (by decide +kernel))) (goodIn_sub (fun _ h => List.mem_append_right _ h) (by decide +kernel))
set_option maxRecDepth 20000 in
theorem gL_law_L_setQuota : GoodIn wsL_law (va_wsS RL 92 yL_setQuota wsL_setQuota) := goodIn_app (goodIn_of _ (by decide +kernel)) ggL_law_L_setQuota
set_option maxRecDepth 20000 in
theorem ggL_law_X4_setQuota : GoodIn wsL_law wsX4_setQuota := goodIn_r _ [202, 174, 113, 175, 176, 177, 5, 178, 114, 179, 180, 181, 182, 183, 184, 185, 186, 616, 617, 618, 619, 620, 621, 622, 623, 624, 625, 626, 627, 628, 629, 630] (by decide +kernel) (by decide +kernel)
set_option maxRecDepth 20000 in
theorem gL_law_X4_setQuota : GoodIn wsL_law (wsV RL 94 RX4 yX4_setQuota wsX4_setQuota) := goodIn_app (goodIn_of _ (by decide +kernel)) ggL_law_X4_setQuota
set_option maxRecDepth 20000 in
theorem ggL_law_L_make : GoodIn wsL_law wsL_make := goodIn_ca (goodIn_ca (goodIn_ca (goodIn_r _ [205, 128, 129, 130, 206, 207, 208, 2, 209, 135, 136, 17, 210, 211, 212, 213, 214, 215, 216, 217, 218, 219, 142, 143, 18, 220, 145, 146, 147, 15, 148, 53, 149, 150, 151, 152, 153, 154, 155, 156, 157, 158, 159, 160, 161, 162, 163, 164, 29, 138, 139, 140, 141, 16, 144, 165, 166, 167, 168, 169, 221, 222, 223, 224, 225, 226, 227, 21, 228, 46, 229, 45, 230, 231, 232, 233, 11, 12, 234, 14, 235, 236, 237, 238, 239, 26, 27, 28, 30, 31, 32, 33, 34, 35, 36, 37, 38, 39, 47, 48, 49, 50, 51, 52, 54, 55, 56, 57, 58, 59, 60, 61, 62, 63, 64, 65, 66, 67, 68, 69, 70, 71, 72, 73, 74, 75, 76, 77, 78, 79, 80, 81, 82, 83, 84, 85, 86, 87, 88, 89, 90, 91, 92, 93, 94, 95, 96, 97, 98, 99, 240, 241, 242, 243, 612, 613, 614, 615, 640, 641, 642, 643, 644, 645, 638, 639, 631, 632, 633, 634, 635, 636, 637] (by decide +kernel) (by decide +kernel)) (goodIn_sub (fun _ h => List.mem_append_left _ (List.mem_append_left _ (List.mem_append_right _ h))) (by decide +kernel))) (goodIn_sub (fun _ h => List.mem_append_left _ (List.mem_append_right _ h)) (by decide +kernel))) (goodIn_sub (fun _ h => List.mem_append_right _ h) (by decide +kernel))
set_option maxRecDepth 20000 in
theorem gL_law_L_make : GoodIn wsL_law (va_wsS RL 95 yL_make wsL_make) := goodIn_app (goodIn_of _ (by decide +kernel)) ggL_law_L_make
set_option maxRecDepth 20000 in
theorem ggL_law_X4_make : GoodIn wsL_law wsX4_make := goodIn_r _ [247, 248, 115, 116, 117, 118, 121, 249, 122, 250, 251, 5, 252, 179, 180, 181, 175, 176, 177, 178, 114, 253, 254, 255, 256, 123, 113, 112, 257, 258, 259, 260, 261, 262, 263, 264, 265, 266, 267, 268, 182, 183, 184, 185, 186, 616, 617, 618, 619, 620, 621, 622, 623, 624, 625, 626, 627, 628, 629, 630] (by decide +kernel) (by decide +kernel)
set_option maxRecDepth 20000 in
theorem gL_law_X4_make : GoodIn wsL_law (wsV RL 98 RX4 yX4_make wsX4_make) := goodIn_app (goodIn_of _ (by decide +kernel)) ggL_law_X4_make
set_option maxRecDepth 20000 in
theorem ggL_law_L_link : GoodIn wsL_law wsL_link := goodIn_ca (goodIn_ca (goodIn_r _ [271, 128, 130, 272, 273, 274, 2, 275, 135, 136, 214, 276, 277, 278, 279, 142, 143, 17, 280, 145, 146, 147, 15, 148, 53, 149, 150, 151, 152, 153, 154, 155, 156, 157, 158, 159, 160, 161, 162, 163, 164, 29, 138, 139, 140, 141, 16, 144, 281, 282, 283, 284, 285, 286, 212, 287, 235, 288, 289, 290, 291, 292, 293, 294, 295, 296, 297, 47, 48, 49, 50, 51, 52, 54, 55, 56, 57, 58, 59, 60, 61, 62, 63, 64, 65, 28, 66, 67, 68, 69, 70, 71, 72, 73, 74, 75, 76, 77, 78, 79, 80, 81, 82, 83, 84, 85, 86, 87, 88, 89, 90, 91, 92, 93, 94, 95, 96, 97, 98, 99, 640, 641, 642, 643, 644, 645, 612, 613, 614, 615, 631, 632, 633] (by decide +kernel) (by decide +kernel)) (goodIn_sub (fun _ h => List.mem_append_left _ (List.mem_append_left _ (List.mem_append_right _ h))) (by decide +kernel))) (goodIn_sub (fun _ h => List.mem_append_left _ (List.mem_append_right _ h)) (by decide +kernel))
set_option maxRecDepth 20000 in
theorem gL_law_L_link : GoodIn wsL_law (va_wsS RL 99 yL_link wsL_link) := goodIn_app (goodIn_of _ (by decide +kernel)) ggL_law_L_link
set_option maxRecDepth 20000 in
theorem ggL_law_X4_link : GoodIn wsL_law wsX4_link := goodIn_r _ [301, 118, 117, 302, 303, 304, 5, 305, 248, 179, 180, 181, 175, 176, 177, 178, 114, 306, 307, 308, 309, 182, 183, 184, 185, 186, 616, 617, 618, 619, 620, 621, 622, 623, 624, 625, 626, 627, 628, 629, 630] (by decide +kernel) (by decide +kernel)
set_option maxRecDepth 20000 in
theorem gL_law_X4_link : GoodIn wsL_law (wsV RL 101 RX4 yX4_link wsX4_link) := goodIn_app (goodIn_of _ (by decide +kernel)) ggL_law_X4_link
set_option maxRecDepth 20000 in
theorem ggL_law_L_unlink : GoodIn wsL_law wsL_unlink := goodIn_ca (goodIn_ca (goodIn_r _ [312, 128, 130, 313, 314, 315, 2, 316, 135, 136, 317, 214, 276, 277, 278, 279, 142, 143, 17, 280, 145, 146, 147, 15, 148, 53, 149, 150, 151, 152, 153, 154, 155, 156, 157, 158, 159, 160, 161, 162, 163, 164, 29, 138, 139, 140, 141, 16, 144, 318, 319, 320, 212, 321, 235, 322, 288, 289, 290, 291, 297, 323, 324, 325, 326, 327, 293, 294, 295, 296, 328, 329, 330, 331, 332, 333, 334, 335, 51, 52, 336, 97, 98, 99, 240, 241, 242, 21, 243, 229, 45, 337, 338, 339, 340, 341, 342, 237, 640, 641, 642, 643, 644, 645, 612, 613, 614, 615, 631, 632, 633, 634, 635, 636, 637] (by decide +kernel) (by decide +kernel)) (goodIn_sub (fun _ h => List.mem_append_left _ (List.mem_append_left _ (List.mem_append_right _ h))) (by decide +kernel))) (goodIn_sub (fun _ h => List.mem_append_left _ (List.mem_append_right _ h)) (by decide +kernel))
set_option maxRecDepth 20000 in
theorem gL_law_L_unlink : GoodIn wsL_law (va_wsS RL 102 yL_unlink wsL_unlink) := goodIn_app (goodIn_of _ (by decide +kernel)) ggL_law_L_unlink
set_option maxRecDepth 20000 in
theorem ggL_law_X4_unlink : GoodIn wsL_law wsX4_unlink := goodIn_r _ [346, 118, 117, 119, 120, 116, 122, 302, 303, 304, 5, 305, 248, 179, 180, 181, 175, 176, 177, 178, 114, 306, 307, 308, 309, 182, 183, 184, 185, 186, 616, 617, 618, 619, 620, 621, 622, 623, 624, 625, 626, 627, 628, 629, 630] (by decide +kernel) (by decide +kernel)
set_option maxRecDepth 20000 in
theorem gL_law_X4_unlink : GoodIn wsL_law (wsV RL 104 RX4 yX4_unlink wsX4_unlink) := goodIn_app (goodIn_of _ (by decide +kernel)) ggL_law_X4_unlink
set_option maxRecDepth 20000 in
theorem ggL_law_L_write : GoodIn wsL_law wsL_write := goodIn_ca (goodIn_ca (goodIn_ca (goodIn_r _ [349, 128, 129, 130, 350, 351, 352, 2, 353, 135, 136, 213, 317, 354, 355, 356, 276, 277, 278, 279, 142, 143, 17, 280, 145, 146, 147, 15, 148, 53, 149, 150, 151, 152, 153, 154, 155, 156, 157, 158, 159, 160, 161, 162, 163, 164, 29, 165, 166, 167, 168, 169, 318, 319, 320, 212, 321, 235, 322, 288, 289, 290, 291, 297, 357, 358, 359, 360, 238, 361, 285, 286, 287, 362, 363, 364, 365, 221, 222, 223, 224, 225, 226, 227, 21, 228, 46, 229, 45, 240, 241, 242, 243, 337, 338, 339, 340, 341, 342, 237, 612, 613, 614, 615, 640, 641, 642, 643, 644, 645, 631, 632, 633, 638, 639, 634, 635, 636, 637] (by decide +kernel) (by decide +kernel)) (goodIn_sub (fun _ h => List.mem_append_left _ (List.mem_append_left _ (List.mem_append_right _ h))) (by decide +kernel))) (goodIn_sub (fun _ h => List.mem_append_left _ (List.mem_append_right _ h)) (by decide +kernel))) (goodIn_sub (fun _ h => List.mem_append_right _ h) (by decide +kernel))
set_option maxRecDepth 20000 in
theorem gL_law_L_write : GoodIn wsL_law (va_wsS RL 105 yL_write wsL_write) := goodIn_app (goodIn_of _ (by decide +kernel)) ggL_law_L_write
set_option maxRecDepth 20000 in
theorem ggL_law_X4_write : GoodIn wsL_law wsX4_write := goodIn_r _ [369, 118, 116, 115, 119, 120, 121, 249, 302, 303, 304, 5, 305, 248, 179, 180, 181, 370, 371, 372, 373, 261, 262, 263, 264, 117, 253, 254, 255, 256, 123, 113, 112, 257, 258, 259, 260, 265, 266, 267, 268, 182, 183, 184, 185, 186, 616, 617, 618, 619, 620, 621, 622, 623, 624, 625, 626, 627, 628, 629, 630] (by decide +kernel) (by decide +kernel)
set_option maxRecDepth 20000 in
theorem gL_law_X4_write : GoodIn wsL_law (wsV RL 107 RX4 yX4_write wsX4_write) := goodIn_app (goodIn_of _ (by decide +kernel)) ggL_law_X4_write
set_option maxRecDepth 20000 in
theorem ggL_law_L_read : GoodIn wsL_law wsL_read := goodIn_ca (goodIn_ca (goodIn_r _ [376, 128, 130, 377, 378, 379, 2, 380, 213, 355, 276, 277, 278, 279, 142, 143, 17, 280, 145, 146, 147, 15, 148, 53, 149, 150, 151, 152, 153, 154, 155, 156, 157, 158, 159, 160, 161, 162, 163, 164, 29, 281, 282, 283, 135, 136, 284, 285, 286, 212, 287, 235, 288, 289, 290, 291, 357, 358, 359, 360, 238, 361, 362, 363, 364, 365, 381, 382, 383, 384, 385, 354, 224, 386, 387, 388, 389, 237, 612, 613, 614, 615, 640, 641, 642, 643, 644, 645, 631, 632, 633, 638, 639] (by decide +kernel) (by decide +kernel)) (goodIn_sub (fun _ h => List.mem_append_left _ (List.mem_append_right _ h)) (by decide +kernel))) (goodIn_sub (fun _ h => List.mem_append_left _ (List.mem_append_left _ (List.mem_append_right _ h))) (by decide +kernel))
set_option maxRecDepth 20000 in
theorem gL_law_L_read : GoodIn wsL_law (va_wsS RL 108 yL_read wsL_read) := goodIn_app (goodIn_of _ (by decide +kernel)) ggL_law_L_read
set_option maxRecDepth 20000 in
theorem ggL_law_X4_read : GoodIn wsL_law wsX4_read := goodIn_r _ [393, 118, 116, 122, 123, 115, 121, 249, 302, 303, 304, 5, 305, 248, 179, 180, 181, 370, 371, 372, 373, 182, 183, 184, 185, 186, 616, 617, 618, 619, 620, 621, 622, 623, 624, 625, 626, 627, 628, 629, 630] (by decide +kernel) (by decide +kernel)
set_option maxRecDepth 20000 in
theorem gL_law_X4_read : GoodIn wsL_law (wsV RL 111 RX4 yX4_read wsX4_read) := goodIn_app (goodIn_of _ (by decide +kernel)) ggL_law_X4_read
set_option maxRecDepth 20000 in
theorem ggL_law_L_hold : GoodIn wsL_law wsL_hold := goodIn_ca (goodIn_ca (goodIn_r _ [396, 128, 130, 397, 398, 399, 2, 400, 401, 402, 403, 404, 142, 143, 276, 277, 278, 279, 17, 280, 145, 146, 147, 15, 148, 53, 149, 150, 151, 152, 153, 154, 155, 156, 157, 158, 159, 160, 161, 162, 163, 164, 29, 281, 282, 283, 135, 136, 284, 285, 286, 212, 287, 235, 288, 289, 290, 291, 405, 406, 407, 408, 409, 410, 411, 640, 641, 642, 643, 644, 645, 612, 613, 614, 615, 631, 632, 633] (by decide +kernel) (by decide +kernel)) (goodIn_sub (fun _ h => List.mem_append_left _ (List.mem_append_right _ h)) (by decide +kernel))) (goodIn_sub (fun _ h => List.mem_append_left _ (List.mem_append_left _ (List.mem_append_right _ h))) (by decide +kernel))
set_option maxRecDepth 20000 in
theorem gL_law_L_hold : GoodIn wsL_law (va_wsS RL 112 yL_hold wsL_hold) := goodIn_app (goodIn_of _ (by decide +kernel)) ggL_law_L_hold
end
section
set_option maxRecDepth 20000 in
theorem ggL_law_X4_hold : GoodIn wsL_law wsX4_hold := goodIn_r _ [415, 118, 120, 179, 180, 5, 181, 302, 303, 304, 305, 248, 182, 183, 184, 185, 186, 416, 417, 418, 616, 617, 618, 619, 620, 621, 622, 623, 624, 625, 626, 627, 628, 629, 630] (by decide +kernel) (by decide +kernel)
set_option maxRecDepth 20000 in
theorem gL_law_X4_hold : GoodIn wsL_law (wsV RL 114 RX4 yX4_hold wsX4_hold) := goodIn_app (goodIn_of _ (by decide +kernel)) ggL_law_X4_hold
set_option maxRecDepth 20000 in
theorem ggL_law_L_release : GoodIn wsL_law wsL_release := goodIn_ca (goodIn_r _ [421, 128, 422, 423, 424, 2, 425, 17, 280, 402, 403, 404, 142, 143, 145, 146, 147, 15, 148, 53, 149, 150, 151, 152, 153, 154, 155, 156, 157, 158, 159, 160, 161, 162, 163, 164, 29, 426, 427, 428, 212, 429, 341, 342, 612, 613, 614, 615, 631, 632, 633, 640, 641, 642, 643, 644, 645] (by decide +kernel) (by decide +kernel)) (goodIn_sub (fun _ h => List.mem_append_left _ (List.mem_append_right _ h)) (by decide +kernel))
set_option maxRecDepth 20000 in
theorem gL_law_L_release : GoodIn wsL_law (va_wsS RL 115 yL_release wsL_release) := goodIn_app (goodIn_of _ (by decide +kernel)) ggL_law_L_release
set_option maxRecDepth 20000 in
theorem ggL_law_X4_release : GoodIn wsL_law wsX4_release := goodIn_r _ [433, 248, 120, 119, 179, 180, 5, 181, 182, 183, 184, 185, 186, 616, 617, 618, 619, 620, 621, 622, 623, 624, 625, 626, 627, 628, 629, 630] (by decide +kernel) (by decide +kernel)
set_option maxRecDepth 20000 in
theorem gL_law_X4_release : GoodIn wsL_law (wsV RL 117 RX4 yX4_release wsX4_release) := goodIn_app (goodIn_of _ (by decide +kernel)) ggL_law_X4_release
set_option maxRecDepth 20000 in
theorem ggL_law_L_fund : GoodIn wsL_law wsL_fund := goodIn_ca (goodIn_ca (goodIn_ca (goodIn_r _ [436, 128, 129, 130, 437, 438, 439, 2, 440, 135, 136, 224, 441, 216, 217, 218, 219, 142, 143, 18, 220, 145, 146, 147, 15, 148, 53, 149, 150, 151, 152, 153, 154, 155, 156, 157, 158, 159, 160, 161, 162, 163, 164, 29, 165, 166, 167, 168, 169, 638, 639, 612, 613, 614, 615, 631, 632, 633] (by decide +kernel) (by decide +kernel)) (goodIn_sub (fun _ h => List.mem_append_left _ (List.mem_append_left _ (List.mem_append_right _ h))) (by decide +kernel))) (goodIn_sub (fun _ h => List.mem_append_left _ (List.mem_append_right _ h)) (by decide +kernel))) (goodIn_sub (fun _ h => List.mem_append_right _ h) (by decide +kernel))
set_option maxRecDepth 20000 in
theorem gL_law_L_fund : GoodIn wsL_law (va_wsS RL 118 yL_fund wsL_fund) := goodIn_app (goodIn_of _ (by decide +kernel)) ggL_law_L_fund
set_option maxRecDepth 20000 in
theorem ggL_law_X4_fund : GoodIn wsL_law wsX4_fund := goodIn_r _ [445, 123, 446, 250, 251, 5, 252, 179, 180, 181, 182, 183, 184, 185, 186, 616, 617, 618, 619, 620, 621, 622, 623, 624, 625, 626, 627, 628, 629, 630] (by decide +kernel) (by decide +kernel)
set_option maxRecDepth 20000 in
theorem gL_law_X4_fund : GoodIn wsL_law (wsV RL 120 RX4 yX4_fund wsX4_fund) := goodIn_app (goodIn_of _ (by decide +kernel)) ggL_law_X4_fund
set_option maxRecDepth 20000 in
theorem ggL_law_L_pass : GoodIn wsL_law wsL_pass := goodIn_ca (goodIn_ca (goodIn_r _ [449, 129, 130, 450, 451, 452, 2, 453, 135, 136, 213, 165, 166, 167, 168, 169, 454, 455, 456, 457, 18, 220, 224, 458, 94, 68, 95, 145, 146, 147, 15, 148, 53, 149, 150, 151, 152, 153, 154, 155, 156, 157, 158, 159, 160, 161, 162, 163, 164, 29, 459, 460, 461, 24, 462, 104, 463, 464, 465, 466, 467, 468, 212, 469, 237, 342, 361, 285, 286, 287, 235, 288, 289, 290, 291, 470, 358, 359, 360, 238, 362, 363, 364, 365, 612, 613, 614, 615, 638, 639, 631, 632, 633, 640, 641, 642, 643, 644, 645] (by decide +kernel) (by decide +kernel)) (goodIn_sub (fun _ h => List.mem_append_left _ (List.mem_append_left _ (List.mem_append_right _ h))) (by decide +kernel))) (goodIn_sub (fun _ h => List.mem_append_right _ h) (by decide +kernel))
set_option maxRecDepth 20000 in
theorem gL_law_L_pass : GoodIn wsL_law (va_wsS RL 121 yL_pass wsL_pass) := goodIn_app (goodIn_of _ (by decide +kernel)) ggL_law_L_pass
set_option maxRecDepth 20000 in
theorem ggL_law_X4_pass : GoodIn wsL_law wsX4_pass := goodIn_r _ [474, 249, 179, 180, 5, 181, 182, 183, 184, 185, 186, 475, 476, 477, 478, 123, 248, 122, 121, 479, 480, 481, 482, 115, 119, 118, 116, 370, 371, 372, 373, 616, 617, 618, 619, 620, 621, 622, 623, 624, 625, 626, 627, 628, 629, 630] (by decide +kernel) (by decide +kernel)
set_option maxRecDepth 20000 in
theorem gL_law_X4_pass : GoodIn wsL_law (wsV RL 123 RX4 yX4_pass wsX4_pass) := goodIn_app (goodIn_of _ (by decide +kernel)) ggL_law_X4_pass
set_option maxRecDepth 20000 in
theorem ggL_law_X3_day : GoodIn wsL_law wsX3_day := goodIn_r _ [486, 213, 612, 613, 614, 615] (by decide +kernel) (by decide +kernel)
set_option maxRecDepth 20000 in
theorem gL_law_X3_day : GoodIn wsL_law (wsV RL 124 RX3 yX3_day wsX3_day) := goodIn_app (goodIn_of _ (by decide +kernel)) ggL_law_X3_day
set_option maxRecDepth 20000 in
theorem ggL_law_X4_day : GoodIn wsL_law wsX4_day := goodIn_r _ [490, 186, 249, 616, 617, 618, 619, 620, 621, 622, 623, 624, 625, 626, 627, 628, 629, 630] (by decide +kernel) (by decide +kernel)
set_option maxRecDepth 20000 in
theorem gL_law_X4_day : GoodIn wsL_law (wsV RL 127 RX4 yX4_day wsX4_day) := goodIn_app (goodIn_of _ (by decide +kernel)) ggL_law_X4_day
set_option maxRecDepth 20000 in
theorem ggL_law_X3_directories : GoodIn wsL_law wsX3_directories := goodIn_r _ [494, 16, 145, 146, 147, 15, 148, 53, 612, 613, 614, 615, 631, 632, 633] (by decide +kernel) (by decide +kernel)
set_option maxRecDepth 20000 in
theorem gL_law_X3_directories : GoodIn wsL_law (wsV RL 128 RX3 yX3_directories wsX3_directories) := goodIn_app (goodIn_of _ (by decide +kernel)) ggL_law_X3_directories
set_option maxRecDepth 20000 in
theorem ggL_law_X4_directories : GoodIn wsL_law wsX4_directories := goodIn_r _ [498, 186, 114, 616, 617, 618, 619, 620, 621, 622, 623, 624, 625, 626, 627, 628, 629, 630] (by decide +kernel) (by decide +kernel)
set_option maxRecDepth 20000 in
theorem gL_law_X4_directories : GoodIn wsL_law (wsV RL 131 RX4 yX4_directories wsX4_directories) := goodIn_app (goodIn_of _ (by decide +kernel)) ggL_law_X4_directories
set_option maxRecDepth 20000 in
theorem ggL_law_X3_files : GoodIn wsL_law wsX3_files := goodIn_r _ [502, 17, 145, 146, 147, 15, 148, 53, 612, 613, 614, 615, 631, 632, 633] (by decide +kernel) (by decide +kernel)
set_option maxRecDepth 20000 in
theorem gL_law_X3_files : GoodIn wsL_law (wsV RL 132 RX3 yX3_files wsX3_files) := goodIn_app (goodIn_of _ (by decide +kernel)) ggL_law_X3_files
set_option maxRecDepth 20000 in
theorem ggL_law_X4_files : GoodIn wsL_law wsX4_files := goodIn_r _ [506, 186, 248, 616, 617, 618, 619, 620, 621, 622, 623, 624, 625, 626, 627, 628, 629, 630] (by decide +kernel) (by decide +kernel)
set_option maxRecDepth 20000 in
theorem gL_law_X4_files : GoodIn wsL_law (wsV RL 135 RX4 yX4_files wsX4_files) := goodIn_app (goodIn_of _ (by decide +kernel)) ggL_law_X4_files
set_option maxRecDepth 20000 in
theorem ggL_law_L_usage : GoodIn wsL_law wsL_usage := goodIn_ca (goodIn_r _ [509, 128, 510, 511, 512, 2, 513, 514, 138, 139, 140, 141, 142, 143, 16, 144, 145, 146, 147, 15, 148, 53, 149, 150, 151, 152, 153, 154, 155, 156, 157, 158, 159, 160, 161, 162, 163, 164, 29, 634, 635, 636, 637, 612, 613, 614, 615, 631, 632, 633] (by decide +kernel) (by decide +kernel)) (goodIn_sub (fun _ h => List.mem_append_left _ (List.mem_append_right _ h)) (by decide +kernel))
set_option maxRecDepth 20000 in
theorem gL_law_L_usage : GoodIn wsL_law (va_wsS RL 136 yL_usage wsL_usage) := goodIn_app (goodIn_of _ (by decide +kernel)) ggL_law_L_usage
set_option maxRecDepth 20000 in
theorem ggL_law_X4_usage : GoodIn wsL_law wsX4_usage := goodIn_r _ [518, 175, 176, 177, 5, 178, 114, 179, 180, 181, 182, 183, 184, 185, 186, 257, 258, 259, 260, 248, 118, 116, 261, 262, 263, 264, 117, 265, 266, 267, 268, 112, 616, 617, 618, 619, 620, 621, 622, 623, 624, 625, 626, 627, 628, 629, 630] (by decide +kernel) (by decide +kernel)
set_option maxRecDepth 20000 in
theorem gL_law_X4_usage : GoodIn wsL_law (wsV RL 138 RX4 yX4_usage wsX4_usage) := goodIn_app (goodIn_of _ (by decide +kernel)) ggL_law_X4_usage
set_option maxRecDepth 20000 in
theorem ggL_law_L_usageByWalking : GoodIn wsL_law wsL_usageByWalking := goodIn_ca (goodIn_r _ [521, 128, 522, 523, 524, 2, 525, 17, 280, 317, 138, 139, 140, 141, 142, 143, 16, 144, 145, 146, 147, 15, 148, 53, 149, 150, 151, 152, 153, 154, 155, 156, 157, 158, 159, 160, 161, 162, 163, 164, 29, 318, 319, 320, 212, 321, 235, 322, 288, 289, 290, 291, 297, 526, 527, 528, 21, 529, 45, 612, 613, 614, 615, 640, 641, 642, 643, 644, 645, 631, 632, 633, 634, 635, 636, 637] (by decide +kernel) (by decide +kernel)) (goodIn_sub (fun _ h => List.mem_append_left _ (List.mem_append_right _ h)) (by decide +kernel))
set_option maxRecDepth 20000 in
theorem gL_law_L_usageByWalking : GoodIn wsL_law (va_wsS RL 139 yL_usageByWalking wsL_usageByWalking) := goodIn_app (goodIn_of _ (by decide +kernel)) ggL_law_L_usageByWalking
set_option maxRecDepth 20000 in
theorem ggL_law_X4_usageByWalking : GoodIn wsL_law wsX4_usageByWalking := goodIn_r _ [533, 175, 176, 177, 5, 178, 114, 179, 180, 181, 182, 183, 184, 185, 186, 257, 258, 259, 260, 248, 118, 116, 261, 262, 263, 264, 117, 265, 266, 267, 268, 112, 616, 617, 618, 619, 620, 621, 622, 623, 624, 625, 626, 627, 628, 629, 630] (by decide +kernel) (by decide +kernel)
set_option maxRecDepth 20000 in
theorem gL_law_X4_usageByWalking : GoodIn wsL_law (wsV RL 141 RX4 yX4_usageByWalking wsX4_usageByWalking) := goodIn_app (goodIn_of _ (by decide +kernel)) ggL_law_X4_usageByWalking
set_option maxRecDepth 20000 in
theorem ggL_law_L_size : GoodIn wsL_law wsL_size := goodIn_ca (goodIn_r _ [536, 128, 537, 538, 539, 2, 540, 317, 276, 277, 278, 279, 142, 143, 17, 280, 145, 146, 147, 15, 148, 53, 149, 150, 151, 152, 153, 154, 155, 156, 157, 158, 159, 160, 161, 162, 163, 164, 29, 640, 641, 642, 643, 644, 645, 612, 613, 614, 615, 631, 632, 633] (by decide +kernel) (by decide +kernel)) (goodIn_sub (fun _ h => List.mem_append_left _ (List.mem_append_right _ h)) (by decide +kernel))
set_option maxRecDepth 20000 in
theorem gL_law_L_size : GoodIn wsL_law (va_wsS RL 142 yL_size wsL_size) := goodIn_app (goodIn_of _ (by decide +kernel)) ggL_law_L_size
set_option maxRecDepth 20000 in
theorem ggL_law_X4_size : GoodIn wsL_law wsX4_size := goodIn_r _ [544, 116, 302, 303, 304, 5, 305, 248, 179, 180, 181, 182, 183, 184, 185, 186, 616, 617, 618, 619, 620, 621, 622, 623, 624, 625, 626, 627, 628, 629, 630] (by decide +kernel) (by decide +kernel)
set_option maxRecDepth 20000 in
theorem gL_law_X4_size : GoodIn wsL_law (wsV RL 144 RX4 yX4_size wsX4_size) := goodIn_app (goodIn_of _ (by decide +kernel)) ggL_law_X4_size
set_option maxRecDepth 20000 in
theorem ggL_law_L_home : GoodIn wsL_law wsL_home := goodIn_ca (goodIn_r _ [547, 128, 548, 549, 550, 2, 551, 552, 276, 277, 278, 279, 142, 143, 17, 280, 145, 146, 147, 15, 148, 53, 149, 150, 151, 152, 153, 154, 155, 156, 157, 158, 159, 160, 161, 162, 163, 164, 29, 318, 319, 320, 212, 321, 235, 322, 288, 289, 290, 291, 297, 634, 635, 636, 637, 612, 613, 614, 615, 631, 632, 633, 640, 641, 642, 643, 644, 645] (by decide +kernel) (by decide +kernel)) (goodIn_sub (fun _ h => List.mem_append_left _ (List.mem_append_right _ h)) (by decide +kernel))
set_option maxRecDepth 20000 in
theorem gL_law_L_home : GoodIn wsL_law (va_wsS RL 145 yL_home wsL_home) := goodIn_app (goodIn_of _ (by decide +kernel)) ggL_law_L_home
set_option maxRecDepth 20000 in
theorem ggL_law_X4_home : GoodIn wsL_law wsX4_home := goodIn_r _ [556, 302, 303, 304, 5, 305, 248, 179, 180, 181, 182, 183, 184, 185, 186, 261, 262, 263, 264, 118, 117, 616, 617, 618, 619, 620, 621, 622, 623, 624, 625, 626, 627, 628, 629, 630] (by decide +kernel) (by decide +kernel)
set_option maxRecDepth 20000 in
theorem gL_law_X4_home : GoodIn wsL_law (wsV RL 147 RX4 yX4_home wsX4_home) := goodIn_app (goodIn_of _ (by decide +kernel)) ggL_law_X4_home
set_option maxRecDepth 20000 in
theorem ggL_law_L_kept : GoodIn wsL_law wsL_kept := goodIn_ca (goodIn_r _ [559, 128, 560, 561, 562, 2, 563, 356, 276, 277, 278, 279, 142, 143, 17, 280, 145, 146, 147, 15, 148, 53, 149, 150, 151, 152, 153, 154, 155, 156, 157, 158, 159, 160, 161, 162, 163, 164, 29, 640, 641, 642, 643, 644, 645, 612, 613, 614, 615, 631, 632, 633] (by decide +kernel) (by decide +kernel)) (goodIn_sub (fun _ h => List.mem_append_left _ (List.mem_append_right _ h)) (by decide +kernel))
set_option maxRecDepth 20000 in
theorem gL_law_L_kept : GoodIn wsL_law (va_wsS RL 148 yL_kept wsL_kept) := goodIn_app (goodIn_of _ (by decide +kernel)) ggL_law_L_kept
set_option maxRecDepth 20000 in
theorem ggL_law_X4_kept : GoodIn wsL_law wsX4_kept := goodIn_r _ [567, 119, 302, 303, 304, 5, 305, 248, 179, 180, 181, 182, 183, 184, 185, 186, 616, 617, 618, 619, 620, 621, 622, 623, 624, 625, 626, 627, 628, 629, 630] (by decide +kernel) (by decide +kernel)
set_option maxRecDepth 20000 in
theorem gL_law_X4_kept : GoodIn wsL_law (wsV RL 150 RX4 yX4_kept wsX4_kept) := goodIn_app (goodIn_of _ (by decide +kernel)) ggL_law_X4_kept
set_option maxRecDepth 20000 in
theorem ggL_law_L_holders : GoodIn wsL_law wsL_holders := goodIn_ca (goodIn_r _ [570, 128, 571, 572, 573, 2, 574, 401, 276, 277, 278, 279, 142, 143, 17, 280, 145, 146, 147, 15, 148, 53, 149, 150, 151, 152, 153, 154, 155, 156, 157, 158, 159, 160, 161, 162, 163, 164, 29, 640, 641, 642, 643, 644, 645, 612, 613, 614, 615, 631, 632, 633] (by decide +kernel) (by decide +kernel)) (goodIn_sub (fun _ h => List.mem_append_left _ (List.mem_append_right _ h)) (by decide +kernel))
set_option maxRecDepth 20000 in
theorem gL_law_L_holders : GoodIn wsL_law (va_wsS RL 151 yL_holders wsL_holders) := goodIn_app (goodIn_of _ (by decide +kernel)) ggL_law_L_holders
set_option maxRecDepth 20000 in
theorem ggL_law_X4_holders : GoodIn wsL_law wsX4_holders := goodIn_r _ [578, 120, 302, 303, 304, 5, 305, 248, 179, 180, 181, 182, 183, 184, 185, 186, 616, 617, 618, 619, 620, 621, 622, 623, 624, 625, 626, 627, 628, 629, 630] (by decide +kernel) (by decide +kernel)
set_option maxRecDepth 20000 in
theorem gL_law_X4_holders : GoodIn wsL_law (wsV RL 153 RX4 yX4_holders wsX4_holders) := goodIn_app (goodIn_of _ (by decide +kernel)) ggL_law_X4_holders
set_option maxRecDepth 20000 in
theorem ggL_law_L_tier : GoodIn wsL_law wsL_tier := goodIn_ca (goodIn_r _ [581, 128, 582, 583, 584, 2, 585, 213, 276, 277, 278, 279, 142, 143, 17, 280, 145, 146, 147, 15, 148, 53, 149, 150, 151, 152, 153, 154, 155, 156, 157, 158, 159, 160, 161, 162, 163, 164, 29, 357, 358, 359, 212, 360, 238, 361, 285, 286, 287, 235, 288, 289, 290, 291, 362, 363, 364, 365, 612, 613, 614, 615, 631, 632, 633, 640, 641, 642, 643, 644, 645] (by decide +kernel) (by decide +kernel)) (goodIn_sub (fun _ h => List.mem_append_left _ (List.mem_append_right _ h)) (by decide +kernel))
set_option maxRecDepth 20000 in
theorem gL_law_L_tier : GoodIn wsL_law (va_wsS RL 154 yL_tier wsL_tier) := goodIn_app (goodIn_of _ (by decide +kernel)) ggL_law_L_tier
set_option maxRecDepth 20000 in
theorem ggL_law_X4_tier : GoodIn wsL_law wsX4_tier := goodIn_r _ [589, 302, 303, 304, 5, 305, 248, 179, 180, 181, 182, 183, 184, 185, 186, 370, 371, 372, 373, 249, 121, 118, 616, 617, 618, 619, 620, 621, 622, 623, 624, 625, 626, 627, 628, 629, 630] (by decide +kernel) (by decide +kernel)
set_option maxRecDepth 20000 in
theorem gL_law_X4_tier : GoodIn wsL_law (wsV RL 156 RX4 yX4_tier wsX4_tier) := goodIn_app (goodIn_of _ (by decide +kernel)) ggL_law_X4_tier
set_option maxRecDepth 20000 in
theorem ggL_law_L_coins : GoodIn wsL_law wsL_coins := goodIn_ca (goodIn_r _ [592, 128, 593, 594, 595, 2, 596, 224, 216, 217, 218, 219, 142, 143, 18, 220, 145, 146, 147, 15, 148, 53, 149, 150, 151, 152, 153, 154, 155, 156, 157, 158, 159, 160, 161, 162, 163, 164, 29, 638, 639, 612, 613, 614, 615, 631, 632, 633] (by decide +kernel) (by decide +kernel)) (goodIn_sub (fun _ h => List.mem_append_left _ (List.mem_append_right _ h)) (by decide +kernel))
set_option maxRecDepth 20000 in
theorem gL_law_L_coins : GoodIn wsL_law (va_wsS RL 157 yL_coins wsL_coins) := goodIn_app (goodIn_of _ (by decide +kernel)) ggL_law_L_coins
set_option maxRecDepth 20000 in
theorem ggL_law_X4_coins : GoodIn wsL_law wsX4_coins := goodIn_r _ [600, 123, 250, 251, 5, 252, 179, 180, 181, 182, 183, 184, 185, 186, 616, 617, 618, 619, 620, 621, 622, 623, 624, 625, 626, 627, 628, 629, 630] (by decide +kernel) (by decide +kernel)
set_option maxRecDepth 20000 in
theorem gL_law_X4_coins : GoodIn wsL_law (wsV RL 159 RX4 yX4_coins wsX4_coins) := goodIn_app (goodIn_of _ (by decide +kernel)) ggL_law_X4_coins
set_option maxRecDepth 20000 in
theorem ggL_law_L_bill : GoodIn wsL_law wsL_bill := goodIn_ca (goodIn_r _ [603, 128, 604, 605, 606, 2, 607, 213, 216, 217, 218, 219, 142, 143, 18, 220, 145, 146, 147, 15, 148, 53, 149, 150, 151, 152, 153, 154, 155, 156, 157, 158, 159, 160, 161, 162, 163, 164, 29, 459, 460, 461, 24, 462, 104, 463, 464, 465, 466, 467, 468, 212, 469, 237, 342, 361, 285, 286, 287, 235, 288, 289, 290, 291, 470, 358, 359, 360, 238, 362, 363, 364, 365, 612, 613, 614, 615, 631, 632, 633, 638, 639, 640, 641, 642, 643, 644, 645] (by decide +kernel) (by decide +kernel)) (goodIn_sub (fun _ h => List.mem_append_left _ (List.mem_append_right _ h)) (by decide +kernel))
set_option maxRecDepth 20000 in
theorem gL_law_L_bill : GoodIn wsL_law (va_wsS RL 160 yL_bill wsL_bill) := goodIn_app (goodIn_of _ (by decide +kernel)) ggL_law_L_bill
set_option maxRecDepth 20000 in
theorem ggL_law_X4_bill : GoodIn wsL_law wsX4_bill := goodIn_r _ [611, 250, 251, 5, 252, 179, 180, 181, 182, 183, 184, 185, 186, 479, 480, 481, 482, 248, 115, 119, 118, 116, 370, 371, 372, 373, 249, 121, 616, 617, 618, 619, 620, 621, 622, 623, 624, 625, 626, 627, 628, 629, 630] (by decide +kernel) (by decide +kernel)
set_option maxRecDepth 20000 in
theorem gL_law_X4_bill : GoodIn wsL_law (wsV RL 162 RX4 yX4_bill wsX4_bill) := goodIn_app (goodIn_of _ (by decide +kernel)) ggL_law_X4_bill
theorem dL_law_0 : decode cL_law 0 = .ok (.new 8, 3) := by decide +kernel
theorem dL_law_3 : decode cL_law 3 = .ok (.dup, 1) := by decide +kernel
theorem dL_law_4 : decode cL_law 4 = .ok (.invokespecial 78, 3) := by decide +kernel
theorem dL_law_7 : decode cL_law 7 = .ok (.astore_n 1, 1) := by decide +kernel
theorem dL_law_8 : decode cL_law 8 = .ok (.new 79, 3) := by decide +kernel
theorem dL_law_11 : decode cL_law 11 = .ok (.dup, 1) := by decide +kernel
theorem dL_law_12 : decode cL_law 12 = .ok (.invokespecial 81, 3) := by decide +kernel
theorem dL_law_15 : decode cL_law 15 = .ok (.astore_n 2, 1) := by decide +kernel
theorem dL_law_16 : decode cL_law 16 = .ok (.iconst 1, 1) := by decide +kernel
theorem dL_law_17 : decode cL_law 17 = .ok (.newarray .long, 2) := by decide +kernel
theorem dL_law_19 : decode cL_law 19 = .ok (.astore_n 3, 1) := by decide +kernel
theorem dL_law_20 : decode cL_law 20 = .ok (.iconst 0, 1) := by decide +kernel
theorem dL_law_21 : decode cL_law 21 = .ok (.istore 4, 2) := by decide +kernel
theorem dL_law_23 : decode cL_law 23 = .ok (.iload 4, 2) := by decide +kernel
theorem dL_law_25 : decode cL_law 25 = .ok (.aload_n 0, 1) := by decide +kernel
theorem dL_law_26 : decode cL_law 26 = .ok (.arraylength, 1) := by decide +kernel
theorem dL_law_27 : decode cL_law 27 = .ok (.iconst 4, 1) := by decide +kernel
theorem dL_law_28 : decode cL_law 28 = .ok (.isub, 1) := by decide +kernel
theorem dL_law_29 : decode cL_law 29 = .ok (.if_icmp .gt 1388, 3) := by decide +kernel
theorem dL_law_32 : decode cL_law 32 = .ok (.aload_n 0, 1) := by decide +kernel
theorem dL_law_33 : decode cL_law 33 = .ok (.iload 4, 2) := by decide +kernel
theorem dL_law_35 : decode cL_law 35 = .ok (.iaload, 1) := by decide +kernel
theorem dL_law_36 : decode cL_law 36 = .ok (.bipush 31, 2) := by decide +kernel
theorem dL_law_38 : decode cL_law 38 = .ok (.iand, 1) := by decide +kernel
theorem dL_law_39 : decode cL_law 39 = .ok (.tableswitch 1372 0 22 #[105, 173, 241, 321, 389, 457, 525, 581, 649, 705, 773, 829, 842, 855, 868, 924, 980, 1036, 1092, 1148, 1204, 1260, 1316], 105) := by decide +kernel
theorem dL_law_144 : decode cL_law 144 = .ok (.aload_n 1, 1) := by decide +kernel
theorem dL_law_145 : decode cL_law 145 = .ok (.aload_n 0, 1) := by decide +kernel
theorem dL_law_146 : decode cL_law 146 = .ok (.iload 4, 2) := by decide +kernel
theorem dL_law_148 : decode cL_law 148 = .ok (.iconst 1, 1) := by decide +kernel
theorem dL_law_149 : decode cL_law 149 = .ok (.iadd, 1) := by decide +kernel
theorem dL_law_150 : decode cL_law 150 = .ok (.iaload, 1) := by decide +kernel
theorem dL_law_151 : decode cL_law 151 = .ok (.aload_n 0, 1) := by decide +kernel
theorem dL_law_152 : decode cL_law 152 = .ok (.iload 4, 2) := by decide +kernel
theorem dL_law_154 : decode cL_law 154 = .ok (.iconst 2, 1) := by decide +kernel
theorem dL_law_155 : decode cL_law 155 = .ok (.iadd, 1) := by decide +kernel
theorem dL_law_156 : decode cL_law 156 = .ok (.iaload, 1) := by decide +kernel
theorem dL_law_157 : decode cL_law 157 = .ok (.aload_n 3, 1) := by decide +kernel
theorem dL_law_158 : decode cL_law 158 = .ok (.invokestatic 82, 3) := by decide +kernel
theorem dL_law_161 : decode cL_law 161 = .ok (.istore 5, 2) := by decide +kernel
theorem dL_law_163 : decode cL_law 163 = .ok (.aload_n 2, 1) := by decide +kernel
theorem dL_law_164 : decode cL_law 164 = .ok (.aload_n 0, 1) := by decide +kernel
theorem dL_law_165 : decode cL_law 165 = .ok (.iload 4, 2) := by decide +kernel
theorem dL_law_167 : decode cL_law 167 = .ok (.iconst 1, 1) := by decide +kernel
theorem dL_law_168 : decode cL_law 168 = .ok (.iadd, 1) := by decide +kernel
theorem dL_law_169 : decode cL_law 169 = .ok (.iaload, 1) := by decide +kernel
theorem dL_law_170 : decode cL_law 170 = .ok (.aload_n 0, 1) := by decide +kernel
theorem dL_law_171 : decode cL_law 171 = .ok (.iload 4, 2) := by decide +kernel
theorem dL_law_173 : decode cL_law 173 = .ok (.iconst 2, 1) := by decide +kernel
theorem dL_law_174 : decode cL_law 174 = .ok (.iadd, 1) := by decide +kernel
theorem dL_law_175 : decode cL_law 175 = .ok (.iaload, 1) := by decide +kernel
theorem dL_law_176 : decode cL_law 176 = .ok (.invokevirtual 87, 3) := by decide +kernel
theorem dL_law_179 : decode cL_law 179 = .ok (.istore 6, 2) := by decide +kernel
theorem dL_law_181 : decode cL_law 181 = .ok (.aload_n 2, 1) := by decide +kernel
theorem dL_law_182 : decode cL_law 182 = .ok (.invokevirtual 88, 3) := by decide +kernel
theorem dL_law_185 : decode cL_law 185 = .ok (.iload 5, 2) := by decide +kernel
theorem dL_law_187 : decode cL_law 187 = .ok (.if_icmp .eq 5, 3) := by decide +kernel
theorem dL_law_190 : decode cL_law 190 = .ok (.iconst 0, 1) := by decide +kernel
theorem dL_law_191 : decode cL_law 191 = .ok (.ireturn, 1) := by decide +kernel
theorem dL_law_192 : decode cL_law 192 = .ok (.iload 5, 2) := by decide +kernel
theorem dL_law_194 : decode cL_law 194 = .ok (.ifCond .ne 15, 3) := by decide +kernel
theorem dL_law_197 : decode cL_law 197 = .ok (.aload_n 3, 1) := by decide +kernel
theorem dL_law_198 : decode cL_law 198 = .ok (.iconst 0, 1) := by decide +kernel
theorem dL_law_199 : decode cL_law 199 = .ok (.laload, 1) := by decide +kernel
theorem dL_law_200 : decode cL_law 200 = .ok (.iload 6, 2) := by decide +kernel
theorem dL_law_202 : decode cL_law 202 = .ok (.i2l, 1) := by decide +kernel
theorem dL_law_203 : decode cL_law 203 = .ok (.lcmp, 1) := by decide +kernel
theorem dL_law_204 : decode cL_law 204 = .ok (.ifCond .eq 5, 3) := by decide +kernel
theorem dL_law_207 : decode cL_law 207 = .ok (.iconst 0, 1) := by decide +kernel
theorem dL_law_208 : decode cL_law 208 = .ok (.ireturn, 1) := by decide +kernel
theorem dL_law_209 : decode cL_law 209 = .ok (.goto 1202, 3) := by decide +kernel
theorem dL_law_212 : decode cL_law 212 = .ok (.aload_n 1, 1) := by decide +kernel
theorem dL_law_213 : decode cL_law 213 = .ok (.aload_n 0, 1) := by decide +kernel
theorem dL_law_214 : decode cL_law 214 = .ok (.iload 4, 2) := by decide +kernel
theorem dL_law_216 : decode cL_law 216 = .ok (.iconst 1, 1) := by decide +kernel
theorem dL_law_217 : decode cL_law 217 = .ok (.iadd, 1) := by decide +kernel
theorem dL_law_218 : decode cL_law 218 = .ok (.iaload, 1) := by decide +kernel
theorem dL_law_219 : decode cL_law 219 = .ok (.aload_n 0, 1) := by decide +kernel
theorem dL_law_220 : decode cL_law 220 = .ok (.iload 4, 2) := by decide +kernel
theorem dL_law_222 : decode cL_law 222 = .ok (.iconst 2, 1) := by decide +kernel
theorem dL_law_223 : decode cL_law 223 = .ok (.iadd, 1) := by decide +kernel
theorem dL_law_224 : decode cL_law 224 = .ok (.iaload, 1) := by decide +kernel
theorem dL_law_225 : decode cL_law 225 = .ok (.aload_n 3, 1) := by decide +kernel
theorem dL_law_226 : decode cL_law 226 = .ok (.invokestatic 92, 3) := by decide +kernel
theorem dL_law_229 : decode cL_law 229 = .ok (.istore 5, 2) := by decide +kernel
theorem dL_law_231 : decode cL_law 231 = .ok (.aload_n 2, 1) := by decide +kernel
theorem dL_law_232 : decode cL_law 232 = .ok (.aload_n 0, 1) := by decide +kernel
theorem dL_law_233 : decode cL_law 233 = .ok (.iload 4, 2) := by decide +kernel
theorem dL_law_235 : decode cL_law 235 = .ok (.iconst 1, 1) := by decide +kernel
theorem dL_law_236 : decode cL_law 236 = .ok (.iadd, 1) := by decide +kernel
theorem dL_law_237 : decode cL_law 237 = .ok (.iaload, 1) := by decide +kernel
theorem dL_law_238 : decode cL_law 238 = .ok (.aload_n 0, 1) := by decide +kernel
theorem dL_law_239 : decode cL_law 239 = .ok (.iload 4, 2) := by decide +kernel
theorem dL_law_241 : decode cL_law 241 = .ok (.iconst 2, 1) := by decide +kernel
theorem dL_law_242 : decode cL_law 242 = .ok (.iadd, 1) := by decide +kernel
theorem dL_law_243 : decode cL_law 243 = .ok (.iaload, 1) := by decide +kernel
theorem dL_law_244 : decode cL_law 244 = .ok (.invokevirtual 94, 3) := by decide +kernel
theorem dL_law_247 : decode cL_law 247 = .ok (.istore 6, 2) := by decide +kernel
theorem dL_law_249 : decode cL_law 249 = .ok (.aload_n 2, 1) := by decide +kernel
theorem dL_law_250 : decode cL_law 250 = .ok (.invokevirtual 88, 3) := by decide +kernel
theorem dL_law_253 : decode cL_law 253 = .ok (.iload 5, 2) := by decide +kernel
theorem dL_law_255 : decode cL_law 255 = .ok (.if_icmp .eq 5, 3) := by decide +kernel
theorem dL_law_258 : decode cL_law 258 = .ok (.iconst 0, 1) := by decide +kernel
theorem dL_law_259 : decode cL_law 259 = .ok (.ireturn, 1) := by decide +kernel
theorem dL_law_260 : decode cL_law 260 = .ok (.iload 5, 2) := by decide +kernel
theorem dL_law_262 : decode cL_law 262 = .ok (.ifCond .ne 15, 3) := by decide +kernel
theorem dL_law_265 : decode cL_law 265 = .ok (.aload_n 3, 1) := by decide +kernel
theorem dL_law_266 : decode cL_law 266 = .ok (.iconst 0, 1) := by decide +kernel
theorem dL_law_267 : decode cL_law 267 = .ok (.laload, 1) := by decide +kernel
theorem dL_law_268 : decode cL_law 268 = .ok (.iload 6, 2) := by decide +kernel
theorem dL_law_270 : decode cL_law 270 = .ok (.i2l, 1) := by decide +kernel
theorem dL_law_271 : decode cL_law 271 = .ok (.lcmp, 1) := by decide +kernel
theorem dL_law_272 : decode cL_law 272 = .ok (.ifCond .eq 5, 3) := by decide +kernel
theorem dL_law_275 : decode cL_law 275 = .ok (.iconst 0, 1) := by decide +kernel
theorem dL_law_276 : decode cL_law 276 = .ok (.ireturn, 1) := by decide +kernel
theorem dL_law_277 : decode cL_law 277 = .ok (.goto 1134, 3) := by decide +kernel
theorem dL_law_280 : decode cL_law 280 = .ok (.aload_n 1, 1) := by decide +kernel
theorem dL_law_281 : decode cL_law 281 = .ok (.aload_n 0, 1) := by decide +kernel
theorem dL_law_282 : decode cL_law 282 = .ok (.iload 4, 2) := by decide +kernel
theorem dL_law_284 : decode cL_law 284 = .ok (.iconst 1, 1) := by decide +kernel
theorem dL_law_285 : decode cL_law 285 = .ok (.iadd, 1) := by decide +kernel
theorem dL_law_286 : decode cL_law 286 = .ok (.iaload, 1) := by decide +kernel
theorem dL_law_287 : decode cL_law 287 = .ok (.aload_n 0, 1) := by decide +kernel
theorem dL_law_288 : decode cL_law 288 = .ok (.iload 4, 2) := by decide +kernel
theorem dL_law_290 : decode cL_law 290 = .ok (.iconst 2, 1) := by decide +kernel
theorem dL_law_291 : decode cL_law 291 = .ok (.iadd, 1) := by decide +kernel
theorem dL_law_292 : decode cL_law 292 = .ok (.iaload, 1) := by decide +kernel
theorem dL_law_293 : decode cL_law 293 = .ok (.aload_n 0, 1) := by decide +kernel
theorem dL_law_294 : decode cL_law 294 = .ok (.iload 4, 2) := by decide +kernel
theorem dL_law_296 : decode cL_law 296 = .ok (.iconst 3, 1) := by decide +kernel
theorem dL_law_297 : decode cL_law 297 = .ok (.iadd, 1) := by decide +kernel
theorem dL_law_298 : decode cL_law 298 = .ok (.iaload, 1) := by decide +kernel
theorem dL_law_299 : decode cL_law 299 = .ok (.aload_n 3, 1) := by decide +kernel
theorem dL_law_300 : decode cL_law 300 = .ok (.invokestatic 95, 3) := by decide +kernel
theorem dL_law_303 : decode cL_law 303 = .ok (.istore 5, 2) := by decide +kernel
theorem dL_law_305 : decode cL_law 305 = .ok (.aload_n 2, 1) := by decide +kernel
theorem dL_law_306 : decode cL_law 306 = .ok (.aload_n 0, 1) := by decide +kernel
theorem dL_law_307 : decode cL_law 307 = .ok (.iload 4, 2) := by decide +kernel
theorem dL_law_309 : decode cL_law 309 = .ok (.iconst 1, 1) := by decide +kernel
theorem dL_law_310 : decode cL_law 310 = .ok (.iadd, 1) := by decide +kernel
theorem dL_law_311 : decode cL_law 311 = .ok (.iaload, 1) := by decide +kernel
theorem dL_law_312 : decode cL_law 312 = .ok (.aload_n 0, 1) := by decide +kernel
theorem dL_law_313 : decode cL_law 313 = .ok (.iload 4, 2) := by decide +kernel
theorem dL_law_315 : decode cL_law 315 = .ok (.iconst 2, 1) := by decide +kernel
theorem dL_law_316 : decode cL_law 316 = .ok (.iadd, 1) := by decide +kernel
theorem dL_law_317 : decode cL_law 317 = .ok (.iaload, 1) := by decide +kernel
theorem dL_law_318 : decode cL_law 318 = .ok (.aload_n 0, 1) := by decide +kernel
theorem dL_law_319 : decode cL_law 319 = .ok (.iload 4, 2) := by decide +kernel
theorem dL_law_321 : decode cL_law 321 = .ok (.iconst 3, 1) := by decide +kernel
theorem dL_law_322 : decode cL_law 322 = .ok (.iadd, 1) := by decide +kernel
theorem dL_law_323 : decode cL_law 323 = .ok (.iaload, 1) := by decide +kernel
theorem dL_law_324 : decode cL_law 324 = .ok (.invokevirtual 98, 3) := by decide +kernel
theorem dL_law_327 : decode cL_law 327 = .ok (.istore 6, 2) := by decide +kernel
theorem dL_law_329 : decode cL_law 329 = .ok (.aload_n 2, 1) := by decide +kernel
theorem dL_law_330 : decode cL_law 330 = .ok (.invokevirtual 88, 3) := by decide +kernel
theorem dL_law_333 : decode cL_law 333 = .ok (.iload 5, 2) := by decide +kernel
theorem dL_law_335 : decode cL_law 335 = .ok (.if_icmp .eq 5, 3) := by decide +kernel
theorem dL_law_338 : decode cL_law 338 = .ok (.iconst 0, 1) := by decide +kernel
theorem dL_law_339 : decode cL_law 339 = .ok (.ireturn, 1) := by decide +kernel
theorem dL_law_340 : decode cL_law 340 = .ok (.iload 5, 2) := by decide +kernel
theorem dL_law_342 : decode cL_law 342 = .ok (.ifCond .ne 15, 3) := by decide +kernel
theorem dL_law_345 : decode cL_law 345 = .ok (.aload_n 3, 1) := by decide +kernel
theorem dL_law_346 : decode cL_law 346 = .ok (.iconst 0, 1) := by decide +kernel
theorem dL_law_347 : decode cL_law 347 = .ok (.laload, 1) := by decide +kernel
theorem dL_law_348 : decode cL_law 348 = .ok (.iload 6, 2) := by decide +kernel
theorem dL_law_350 : decode cL_law 350 = .ok (.i2l, 1) := by decide +kernel
theorem dL_law_351 : decode cL_law 351 = .ok (.lcmp, 1) := by decide +kernel
theorem dL_law_352 : decode cL_law 352 = .ok (.ifCond .eq 5, 3) := by decide +kernel
theorem dL_law_355 : decode cL_law 355 = .ok (.iconst 0, 1) := by decide +kernel
theorem dL_law_356 : decode cL_law 356 = .ok (.ireturn, 1) := by decide +kernel
theorem dL_law_357 : decode cL_law 357 = .ok (.goto 1054, 3) := by decide +kernel
theorem dL_law_360 : decode cL_law 360 = .ok (.aload_n 1, 1) := by decide +kernel
theorem dL_law_361 : decode cL_law 361 = .ok (.aload_n 0, 1) := by decide +kernel
theorem dL_law_362 : decode cL_law 362 = .ok (.iload 4, 2) := by decide +kernel
theorem dL_law_364 : decode cL_law 364 = .ok (.iconst 1, 1) := by decide +kernel
theorem dL_law_365 : decode cL_law 365 = .ok (.iadd, 1) := by decide +kernel
theorem dL_law_366 : decode cL_law 366 = .ok (.iaload, 1) := by decide +kernel
theorem dL_law_367 : decode cL_law 367 = .ok (.aload_n 0, 1) := by decide +kernel
theorem dL_law_368 : decode cL_law 368 = .ok (.iload 4, 2) := by decide +kernel
theorem dL_law_370 : decode cL_law 370 = .ok (.iconst 2, 1) := by decide +kernel
theorem dL_law_371 : decode cL_law 371 = .ok (.iadd, 1) := by decide +kernel
theorem dL_law_372 : decode cL_law 372 = .ok (.iaload, 1) := by decide +kernel
theorem dL_law_373 : decode cL_law 373 = .ok (.aload_n 3, 1) := by decide +kernel
theorem dL_law_374 : decode cL_law 374 = .ok (.invokestatic 99, 3) := by decide +kernel
theorem dL_law_377 : decode cL_law 377 = .ok (.istore 5, 2) := by decide +kernel
theorem dL_law_379 : decode cL_law 379 = .ok (.aload_n 2, 1) := by decide +kernel
theorem dL_law_380 : decode cL_law 380 = .ok (.aload_n 0, 1) := by decide +kernel
theorem dL_law_381 : decode cL_law 381 = .ok (.iload 4, 2) := by decide +kernel
theorem dL_law_383 : decode cL_law 383 = .ok (.iconst 1, 1) := by decide +kernel
theorem dL_law_384 : decode cL_law 384 = .ok (.iadd, 1) := by decide +kernel
theorem dL_law_385 : decode cL_law 385 = .ok (.iaload, 1) := by decide +kernel
theorem dL_law_386 : decode cL_law 386 = .ok (.aload_n 0, 1) := by decide +kernel
theorem dL_law_387 : decode cL_law 387 = .ok (.iload 4, 2) := by decide +kernel
theorem dL_law_389 : decode cL_law 389 = .ok (.iconst 2, 1) := by decide +kernel
theorem dL_law_390 : decode cL_law 390 = .ok (.iadd, 1) := by decide +kernel
theorem dL_law_391 : decode cL_law 391 = .ok (.iaload, 1) := by decide +kernel
theorem dL_law_392 : decode cL_law 392 = .ok (.invokevirtual 101, 3) := by decide +kernel
theorem dL_law_395 : decode cL_law 395 = .ok (.istore 6, 2) := by decide +kernel
theorem dL_law_397 : decode cL_law 397 = .ok (.aload_n 2, 1) := by decide +kernel
theorem dL_law_398 : decode cL_law 398 = .ok (.invokevirtual 88, 3) := by decide +kernel
theorem dL_law_401 : decode cL_law 401 = .ok (.iload 5, 2) := by decide +kernel
theorem dL_law_403 : decode cL_law 403 = .ok (.if_icmp .eq 5, 3) := by decide +kernel
theorem dL_law_406 : decode cL_law 406 = .ok (.iconst 0, 1) := by decide +kernel
theorem dL_law_407 : decode cL_law 407 = .ok (.ireturn, 1) := by decide +kernel
theorem dL_law_408 : decode cL_law 408 = .ok (.iload 5, 2) := by decide +kernel
theorem dL_law_410 : decode cL_law 410 = .ok (.ifCond .ne 15, 3) := by decide +kernel
theorem dL_law_413 : decode cL_law 413 = .ok (.aload_n 3, 1) := by decide +kernel
theorem dL_law_414 : decode cL_law 414 = .ok (.iconst 0, 1) := by decide +kernel
theorem dL_law_415 : decode cL_law 415 = .ok (.laload, 1) := by decide +kernel
theorem dL_law_416 : decode cL_law 416 = .ok (.iload 6, 2) := by decide +kernel
theorem dL_law_418 : decode cL_law 418 = .ok (.i2l, 1) := by decide +kernel
theorem dL_law_419 : decode cL_law 419 = .ok (.lcmp, 1) := by decide +kernel
theorem dL_law_420 : decode cL_law 420 = .ok (.ifCond .eq 5, 3) := by decide +kernel
theorem dL_law_423 : decode cL_law 423 = .ok (.iconst 0, 1) := by decide +kernel
theorem dL_law_424 : decode cL_law 424 = .ok (.ireturn, 1) := by decide +kernel
theorem dL_law_425 : decode cL_law 425 = .ok (.goto 986, 3) := by decide +kernel
theorem dL_law_428 : decode cL_law 428 = .ok (.aload_n 1, 1) := by decide +kernel
theorem dL_law_429 : decode cL_law 429 = .ok (.aload_n 0, 1) := by decide +kernel
theorem dL_law_430 : decode cL_law 430 = .ok (.iload 4, 2) := by decide +kernel
theorem dL_law_432 : decode cL_law 432 = .ok (.iconst 1, 1) := by decide +kernel
theorem dL_law_433 : decode cL_law 433 = .ok (.iadd, 1) := by decide +kernel
theorem dL_law_434 : decode cL_law 434 = .ok (.iaload, 1) := by decide +kernel
theorem dL_law_435 : decode cL_law 435 = .ok (.aload_n 0, 1) := by decide +kernel
theorem dL_law_436 : decode cL_law 436 = .ok (.iload 4, 2) := by decide +kernel
theorem dL_law_438 : decode cL_law 438 = .ok (.iconst 2, 1) := by decide +kernel
theorem dL_law_439 : decode cL_law 439 = .ok (.iadd, 1) := by decide +kernel
theorem dL_law_440 : decode cL_law 440 = .ok (.iaload, 1) := by decide +kernel
theorem dL_law_441 : decode cL_law 441 = .ok (.aload_n 3, 1) := by decide +kernel
theorem dL_law_442 : decode cL_law 442 = .ok (.invokestatic 102, 3) := by decide +kernel
theorem dL_law_445 : decode cL_law 445 = .ok (.istore 5, 2) := by decide +kernel
theorem dL_law_447 : decode cL_law 447 = .ok (.aload_n 2, 1) := by decide +kernel
theorem dL_law_448 : decode cL_law 448 = .ok (.aload_n 0, 1) := by decide +kernel
theorem dL_law_449 : decode cL_law 449 = .ok (.iload 4, 2) := by decide +kernel
theorem dL_law_451 : decode cL_law 451 = .ok (.iconst 1, 1) := by decide +kernel
theorem dL_law_452 : decode cL_law 452 = .ok (.iadd, 1) := by decide +kernel
theorem dL_law_453 : decode cL_law 453 = .ok (.iaload, 1) := by decide +kernel
theorem dL_law_454 : decode cL_law 454 = .ok (.aload_n 0, 1) := by decide +kernel
theorem dL_law_455 : decode cL_law 455 = .ok (.iload 4, 2) := by decide +kernel
theorem dL_law_457 : decode cL_law 457 = .ok (.iconst 2, 1) := by decide +kernel
theorem dL_law_458 : decode cL_law 458 = .ok (.iadd, 1) := by decide +kernel
theorem dL_law_459 : decode cL_law 459 = .ok (.iaload, 1) := by decide +kernel
theorem dL_law_460 : decode cL_law 460 = .ok (.invokevirtual 104, 3) := by decide +kernel
theorem dL_law_463 : decode cL_law 463 = .ok (.istore 6, 2) := by decide +kernel
theorem dL_law_465 : decode cL_law 465 = .ok (.aload_n 2, 1) := by decide +kernel
theorem dL_law_466 : decode cL_law 466 = .ok (.invokevirtual 88, 3) := by decide +kernel
theorem dL_law_469 : decode cL_law 469 = .ok (.iload 5, 2) := by decide +kernel
theorem dL_law_471 : decode cL_law 471 = .ok (.if_icmp .eq 5, 3) := by decide +kernel
theorem dL_law_474 : decode cL_law 474 = .ok (.iconst 0, 1) := by decide +kernel
theorem dL_law_475 : decode cL_law 475 = .ok (.ireturn, 1) := by decide +kernel
theorem dL_law_476 : decode cL_law 476 = .ok (.iload 5, 2) := by decide +kernel
theorem dL_law_478 : decode cL_law 478 = .ok (.ifCond .ne 15, 3) := by decide +kernel
theorem dL_law_481 : decode cL_law 481 = .ok (.aload_n 3, 1) := by decide +kernel
theorem dL_law_482 : decode cL_law 482 = .ok (.iconst 0, 1) := by decide +kernel
theorem dL_law_483 : decode cL_law 483 = .ok (.laload, 1) := by decide +kernel
theorem dL_law_484 : decode cL_law 484 = .ok (.iload 6, 2) := by decide +kernel
theorem dL_law_486 : decode cL_law 486 = .ok (.i2l, 1) := by decide +kernel
theorem dL_law_487 : decode cL_law 487 = .ok (.lcmp, 1) := by decide +kernel
theorem dL_law_488 : decode cL_law 488 = .ok (.ifCond .eq 5, 3) := by decide +kernel
theorem dL_law_491 : decode cL_law 491 = .ok (.iconst 0, 1) := by decide +kernel
theorem dL_law_492 : decode cL_law 492 = .ok (.ireturn, 1) := by decide +kernel
theorem dL_law_493 : decode cL_law 493 = .ok (.goto 918, 3) := by decide +kernel
theorem dL_law_496 : decode cL_law 496 = .ok (.aload_n 1, 1) := by decide +kernel
theorem dL_law_497 : decode cL_law 497 = .ok (.aload_n 0, 1) := by decide +kernel
theorem dL_law_498 : decode cL_law 498 = .ok (.iload 4, 2) := by decide +kernel
theorem dL_law_500 : decode cL_law 500 = .ok (.iconst 1, 1) := by decide +kernel
theorem dL_law_501 : decode cL_law 501 = .ok (.iadd, 1) := by decide +kernel
theorem dL_law_502 : decode cL_law 502 = .ok (.iaload, 1) := by decide +kernel
theorem dL_law_503 : decode cL_law 503 = .ok (.aload_n 0, 1) := by decide +kernel
theorem dL_law_504 : decode cL_law 504 = .ok (.iload 4, 2) := by decide +kernel
theorem dL_law_506 : decode cL_law 506 = .ok (.iconst 2, 1) := by decide +kernel
theorem dL_law_507 : decode cL_law 507 = .ok (.iadd, 1) := by decide +kernel
theorem dL_law_508 : decode cL_law 508 = .ok (.iaload, 1) := by decide +kernel
theorem dL_law_509 : decode cL_law 509 = .ok (.aload_n 3, 1) := by decide +kernel
theorem dL_law_510 : decode cL_law 510 = .ok (.invokestatic 105, 3) := by decide +kernel
theorem dL_law_513 : decode cL_law 513 = .ok (.istore 5, 2) := by decide +kernel
theorem dL_law_515 : decode cL_law 515 = .ok (.aload_n 2, 1) := by decide +kernel
theorem dL_law_516 : decode cL_law 516 = .ok (.aload_n 0, 1) := by decide +kernel
theorem dL_law_517 : decode cL_law 517 = .ok (.iload 4, 2) := by decide +kernel
theorem dL_law_519 : decode cL_law 519 = .ok (.iconst 1, 1) := by decide +kernel
theorem dL_law_520 : decode cL_law 520 = .ok (.iadd, 1) := by decide +kernel
theorem dL_law_521 : decode cL_law 521 = .ok (.iaload, 1) := by decide +kernel
theorem dL_law_522 : decode cL_law 522 = .ok (.aload_n 0, 1) := by decide +kernel
theorem dL_law_523 : decode cL_law 523 = .ok (.iload 4, 2) := by decide +kernel
theorem dL_law_525 : decode cL_law 525 = .ok (.iconst 2, 1) := by decide +kernel
theorem dL_law_526 : decode cL_law 526 = .ok (.iadd, 1) := by decide +kernel
theorem dL_law_527 : decode cL_law 527 = .ok (.iaload, 1) := by decide +kernel
theorem dL_law_528 : decode cL_law 528 = .ok (.invokevirtual 107, 3) := by decide +kernel
theorem dL_law_531 : decode cL_law 531 = .ok (.istore 6, 2) := by decide +kernel
theorem dL_law_533 : decode cL_law 533 = .ok (.aload_n 2, 1) := by decide +kernel
theorem dL_law_534 : decode cL_law 534 = .ok (.invokevirtual 88, 3) := by decide +kernel
theorem dL_law_537 : decode cL_law 537 = .ok (.iload 5, 2) := by decide +kernel
theorem dL_law_539 : decode cL_law 539 = .ok (.if_icmp .eq 5, 3) := by decide +kernel
theorem dL_law_542 : decode cL_law 542 = .ok (.iconst 0, 1) := by decide +kernel
theorem dL_law_543 : decode cL_law 543 = .ok (.ireturn, 1) := by decide +kernel
theorem dL_law_544 : decode cL_law 544 = .ok (.iload 5, 2) := by decide +kernel
theorem dL_law_546 : decode cL_law 546 = .ok (.ifCond .ne 15, 3) := by decide +kernel
theorem dL_law_549 : decode cL_law 549 = .ok (.aload_n 3, 1) := by decide +kernel
theorem dL_law_550 : decode cL_law 550 = .ok (.iconst 0, 1) := by decide +kernel
theorem dL_law_551 : decode cL_law 551 = .ok (.laload, 1) := by decide +kernel
theorem dL_law_552 : decode cL_law 552 = .ok (.iload 6, 2) := by decide +kernel
theorem dL_law_554 : decode cL_law 554 = .ok (.i2l, 1) := by decide +kernel
theorem dL_law_555 : decode cL_law 555 = .ok (.lcmp, 1) := by decide +kernel
theorem dL_law_556 : decode cL_law 556 = .ok (.ifCond .eq 5, 3) := by decide +kernel
theorem dL_law_559 : decode cL_law 559 = .ok (.iconst 0, 1) := by decide +kernel
theorem dL_law_560 : decode cL_law 560 = .ok (.ireturn, 1) := by decide +kernel
theorem dL_law_561 : decode cL_law 561 = .ok (.goto 850, 3) := by decide +kernel
theorem dL_law_564 : decode cL_law 564 = .ok (.aload_n 1, 1) := by decide +kernel
theorem dL_law_565 : decode cL_law 565 = .ok (.aload_n 0, 1) := by decide +kernel
theorem dL_law_566 : decode cL_law 566 = .ok (.iload 4, 2) := by decide +kernel
theorem dL_law_568 : decode cL_law 568 = .ok (.iconst 1, 1) := by decide +kernel
theorem dL_law_569 : decode cL_law 569 = .ok (.iadd, 1) := by decide +kernel
theorem dL_law_570 : decode cL_law 570 = .ok (.iaload, 1) := by decide +kernel
theorem dL_law_571 : decode cL_law 571 = .ok (.aload_n 3, 1) := by decide +kernel
theorem dL_law_572 : decode cL_law 572 = .ok (.invokestatic 108, 3) := by decide +kernel
theorem dL_law_575 : decode cL_law 575 = .ok (.istore 5, 2) := by decide +kernel
theorem dL_law_577 : decode cL_law 577 = .ok (.aload_n 2, 1) := by decide +kernel
theorem dL_law_578 : decode cL_law 578 = .ok (.aload_n 0, 1) := by decide +kernel
theorem dL_law_579 : decode cL_law 579 = .ok (.iload 4, 2) := by decide +kernel
theorem dL_law_581 : decode cL_law 581 = .ok (.iconst 1, 1) := by decide +kernel
theorem dL_law_582 : decode cL_law 582 = .ok (.iadd, 1) := by decide +kernel
theorem dL_law_583 : decode cL_law 583 = .ok (.iaload, 1) := by decide +kernel
theorem dL_law_584 : decode cL_law 584 = .ok (.invokevirtual 111, 3) := by decide +kernel
theorem dL_law_587 : decode cL_law 587 = .ok (.istore 6, 2) := by decide +kernel
theorem dL_law_589 : decode cL_law 589 = .ok (.aload_n 2, 1) := by decide +kernel
theorem dL_law_590 : decode cL_law 590 = .ok (.invokevirtual 88, 3) := by decide +kernel
theorem dL_law_593 : decode cL_law 593 = .ok (.iload 5, 2) := by decide +kernel
theorem dL_law_595 : decode cL_law 595 = .ok (.if_icmp .eq 5, 3) := by decide +kernel
theorem dL_law_598 : decode cL_law 598 = .ok (.iconst 0, 1) := by decide +kernel
theorem dL_law_599 : decode cL_law 599 = .ok (.ireturn, 1) := by decide +kernel
theorem dL_law_600 : decode cL_law 600 = .ok (.iload 5, 2) := by decide +kernel
theorem dL_law_602 : decode cL_law 602 = .ok (.ifCond .ne 15, 3) := by decide +kernel
theorem dL_law_605 : decode cL_law 605 = .ok (.aload_n 3, 1) := by decide +kernel
theorem dL_law_606 : decode cL_law 606 = .ok (.iconst 0, 1) := by decide +kernel
theorem dL_law_607 : decode cL_law 607 = .ok (.laload, 1) := by decide +kernel
theorem dL_law_608 : decode cL_law 608 = .ok (.iload 6, 2) := by decide +kernel
theorem dL_law_610 : decode cL_law 610 = .ok (.i2l, 1) := by decide +kernel
theorem dL_law_611 : decode cL_law 611 = .ok (.lcmp, 1) := by decide +kernel
theorem dL_law_612 : decode cL_law 612 = .ok (.ifCond .eq 5, 3) := by decide +kernel
theorem dL_law_615 : decode cL_law 615 = .ok (.iconst 0, 1) := by decide +kernel
theorem dL_law_616 : decode cL_law 616 = .ok (.ireturn, 1) := by decide +kernel
theorem dL_law_617 : decode cL_law 617 = .ok (.goto 794, 3) := by decide +kernel
theorem dL_law_620 : decode cL_law 620 = .ok (.aload_n 1, 1) := by decide +kernel
theorem dL_law_621 : decode cL_law 621 = .ok (.aload_n 0, 1) := by decide +kernel
theorem dL_law_622 : decode cL_law 622 = .ok (.iload 4, 2) := by decide +kernel
theorem dL_law_624 : decode cL_law 624 = .ok (.iconst 1, 1) := by decide +kernel
theorem dL_law_625 : decode cL_law 625 = .ok (.iadd, 1) := by decide +kernel
theorem dL_law_626 : decode cL_law 626 = .ok (.iaload, 1) := by decide +kernel
theorem dL_law_627 : decode cL_law 627 = .ok (.aload_n 0, 1) := by decide +kernel
theorem dL_law_628 : decode cL_law 628 = .ok (.iload 4, 2) := by decide +kernel
theorem dL_law_630 : decode cL_law 630 = .ok (.iconst 2, 1) := by decide +kernel
theorem dL_law_631 : decode cL_law 631 = .ok (.iadd, 1) := by decide +kernel
theorem dL_law_632 : decode cL_law 632 = .ok (.iaload, 1) := by decide +kernel
theorem dL_law_633 : decode cL_law 633 = .ok (.aload_n 3, 1) := by decide +kernel
theorem dL_law_634 : decode cL_law 634 = .ok (.invokestatic 112, 3) := by decide +kernel
theorem dL_law_637 : decode cL_law 637 = .ok (.istore 5, 2) := by decide +kernel
theorem dL_law_639 : decode cL_law 639 = .ok (.aload_n 2, 1) := by decide +kernel
theorem dL_law_640 : decode cL_law 640 = .ok (.aload_n 0, 1) := by decide +kernel
theorem dL_law_641 : decode cL_law 641 = .ok (.iload 4, 2) := by decide +kernel
theorem dL_law_643 : decode cL_law 643 = .ok (.iconst 1, 1) := by decide +kernel
theorem dL_law_644 : decode cL_law 644 = .ok (.iadd, 1) := by decide +kernel
theorem dL_law_645 : decode cL_law 645 = .ok (.iaload, 1) := by decide +kernel
theorem dL_law_646 : decode cL_law 646 = .ok (.aload_n 0, 1) := by decide +kernel
theorem dL_law_647 : decode cL_law 647 = .ok (.iload 4, 2) := by decide +kernel
theorem dL_law_649 : decode cL_law 649 = .ok (.iconst 2, 1) := by decide +kernel
theorem dL_law_650 : decode cL_law 650 = .ok (.iadd, 1) := by decide +kernel
theorem dL_law_651 : decode cL_law 651 = .ok (.iaload, 1) := by decide +kernel
theorem dL_law_652 : decode cL_law 652 = .ok (.invokevirtual 114, 3) := by decide +kernel
theorem dL_law_655 : decode cL_law 655 = .ok (.istore 6, 2) := by decide +kernel
theorem dL_law_657 : decode cL_law 657 = .ok (.aload_n 2, 1) := by decide +kernel
theorem dL_law_658 : decode cL_law 658 = .ok (.invokevirtual 88, 3) := by decide +kernel
theorem dL_law_661 : decode cL_law 661 = .ok (.iload 5, 2) := by decide +kernel
theorem dL_law_663 : decode cL_law 663 = .ok (.if_icmp .eq 5, 3) := by decide +kernel
theorem dL_law_666 : decode cL_law 666 = .ok (.iconst 0, 1) := by decide +kernel
theorem dL_law_667 : decode cL_law 667 = .ok (.ireturn, 1) := by decide +kernel
theorem dL_law_668 : decode cL_law 668 = .ok (.iload 5, 2) := by decide +kernel
theorem dL_law_670 : decode cL_law 670 = .ok (.ifCond .ne 15, 3) := by decide +kernel
theorem dL_law_673 : decode cL_law 673 = .ok (.aload_n 3, 1) := by decide +kernel
theorem dL_law_674 : decode cL_law 674 = .ok (.iconst 0, 1) := by decide +kernel
theorem dL_law_675 : decode cL_law 675 = .ok (.laload, 1) := by decide +kernel
theorem dL_law_676 : decode cL_law 676 = .ok (.iload 6, 2) := by decide +kernel
theorem dL_law_678 : decode cL_law 678 = .ok (.i2l, 1) := by decide +kernel
theorem dL_law_679 : decode cL_law 679 = .ok (.lcmp, 1) := by decide +kernel
theorem dL_law_680 : decode cL_law 680 = .ok (.ifCond .eq 5, 3) := by decide +kernel
theorem dL_law_683 : decode cL_law 683 = .ok (.iconst 0, 1) := by decide +kernel
theorem dL_law_684 : decode cL_law 684 = .ok (.ireturn, 1) := by decide +kernel
theorem dL_law_685 : decode cL_law 685 = .ok (.goto 726, 3) := by decide +kernel
theorem dL_law_688 : decode cL_law 688 = .ok (.aload_n 1, 1) := by decide +kernel
theorem dL_law_689 : decode cL_law 689 = .ok (.aload_n 0, 1) := by decide +kernel
theorem dL_law_690 : decode cL_law 690 = .ok (.iload 4, 2) := by decide +kernel
theorem dL_law_692 : decode cL_law 692 = .ok (.iconst 1, 1) := by decide +kernel
theorem dL_law_693 : decode cL_law 693 = .ok (.iadd, 1) := by decide +kernel
theorem dL_law_694 : decode cL_law 694 = .ok (.iaload, 1) := by decide +kernel
theorem dL_law_695 : decode cL_law 695 = .ok (.aload_n 3, 1) := by decide +kernel
theorem dL_law_696 : decode cL_law 696 = .ok (.invokestatic 115, 3) := by decide +kernel
theorem dL_law_699 : decode cL_law 699 = .ok (.istore 5, 2) := by decide +kernel
theorem dL_law_701 : decode cL_law 701 = .ok (.aload_n 2, 1) := by decide +kernel
theorem dL_law_702 : decode cL_law 702 = .ok (.aload_n 0, 1) := by decide +kernel
theorem dL_law_703 : decode cL_law 703 = .ok (.iload 4, 2) := by decide +kernel
theorem dL_law_705 : decode cL_law 705 = .ok (.iconst 1, 1) := by decide +kernel
theorem dL_law_706 : decode cL_law 706 = .ok (.iadd, 1) := by decide +kernel
theorem dL_law_707 : decode cL_law 707 = .ok (.iaload, 1) := by decide +kernel
theorem dL_law_708 : decode cL_law 708 = .ok (.invokevirtual 117, 3) := by decide +kernel
theorem dL_law_711 : decode cL_law 711 = .ok (.istore 6, 2) := by decide +kernel
theorem dL_law_713 : decode cL_law 713 = .ok (.aload_n 2, 1) := by decide +kernel
theorem dL_law_714 : decode cL_law 714 = .ok (.invokevirtual 88, 3) := by decide +kernel
theorem dL_law_717 : decode cL_law 717 = .ok (.iload 5, 2) := by decide +kernel
theorem dL_law_719 : decode cL_law 719 = .ok (.if_icmp .eq 5, 3) := by decide +kernel
theorem dL_law_722 : decode cL_law 722 = .ok (.iconst 0, 1) := by decide +kernel
theorem dL_law_723 : decode cL_law 723 = .ok (.ireturn, 1) := by decide +kernel
theorem dL_law_724 : decode cL_law 724 = .ok (.iload 5, 2) := by decide +kernel
theorem dL_law_726 : decode cL_law 726 = .ok (.ifCond .ne 15, 3) := by decide +kernel
theorem dL_law_729 : decode cL_law 729 = .ok (.aload_n 3, 1) := by decide +kernel
theorem dL_law_730 : decode cL_law 730 = .ok (.iconst 0, 1) := by decide +kernel
theorem dL_law_731 : decode cL_law 731 = .ok (.laload, 1) := by decide +kernel
theorem dL_law_732 : decode cL_law 732 = .ok (.iload 6, 2) := by decide +kernel
theorem dL_law_734 : decode cL_law 734 = .ok (.i2l, 1) := by decide +kernel
theorem dL_law_735 : decode cL_law 735 = .ok (.lcmp, 1) := by decide +kernel
theorem dL_law_736 : decode cL_law 736 = .ok (.ifCond .eq 5, 3) := by decide +kernel
theorem dL_law_739 : decode cL_law 739 = .ok (.iconst 0, 1) := by decide +kernel
theorem dL_law_740 : decode cL_law 740 = .ok (.ireturn, 1) := by decide +kernel
theorem dL_law_741 : decode cL_law 741 = .ok (.goto 670, 3) := by decide +kernel
theorem dL_law_744 : decode cL_law 744 = .ok (.aload_n 1, 1) := by decide +kernel
theorem dL_law_745 : decode cL_law 745 = .ok (.aload_n 0, 1) := by decide +kernel
theorem dL_law_746 : decode cL_law 746 = .ok (.iload 4, 2) := by decide +kernel
theorem dL_law_748 : decode cL_law 748 = .ok (.iconst 1, 1) := by decide +kernel
theorem dL_law_749 : decode cL_law 749 = .ok (.iadd, 1) := by decide +kernel
theorem dL_law_750 : decode cL_law 750 = .ok (.iaload, 1) := by decide +kernel
theorem dL_law_751 : decode cL_law 751 = .ok (.aload_n 0, 1) := by decide +kernel
theorem dL_law_752 : decode cL_law 752 = .ok (.iload 4, 2) := by decide +kernel
theorem dL_law_754 : decode cL_law 754 = .ok (.iconst 2, 1) := by decide +kernel
theorem dL_law_755 : decode cL_law 755 = .ok (.iadd, 1) := by decide +kernel
theorem dL_law_756 : decode cL_law 756 = .ok (.iaload, 1) := by decide +kernel
theorem dL_law_757 : decode cL_law 757 = .ok (.aload_n 3, 1) := by decide +kernel
theorem dL_law_758 : decode cL_law 758 = .ok (.invokestatic 118, 3) := by decide +kernel
theorem dL_law_761 : decode cL_law 761 = .ok (.istore 5, 2) := by decide +kernel
theorem dL_law_763 : decode cL_law 763 = .ok (.aload_n 2, 1) := by decide +kernel
theorem dL_law_764 : decode cL_law 764 = .ok (.aload_n 0, 1) := by decide +kernel
theorem dL_law_765 : decode cL_law 765 = .ok (.iload 4, 2) := by decide +kernel
theorem dL_law_767 : decode cL_law 767 = .ok (.iconst 1, 1) := by decide +kernel
theorem dL_law_768 : decode cL_law 768 = .ok (.iadd, 1) := by decide +kernel
theorem dL_law_769 : decode cL_law 769 = .ok (.iaload, 1) := by decide +kernel
theorem dL_law_770 : decode cL_law 770 = .ok (.aload_n 0, 1) := by decide +kernel
theorem dL_law_771 : decode cL_law 771 = .ok (.iload 4, 2) := by decide +kernel
theorem dL_law_773 : decode cL_law 773 = .ok (.iconst 2, 1) := by decide +kernel
theorem dL_law_774 : decode cL_law 774 = .ok (.iadd, 1) := by decide +kernel
theorem dL_law_775 : decode cL_law 775 = .ok (.iaload, 1) := by decide +kernel
theorem dL_law_776 : decode cL_law 776 = .ok (.invokevirtual 120, 3) := by decide +kernel
theorem dL_law_779 : decode cL_law 779 = .ok (.istore 6, 2) := by decide +kernel
theorem dL_law_781 : decode cL_law 781 = .ok (.aload_n 2, 1) := by decide +kernel
theorem dL_law_782 : decode cL_law 782 = .ok (.invokevirtual 88, 3) := by decide +kernel
theorem dL_law_785 : decode cL_law 785 = .ok (.iload 5, 2) := by decide +kernel
theorem dL_law_787 : decode cL_law 787 = .ok (.if_icmp .eq 5, 3) := by decide +kernel
theorem dL_law_790 : decode cL_law 790 = .ok (.iconst 0, 1) := by decide +kernel
theorem dL_law_791 : decode cL_law 791 = .ok (.ireturn, 1) := by decide +kernel
theorem dL_law_792 : decode cL_law 792 = .ok (.iload 5, 2) := by decide +kernel
theorem dL_law_794 : decode cL_law 794 = .ok (.ifCond .ne 15, 3) := by decide +kernel
theorem dL_law_797 : decode cL_law 797 = .ok (.aload_n 3, 1) := by decide +kernel
theorem dL_law_798 : decode cL_law 798 = .ok (.iconst 0, 1) := by decide +kernel
theorem dL_law_799 : decode cL_law 799 = .ok (.laload, 1) := by decide +kernel
theorem dL_law_800 : decode cL_law 800 = .ok (.iload 6, 2) := by decide +kernel
theorem dL_law_802 : decode cL_law 802 = .ok (.i2l, 1) := by decide +kernel
theorem dL_law_803 : decode cL_law 803 = .ok (.lcmp, 1) := by decide +kernel
theorem dL_law_804 : decode cL_law 804 = .ok (.ifCond .eq 5, 3) := by decide +kernel
theorem dL_law_807 : decode cL_law 807 = .ok (.iconst 0, 1) := by decide +kernel
theorem dL_law_808 : decode cL_law 808 = .ok (.ireturn, 1) := by decide +kernel
theorem dL_law_809 : decode cL_law 809 = .ok (.goto 602, 3) := by decide +kernel
theorem dL_law_812 : decode cL_law 812 = .ok (.aload_n 1, 1) := by decide +kernel
theorem dL_law_813 : decode cL_law 813 = .ok (.aload_n 0, 1) := by decide +kernel
theorem dL_law_814 : decode cL_law 814 = .ok (.iload 4, 2) := by decide +kernel
theorem dL_law_816 : decode cL_law 816 = .ok (.iconst 1, 1) := by decide +kernel
theorem dL_law_817 : decode cL_law 817 = .ok (.iadd, 1) := by decide +kernel
theorem dL_law_818 : decode cL_law 818 = .ok (.iaload, 1) := by decide +kernel
theorem dL_law_819 : decode cL_law 819 = .ok (.aload_n 3, 1) := by decide +kernel
theorem dL_law_820 : decode cL_law 820 = .ok (.invokestatic 121, 3) := by decide +kernel
theorem dL_law_823 : decode cL_law 823 = .ok (.istore 5, 2) := by decide +kernel
theorem dL_law_825 : decode cL_law 825 = .ok (.aload_n 2, 1) := by decide +kernel
theorem dL_law_826 : decode cL_law 826 = .ok (.aload_n 0, 1) := by decide +kernel
theorem dL_law_827 : decode cL_law 827 = .ok (.iload 4, 2) := by decide +kernel
theorem dL_law_829 : decode cL_law 829 = .ok (.iconst 1, 1) := by decide +kernel
theorem dL_law_830 : decode cL_law 830 = .ok (.iadd, 1) := by decide +kernel
theorem dL_law_831 : decode cL_law 831 = .ok (.iaload, 1) := by decide +kernel
theorem dL_law_832 : decode cL_law 832 = .ok (.invokevirtual 123, 3) := by decide +kernel
theorem dL_law_835 : decode cL_law 835 = .ok (.istore 6, 2) := by decide +kernel
theorem dL_law_837 : decode cL_law 837 = .ok (.aload_n 2, 1) := by decide +kernel
theorem dL_law_838 : decode cL_law 838 = .ok (.invokevirtual 88, 3) := by decide +kernel
theorem dL_law_841 : decode cL_law 841 = .ok (.iload 5, 2) := by decide +kernel
theorem dL_law_843 : decode cL_law 843 = .ok (.if_icmp .eq 5, 3) := by decide +kernel
theorem dL_law_846 : decode cL_law 846 = .ok (.iconst 0, 1) := by decide +kernel
theorem dL_law_847 : decode cL_law 847 = .ok (.ireturn, 1) := by decide +kernel
theorem dL_law_848 : decode cL_law 848 = .ok (.iload 5, 2) := by decide +kernel
theorem dL_law_850 : decode cL_law 850 = .ok (.ifCond .ne 15, 3) := by decide +kernel
theorem dL_law_853 : decode cL_law 853 = .ok (.aload_n 3, 1) := by decide +kernel
theorem dL_law_854 : decode cL_law 854 = .ok (.iconst 0, 1) := by decide +kernel
theorem dL_law_855 : decode cL_law 855 = .ok (.laload, 1) := by decide +kernel
theorem dL_law_856 : decode cL_law 856 = .ok (.iload 6, 2) := by decide +kernel
theorem dL_law_858 : decode cL_law 858 = .ok (.i2l, 1) := by decide +kernel
theorem dL_law_859 : decode cL_law 859 = .ok (.lcmp, 1) := by decide +kernel
theorem dL_law_860 : decode cL_law 860 = .ok (.ifCond .eq 5, 3) := by decide +kernel
theorem dL_law_863 : decode cL_law 863 = .ok (.iconst 0, 1) := by decide +kernel
theorem dL_law_864 : decode cL_law 864 = .ok (.ireturn, 1) := by decide +kernel
theorem dL_law_865 : decode cL_law 865 = .ok (.goto 546, 3) := by decide +kernel
theorem dL_law_868 : decode cL_law 868 = .ok (.aload_n 1, 1) := by decide +kernel
theorem dL_law_869 : decode cL_law 869 = .ok (.invokevirtual 124, 3) := by decide +kernel
theorem dL_law_872 : decode cL_law 872 = .ok (.aload_n 2, 1) := by decide +kernel
theorem dL_law_873 : decode cL_law 873 = .ok (.invokevirtual 127, 3) := by decide +kernel
theorem dL_law_876 : decode cL_law 876 = .ok (.if_icmp .eq 535, 3) := by decide +kernel
theorem dL_law_879 : decode cL_law 879 = .ok (.iconst 0, 1) := by decide +kernel
theorem dL_law_880 : decode cL_law 880 = .ok (.ireturn, 1) := by decide +kernel
theorem dL_law_881 : decode cL_law 881 = .ok (.aload_n 1, 1) := by decide +kernel
theorem dL_law_882 : decode cL_law 882 = .ok (.invokevirtual 128, 3) := by decide +kernel
theorem dL_law_885 : decode cL_law 885 = .ok (.aload_n 2, 1) := by decide +kernel
theorem dL_law_886 : decode cL_law 886 = .ok (.invokevirtual 131, 3) := by decide +kernel
theorem dL_law_889 : decode cL_law 889 = .ok (.if_icmp .eq 522, 3) := by decide +kernel
theorem dL_law_892 : decode cL_law 892 = .ok (.iconst 0, 1) := by decide +kernel
theorem dL_law_893 : decode cL_law 893 = .ok (.ireturn, 1) := by decide +kernel
theorem dL_law_894 : decode cL_law 894 = .ok (.aload_n 1, 1) := by decide +kernel
theorem dL_law_895 : decode cL_law 895 = .ok (.invokevirtual 132, 3) := by decide +kernel
theorem dL_law_898 : decode cL_law 898 = .ok (.aload_n 2, 1) := by decide +kernel
theorem dL_law_899 : decode cL_law 899 = .ok (.invokevirtual 135, 3) := by decide +kernel
theorem dL_law_902 : decode cL_law 902 = .ok (.if_icmp .eq 509, 3) := by decide +kernel
theorem dL_law_905 : decode cL_law 905 = .ok (.iconst 0, 1) := by decide +kernel
theorem dL_law_906 : decode cL_law 906 = .ok (.ireturn, 1) := by decide +kernel
theorem dL_law_907 : decode cL_law 907 = .ok (.aload_n 1, 1) := by decide +kernel
theorem dL_law_908 : decode cL_law 908 = .ok (.aload_n 0, 1) := by decide +kernel
theorem dL_law_909 : decode cL_law 909 = .ok (.iload 4, 2) := by decide +kernel
theorem dL_law_911 : decode cL_law 911 = .ok (.iconst 1, 1) := by decide +kernel
theorem dL_law_912 : decode cL_law 912 = .ok (.iadd, 1) := by decide +kernel
theorem dL_law_913 : decode cL_law 913 = .ok (.iaload, 1) := by decide +kernel
theorem dL_law_914 : decode cL_law 914 = .ok (.aload_n 3, 1) := by decide +kernel
theorem dL_law_915 : decode cL_law 915 = .ok (.invokestatic 136, 3) := by decide +kernel
theorem dL_law_918 : decode cL_law 918 = .ok (.istore 5, 2) := by decide +kernel
theorem dL_law_920 : decode cL_law 920 = .ok (.aload_n 2, 1) := by decide +kernel
theorem dL_law_921 : decode cL_law 921 = .ok (.aload_n 0, 1) := by decide +kernel
theorem dL_law_922 : decode cL_law 922 = .ok (.iload 4, 2) := by decide +kernel
theorem dL_law_924 : decode cL_law 924 = .ok (.iconst 1, 1) := by decide +kernel
theorem dL_law_925 : decode cL_law 925 = .ok (.iadd, 1) := by decide +kernel
theorem dL_law_926 : decode cL_law 926 = .ok (.iaload, 1) := by decide +kernel
theorem dL_law_927 : decode cL_law 927 = .ok (.invokevirtual 138, 3) := by decide +kernel
theorem dL_law_930 : decode cL_law 930 = .ok (.istore 6, 2) := by decide +kernel
theorem dL_law_932 : decode cL_law 932 = .ok (.aload_n 2, 1) := by decide +kernel
theorem dL_law_933 : decode cL_law 933 = .ok (.invokevirtual 88, 3) := by decide +kernel
theorem dL_law_936 : decode cL_law 936 = .ok (.iload 5, 2) := by decide +kernel
theorem dL_law_938 : decode cL_law 938 = .ok (.if_icmp .eq 5, 3) := by decide +kernel
theorem dL_law_941 : decode cL_law 941 = .ok (.iconst 0, 1) := by decide +kernel
theorem dL_law_942 : decode cL_law 942 = .ok (.ireturn, 1) := by decide +kernel
theorem dL_law_943 : decode cL_law 943 = .ok (.iload 5, 2) := by decide +kernel
theorem dL_law_945 : decode cL_law 945 = .ok (.ifCond .ne 15, 3) := by decide +kernel
theorem dL_law_948 : decode cL_law 948 = .ok (.aload_n 3, 1) := by decide +kernel
theorem dL_law_949 : decode cL_law 949 = .ok (.iconst 0, 1) := by decide +kernel
theorem dL_law_950 : decode cL_law 950 = .ok (.laload, 1) := by decide +kernel
theorem dL_law_951 : decode cL_law 951 = .ok (.iload 6, 2) := by decide +kernel
theorem dL_law_953 : decode cL_law 953 = .ok (.i2l, 1) := by decide +kernel
theorem dL_law_954 : decode cL_law 954 = .ok (.lcmp, 1) := by decide +kernel
theorem dL_law_955 : decode cL_law 955 = .ok (.ifCond .eq 5, 3) := by decide +kernel
theorem dL_law_958 : decode cL_law 958 = .ok (.iconst 0, 1) := by decide +kernel
theorem dL_law_959 : decode cL_law 959 = .ok (.ireturn, 1) := by decide +kernel
theorem dL_law_960 : decode cL_law 960 = .ok (.goto 451, 3) := by decide +kernel
theorem dL_law_963 : decode cL_law 963 = .ok (.aload_n 1, 1) := by decide +kernel
theorem dL_law_964 : decode cL_law 964 = .ok (.aload_n 0, 1) := by decide +kernel
theorem dL_law_965 : decode cL_law 965 = .ok (.iload 4, 2) := by decide +kernel
theorem dL_law_967 : decode cL_law 967 = .ok (.iconst 1, 1) := by decide +kernel
theorem dL_law_968 : decode cL_law 968 = .ok (.iadd, 1) := by decide +kernel
theorem dL_law_969 : decode cL_law 969 = .ok (.iaload, 1) := by decide +kernel
theorem dL_law_970 : decode cL_law 970 = .ok (.aload_n 3, 1) := by decide +kernel
theorem dL_law_971 : decode cL_law 971 = .ok (.invokestatic 139, 3) := by decide +kernel
theorem dL_law_974 : decode cL_law 974 = .ok (.istore 5, 2) := by decide +kernel
theorem dL_law_976 : decode cL_law 976 = .ok (.aload_n 2, 1) := by decide +kernel
theorem dL_law_977 : decode cL_law 977 = .ok (.aload_n 0, 1) := by decide +kernel
theorem dL_law_978 : decode cL_law 978 = .ok (.iload 4, 2) := by decide +kernel
theorem dL_law_980 : decode cL_law 980 = .ok (.iconst 1, 1) := by decide +kernel
theorem dL_law_981 : decode cL_law 981 = .ok (.iadd, 1) := by decide +kernel
theorem dL_law_982 : decode cL_law 982 = .ok (.iaload, 1) := by decide +kernel
theorem dL_law_983 : decode cL_law 983 = .ok (.invokevirtual 141, 3) := by decide +kernel
theorem dL_law_986 : decode cL_law 986 = .ok (.istore 6, 2) := by decide +kernel
theorem dL_law_988 : decode cL_law 988 = .ok (.aload_n 2, 1) := by decide +kernel
theorem dL_law_989 : decode cL_law 989 = .ok (.invokevirtual 88, 3) := by decide +kernel
theorem dL_law_992 : decode cL_law 992 = .ok (.iload 5, 2) := by decide +kernel
theorem dL_law_994 : decode cL_law 994 = .ok (.if_icmp .eq 5, 3) := by decide +kernel
theorem dL_law_997 : decode cL_law 997 = .ok (.iconst 0, 1) := by decide +kernel
theorem dL_law_998 : decode cL_law 998 = .ok (.ireturn, 1) := by decide +kernel
theorem dL_law_999 : decode cL_law 999 = .ok (.iload 5, 2) := by decide +kernel
theorem dL_law_1001 : decode cL_law 1001 = .ok (.ifCond .ne 15, 3) := by decide +kernel
theorem dL_law_1004 : decode cL_law 1004 = .ok (.aload_n 3, 1) := by decide +kernel
theorem dL_law_1005 : decode cL_law 1005 = .ok (.iconst 0, 1) := by decide +kernel
theorem dL_law_1006 : decode cL_law 1006 = .ok (.laload, 1) := by decide +kernel
theorem dL_law_1007 : decode cL_law 1007 = .ok (.iload 6, 2) := by decide +kernel
theorem dL_law_1009 : decode cL_law 1009 = .ok (.i2l, 1) := by decide +kernel
theorem dL_law_1010 : decode cL_law 1010 = .ok (.lcmp, 1) := by decide +kernel
theorem dL_law_1011 : decode cL_law 1011 = .ok (.ifCond .eq 5, 3) := by decide +kernel
theorem dL_law_1014 : decode cL_law 1014 = .ok (.iconst 0, 1) := by decide +kernel
theorem dL_law_1015 : decode cL_law 1015 = .ok (.ireturn, 1) := by decide +kernel
theorem dL_law_1016 : decode cL_law 1016 = .ok (.goto 395, 3) := by decide +kernel
theorem dL_law_1019 : decode cL_law 1019 = .ok (.aload_n 1, 1) := by decide +kernel
theorem dL_law_1020 : decode cL_law 1020 = .ok (.aload_n 0, 1) := by decide +kernel
theorem dL_law_1021 : decode cL_law 1021 = .ok (.iload 4, 2) := by decide +kernel
theorem dL_law_1023 : decode cL_law 1023 = .ok (.iconst 1, 1) := by decide +kernel
theorem dL_law_1024 : decode cL_law 1024 = .ok (.iadd, 1) := by decide +kernel
theorem dL_law_1025 : decode cL_law 1025 = .ok (.iaload, 1) := by decide +kernel
theorem dL_law_1026 : decode cL_law 1026 = .ok (.aload_n 3, 1) := by decide +kernel
theorem dL_law_1027 : decode cL_law 1027 = .ok (.invokestatic 142, 3) := by decide +kernel
theorem dL_law_1030 : decode cL_law 1030 = .ok (.istore 5, 2) := by decide +kernel
theorem dL_law_1032 : decode cL_law 1032 = .ok (.aload_n 2, 1) := by decide +kernel
theorem dL_law_1033 : decode cL_law 1033 = .ok (.aload_n 0, 1) := by decide +kernel
theorem dL_law_1034 : decode cL_law 1034 = .ok (.iload 4, 2) := by decide +kernel
theorem dL_law_1036 : decode cL_law 1036 = .ok (.iconst 1, 1) := by decide +kernel
theorem dL_law_1037 : decode cL_law 1037 = .ok (.iadd, 1) := by decide +kernel
theorem dL_law_1038 : decode cL_law 1038 = .ok (.iaload, 1) := by decide +kernel
theorem dL_law_1039 : decode cL_law 1039 = .ok (.invokevirtual 144, 3) := by decide +kernel
theorem dL_law_1042 : decode cL_law 1042 = .ok (.istore 6, 2) := by decide +kernel
theorem dL_law_1044 : decode cL_law 1044 = .ok (.aload_n 2, 1) := by decide +kernel
theorem dL_law_1045 : decode cL_law 1045 = .ok (.invokevirtual 88, 3) := by decide +kernel
theorem dL_law_1048 : decode cL_law 1048 = .ok (.iload 5, 2) := by decide +kernel
theorem dL_law_1050 : decode cL_law 1050 = .ok (.if_icmp .eq 5, 3) := by decide +kernel
theorem dL_law_1053 : decode cL_law 1053 = .ok (.iconst 0, 1) := by decide +kernel
theorem dL_law_1054 : decode cL_law 1054 = .ok (.ireturn, 1) := by decide +kernel
theorem dL_law_1055 : decode cL_law 1055 = .ok (.iload 5, 2) := by decide +kernel
theorem dL_law_1057 : decode cL_law 1057 = .ok (.ifCond .ne 15, 3) := by decide +kernel
theorem dL_law_1060 : decode cL_law 1060 = .ok (.aload_n 3, 1) := by decide +kernel
theorem dL_law_1061 : decode cL_law 1061 = .ok (.iconst 0, 1) := by decide +kernel
theorem dL_law_1062 : decode cL_law 1062 = .ok (.laload, 1) := by decide +kernel
theorem dL_law_1063 : decode cL_law 1063 = .ok (.iload 6, 2) := by decide +kernel
theorem dL_law_1065 : decode cL_law 1065 = .ok (.i2l, 1) := by decide +kernel
theorem dL_law_1066 : decode cL_law 1066 = .ok (.lcmp, 1) := by decide +kernel
theorem dL_law_1067 : decode cL_law 1067 = .ok (.ifCond .eq 5, 3) := by decide +kernel
theorem dL_law_1070 : decode cL_law 1070 = .ok (.iconst 0, 1) := by decide +kernel
theorem dL_law_1071 : decode cL_law 1071 = .ok (.ireturn, 1) := by decide +kernel
theorem dL_law_1072 : decode cL_law 1072 = .ok (.goto 339, 3) := by decide +kernel
theorem dL_law_1075 : decode cL_law 1075 = .ok (.aload_n 1, 1) := by decide +kernel
theorem dL_law_1076 : decode cL_law 1076 = .ok (.aload_n 0, 1) := by decide +kernel
theorem dL_law_1077 : decode cL_law 1077 = .ok (.iload 4, 2) := by decide +kernel
theorem dL_law_1079 : decode cL_law 1079 = .ok (.iconst 1, 1) := by decide +kernel
theorem dL_law_1080 : decode cL_law 1080 = .ok (.iadd, 1) := by decide +kernel
theorem dL_law_1081 : decode cL_law 1081 = .ok (.iaload, 1) := by decide +kernel
theorem dL_law_1082 : decode cL_law 1082 = .ok (.aload_n 3, 1) := by decide +kernel
theorem dL_law_1083 : decode cL_law 1083 = .ok (.invokestatic 145, 3) := by decide +kernel
theorem dL_law_1086 : decode cL_law 1086 = .ok (.istore 5, 2) := by decide +kernel
theorem dL_law_1088 : decode cL_law 1088 = .ok (.aload_n 2, 1) := by decide +kernel
theorem dL_law_1089 : decode cL_law 1089 = .ok (.aload_n 0, 1) := by decide +kernel
theorem dL_law_1090 : decode cL_law 1090 = .ok (.iload 4, 2) := by decide +kernel
theorem dL_law_1092 : decode cL_law 1092 = .ok (.iconst 1, 1) := by decide +kernel
theorem dL_law_1093 : decode cL_law 1093 = .ok (.iadd, 1) := by decide +kernel
theorem dL_law_1094 : decode cL_law 1094 = .ok (.iaload, 1) := by decide +kernel
theorem dL_law_1095 : decode cL_law 1095 = .ok (.invokevirtual 147, 3) := by decide +kernel
theorem dL_law_1098 : decode cL_law 1098 = .ok (.istore 6, 2) := by decide +kernel
theorem dL_law_1100 : decode cL_law 1100 = .ok (.aload_n 2, 1) := by decide +kernel
theorem dL_law_1101 : decode cL_law 1101 = .ok (.invokevirtual 88, 3) := by decide +kernel
theorem dL_law_1104 : decode cL_law 1104 = .ok (.iload 5, 2) := by decide +kernel
theorem dL_law_1106 : decode cL_law 1106 = .ok (.if_icmp .eq 5, 3) := by decide +kernel
theorem dL_law_1109 : decode cL_law 1109 = .ok (.iconst 0, 1) := by decide +kernel
theorem dL_law_1110 : decode cL_law 1110 = .ok (.ireturn, 1) := by decide +kernel
theorem dL_law_1111 : decode cL_law 1111 = .ok (.iload 5, 2) := by decide +kernel
theorem dL_law_1113 : decode cL_law 1113 = .ok (.ifCond .ne 15, 3) := by decide +kernel
theorem dL_law_1116 : decode cL_law 1116 = .ok (.aload_n 3, 1) := by decide +kernel
theorem dL_law_1117 : decode cL_law 1117 = .ok (.iconst 0, 1) := by decide +kernel
theorem dL_law_1118 : decode cL_law 1118 = .ok (.laload, 1) := by decide +kernel
theorem dL_law_1119 : decode cL_law 1119 = .ok (.iload 6, 2) := by decide +kernel
theorem dL_law_1121 : decode cL_law 1121 = .ok (.i2l, 1) := by decide +kernel
theorem dL_law_1122 : decode cL_law 1122 = .ok (.lcmp, 1) := by decide +kernel
theorem dL_law_1123 : decode cL_law 1123 = .ok (.ifCond .eq 5, 3) := by decide +kernel
theorem dL_law_1126 : decode cL_law 1126 = .ok (.iconst 0, 1) := by decide +kernel
theorem dL_law_1127 : decode cL_law 1127 = .ok (.ireturn, 1) := by decide +kernel
theorem dL_law_1128 : decode cL_law 1128 = .ok (.goto 283, 3) := by decide +kernel
theorem dL_law_1131 : decode cL_law 1131 = .ok (.aload_n 1, 1) := by decide +kernel
theorem dL_law_1132 : decode cL_law 1132 = .ok (.aload_n 0, 1) := by decide +kernel
theorem dL_law_1133 : decode cL_law 1133 = .ok (.iload 4, 2) := by decide +kernel
theorem dL_law_1135 : decode cL_law 1135 = .ok (.iconst 1, 1) := by decide +kernel
theorem dL_law_1136 : decode cL_law 1136 = .ok (.iadd, 1) := by decide +kernel
theorem dL_law_1137 : decode cL_law 1137 = .ok (.iaload, 1) := by decide +kernel
theorem dL_law_1138 : decode cL_law 1138 = .ok (.aload_n 3, 1) := by decide +kernel
theorem dL_law_1139 : decode cL_law 1139 = .ok (.invokestatic 148, 3) := by decide +kernel
theorem dL_law_1142 : decode cL_law 1142 = .ok (.istore 5, 2) := by decide +kernel
theorem dL_law_1144 : decode cL_law 1144 = .ok (.aload_n 2, 1) := by decide +kernel
theorem dL_law_1145 : decode cL_law 1145 = .ok (.aload_n 0, 1) := by decide +kernel
theorem dL_law_1146 : decode cL_law 1146 = .ok (.iload 4, 2) := by decide +kernel
theorem dL_law_1148 : decode cL_law 1148 = .ok (.iconst 1, 1) := by decide +kernel
theorem dL_law_1149 : decode cL_law 1149 = .ok (.iadd, 1) := by decide +kernel
theorem dL_law_1150 : decode cL_law 1150 = .ok (.iaload, 1) := by decide +kernel
theorem dL_law_1151 : decode cL_law 1151 = .ok (.invokevirtual 150, 3) := by decide +kernel
theorem dL_law_1154 : decode cL_law 1154 = .ok (.istore 6, 2) := by decide +kernel
theorem dL_law_1156 : decode cL_law 1156 = .ok (.aload_n 2, 1) := by decide +kernel
theorem dL_law_1157 : decode cL_law 1157 = .ok (.invokevirtual 88, 3) := by decide +kernel
theorem dL_law_1160 : decode cL_law 1160 = .ok (.iload 5, 2) := by decide +kernel
theorem dL_law_1162 : decode cL_law 1162 = .ok (.if_icmp .eq 5, 3) := by decide +kernel
theorem dL_law_1165 : decode cL_law 1165 = .ok (.iconst 0, 1) := by decide +kernel
theorem dL_law_1166 : decode cL_law 1166 = .ok (.ireturn, 1) := by decide +kernel
theorem dL_law_1167 : decode cL_law 1167 = .ok (.iload 5, 2) := by decide +kernel
theorem dL_law_1169 : decode cL_law 1169 = .ok (.ifCond .ne 15, 3) := by decide +kernel
theorem dL_law_1172 : decode cL_law 1172 = .ok (.aload_n 3, 1) := by decide +kernel
theorem dL_law_1173 : decode cL_law 1173 = .ok (.iconst 0, 1) := by decide +kernel
theorem dL_law_1174 : decode cL_law 1174 = .ok (.laload, 1) := by decide +kernel
theorem dL_law_1175 : decode cL_law 1175 = .ok (.iload 6, 2) := by decide +kernel
theorem dL_law_1177 : decode cL_law 1177 = .ok (.i2l, 1) := by decide +kernel
theorem dL_law_1178 : decode cL_law 1178 = .ok (.lcmp, 1) := by decide +kernel
theorem dL_law_1179 : decode cL_law 1179 = .ok (.ifCond .eq 5, 3) := by decide +kernel
theorem dL_law_1182 : decode cL_law 1182 = .ok (.iconst 0, 1) := by decide +kernel
theorem dL_law_1183 : decode cL_law 1183 = .ok (.ireturn, 1) := by decide +kernel
theorem dL_law_1184 : decode cL_law 1184 = .ok (.goto 227, 3) := by decide +kernel
theorem dL_law_1187 : decode cL_law 1187 = .ok (.aload_n 1, 1) := by decide +kernel
theorem dL_law_1188 : decode cL_law 1188 = .ok (.aload_n 0, 1) := by decide +kernel
theorem dL_law_1189 : decode cL_law 1189 = .ok (.iload 4, 2) := by decide +kernel
theorem dL_law_1191 : decode cL_law 1191 = .ok (.iconst 1, 1) := by decide +kernel
theorem dL_law_1192 : decode cL_law 1192 = .ok (.iadd, 1) := by decide +kernel
theorem dL_law_1193 : decode cL_law 1193 = .ok (.iaload, 1) := by decide +kernel
theorem dL_law_1194 : decode cL_law 1194 = .ok (.aload_n 3, 1) := by decide +kernel
theorem dL_law_1195 : decode cL_law 1195 = .ok (.invokestatic 151, 3) := by decide +kernel
theorem dL_law_1198 : decode cL_law 1198 = .ok (.istore 5, 2) := by decide +kernel
theorem dL_law_1200 : decode cL_law 1200 = .ok (.aload_n 2, 1) := by decide +kernel
theorem dL_law_1201 : decode cL_law 1201 = .ok (.aload_n 0, 1) := by decide +kernel
theorem dL_law_1202 : decode cL_law 1202 = .ok (.iload 4, 2) := by decide +kernel
theorem dL_law_1204 : decode cL_law 1204 = .ok (.iconst 1, 1) := by decide +kernel
theorem dL_law_1205 : decode cL_law 1205 = .ok (.iadd, 1) := by decide +kernel
theorem dL_law_1206 : decode cL_law 1206 = .ok (.iaload, 1) := by decide +kernel
theorem dL_law_1207 : decode cL_law 1207 = .ok (.invokevirtual 153, 3) := by decide +kernel
theorem dL_law_1210 : decode cL_law 1210 = .ok (.istore 6, 2) := by decide +kernel
theorem dL_law_1212 : decode cL_law 1212 = .ok (.aload_n 2, 1) := by decide +kernel
theorem dL_law_1213 : decode cL_law 1213 = .ok (.invokevirtual 88, 3) := by decide +kernel
theorem dL_law_1216 : decode cL_law 1216 = .ok (.iload 5, 2) := by decide +kernel
theorem dL_law_1218 : decode cL_law 1218 = .ok (.if_icmp .eq 5, 3) := by decide +kernel
theorem dL_law_1221 : decode cL_law 1221 = .ok (.iconst 0, 1) := by decide +kernel
theorem dL_law_1222 : decode cL_law 1222 = .ok (.ireturn, 1) := by decide +kernel
theorem dL_law_1223 : decode cL_law 1223 = .ok (.iload 5, 2) := by decide +kernel
theorem dL_law_1225 : decode cL_law 1225 = .ok (.ifCond .ne 15, 3) := by decide +kernel
theorem dL_law_1228 : decode cL_law 1228 = .ok (.aload_n 3, 1) := by decide +kernel
theorem dL_law_1229 : decode cL_law 1229 = .ok (.iconst 0, 1) := by decide +kernel
theorem dL_law_1230 : decode cL_law 1230 = .ok (.laload, 1) := by decide +kernel
theorem dL_law_1231 : decode cL_law 1231 = .ok (.iload 6, 2) := by decide +kernel
theorem dL_law_1233 : decode cL_law 1233 = .ok (.i2l, 1) := by decide +kernel
theorem dL_law_1234 : decode cL_law 1234 = .ok (.lcmp, 1) := by decide +kernel
theorem dL_law_1235 : decode cL_law 1235 = .ok (.ifCond .eq 5, 3) := by decide +kernel
theorem dL_law_1238 : decode cL_law 1238 = .ok (.iconst 0, 1) := by decide +kernel
theorem dL_law_1239 : decode cL_law 1239 = .ok (.ireturn, 1) := by decide +kernel
theorem dL_law_1240 : decode cL_law 1240 = .ok (.goto 171, 3) := by decide +kernel
theorem dL_law_1243 : decode cL_law 1243 = .ok (.aload_n 1, 1) := by decide +kernel
theorem dL_law_1244 : decode cL_law 1244 = .ok (.aload_n 0, 1) := by decide +kernel
theorem dL_law_1245 : decode cL_law 1245 = .ok (.iload 4, 2) := by decide +kernel
theorem dL_law_1247 : decode cL_law 1247 = .ok (.iconst 1, 1) := by decide +kernel
theorem dL_law_1248 : decode cL_law 1248 = .ok (.iadd, 1) := by decide +kernel
theorem dL_law_1249 : decode cL_law 1249 = .ok (.iaload, 1) := by decide +kernel
theorem dL_law_1250 : decode cL_law 1250 = .ok (.aload_n 3, 1) := by decide +kernel
theorem dL_law_1251 : decode cL_law 1251 = .ok (.invokestatic 154, 3) := by decide +kernel
theorem dL_law_1254 : decode cL_law 1254 = .ok (.istore 5, 2) := by decide +kernel
theorem dL_law_1256 : decode cL_law 1256 = .ok (.aload_n 2, 1) := by decide +kernel
theorem dL_law_1257 : decode cL_law 1257 = .ok (.aload_n 0, 1) := by decide +kernel
theorem dL_law_1258 : decode cL_law 1258 = .ok (.iload 4, 2) := by decide +kernel
theorem dL_law_1260 : decode cL_law 1260 = .ok (.iconst 1, 1) := by decide +kernel
theorem dL_law_1261 : decode cL_law 1261 = .ok (.iadd, 1) := by decide +kernel
theorem dL_law_1262 : decode cL_law 1262 = .ok (.iaload, 1) := by decide +kernel
theorem dL_law_1263 : decode cL_law 1263 = .ok (.invokevirtual 156, 3) := by decide +kernel
theorem dL_law_1266 : decode cL_law 1266 = .ok (.istore 6, 2) := by decide +kernel
theorem dL_law_1268 : decode cL_law 1268 = .ok (.aload_n 2, 1) := by decide +kernel
theorem dL_law_1269 : decode cL_law 1269 = .ok (.invokevirtual 88, 3) := by decide +kernel
theorem dL_law_1272 : decode cL_law 1272 = .ok (.iload 5, 2) := by decide +kernel
theorem dL_law_1274 : decode cL_law 1274 = .ok (.if_icmp .eq 5, 3) := by decide +kernel
theorem dL_law_1277 : decode cL_law 1277 = .ok (.iconst 0, 1) := by decide +kernel
theorem dL_law_1278 : decode cL_law 1278 = .ok (.ireturn, 1) := by decide +kernel
theorem dL_law_1279 : decode cL_law 1279 = .ok (.iload 5, 2) := by decide +kernel
theorem dL_law_1281 : decode cL_law 1281 = .ok (.ifCond .ne 15, 3) := by decide +kernel
theorem dL_law_1284 : decode cL_law 1284 = .ok (.aload_n 3, 1) := by decide +kernel
theorem dL_law_1285 : decode cL_law 1285 = .ok (.iconst 0, 1) := by decide +kernel
theorem dL_law_1286 : decode cL_law 1286 = .ok (.laload, 1) := by decide +kernel
theorem dL_law_1287 : decode cL_law 1287 = .ok (.iload 6, 2) := by decide +kernel
theorem dL_law_1289 : decode cL_law 1289 = .ok (.i2l, 1) := by decide +kernel
theorem dL_law_1290 : decode cL_law 1290 = .ok (.lcmp, 1) := by decide +kernel
theorem dL_law_1291 : decode cL_law 1291 = .ok (.ifCond .eq 5, 3) := by decide +kernel
theorem dL_law_1294 : decode cL_law 1294 = .ok (.iconst 0, 1) := by decide +kernel
theorem dL_law_1295 : decode cL_law 1295 = .ok (.ireturn, 1) := by decide +kernel
theorem dL_law_1296 : decode cL_law 1296 = .ok (.goto 115, 3) := by decide +kernel
theorem dL_law_1299 : decode cL_law 1299 = .ok (.aload_n 1, 1) := by decide +kernel
theorem dL_law_1300 : decode cL_law 1300 = .ok (.aload_n 0, 1) := by decide +kernel
theorem dL_law_1301 : decode cL_law 1301 = .ok (.iload 4, 2) := by decide +kernel
theorem dL_law_1303 : decode cL_law 1303 = .ok (.iconst 1, 1) := by decide +kernel
theorem dL_law_1304 : decode cL_law 1304 = .ok (.iadd, 1) := by decide +kernel
theorem dL_law_1305 : decode cL_law 1305 = .ok (.iaload, 1) := by decide +kernel
theorem dL_law_1306 : decode cL_law 1306 = .ok (.aload_n 3, 1) := by decide +kernel
theorem dL_law_1307 : decode cL_law 1307 = .ok (.invokestatic 157, 3) := by decide +kernel
theorem dL_law_1310 : decode cL_law 1310 = .ok (.istore 5, 2) := by decide +kernel
theorem dL_law_1312 : decode cL_law 1312 = .ok (.aload_n 2, 1) := by decide +kernel
theorem dL_law_1313 : decode cL_law 1313 = .ok (.aload_n 0, 1) := by decide +kernel
theorem dL_law_1314 : decode cL_law 1314 = .ok (.iload 4, 2) := by decide +kernel
theorem dL_law_1316 : decode cL_law 1316 = .ok (.iconst 1, 1) := by decide +kernel
theorem dL_law_1317 : decode cL_law 1317 = .ok (.iadd, 1) := by decide +kernel
theorem dL_law_1318 : decode cL_law 1318 = .ok (.iaload, 1) := by decide +kernel
theorem dL_law_1319 : decode cL_law 1319 = .ok (.invokevirtual 159, 3) := by decide +kernel
theorem dL_law_1322 : decode cL_law 1322 = .ok (.istore 6, 2) := by decide +kernel
theorem dL_law_1324 : decode cL_law 1324 = .ok (.aload_n 2, 1) := by decide +kernel
theorem dL_law_1325 : decode cL_law 1325 = .ok (.invokevirtual 88, 3) := by decide +kernel
theorem dL_law_1328 : decode cL_law 1328 = .ok (.iload 5, 2) := by decide +kernel
theorem dL_law_1330 : decode cL_law 1330 = .ok (.if_icmp .eq 5, 3) := by decide +kernel
theorem dL_law_1333 : decode cL_law 1333 = .ok (.iconst 0, 1) := by decide +kernel
theorem dL_law_1334 : decode cL_law 1334 = .ok (.ireturn, 1) := by decide +kernel
theorem dL_law_1335 : decode cL_law 1335 = .ok (.iload 5, 2) := by decide +kernel
theorem dL_law_1337 : decode cL_law 1337 = .ok (.ifCond .ne 15, 3) := by decide +kernel
theorem dL_law_1340 : decode cL_law 1340 = .ok (.aload_n 3, 1) := by decide +kernel
theorem dL_law_1341 : decode cL_law 1341 = .ok (.iconst 0, 1) := by decide +kernel
theorem dL_law_1342 : decode cL_law 1342 = .ok (.laload, 1) := by decide +kernel
theorem dL_law_1343 : decode cL_law 1343 = .ok (.iload 6, 2) := by decide +kernel
theorem dL_law_1345 : decode cL_law 1345 = .ok (.i2l, 1) := by decide +kernel
theorem dL_law_1346 : decode cL_law 1346 = .ok (.lcmp, 1) := by decide +kernel
theorem dL_law_1347 : decode cL_law 1347 = .ok (.ifCond .eq 5, 3) := by decide +kernel
theorem dL_law_1350 : decode cL_law 1350 = .ok (.iconst 0, 1) := by decide +kernel
theorem dL_law_1351 : decode cL_law 1351 = .ok (.ireturn, 1) := by decide +kernel
theorem dL_law_1352 : decode cL_law 1352 = .ok (.goto 59, 3) := by decide +kernel
theorem dL_law_1355 : decode cL_law 1355 = .ok (.aload_n 1, 1) := by decide +kernel
theorem dL_law_1356 : decode cL_law 1356 = .ok (.aload_n 0, 1) := by decide +kernel
theorem dL_law_1357 : decode cL_law 1357 = .ok (.iload 4, 2) := by decide +kernel
theorem dL_law_1359 : decode cL_law 1359 = .ok (.iconst 1, 1) := by decide +kernel
theorem dL_law_1360 : decode cL_law 1360 = .ok (.iadd, 1) := by decide +kernel
theorem dL_law_1361 : decode cL_law 1361 = .ok (.iaload, 1) := by decide +kernel
theorem dL_law_1362 : decode cL_law 1362 = .ok (.aload_n 3, 1) := by decide +kernel
theorem dL_law_1363 : decode cL_law 1363 = .ok (.invokestatic 160, 3) := by decide +kernel
theorem dL_law_1366 : decode cL_law 1366 = .ok (.istore 5, 2) := by decide +kernel
theorem dL_law_1368 : decode cL_law 1368 = .ok (.aload_n 2, 1) := by decide +kernel
theorem dL_law_1369 : decode cL_law 1369 = .ok (.aload_n 0, 1) := by decide +kernel
theorem dL_law_1370 : decode cL_law 1370 = .ok (.iload 4, 2) := by decide +kernel
theorem dL_law_1372 : decode cL_law 1372 = .ok (.iconst 1, 1) := by decide +kernel
theorem dL_law_1373 : decode cL_law 1373 = .ok (.iadd, 1) := by decide +kernel
theorem dL_law_1374 : decode cL_law 1374 = .ok (.iaload, 1) := by decide +kernel
theorem dL_law_1375 : decode cL_law 1375 = .ok (.invokevirtual 162, 3) := by decide +kernel
theorem dL_law_1378 : decode cL_law 1378 = .ok (.istore 6, 2) := by decide +kernel
theorem dL_law_1380 : decode cL_law 1380 = .ok (.aload_n 2, 1) := by decide +kernel
theorem dL_law_1381 : decode cL_law 1381 = .ok (.invokevirtual 88, 3) := by decide +kernel
theorem dL_law_1384 : decode cL_law 1384 = .ok (.iload 5, 2) := by decide +kernel
theorem dL_law_1386 : decode cL_law 1386 = .ok (.if_icmp .eq 5, 3) := by decide +kernel
theorem dL_law_1389 : decode cL_law 1389 = .ok (.iconst 0, 1) := by decide +kernel
theorem dL_law_1390 : decode cL_law 1390 = .ok (.ireturn, 1) := by decide +kernel
theorem dL_law_1391 : decode cL_law 1391 = .ok (.iload 5, 2) := by decide +kernel
theorem dL_law_1393 : decode cL_law 1393 = .ok (.ifCond .ne 15, 3) := by decide +kernel
end
section
theorem dL_law_1396 : decode cL_law 1396 = .ok (.aload_n 3, 1) := by decide +kernel
theorem dL_law_1397 : decode cL_law 1397 = .ok (.iconst 0, 1) := by decide +kernel
theorem dL_law_1398 : decode cL_law 1398 = .ok (.laload, 1) := by decide +kernel
theorem dL_law_1399 : decode cL_law 1399 = .ok (.iload 6, 2) := by decide +kernel
theorem dL_law_1401 : decode cL_law 1401 = .ok (.i2l, 1) := by decide +kernel
theorem dL_law_1402 : decode cL_law 1402 = .ok (.lcmp, 1) := by decide +kernel
theorem dL_law_1403 : decode cL_law 1403 = .ok (.ifCond .eq 5, 3) := by decide +kernel
theorem dL_law_1406 : decode cL_law 1406 = .ok (.iconst 0, 1) := by decide +kernel
theorem dL_law_1407 : decode cL_law 1407 = .ok (.ireturn, 1) := by decide +kernel
theorem dL_law_1408 : decode cL_law 1408 = .ok (.goto 3, 3) := by decide +kernel
theorem dL_law_1411 : decode cL_law 1411 = .ok (.iinc 4 4, 3) := by decide +kernel
theorem dL_law_1414 : decode cL_law 1414 = .ok (.goto (-1391), 3) := by decide +kernel
theorem dL_law_1417 : decode cL_law 1417 = .ok (.iconst 1, 1) := by decide +kernel
theorem dL_law_1418 : decode cL_law 1418 = .ok (.ireturn, 1) := by decide +kernel
abbrev vwCl : List vw_C := [(RJx4a65c, TJx4a65c, 3), (RX0, TX0, 2), (RX1, TX1, 4), (RX2, TX2, 6), (RX3, TX3, 4), (RX4, TX4, 15)]
end
section
/-! ints by their whole numbers -/
def iI (z : Int) : Int32 := Int32.ofInt z
abbrev inQ (z : Int) : Prop := -2147483648 ≤ z ∧ z ≤ 2147483647
theorem iI_toInt {z : Int} (h : inQ z) : (iI z).toInt = z := Int32.toInt_ofInt_of_le (by omega) (by omega)
theorem iI_of (x : Int32) : iI x.toInt = x := Int32.ofInt_toInt x
theorem iI_inR (x : Int32) : inQ x.toInt := ⟨by have := Int32.le_toInt x; omega, by have := Int32.toInt_lt x; omega⟩
theorem iI_add (a b : Int) : iI a + iI b = iI (a + b) := (Int32.ofInt_add a b).symm
theorem iI_sub (a b : Int) : iI a - iI b = iI (a - b) := (Int32.ofInt_sub a b).symm
theorem iI_mul (a b : Int) : iI a * iI b = iI (a * b) := (Int32.ofInt_mul a b).symm
theorem iI_eq {a b : Int} (ha : inQ a) (hb : inQ b) : iI a = iI b ↔ a = b := by
  rw [← Int32.toInt_inj, iI_toInt ha, iI_toInt hb]
theorem iI_le {a b : Int} (ha : inQ a) (hb : inQ b) : iI a ≤ iI b ↔ a ≤ b := by
  rw [Int32.le_iff_toInt_le, iI_toInt ha, iI_toInt hb]
theorem iI_lt {a b : Int} (ha : inQ a) (hb : inQ b) : iI a < iI b ↔ a < b := by
  rw [Int32.lt_iff_toInt_lt, iI_toInt ha, iI_toInt hb]
theorem iI_0 : (0 : Int32) = iI 0 := by decide
theorem iI_clamp {z : Int} (h0 : 0 ≤ z) (h1 : z ≤ 2147483647) : (iI z).toNatClampNeg = z.toNat := by
  show ((iI z).toInt).toNat = _
  rw [iI_toInt ⟨by omega, h1⟩]
theorem iI_div {a b : Int} (h0 : 0 ≤ a) (h1 : a ≤ 2147483647) (h2 : 0 < b) (h3 : b ≤ 2147483647) : iI a / iI b = iI (a / b) := by
  have e : a / b = a.tdiv b := (Int.tdiv_eq_ediv_of_nonneg h0).symm
  rw [e]
  exact (Int32.ofInt_tdiv (by show (-2147483648 : Int) ≤ a; omega) (by show a ≤ (2147483647 : Int); omega) (by show (-2147483648 : Int) ≤ b; omega) (by show b ≤ (2147483647 : Int); omega)).symm
theorem iI_in {z : Int} {n : Nat} (h0 : 0 ≤ z) (h1 : z < n) (h2 : z ≤ 2147483647) : vp_in (iI z) n := by
  rw [vp_in_iff, iI_toInt ⟨by omega, h2⟩]
  exact ⟨h0, h1⟩
theorem iI_nat (n : Nat) : Int32.ofNat n = iI n := Int32.ofInt_eq_ofNat.symm
section HRows
variable {p : Program} {l : Launch} {e : Env} {R : Room} {s : State} {m : MethodId} {args : Array Value} {below : List Frame} {meth : Method} {c : Code} {H : Heap} {locs : List Loc} {cells slots : Nat} {Q : State → Prop}
variable {cc : ByteArray} {pc : Nat} {ls : Array Slot} {rest : List Value}
theorem h_iadd (hexec : p.tables.exec = Jvm.exec) (hb : c.code = cc) {a b : Int} (hdg : decode cc pc = .ok (.iadd, 1)) (k : W p l e R s m args below meth c H locs cells slots Q (F0 m (pc + 1) ls (.int (iI (a + b)) :: rest))) : W p l e R s m args below meth c H locs cells slots Q (F0 m pc ls (.int (iI b) :: .int (iI a) :: rest)) := lv_iadd hexec hb hdg (by rw [iI_add]; exact k)
theorem h_isub (hexec : p.tables.exec = Jvm.exec) (hb : c.code = cc) {a b : Int} (hdg : decode cc pc = .ok (.isub, 1)) (k : W p l e R s m args below meth c H locs cells slots Q (F0 m (pc + 1) ls (.int (iI (a - b)) :: rest))) : W p l e R s m args below meth c H locs cells slots Q (F0 m pc ls (.int (iI b) :: .int (iI a) :: rest)) := lv_isub hexec hb hdg (by rw [iI_sub]; exact k)
theorem h_imul (hexec : p.tables.exec = Jvm.exec) (hb : c.code = cc) {a b : Int} (hdg : decode cc pc = .ok (.imul, 1)) (k : W p l e R s m args below meth c H locs cells slots Q (F0 m (pc + 1) ls (.int (iI (a * b)) :: rest))) : W p l e R s m args below meth c H locs cells slots Q (F0 m pc ls (.int (iI b) :: .int (iI a) :: rest)) := lv_imul hexec hb hdg (by rw [iI_mul]; exact k)
theorem h_idiv (hexec : p.tables.exec = Jvm.exec) (hb : c.code = cc) {a b : Int} (h0 : 0 ≤ a) (h1 : a ≤ 2147483647) (h2 : 0 < b) (h3 : b ≤ 2147483647) (hdg : decode cc pc = .ok (.idiv, 1)) (k : W p l e R s m args below meth c H locs cells slots Q (F0 m (pc + 1) ls (.int (iI (a / b)) :: rest))) : W p l e R s m args below meth c H locs cells slots Q (F0 m pc ls (.int (iI b) :: .int (iI a) :: rest)) := lv_idiv hexec hb hdg (by rw [iI_0, iI_eq (by omega) (by omega)]; omega) (by rw [iI_div h0 h1 h2 h3]; exact k)
theorem h_top (hexec : p.tables.exec = Jvm.exec) {x y : Int32} (h : x = y) (k : W p l e R s m args below meth c H locs cells slots Q (F0 m pc ls (.int y :: rest))) : W p l e R s m args below meth c H locs cells slots Q (F0 m pc ls (.int x :: rest)) := by rw [h]; exact k
theorem h_if_eq (hexec : p.tables.exec = Jvm.exec) (hb : c.code = cc) {a : Int} {off : Int} {tgt : Nat} (ha : inQ a) (hdg : decode cc pc = .ok (.ifCond .eq off, 3)) (ht : (pc : Int) + off = (tgt : Int)) (kt : a = 0 → W p l e R s m args below meth c H locs cells slots Q (F0 m tgt ls rest)) (kf : ¬ a = 0 → W p l e R s m args below meth c H locs cells slots Q (F0 m (pc + 3) ls rest)) : W p l e R s m args below meth c H locs cells slots Q (F0 m pc ls (.int (iI a) :: rest)) :=
  lv_if_eq hexec hb hdg ht (fun h => kt (by rwa [iI_0, iI_eq ha (by omega)] at h)) (fun h => kf (by rwa [iI_0, iI_eq ha (by omega)] at h))
theorem h_if_ne (hexec : p.tables.exec = Jvm.exec) (hb : c.code = cc) {a : Int} {off : Int} {tgt : Nat} (ha : inQ a) (hdg : decode cc pc = .ok (.ifCond .ne off, 3)) (ht : (pc : Int) + off = (tgt : Int)) (kt : ¬ a = 0 → W p l e R s m args below meth c H locs cells slots Q (F0 m tgt ls rest)) (kf : a = 0 → W p l e R s m args below meth c H locs cells slots Q (F0 m (pc + 3) ls rest)) : W p l e R s m args below meth c H locs cells slots Q (F0 m pc ls (.int (iI a) :: rest)) :=
  lv_if_ne hexec hb hdg ht (fun h => kt (by rwa [iI_0, iI_eq ha (by omega)] at h)) (fun h => kf (by rw [iI_0, iI_eq ha (by omega)] at h; omega))
theorem h_if_lt (hexec : p.tables.exec = Jvm.exec) (hb : c.code = cc) {a : Int} {off : Int} {tgt : Nat} (ha : inQ a) (hdg : decode cc pc = .ok (.ifCond .lt off, 3)) (ht : (pc : Int) + off = (tgt : Int)) (kt : a < 0 → W p l e R s m args below meth c H locs cells slots Q (F0 m tgt ls rest)) (kf : 0 ≤ a → W p l e R s m args below meth c H locs cells slots Q (F0 m (pc + 3) ls rest)) : W p l e R s m args below meth c H locs cells slots Q (F0 m pc ls (.int (iI a) :: rest)) :=
  lv_if_lt hexec hb hdg ht (fun h => kt (by rwa [iI_0, iI_lt ha (by omega)] at h)) (fun h => kf (by rw [iI_0, iI_lt ha (by omega)] at h; omega))
theorem h_if_ge (hexec : p.tables.exec = Jvm.exec) (hb : c.code = cc) {a : Int} {off : Int} {tgt : Nat} (ha : inQ a) (hdg : decode cc pc = .ok (.ifCond .ge off, 3)) (ht : (pc : Int) + off = (tgt : Int)) (kt : 0 ≤ a → W p l e R s m args below meth c H locs cells slots Q (F0 m tgt ls rest)) (kf : a < 0 → W p l e R s m args below meth c H locs cells slots Q (F0 m (pc + 3) ls rest)) : W p l e R s m args below meth c H locs cells slots Q (F0 m pc ls (.int (iI a) :: rest)) :=
  lv_if_ge hexec hb hdg ht (fun h => kt (by rw [iI_0, iI_le (by omega) ha] at h; exact h)) (fun h => kf (by rw [iI_0, iI_le (by omega) ha] at h; omega))
theorem h_if_gt (hexec : p.tables.exec = Jvm.exec) (hb : c.code = cc) {a : Int} {off : Int} {tgt : Nat} (ha : inQ a) (hdg : decode cc pc = .ok (.ifCond .gt off, 3)) (ht : (pc : Int) + off = (tgt : Int)) (kt : 0 < a → W p l e R s m args below meth c H locs cells slots Q (F0 m tgt ls rest)) (kf : a ≤ 0 → W p l e R s m args below meth c H locs cells slots Q (F0 m (pc + 3) ls rest)) : W p l e R s m args below meth c H locs cells slots Q (F0 m pc ls (.int (iI a) :: rest)) :=
  lv_if_gt hexec hb hdg ht (fun h => kt (by rw [iI_0, iI_lt (by omega) ha] at h; exact h)) (fun h => kf (by rw [iI_0, iI_lt (by omega) ha] at h; omega))
theorem h_if_le (hexec : p.tables.exec = Jvm.exec) (hb : c.code = cc) {a : Int} {off : Int} {tgt : Nat} (ha : inQ a) (hdg : decode cc pc = .ok (.ifCond .le off, 3)) (ht : (pc : Int) + off = (tgt : Int)) (kt : a ≤ 0 → W p l e R s m args below meth c H locs cells slots Q (F0 m tgt ls rest)) (kf : 0 < a → W p l e R s m args below meth c H locs cells slots Q (F0 m (pc + 3) ls rest)) : W p l e R s m args below meth c H locs cells slots Q (F0 m pc ls (.int (iI a) :: rest)) :=
  lv_if_le hexec hb hdg ht (fun h => kt (by rwa [iI_0, iI_le ha (by omega)] at h)) (fun h => kf (by rw [iI_0, iI_le ha (by omega)] at h; omega))
theorem h_icmp_eq (hexec : p.tables.exec = Jvm.exec) (hb : c.code = cc) {a b : Int} {off : Int} {tgt : Nat} (ha : inQ a) (hb2 : inQ b) (hdg : decode cc pc = .ok (.if_icmp .eq off, 3)) (ht : (pc : Int) + off = (tgt : Int)) (kt : a = b → W p l e R s m args below meth c H locs cells slots Q (F0 m tgt ls rest)) (kf : ¬ a = b → W p l e R s m args below meth c H locs cells slots Q (F0 m (pc + 3) ls rest)) : W p l e R s m args below meth c H locs cells slots Q (F0 m pc ls (.int (iI b) :: .int (iI a) :: rest)) :=
  lv_icmp_eq hexec hb hdg ht (fun h => kt (by rwa [iI_eq ha hb2] at h)) (fun h => kf (by rwa [iI_eq ha hb2] at h))
theorem h_icmp_ne (hexec : p.tables.exec = Jvm.exec) (hb : c.code = cc) {a b : Int} {off : Int} {tgt : Nat} (ha : inQ a) (hb2 : inQ b) (hdg : decode cc pc = .ok (.if_icmp .ne off, 3)) (ht : (pc : Int) + off = (tgt : Int)) (kt : ¬ a = b → W p l e R s m args below meth c H locs cells slots Q (F0 m tgt ls rest)) (kf : a = b → W p l e R s m args below meth c H locs cells slots Q (F0 m (pc + 3) ls rest)) : W p l e R s m args below meth c H locs cells slots Q (F0 m pc ls (.int (iI b) :: .int (iI a) :: rest)) :=
  lv_icmp_ne hexec hb hdg ht (fun h => kt (by rwa [iI_eq ha hb2] at h)) (fun h => kf (by rw [iI_eq ha hb2] at h; omega))
theorem h_icmp_lt (hexec : p.tables.exec = Jvm.exec) (hb : c.code = cc) {a b : Int} {off : Int} {tgt : Nat} (ha : inQ a) (hb2 : inQ b) (hdg : decode cc pc = .ok (.if_icmp .lt off, 3)) (ht : (pc : Int) + off = (tgt : Int)) (kt : a < b → W p l e R s m args below meth c H locs cells slots Q (F0 m tgt ls rest)) (kf : b ≤ a → W p l e R s m args below meth c H locs cells slots Q (F0 m (pc + 3) ls rest)) : W p l e R s m args below meth c H locs cells slots Q (F0 m pc ls (.int (iI b) :: .int (iI a) :: rest)) :=
  lv_icmp_lt hexec hb hdg ht (fun h => kt (by rwa [iI_lt ha hb2] at h)) (fun h => kf (by rw [iI_lt ha hb2] at h; omega))
theorem h_icmp_ge (hexec : p.tables.exec = Jvm.exec) (hb : c.code = cc) {a b : Int} {off : Int} {tgt : Nat} (ha : inQ a) (hb2 : inQ b) (hdg : decode cc pc = .ok (.if_icmp .ge off, 3)) (ht : (pc : Int) + off = (tgt : Int)) (kt : b ≤ a → W p l e R s m args below meth c H locs cells slots Q (F0 m tgt ls rest)) (kf : a < b → W p l e R s m args below meth c H locs cells slots Q (F0 m (pc + 3) ls rest)) : W p l e R s m args below meth c H locs cells slots Q (F0 m pc ls (.int (iI b) :: .int (iI a) :: rest)) :=
  lv_icmp_ge hexec hb hdg ht (fun h => kt (by rw [iI_le hb2 ha] at h; exact h)) (fun h => kf (by rw [iI_le hb2 ha] at h; omega))
theorem h_icmp_gt (hexec : p.tables.exec = Jvm.exec) (hb : c.code = cc) {a b : Int} {off : Int} {tgt : Nat} (ha : inQ a) (hb2 : inQ b) (hdg : decode cc pc = .ok (.if_icmp .gt off, 3)) (ht : (pc : Int) + off = (tgt : Int)) (kt : b < a → W p l e R s m args below meth c H locs cells slots Q (F0 m tgt ls rest)) (kf : a ≤ b → W p l e R s m args below meth c H locs cells slots Q (F0 m (pc + 3) ls rest)) : W p l e R s m args below meth c H locs cells slots Q (F0 m pc ls (.int (iI b) :: .int (iI a) :: rest)) :=
  lv_icmp_gt hexec hb hdg ht (fun h => kt (by rw [iI_lt hb2 ha] at h; exact h)) (fun h => kf (by rw [iI_lt hb2 ha] at h; omega))
theorem h_icmp_le (hexec : p.tables.exec = Jvm.exec) (hb : c.code = cc) {a b : Int} {off : Int} {tgt : Nat} (ha : inQ a) (hb2 : inQ b) (hdg : decode cc pc = .ok (.if_icmp .le off, 3)) (ht : (pc : Int) + off = (tgt : Int)) (kt : a ≤ b → W p l e R s m args below meth c H locs cells slots Q (F0 m tgt ls rest)) (kf : b < a → W p l e R s m args below meth c H locs cells slots Q (F0 m (pc + 3) ls rest)) : W p l e R s m args below meth c H locs cells slots Q (F0 m pc ls (.int (iI b) :: .int (iI a) :: rest)) :=
  lv_icmp_le hexec hb hdg ht (fun h => kt (by rwa [iI_le ha hb2] at h)) (fun h => kf (by rw [iI_le ha hb2] at h; omega))
end HRows
end
section
/-! THE REFERENCE'S CELLS: its object (place 0) and its eleven int arrays (place k + 1): 0 parent, 1 quota, 2 department, 3 size, 4 link, 5 links, 6 kept, 7 holders, 8 used, 9 back, 10 coins; the ints X: 0 directories, 1 files, 2 day, 3 thrown. ad k: the array's address; ad 11: the object's -/
def mLen : Nat → Nat := fun k => match k with
  | 0 => 12
  | 1 => 12
  | 4 => 360
  | 10 => 4
  | _ => 30
abbrev MS : Type := (Nat → Nat → Int32) × (Nat → Int32)
def mFs (ad : Nat → Nat) (X : Nat → Int32) : List Value := [.ref (ad 0), .ref (ad 1), .int (X 0), .ref (ad 2), .ref (ad 3), .ref (ad 4), .ref (ad 5), .ref (ad 6), .ref (ad 7), .ref (ad 8), .ref (ad 9), .int (X 1), .ref (ad 10), .int (X 2), .int (X 3)]
def wM (ad : Nat → Nat) (cI : ClassId) (u : MS) : va_W := (ad 11, .inr (5, mFs ad u.2)) :: (List.range 11).map (fun k => (ad k, .inl (cI, mLen k, .inl (u.1 k))))
theorem wM_k (ad : Nat → Nat) (cI : ClassId) (u : MS) {k : Nat} (hk : k < 11) : (wM ad cI u)[k + 1]? = some (ad k, .inl (cI, mLen k, .inl (u.1 k))) := by
  unfold wM
  rw [List.getElem?_cons_succ, List.getElem?_map, List.getElem?_range hk]
  rfl
theorem wM_set (ad : Nat → Nat) (cI : ClassId) (u : MS) {k : Nat} (hk : k < 11) (g : Nat → Int32) : (wM ad cI u).set (k + 1) (ad k, .inl (cI, mLen k, .inl g)) = wM ad cI (va_up u.1 k g, u.2) := by
  unfold wM
  rw [List.set_cons_succ]
  congr 1
  apply List.ext_getElem?
  intro i
  by_cases hi : i < 11
  · by_cases hik : i = k
    · subst hik
      rw [List.getElem?_set_self (by simpa using hi), List.getElem?_map, List.getElem?_range hi]
      simp [va_up_self]
    · rw [List.getElem?_set_ne (Ne.symm hik), List.getElem?_map, List.getElem?_map, List.getElem?_range hi]
      simp [va_up_ne _ _ hik]
  · rw [List.getElem?_eq_none (by simp; omega), List.getElem?_eq_none (by simp; omega)]
/-- which field of the object is which int -/
def mXf : Nat → Nat := fun j => match j with
  | 0 => 2
  | 1 => 11
  | 2 => 13
  | _ => 14
theorem wM_setX (ad : Nat → Nat) (cI : ClassId) (u : MS) {j : Nat} (hj : j < 4) (x : Int32) : (wM ad cI u).set 0 (ad 11, .inr (5, (mFs ad u.2).set (mXf j) (.int x))) = wM ad cI (u.1, va_up u.2 j x) := by
  match j, hj with
  | 0, _ => rfl
  | 1, _ => rfl
  | 2, _ => rfl
  | 3, _ => rfl
theorem wM_D {A : Nat → Prop} {ad : Nat → Nat} {cI cI' : ClassId} {u u' : MS} (h : va_D A (wM ad cI u)) : va_D A (wM ad cI' u') := by
  have key : ∀ (k : Nat) (q : Nat × va_E), (wM ad cI' u')[k]? = some q → ∃ q0, (wM ad cI u)[k]? = some q0 ∧ q0.1 = q.1 := by
    intro k q hq
    cases k with
    | zero => exact ⟨_, rfl, by cases hq; rfl⟩
    | succ k =>
      by_cases hk : k < 11
      · rw [wM_k ad cI' u' hk] at hq
        exact ⟨_, wM_k ad cI u hk, by cases hq; rfl⟩
      · exfalso
        unfold wM at hq
        rw [List.getElem?_cons_succ, List.getElem?_eq_none (by simp; omega)] at hq
        cases hq
  refine ⟨fun i j x y hx hy hxy => ?_, fun k q hq => ?_⟩
  · obtain ⟨x0, h1, h2⟩ := key i x hx
    obtain ⟨y0, h3, h4⟩ := key j y hy
    exact h.1 i j x0 y0 h1 h3 (by rw [h2, h4]; exact hxy)
  · obtain ⟨q0, h1, h2⟩ := key k q hq
    rw [← h2]
    exact h.2 k q0 h1
/-- the world of the reference -/
def mB (D : va_G) (ad : Nat → Nat) (cI : ClassId) (u : MS) (U : State) : Prop := va_P D vwCl (wM ad cI u) U.heap ∧ va_K D vwCl [(cI, .int)] U
/-- a contract of a method of the reference that answers an int (or a boolean) and makes nothing -/
def mI (l : Launch) (y : MethodName) (w : List Cond) (rm : Room) (D : va_G) (ad : Nat → Nat) (cI : ClassId) (A : Nat → Prop) (av : List Value) (u : MS) (post : Int32 → MS → Prop) : Prop :=
  Met l y w rm (va_Pc av (fun U => mB D ad cI u U)) (va_Qi post (mB D ad cI) A) 0 0 A
def pokeF (u : MS) (k : Nat) (i v : Int) : MS := (va_up u.1 k (upd (u.1 k) i.toNat (iI v)), u.2)
def pokeX (u : MS) (j : Nat) (v : Int) : MS := (u.1, va_up u.2 j (iI v))
theorem pokeF_1 (u : MS) (k : Nat) {i v : Int} (k' : Nat) {i' : Int} (h : 0 ≤ i) (h' : 0 ≤ i') : (pokeF u k i v).1 k' i'.toNat = if k' = k ∧ i' = i then iI v else u.1 k' i'.toNat := by
  unfold pokeF va_up upd
  by_cases hk : k' = k
  · subst hk
    by_cases hi : i' = i
    · subst hi; simp
    · have : i'.toNat ≠ i.toNat := by omega
      simp [hi, this]
  · simp [hk]
theorem pokeF_2 (u : MS) (k : Nat) (i v : Int) : (pokeF u k i v).2 = u.2 := rfl
theorem pokeX_1 (u : MS) (j : Nat) (v : Int) : (pokeX u j v).1 = u.1 := rfl
theorem pokeX_2 (u : MS) (j : Nat) (v : Int) (j' : Nat) : (pokeX u j v).2 j' = if j' = j then iI v else u.2 j' := rfl
section MRows
variable {p : Program} {l : Launch} {e : Env} {R : Room} {s : State} {m : MethodId} {args : Array Value} {below : List Frame} {meth : Method} {c : Code} {H : Heap} {locs : List Loc} {cells slots : Nat} {Q : State → Prop}
variable {cc : ByteArray} {pc : Nat} {ls : Array Slot} {rest : List Value} {D : va_G} {A : Nat → Prop} {H0 : Heap} {ad : Nat → Nat} {cI : ClassId} {u : MS}
theorem m_ld (hexec : p.tables.exec = Jvm.exec) (hb : c.code = cc) (hK : va_K D vwCl [(cI, .int)] s) (hP : va_P D vwCl (wM ad cI u) H) {k : Nat} (hk : k < 11) {z v : Int} (h0 : 0 ≤ z) (h1 : z < mLen k) (hv : u.1 k z.toNat = iI v) (hdg : decode cc pc = .ok (.iaload, 1))
    (kk : W p l e R s m args below meth c H locs cells slots Q (F0 m (pc + 1) ls (.int (iI v) :: rest))) : W p l e R s m args below meth c H locs cells slots Q (F0 m pc ls (.int (iI z) :: .ref (ad k) :: rest)) := by
  have hl : mLen k ≤ 360 := by unfold mLen; split <;> omega
  refine va_iald hexec hb hK hP (k + 1) 0 (wM_k ad cI u hk) rfl (iI_in h0 h1 (by omega)) hdg ?_
  rw [iI_clamp h0 (by omega), hv]
  exact kk
theorem m_st (hexec : p.tables.exec = Jvm.exec) (hb : c.code = cc) (hK : va_K D vwCl [(cI, .int)] s) (hP : va_P D vwCl (wM ad cI u) H) (hD : va_D A (wM ad cI u)) (hS : va_S A H0 H locs) {k : Nat} (hk : k < 11) {z v : Int} (h0 : 0 ≤ z) (h1 : z < mLen k) (hdg : decode cc pc = .ok (.iastore, 1))
    (kk : ∀ (H1 : Heap) (locs1 : List Loc), va_P D vwCl (wM ad cI (pokeF u k z v)) H1 → va_D A (wM ad cI (pokeF u k z v)) → va_S A H0 H1 locs1 → W p l e R s m args below meth c H1 locs1 cells slots Q (F0 m (pc + 1) ls rest)) : W p l e R s m args below meth c H locs cells slots Q (F0 m pc ls (.int (iI v) :: .int (iI z) :: .ref (ad k) :: rest)) := by
  have hl : mLen k ≤ 360 := by unfold mLen; split <;> omega
  refine va_iast hexec hb hK hP hD hS (k + 1) 0 (wM_k ad cI u hk) rfl (iI_in h0 h1 (by omega)) hdg fun H1 locs1 hP1 hD1 hS1 => ?_
  rw [iI_clamp h0 (by omega), wM_set ad cI u hk] at hP1 hD1
  exact kk H1 locs1 hP1 hD1 hS1
theorem m_get (hexec : p.tables.exec = Jvm.exec) (hb : c.code = cc) {index : Nat} {Ts : List Cond} (hts : ∀ w ∈ Ts, w.before args s = true) (hin : ∀ w ∈ wsX40, w ∈ Ts) (hown : s.vm.findClass RX4 = some m.cls) (hK : va_K D vwCl [(cI, .int)] s) (hP : va_P D vwCl (wM ad cI u) H) (k : Nat) (hk : k < 15) {v : Value} (hv : (mFs ad u.2)[k]? = some v) (hlink : (Cond.fieldLink RX4 index "HoldServerModel" (TX4 k).2.1 (TX4 k).2.2.1).before args s = true) (hr : (TX4 k).1 = "HoldServerModel") (hdg : decode cc pc = .ok (.getfield index, 3))
    (kk : W p l e R s m args below meth c H locs cells slots Q (F0 m (pc + 3) ls (v :: rest))) : W p l e R s m args below meth c H locs cells slots Q (F0 m pc ls (.ref (ad 11) :: rest)) :=
  va_get (C := RX4) (T := TX4) (N := 15) hexec hb hts hin hown hK hP 0 rfl rfl k hk hlink (fun x h => by rw [hr] at h; exact h) hv hdg kk
theorem m_geti (hexec : p.tables.exec = Jvm.exec) (hb : c.code = cc) {index : Nat} {Ts : List Cond} (hts : ∀ w ∈ Ts, w.before args s = true) (hin : ∀ w ∈ wsX40, w ∈ Ts) (hown : s.vm.findClass RX4 = some m.cls) (hK : va_K D vwCl [(cI, .int)] s) (hP : va_P D vwCl (wM ad cI u) H) (k : Nat) (hk : k < 15) {v : Int} (j : Nat) (hv : (mFs ad u.2)[k]? = some (.int (u.2 j))) (hj : u.2 j = iI v) (hlink : (Cond.fieldLink RX4 index "HoldServerModel" (TX4 k).2.1 (TX4 k).2.2.1).before args s = true) (hr : (TX4 k).1 = "HoldServerModel") (hdg : decode cc pc = .ok (.getfield index, 3))
    (kk : W p l e R s m args below meth c H locs cells slots Q (F0 m (pc + 3) ls (.int (iI v) :: rest))) : W p l e R s m args below meth c H locs cells slots Q (F0 m pc ls (.ref (ad 11) :: rest)) :=
  m_get hexec hb hts hin hown hK hP k hk (by rw [hv, hj]) hlink hr hdg kk
theorem m_put (hexec : p.tables.exec = Jvm.exec) (hb : c.code = cc) {index : Nat} {Ts : List Cond} (hts : ∀ w ∈ Ts, w.before args s = true) (hin : ∀ w ∈ wsX40, w ∈ Ts) (hown : s.vm.findClass RX4 = some m.cls) (hK : va_K D vwCl [(cI, .int)] s) (hP : va_P D vwCl (wM ad cI u) H) (hD : va_D A (wM ad cI u)) (hS : va_S A H0 H locs) (j : Nat) (hj : j < 4) {v : Int} (hlink : (Cond.fieldLink RX4 index "HoldServerModel" (TX4 (mXf j)).2.1 "I").before args s = true) (hr : (TX4 (mXf j)).1 = "HoldServerModel") (hdg : decode cc pc = .ok (.putfield index, 3))
    (kk : ∀ (H1 : Heap) (locs1 : List Loc), va_P D vwCl (wM ad cI (pokeX u j v)) H1 → va_D A (wM ad cI (pokeX u j v)) → va_S A H0 H1 locs1 → W p l e R s m args below meth c H1 locs1 cells slots Q (F0 m (pc + 3) ls rest)) : W p l e R s m args below meth c H locs cells slots Q (F0 m pc ls (.int (iI v) :: .ref (ad 11) :: rest)) := by
  have hd : (TX4 (mXf j)).2.2.1 = "I" ∧ (TX4 (mXf j)).2.2.2 = false ∧ mXf j < 15 := by
    match j, hj with
    | 0, _ => exact ⟨rfl, rfl, by decide⟩
    | 1, _ => exact ⟨rfl, rfl, by decide⟩
    | 2, _ => exact ⟨rfl, rfl, by decide⟩
    | 3, _ => exact ⟨rfl, rfl, by decide⟩
  refine va_put (C := RX4) (T := TX4) (N := 15) (ty := .int) hexec hb hts hin tyX4 tyX4_ok nmX4 hown hK hP hD hS 0 rfl rfl (mXf j) hd.2.2 (by rw [hd.1]; exact hlink) (fun x h => by rw [hr] at h; exact h) hd.2.1 (by rw [hd.1]; decide +kernel) rfl rfl hd.2.2 hdg fun H1 locs1 hP1 hD1 hS1 => ?_
  rw [wM_setX ad cI u hj] at hP1 hD1
  exact kk H1 locs1 hP1 hD1 hS1
/-- the entry of a contract: the body is walked to any Q that its ends reach -/
theorem mI_of {y : MethodName} {w w' : List Cond} {rm : Room} {maxL : Nat} {ty : FieldType} {av : List Value} {post : Int32 → MS → Prop} (hy : plainName y.cls = true) (hw : w = Cond.code y cc maxL (some ty) :: w') (hlen : (lg_sl av).length ≤ maxL)
    (body : ∀ (p : Program) (e : Env) (s : State) (m : MethodId) (args : Array Value) (below : List Frame) (meth : Method) (c : Code) (Q : State → Prop), p.tables.exec = Jvm.exec → c.code = cc → c.maxLocals = maxL → s.vm.findClass y.cls = some m.cls → (∀ x ∈ w, x.before args s = true) → va_P D vwCl (wM ad cI u) s.heap → va_K D vwCl [(cI, .int)] s → va_S A s.heap s.heap [] →
      (∀ (v : Int) (u' : MS) (H : Heap) (locs : List Loc) (pc : Nat) (ls : Array Slot), decode cc pc = .ok (.ireturn, 1) → narrow ty (.int (iI v)) = .int (iI v) → va_P D vwCl (wM ad cI u') H → va_S A s.heap H locs → post (iI v) u' → W p l e rm s m args below meth c H locs 0 0 Q (F0 m pc ls [.int (iI v)])) →
      ∀ ls : Array Slot, lv_has ls maxL (lv_args 0 av) → W p l e rm s m args below meth c s.heap [] 0 0 Q (F0 m 0 ls [])) : mI l y w rm D ad cI A av u post := by
  refine Met.ofW (cc := cc) (maxL := maxL) (ret := some ty) hy hw ?_
  intro p e s m args below meth c s₁ B hml hv
  obtain ⟨rfl, hP, hK⟩ := hv
  have hl := lv_entry av (n := maxL) hlen
  rw [lg_entry_eq]
  refine body p e s m av.toArray below meth c _ B.exec B.bytes hml (findClass_of_methodNamed B.named) (atoms_spec (ws := w) B.pre) hP hK va_S.rf ?_ _ hl
  intro v u' H locs pc ls hdg hn hP1 hS1 hp
  exact W.zret B.exec B.bytes B.returns hn (fun t ht hW => ⟨⟨iI v, u', rfl, hp, by show va_P _ _ _ t.heap; rw [ht]; exact hP1, va_K.moved hW.alike hK⟩, hS1.F ht⟩) hS1.2.2 hdg B.notSynchronized
theorem m_blind {av : List Value} : FrameBlind (va_Pc av (fun U => mB D ad cI u U)) := fun a U g mk q => by
  obtain ⟨q0, qP, qK⟩ := q
  exact ⟨q0, qP, va_K.moved (u := U) (U := U.calling g mk a) (Vm.Alike.refl U.vm) qK⟩
theorem m_back {post : Int32 → MS → Prop} {y : MethodName} {a : Array Value} {free : Addr → Prop} {st0 : List Value} (hK : va_K D vwCl [(cI, .int)] s) (hS : va_S A H0 H locs) (hr : va_Run p l e R s m args below meth c H locs cells slots 0 0 (F0 m pc ls st0) rest (va_Qi post (mB D ad cI) A a) A)
    (kk : ∀ (r : Int32) (u' : MS) (H1 : Heap) (locs1 : List Loc), post r u' → va_P D vwCl (wM ad cI u') H1 → va_S A H0 H1 locs1 → W p l e R s m args below meth c H1 locs1 cells slots Q (F0 m (pc + 3) ls (.int r :: rest))) : W p l e R s m args below meth c H locs cells slots Q (F0 m pc ls st0) :=
  va_calli hr hS (fun _ _ h => h) (fun _ h => h) (fun r u' t H1 locs1 ht hvm hp hB _ _ hS1 => kk r u' H1 locs1 hp (by rw [← ht]; exact hB.1) hS1)
theorem m_callv {post : Int32 → MS → Prop} {y : MethodName} {bytes : ByteArray} {maxL nL n index : Nat} {ret : Option FieldType} {ws : List Cond} {rm : Room} {Ts : List Cond} {own : String} {As : List Value} {st0 : List Value} (S : CallFix p m c cc nL s args Ts own) (hM : mI l y ws rm D ad cI A (.ref (ad 11) :: As) u post) (cw : CallW R s args own RX4 index y bytes maxL ret ws rm 0 0 n)
    (hK : va_K D vwCl [(cI, .int)] s) (hP : va_P D vwCl (wM ad cI u) H) (hS : va_S A H0 H locs) (hn : As.length = n) (hsize : ls.size = nL) (hst : st0 = As.reverse ++ .ref (ad 11) :: rest) (hW : (rest.map fun v => v.category).sum ≤ 8) (hf : cells ≤ R.cells ∧ slots ≤ R.slots) (hdg : decode cc pc = .ok (.invokevirtual index, 3))
    (kk : ∀ (r : Int32) (u' : MS) (H1 : Heap) (locs1 : List Loc), post r u' → va_P D vwCl (wM ad cI u') H1 → va_S A H0 H1 locs1 → W p l e R s m args below meth c H1 locs1 cells slots Q (F0 m (pc + 3) ls (.int r :: rest))) : W p l e R s m args below meth c H locs cells slots Q (F0 m pc ls st0) :=
  m_back (y := y) (free := A) hK hS (va_runV (g := F0 m pc ls st0) S hM cw ⟨m_blind, va_recv hK hP (ci := 5) (q0 := 0) rfl rfl, fun U hU hW => ⟨rfl, by show va_P _ _ _ U.heap; rw [hU]; exact hP, va_K.moved hW.alike hK⟩⟩ rfl hn hsize hst (lv_room hW) hdg hf) kk
theorem m_calls {post : Int32 → MS → Prop} {y : MethodName} {bytes : ByteArray} {maxL nL n index : Nat} {ret : Option FieldType} {ws : List Cond} {rm : Room} {Ts : List Cond} {own : String} {As : List Value} {st0 : List Value} (S : CallFix p m c cc nL s args Ts own) (hM : mI l y ws rm D ad cI A As u post) (cw : CallB R s args own index y bytes maxL ret ws rm 0 0 n ∧ (Cond.static y).before args s = true)
    (hK : va_K D vwCl [(cI, .int)] s) (hP : va_P D vwCl (wM ad cI u) H) (hS : va_S A H0 H locs) (hn : As.length = n) (hsize : ls.size = nL) (hst : st0 = As.reverse ++ rest) (hW : (rest.map fun v => v.category).sum ≤ 8) (hf : cells ≤ R.cells ∧ slots ≤ R.slots) (hdg : decode cc pc = .ok (.invokestatic index, 3))
    (kk : ∀ (r : Int32) (u' : MS) (H1 : Heap) (locs1 : List Loc), post r u' → va_P D vwCl (wM ad cI u') H1 → va_S A H0 H1 locs1 → W p l e R s m args below meth c H1 locs1 cells slots Q (F0 m (pc + 3) ls (.int r :: rest))) : W p l e R s m args below meth c H locs cells slots Q (F0 m pc ls st0) :=
  m_back (y := y) (free := A) hK hS (va_runS (g := F0 m pc ls st0) S hM cw ⟨m_blind, fun U hU hW => ⟨rfl, by show va_P _ _ _ U.heap; rw [hU]; exact hP, va_K.moved hW.alike hK⟩⟩ rfl hn hsize hst (lv_room hW) hdg hf) kk
end MRows
end
section
/-! THE STATE AS NUMBERS: S.1 k i by the reference's arrays (0 parent, 1 quota, 2 department, 3 size, 6 kept, 7 holders, 8 used, 9 back, 10 coins), S.1 11 _: 0 directories, 1 files, 2 day; S.2 f: the links of the file f, in their order -/
abbrev HdS : Type := (Nat → Int → Int) × (Int → List Int)
def sset (S : HdS) (k : Nat) (i v : Int) : HdS := (fun k' i' => if k' = k ∧ i' = i then v else S.1 k' i', S.2)
def slks (S : HdS) (f : Int) (ls : List Int) : HdS := (S.1, fun f' => if f' = f then ls else S.2 f')
theorem sset_1 (S : HdS) (k : Nat) (i v : Int) (k' : Nat) (i' : Int) : (sset S k i v).1 k' i' = if k' = k ∧ i' = i then v else S.1 k' i' := rfl
theorem sset_2 (S : HdS) (k : Nat) (i v : Int) : (sset S k i v).2 = S.2 := rfl
theorem slks_1 (S : HdS) (f : Int) (ls : List Int) : (slks S f ls).1 = S.1 := rfl
theorem slks_2 (S : HdS) (f : Int) (ls : List Int) (f' : Int) : (slks S f ls).2 f' = if f' = f then ls else S.2 f' := rfl
def tierS (S : HdS) (f : Int) : Int := if S.2 f = [] then -1 else if S.1 11 2 - S.1 8 f < 30 then 0 else if S.1 11 2 - S.1 8 f < 90 then 1 else 2
def homeS (S : HdS) (f : Int) : Int := (S.2 f).headD (-1)
def wayN (S : HdS) : Nat → Int → List Int
  | 0, _ => []
  | n + 1, d => if d = -1 then [] else d :: wayN S n (S.1 0 d)
def wayS (S : HdS) (d : Int) : List Int := wayN S 13 d
def usgN (S : HdS) (e : Int) : Nat → Int
  | 0 => 0
  | n + 1 => usgN S e n + (if S.2 n ≠ [] ∧ e ∈ wayS S (homeS S n) then S.1 3 n else 0)
def usg (S : HdS) (e : Int) : Int := usgN S e (S.1 11 1).toNat
def growOk (S : HdS) (at_ by_ : Int) : Prop := ∀ e ∈ wayS S at_, S.1 1 e = -1 ∨ usg S e + by_ ≤ S.1 1 e
def canGrow (S : HdS) (p d by_ : Int) : Prop := 0 < S.1 10 p ∧ growOk S d by_
def bilT (S : HdS) (n : Int) : Int := S.1 6 n + (if S.2 n = [] then 0 else (3 - tierS S n) * S.1 3 n)
def bilN (S : HdS) (p : Int) : Nat → Int
  | 0 => 0
  | n + 1 => bilN S p n + (if S.1 2 n = p then bilT S n else 0)
def bil (S : HdS) (p : Int) : Int := (bilN S p (S.1 11 1).toNat + 99) / 100
def payS (S : HdS) (p : Int) : Int := if bil S p < S.1 10 p then bil S p else S.1 10 p
def paidN (S : HdS) : Nat → Int
  | 0 => 0
  | n + 1 => paidN S n + payS S n
/-- departments below j have paid -/
def payN (S : HdS) (j : Int) : HdS := (fun k i => if k = 10 ∧ 0 ≤ i ∧ i < j then S.1 10 i - payS S i else S.1 k i, S.2)
/-- the day is the next one; the files below j that are due are back -/
def dueN (S : HdS) (j : Int) : HdS := (fun k i => if k = 11 ∧ i = 2 then S.1 11 2 + 1 else if k = 8 ∧ 0 ≤ i ∧ i < j ∧ S.1 9 i = S.1 11 2 + 1 then S.1 11 2 + 1 else if k = 9 ∧ 0 ≤ i ∧ i < j ∧ S.1 9 i = S.1 11 2 + 1 then -1 else S.1 k i, S.2)
def dayS (S : HdS) : HdS := dueN (payN S 4) (S.1 11 1)
def passN (S : HdS) : Nat → HdS × Int
  | 0 => (S, 0)
  | n + 1 => (dayS (passN S n).1, (passN S n).2 + paidN (passN S n).1 4)
/-- holders as bits -/
def hOr (h m : Int) : Int := if (h / (2 ^ m.toNat : Int)) % 2 = 1 then h else h + 2 ^ m.toNat
def hClr (h m : Int) : Int := if (h / (2 ^ m.toNat : Int)) % 2 = 1 then h - 2 ^ m.toNat else h
def hCnt (h : Int) : Int := h % 2 + h / 2 % 2 + h / 4 % 2 + h / 8 % 2 + h / 16 % 2
/-- the files below j are released from the matter m -/
def relN (S : HdS) (m j : Int) : HdS := (fun k i => if k = 7 ∧ 0 ≤ i ∧ i < j then hClr (S.1 7 i) m else if k = 6 ∧ 0 ≤ i ∧ i < j ∧ hClr (S.1 7 i) m = 0 then 0 else S.1 k i, S.2)
def dropN (S : HdS) (m : Int) : Nat → Int
  | 0 => 0
  | n + 1 => dropN S m n + (if hClr (S.1 7 n) m = 0 then S.1 6 n else 0)
def wfF (S : HdS) (n f : Int) : Prop := (0 ≤ S.1 2 f ∧ S.1 2 f < 4) ∧ (0 ≤ S.1 3 f ∧ S.1 3 f ≤ 1000) ∧ (0 ≤ S.1 6 f ∧ S.1 6 f ≤ 1000 * n) ∧ (0 ≤ S.1 7 f ∧ S.1 7 f < 32) ∧ (0 ≤ S.1 8 f ∧ S.1 8 f ≤ S.1 11 2) ∧
  (S.1 9 f = -1 ∨ (S.1 11 2 < S.1 9 f ∧ S.1 9 f ≤ S.1 11 2 + 2 ∧ 90 ≤ S.1 11 2 - S.1 8 f ∧ S.2 f ≠ [])) ∧ (S.2 f = [] → S.1 3 f = 0) ∧ (∀ d ∈ S.2 f, 0 ≤ d ∧ d < S.1 11 0) ∧ (S.2 f).Nodup
def wf (S : HdS) (n : Int) : Prop := (0 ≤ n ∧ n ≤ 512) ∧ (1 ≤ S.1 11 0 ∧ S.1 11 0 ≤ 12) ∧ (0 ≤ S.1 11 1 ∧ S.1 11 1 ≤ 30) ∧ (0 ≤ S.1 11 2 ∧ S.1 11 2 ≤ 10000) ∧ S.1 0 0 = -1 ∧ (∀ d, 1 ≤ d → d < S.1 11 0 → 0 ≤ S.1 0 d ∧ S.1 0 d < d) ∧ (∀ d, 0 ≤ d → d < S.1 11 0 → -1 ≤ S.1 1 d ∧ S.1 1 d ≤ 100000) ∧ (∀ p, 0 ≤ p → p < 4 → 0 ≤ S.1 10 p ∧ S.1 10 p ≤ 1000000) ∧ (∀ f, 0 ≤ f → f < S.1 11 1 → wfF S n f)
section Wf
variable {S : HdS} {n : Int}
theorem wf.num (h : wf S n) : 0 ≤ n ∧ n ≤ 512 := h.1
theorem wf.nd (h : wf S n) : 1 ≤ S.1 11 0 ∧ S.1 11 0 ≤ 12 := h.2.1
theorem wf.nf (h : wf S n) : 0 ≤ S.1 11 1 ∧ S.1 11 1 ≤ 30 := h.2.2.1
theorem wf.day (h : wf S n) : 0 ≤ S.1 11 2 ∧ S.1 11 2 ≤ 10000 := h.2.2.2.1
theorem wf.p0 (h : wf S n) : S.1 0 0 = -1 := h.2.2.2.2.1
theorem wf.par (h : wf S n) {d : Int} (h1 : 1 ≤ d) (h2 : d < S.1 11 0) : 0 ≤ S.1 0 d ∧ S.1 0 d < d := h.2.2.2.2.2.1 d h1 h2
theorem wf.par' (h : wf S n) {d : Int} (h1 : 0 ≤ d) (h2 : d < S.1 11 0) : -1 ≤ S.1 0 d ∧ S.1 0 d < d := by
  by_cases h0 : d = 0
  · subst h0; rw [h.p0]; omega
  · have := h.par (by omega) h2; omega
theorem wf.quo (h : wf S n) {d : Int} (h1 : 0 ≤ d) (h2 : d < S.1 11 0) : -1 ≤ S.1 1 d ∧ S.1 1 d ≤ 100000 := h.2.2.2.2.2.2.1 d h1 h2
theorem wf.coi (h : wf S n) {d : Int} (h1 : 0 ≤ d) (h2 : d < 4) : 0 ≤ S.1 10 d ∧ S.1 10 d ≤ 1000000 := h.2.2.2.2.2.2.2.1 d h1 h2
theorem wf.f (h : wf S n) {f : Int} (h1 : 0 ≤ f) (h2 : f < S.1 11 1) : wfF S n f := h.2.2.2.2.2.2.2.2 f h1 h2
theorem wf.dep (h : wf S n) {f : Int} (h1 : 0 ≤ f) (h2 : f < S.1 11 1) : 0 ≤ S.1 2 f ∧ S.1 2 f < 4 := (h.f h1 h2).1
theorem wf.siz (h : wf S n) {f : Int} (h1 : 0 ≤ f) (h2 : f < S.1 11 1) : 0 ≤ S.1 3 f ∧ S.1 3 f ≤ 1000 := (h.f h1 h2).2.1
theorem wf.kep (h : wf S n) {f : Int} (h1 : 0 ≤ f) (h2 : f < S.1 11 1) : 0 ≤ S.1 6 f ∧ S.1 6 f ≤ 1000 * n := (h.f h1 h2).2.2.1
theorem wf.hol (h : wf S n) {f : Int} (h1 : 0 ≤ f) (h2 : f < S.1 11 1) : 0 ≤ S.1 7 f ∧ S.1 7 f < 32 := (h.f h1 h2).2.2.2.1
theorem wf.usd (h : wf S n) {f : Int} (h1 : 0 ≤ f) (h2 : f < S.1 11 1) : 0 ≤ S.1 8 f ∧ S.1 8 f ≤ S.1 11 2 := (h.f h1 h2).2.2.2.2.1
theorem wf.bac (h : wf S n) {f : Int} (h1 : 0 ≤ f) (h2 : f < S.1 11 1) : S.1 9 f = -1 ∨ (S.1 11 2 < S.1 9 f ∧ S.1 9 f ≤ S.1 11 2 + 2 ∧ 90 ≤ S.1 11 2 - S.1 8 f ∧ S.2 f ≠ []) := (h.f h1 h2).2.2.2.2.2.1
theorem wf.siz0 (h : wf S n) {f : Int} (h1 : 0 ≤ f) (h2 : f < S.1 11 1) (h3 : S.2 f = []) : S.1 3 f = 0 := (h.f h1 h2).2.2.2.2.2.2.1 h3
theorem wf.lks (h : wf S n) {f : Int} (h1 : 0 ≤ f) (h2 : f < S.1 11 1) : ∀ d ∈ S.2 f, 0 ≤ d ∧ d < S.1 11 0 := (h.f h1 h2).2.2.2.2.2.2.2.1
theorem wf.nod (h : wf S n) {f : Int} (h1 : 0 ≤ f) (h2 : f < S.1 11 1) : (S.2 f).Nodup := (h.f h1 h2).2.2.2.2.2.2.2.2
/-- a list of numbers below n, each once, is no longer than n -/
theorem nod_len : ∀ (n : Nat) (l : List Int), l.Nodup → (∀ d ∈ l, 0 ≤ d ∧ d < n) → l.length ≤ n := by
  intro n
  induction n with
  | zero =>
    intro l _ hb
    cases l with
    | nil => exact Nat.le_refl _
    | cons a l => have := hb a List.mem_cons_self; omega
  | succ n ih =>
    intro l hn hb
    by_cases hm : (n : Int) ∈ l
    · have h1 : (l.erase (n : Int)).length = l.length - 1 := List.length_erase_of_mem hm
      have h2 : (l.erase (n : Int)).length ≤ n := ih _ (hn.erase _) (fun d hd => by
        have h3 := hb d (List.mem_of_mem_erase hd)
        have h4 : d ≠ (n : Int) := fun e => by
          subst e
          exact hn.not_mem_erase hd
        omega)
      omega
    · have h2 := ih l hn (fun d hd => by
        have h3 := hb d hd
        have h4 : d ≠ (n : Int) := fun e => hm (e ▸ hd)
        omega)
      omega
theorem wf.len (h : wf S n) {f : Int} (h1 : 0 ≤ f) (h2 : f < S.1 11 1) : ((S.2 f).length : Int) ≤ S.1 11 0 := by
  have h3 := nod_len (S.1 11 0).toNat (S.2 f) (h.nod h1 h2) (fun d hd => by have := h.lks h1 h2 d hd; omega)
  have := h.nd
  omega
theorem wf.home (h : wf S n) {f : Int} (h1 : 0 ≤ f) (h2 : f < S.1 11 1) (h3 : S.2 f ≠ []) : 0 ≤ homeS S f ∧ homeS S f < S.1 11 0 := by
  unfold homeS
  have hl := h.lks h1 h2
  cases hs : S.2 f with
  | nil => exact absurd hs h3
  | cons a l => rw [hs] at hl; exact hl a List.mem_cons_self
theorem home_nil {f : Int} (h : S.2 f = []) : homeS S f = -1 := by unfold homeS; rw [h]; rfl
/-- ways -/
theorem wayN_neg (k : Nat) : wayN S k (-1) = [] := by cases k <;> simp [wayN]
theorem wayN_st (h : wf S n) : ∀ (a b : Nat) (d : Int), -1 ≤ d → d < S.1 11 0 → d < a → d < b → wayN S a d = wayN S b d := by
  intro a
  induction a with
  | zero => intro b d h1 h2 h3 h4; rw [show d = -1 by omega, wayN_neg, wayN_neg]
  | succ a ih =>
    intro b d h1 h2 h3 h4
    by_cases hd : d = -1
    · rw [hd, wayN_neg, wayN_neg]
    · cases b with
      | zero => omega
      | succ b =>
        simp only [wayN, if_neg hd]
        have hp := h.par' (d := d) (by omega) h2
        rw [ih b (S.1 0 d) hp.1 (by omega) (by omega) (by omega)]
theorem wayS_neg : wayS S (-1) = [] := wayN_neg 13
theorem wayS_step (h : wf S n) {d : Int} (h1 : 0 ≤ d) (h2 : d < S.1 11 0) : wayS S d = d :: wayS S (S.1 0 d) := by
  have hnd := h.nd
  have hp := h.par' h1 h2
  unfold wayS
  show (if d = -1 then [] else d :: wayN S 12 (S.1 0 d)) = _
  rw [if_neg (by omega), wayN_st h 12 13 (S.1 0 d) hp.1 (by omega) (by omega) (by omega)]
theorem wayS_in (h : wf S n) : ∀ (k : Nat) (d : Int), -1 ≤ d → d < k → d < S.1 11 0 → ∀ e ∈ wayS S d, 0 ≤ e ∧ e < S.1 11 0 := by
  intro k
  induction k with
  | zero => intro d h1 h2 h3 e he; rw [show d = -1 by omega, wayS_neg] at he; cases he
  | succ k ih =>
    intro d h1 h2 h3 e he
    by_cases hd : d = -1
    · rw [hd, wayS_neg] at he; cases he
    · rw [wayS_step h (by omega) h3] at he
      have hp := h.par' (d := d) (by omega) h3
      rcases List.mem_cons.mp he with rfl | he
      · omega
      · exact ih _ hp.1 (by omega) (by omega) e he
theorem wf.wayB (h : wf S n) {d : Int} (h1 : -1 ≤ d) (h3 : d < S.1 11 0) : ∀ e ∈ wayS S d, 0 ≤ e ∧ e < S.1 11 0 := wayS_in h (d.toNat + 1) d h1 (by omega) h3
theorem growOk_step (h : wf S n) {d by_ : Int} (h1 : 0 ≤ d) (h2 : d < S.1 11 0) : growOk S d by_ ↔ (S.1 1 d = -1 ∨ usg S d + by_ ≤ S.1 1 d) ∧ growOk S (S.1 0 d) by_ := by
  unfold growOk
  rw [wayS_step h h1 h2, List.forall_mem_cons]
/-- bounds of the sums -/
theorem usgN_in (h : wf S n) (e : Int) : ∀ k : Nat, (k : Int) ≤ S.1 11 1 → 0 ≤ usgN S e k ∧ usgN S e k ≤ 1000 * k := by
  intro k
  induction k with
  | zero => intro _; simp [usgN]
  | succ k ih =>
    intro hk
    have h1 := ih (by omega)
    have h2 := h.siz (f := (k : Int)) (by omega) (by omega)
    unfold usgN
    split <;> omega
theorem usg_in (h : wf S n) (e : Int) : 0 ≤ usg S e ∧ usg S e ≤ 30000 := by
  have h1 := h.nf
  have h2 := usgN_in h e (S.1 11 1).toNat (by omega)
  unfold usg
  omega
theorem tier_in (f : Int) : -1 ≤ tierS S f ∧ tierS S f ≤ 2 := by unfold tierS; split; omega; split; omega; split <;> omega
theorem tier_gone {f : Int} (h : S.2 f = []) : tierS S f = -1 := by unfold tierS; rw [if_pos h]
theorem tier_here {f : Int} (h : S.2 f ≠ []) : 0 ≤ tierS S f := by unfold tierS; rw [if_neg h]; split; omega; split <;> omega
theorem bilT_in (h : wf S n) {f : Int} (h1 : 0 ≤ f) (h2 : f < S.1 11 1) : 0 ≤ bilT S f ∧ bilT S f ≤ 515000 := by
  have a := h.kep h1 h2
  have b := h.siz h1 h2
  have c := h.num
  unfold bilT
  split
  · omega
  · next hx =>
    have d := tier_in (S := S) f
    have e := tier_here hx
    have : tierS S f = 0 ∨ tierS S f = 1 ∨ tierS S f = 2 := by omega
    rcases this with q | q | q <;> rw [q] <;> omega
theorem bilN_in (h : wf S n) (p : Int) : ∀ k : Nat, (k : Int) ≤ S.1 11 1 → 0 ≤ bilN S p k ∧ bilN S p k ≤ 515000 * k := by
  intro k
  induction k with
  | zero => intro _; simp [bilN]
  | succ k ih =>
    intro hk
    have h1 := ih (by omega)
    have h2 := bilT_in h (f := (k : Int)) (by omega) (by omega)
    unfold bilN
    split <;> omega
theorem bil_in (h : wf S n) (p : Int) : 0 ≤ bil S p ∧ bil S p ≤ 154501 := by
  have h1 := h.nf
  have h2 := bilN_in h p (S.1 11 1).toNat (by omega)
  unfold bil
  omega
theorem payS_in (h : wf S n) {p : Int} (h1 : 0 ≤ p) (h2 : p < 4) : 0 ≤ payS S p ∧ payS S p ≤ S.1 10 p := by
  have a := bil_in h p
  have b := h.coi h1 h2
  unfold payS
  split <;> omega
end Wf
end
section
/-! the reference's cells hold the state S -/
def RelM (S : HdS) (u : MS) : Prop :=
  u.2 0 = iI (S.1 11 0) ∧ u.2 1 = iI (S.1 11 1) ∧ u.2 2 = iI (S.1 11 2) ∧
  (∀ k : Nat, k < 2 → ∀ i : Int, 0 ≤ i → i < S.1 11 0 → u.1 k i.toNat = iI (S.1 k i)) ∧
  (∀ k : Nat, k = 2 ∨ k = 3 ∨ 6 ≤ k ∧ k < 10 → ∀ i : Int, 0 ≤ i → i < S.1 11 1 → u.1 k i.toNat = iI (S.1 k i)) ∧
  (∀ i : Int, 0 ≤ i → i < 4 → u.1 10 i.toNat = iI (S.1 10 i)) ∧
  (∀ i : Int, 0 ≤ i → i < S.1 11 1 → u.1 5 i.toNat = iI ((S.2 i).length : Int)) ∧
  (∀ i : Int, 0 ≤ i → i < S.1 11 1 → ∀ j : Nat, j < (S.2 i).length → u.1 4 (12 * i + j).toNat = iI ((S.2 i).getD j 0)) ∧
  (∀ i : Int, S.1 11 1 ≤ i → i < 30 → u.1 6 i.toNat = iI 0 ∧ u.1 7 i.toNat = iI 0)
section RM
variable {S : HdS} {u : MS}
theorem RelM.x0 (h : RelM S u) : u.2 0 = iI (S.1 11 0) := h.1
theorem RelM.x1 (h : RelM S u) : u.2 1 = iI (S.1 11 1) := h.2.1
theorem RelM.x2 (h : RelM S u) : u.2 2 = iI (S.1 11 2) := h.2.2.1
theorem RelM.dir (h : RelM S u) {k : Nat} (hk : k < 2) {i : Int} (h0 : 0 ≤ i) (h1 : i < S.1 11 0) : u.1 k i.toNat = iI (S.1 k i) := h.2.2.2.1 k hk i h0 h1
theorem RelM.fil (h : RelM S u) {k : Nat} (hk : k = 2 ∨ k = 3 ∨ 6 ≤ k ∧ k < 10) {i : Int} (h0 : 0 ≤ i) (h1 : i < S.1 11 1) : u.1 k i.toNat = iI (S.1 k i) := h.2.2.2.2.1 k hk i h0 h1
theorem RelM.coi (h : RelM S u) {i : Int} (h0 : 0 ≤ i) (h1 : i < 4) : u.1 10 i.toNat = iI (S.1 10 i) := h.2.2.2.2.2.1 i h0 h1
theorem RelM.len (h : RelM S u) {i : Int} (h0 : 0 ≤ i) (h1 : i < S.1 11 1) : u.1 5 i.toNat = iI ((S.2 i).length : Int) := h.2.2.2.2.2.2.1 i h0 h1
theorem RelM.lnk (h : RelM S u) {i : Int} (h0 : 0 ≤ i) (h1 : i < S.1 11 1) {j : Nat} (h2 : j < (S.2 i).length) : u.1 4 (12 * i + j).toNat = iI ((S.2 i).getD j 0) := h.2.2.2.2.2.2.2.1 i h0 h1 j h2
theorem RelM.new (h : RelM S u) {i : Int} (h0 : S.1 11 1 ≤ i) (h1 : i < 30) : u.1 6 i.toNat = iI 0 ∧ u.1 7 i.toNat = iI 0 := h.2.2.2.2.2.2.2.2 i h0 h1
theorem RelM.thr (h : RelM S u) (v : Int) : RelM S (pokeX u 3 v) := h
end RM
section RM2
variable {S : HdS} {u : MS} {n : Int}
theorem RelM.setdir (h : RelM S u) (hw : wf S n) {k : Nat} (hk : k < 2) {i v : Int} (h0 : 0 ≤ i) (h1 : i < S.1 11 0) : RelM (sset S k i v) (pokeF u k i v) := by
  have hnd := hw.nd
  have hnf := hw.nf
  have e11 : ∀ j : Int, (sset S k i v).1 11 j = S.1 11 j := fun j => by rw [sset_1, if_neg (by omega)]
  unfold RelM
  rw [e11, e11, e11]
  refine ⟨h.x0, h.x1, h.x2, fun k' hk' j h2 h3 => ?_, fun k' hk' j h2 h3 => ?_, fun j h2 h3 => ?_, fun j h2 h3 => ?_, fun j h2 h3 q hq => ?_, fun j h2 h3 => ?_⟩
  · rw [pokeF_1 u k k' h0 h2, sset_1]
    split
    · rfl
    · exact h.dir hk' h2 h3
  · rw [pokeF_1 u k k' h0 h2, sset_1, if_neg (by omega), if_neg (by omega)]
    exact h.fil hk' h2 h3
  · rw [pokeF_1 u k 10 h0 h2, sset_1, if_neg (by omega), if_neg (by omega)]
    exact h.coi h2 h3
  · rw [pokeF_1 u k 5 h0 h2, if_neg (by omega)]
    exact h.len h2 h3
  · rw [pokeF_1 u k 4 h0 (by omega), if_neg (by omega)]
    exact h.lnk h2 h3 hq
  · rw [pokeF_1 u k 6 h0 (by omega), pokeF_1 u k 7 h0 (by omega), if_neg (by omega), if_neg (by omega)]
    exact h.new h2 h3
theorem RelM.setfil (h : RelM S u) (hw : wf S n) {k : Nat} (hk : k = 2 ∨ k = 3 ∨ 6 ≤ k ∧ k < 10) {i v : Int} (h0 : 0 ≤ i) (h1 : i < S.1 11 1) : RelM (sset S k i v) (pokeF u k i v) := by
  have hnd := hw.nd
  have hnf := hw.nf
  have e11 : ∀ j : Int, (sset S k i v).1 11 j = S.1 11 j := fun j => by rw [sset_1, if_neg (by omega)]
  unfold RelM
  rw [e11, e11, e11]
  refine ⟨h.x0, h.x1, h.x2, fun k' hk' j h2 h3 => ?_, fun k' hk' j h2 h3 => ?_, fun j h2 h3 => ?_, fun j h2 h3 => ?_, fun j h2 h3 q hq => ?_, fun j h2 h3 => ?_⟩
  · rw [pokeF_1 u k k' h0 h2, sset_1, if_neg (by omega), if_neg (by omega)]
    exact h.dir hk' h2 h3
  · rw [pokeF_1 u k k' h0 h2, sset_1]
    split
    · rfl
    · exact h.fil hk' h2 h3
  · rw [pokeF_1 u k 10 h0 h2, sset_1, if_neg (by omega), if_neg (by omega)]
    exact h.coi h2 h3
  · rw [pokeF_1 u k 5 h0 h2, if_neg (by omega)]
    exact h.len h2 h3
  · rw [pokeF_1 u k 4 h0 (by omega), if_neg (by omega)]
    exact h.lnk h2 h3 hq
  · rw [pokeF_1 u k 6 h0 (by omega), pokeF_1 u k 7 h0 (by omega), if_neg (by omega), if_neg (by omega)]
    exact h.new h2 h3
theorem RelM.setcoi (h : RelM S u) (hw : wf S n) {i v : Int} (h0 : 0 ≤ i) : RelM (sset S 10 i v) (pokeF u 10 i v) := by
  have hnd := hw.nd
  have hnf := hw.nf
  have e11 : ∀ j : Int, (sset S 10 i v).1 11 j = S.1 11 j := fun j => by rw [sset_1, if_neg (by omega)]
  unfold RelM
  rw [e11, e11, e11]
  refine ⟨h.x0, h.x1, h.x2, fun k' hk' j h2 h3 => ?_, fun k' hk' j h2 h3 => ?_, fun j h2 h3 => ?_, fun j h2 h3 => ?_, fun j h2 h3 q hq => ?_, fun j h2 h3 => ?_⟩
  · rw [pokeF_1 u 10 k' h0 h2, sset_1, if_neg (by omega), if_neg (by omega)]
    exact h.dir hk' h2 h3
  · rw [pokeF_1 u 10 k' h0 h2, sset_1, if_neg (by omega), if_neg (by omega)]
    exact h.fil hk' h2 h3
  · rw [pokeF_1 u 10 10 h0 h2, sset_1]
    split
    · rfl
    · exact h.coi h2 h3
  · rw [pokeF_1 u 10 5 h0 h2, if_neg (by omega)]
    exact h.len h2 h3
  · rw [pokeF_1 u 10 4 h0 (by omega), if_neg (by omega)]
    exact h.lnk h2 h3 hq
  · rw [pokeF_1 u 10 6 h0 (by omega), pokeF_1 u 10 7 h0 (by omega), if_neg (by omega), if_neg (by omega)]
    exact h.new h2 h3
theorem RelM.setday (h : RelM S u) {v : Int} : RelM (sset S 11 2 v) (pokeX u 2 v) := by
  have e0 : (sset S 11 2 v).1 11 0 = S.1 11 0 := by rw [sset_1, if_neg (by omega)]
  have e1 : (sset S 11 2 v).1 11 1 = S.1 11 1 := by rw [sset_1, if_neg (by omega)]
  have e2 : (sset S 11 2 v).1 11 2 = v := by rw [sset_1, if_pos ⟨rfl, rfl⟩]
  have ek : ∀ (k : Nat) (j : Int), k < 11 → (sset S 11 2 v).1 k j = S.1 k j := fun k j hk => by rw [sset_1, if_neg (by omega)]
  unfold RelM
  rw [e0, e1, e2]
  refine ⟨h.x0, h.x1, rfl, fun k' hk' j h2 h3 => ?_, fun k' hk' j h2 h3 => ?_, fun j h2 h3 => ?_, fun j h2 h3 => h.len h2 h3, fun j h2 h3 q hq => h.lnk h2 h3 hq, fun j h2 h3 => h.new h2 h3⟩
  · rw [ek k' j (by omega)]; exact h.dir hk' h2 h3
  · rw [ek k' j (by omega)]; exact h.fil hk' h2 h3
  · rw [ek 10 j (by omega)]; exact h.coi h2 h3
end RM2
end
section
/-! WHAT EACH CALL ANSWERS, of the state S: (which exception: 0 for none; the answer; the state then) -/
noncomputable def iteC {α : Type} (P : Prop) (a b : α) : α := @ite α P (Classical.propDecidable P) a b
theorem iteC_pos {α : Type} {P : Prop} {a b : α} (h : P) : iteC P a b = a := @if_pos P (Classical.propDecidable P) h α a b
theorem iteC_neg {α : Type} {P : Prop} {a b : α} (h : ¬ P) : iteC P a b = b := @if_neg P (Classical.propDecidable P) h α a b
abbrev SR : Type := Int × Int × HdS
def s_addDir (S : HdS) (p q : Int) : HdS := sset (sset (sset S 0 (S.1 11 0) p) 1 (S.1 11 0) q) 11 0 (S.1 11 0 + 1)
noncomputable def sp_addDirectory (S : HdS) (p q : Int) : SR := iteC (¬ (0 ≤ p ∧ p < S.1 11 0)) (1, 0, S) (iteC (¬ (-1 ≤ q ∧ q ≤ 100000)) (2, 0, S) (iteC (S.1 11 0 = 12) (3, 0, S) (0, S.1 11 0, s_addDir S p q)))
noncomputable def sp_setQuota (S : HdS) (d q : Int) : SR := iteC (¬ (0 ≤ d ∧ d < S.1 11 0)) (1, 0, S) (iteC (¬ (-1 ≤ q ∧ q ≤ 100000)) (2, 0, S) (0, S.1 1 d, sset S 1 d q))
def s_make (S : HdS) (p d z : Int) : HdS := slks (sset (sset (sset (sset (sset (sset (sset S 2 (S.1 11 1) p) 3 (S.1 11 1) z) 6 (S.1 11 1) 0) 7 (S.1 11 1) 0) 8 (S.1 11 1) (S.1 11 2)) 9 (S.1 11 1) (-1)) 11 1 (S.1 11 1 + 1)) (S.1 11 1) [d]
noncomputable def sp_make (S : HdS) (p d z : Int) : SR := iteC (¬ (0 ≤ p ∧ p < 4) ∨ ¬ (0 ≤ d ∧ d < S.1 11 0)) (1, 0, S) (iteC (¬ (1 ≤ z ∧ z ≤ 1000)) (2, 0, S) (iteC (S.1 11 1 = 30 ∨ ¬ canGrow S p d z) (3, 0, S) (0, S.1 11 1, s_make S p d z)))
noncomputable def sp_link (S : HdS) (f d : Int) : SR := iteC (¬ (0 ≤ f ∧ f < S.1 11 1) ∨ ¬ (0 ≤ d ∧ d < S.1 11 0)) (1, 0, S) (iteC (S.2 f = [] ∨ d ∈ S.2 f) (2, 0, S) (0, ((S.2 f).length : Int) + 1, slks S f (S.2 f ++ [d])))
def keepT (S : HdS) (f : Int) : Int := S.1 6 f + (if S.1 7 f = 0 then 0 else S.1 3 f)
def s_unlink (S : HdS) (f d : Int) : HdS := if (S.2 f).erase d = [] then sset (sset (sset (slks S f []) 6 f (keepT S f)) 3 f 0) 9 f (-1) else slks S f ((S.2 f).erase d)
noncomputable def sp_unlink (S : HdS) (f d : Int) : SR := iteC (¬ (0 ≤ f ∧ f < S.1 11 1) ∨ ¬ (0 ≤ d ∧ d < S.1 11 0)) (1, 0, S) (iteC (d ∉ S.2 f) (2, 0, S) (0, ((S.2 f).length : Int) - 1, s_unlink S f d))
def s_write (S : HdS) (f z : Int) : HdS := sset (sset (sset S 6 f (keepT S f)) 3 f z) 8 f (S.1 11 2)
noncomputable def sp_write (S : HdS) (f z : Int) : SR := iteC (¬ (0 ≤ f ∧ f < S.1 11 1)) (1, 0, S) (iteC (¬ (1 ≤ z ∧ z ≤ 1000)) (2, 0, S) (iteC (S.2 f = [] ∨ tierS S f = 2) (3, 0, S) (iteC (S.1 3 f < z ∧ ¬ canGrow S (S.1 2 f) (homeS S f) (z - S.1 3 f)) (3, 0, S) (0, keepT S f, s_write S f z))))
def priceS (S : HdS) (f : Int) : Int := (S.1 3 f + 9) / 10
def s_bring (S : HdS) (f : Int) : HdS := sset (sset S 10 (S.1 2 f) (S.1 10 (S.1 2 f) - priceS S f)) 9 f (S.1 11 2 + 2)
noncomputable def sp_read (S : HdS) (f : Int) : SR := iteC (¬ (0 ≤ f ∧ f < S.1 11 1)) (1, 0, S) (iteC (S.2 f = []) (2, 0, S) (iteC (tierS S f < 2) (0, 0, sset S 8 f (S.1 11 2)) (iteC (S.1 9 f = -1) (iteC (S.1 10 (S.1 2 f) < priceS S f) (2, 0, S) (0, 2, s_bring S f)) (0, S.1 9 f - S.1 11 2, S))))
noncomputable def sp_hold (S : HdS) (m f : Int) : SR := iteC (¬ (0 ≤ m ∧ m ≤ 4) ∨ ¬ (0 ≤ f ∧ f < S.1 11 1)) (1, 0, S) (iteC (S.2 f = []) (2, 0, S) (0, hCnt (hOr (S.1 7 f) m), sset S 7 f (hOr (S.1 7 f) m)))
noncomputable def sp_release (S : HdS) (m : Int) : SR := iteC (¬ (0 ≤ m ∧ m ≤ 4)) (1, 0, S) (0, dropN S m (S.1 11 1).toNat, relN S m (S.1 11 1))
noncomputable def sp_fund (S : HdS) (p c : Int) : SR := iteC (¬ (0 ≤ p ∧ p < 4)) (1, 0, S) (iteC (¬ (1 ≤ c ∧ c ≤ 10000)) (2, 0, S) (iteC (1000000 < S.1 10 p + c) (3, 0, S) (0, S.1 10 p + c, sset S 10 p (S.1 10 p + c))))
noncomputable def sp_pass (S : HdS) (k : Int) : SR := iteC (¬ (1 ≤ k ∧ k ≤ 100)) (1, 0, S) (iteC (10000 < S.1 11 2 + k) (2, 0, S) (0, (passN S k.toNat).2, (passN S k.toNat).1))
noncomputable def sp_dir (S : HdS) (d : Int) (r : Int) : SR := iteC (¬ (0 ≤ d ∧ d < S.1 11 0)) (1, 0, S) (0, r, S)
noncomputable def sp_fil (S : HdS) (f : Int) (r : Int) : SR := iteC (¬ (0 ≤ f ∧ f < S.1 11 1)) (1, 0, S) (0, r, S)
noncomputable def sp_dpt (S : HdS) (p : Int) (r : Int) : SR := iteC (¬ (0 ≤ p ∧ p < 4)) (1, 0, S) (0, r, S)
def spM (q : SR) (r : Int32) (u : MS) : Prop := r = iI q.2.1 ∧ u.2 3 = iI q.1 ∧ RelM q.2.2 u
end
