/-! WHAT A THROW NEEDS OF THE START -/
abbrev xISE : String := "java/lang/IllegalStateException"
abbrev xIOB : String := "java/lang/IndexOutOfBoundsException"
abbrev xIAE : String := "java/lang/IllegalArgumentException"
abbrev xNm : List String := ["java/lang/RuntimeException", "java/lang/Exception"]
def xB : List Cond := [.castable xISE xISE, .castable xIOB xIOB, .castable xIAE xIAE, .declares (Bundle.initS "java/lang/RuntimeException"), .declares (Bundle.initS "java/lang/Exception"), .declares (Bundle.initS Bundle.tN)]
def xT : List (Nat × String) := [(49, "there is no room for another directory"), (62, "there is no room for another file"), (98, "the file has a link to the directory"), (108, "the file has no link to the directory"), (119, "the file is gone or has to be brought back"), (160, "the department would have too many coins"), (162, "the day would be above the last one"), (181, "there is no such directory"), (184, "there is no such file"), (186, "there is no such department"), (188, "there is no such matter"), (192, "a number is out of range"), (199, "the file is gone"), (204, "the growth is not possible"), (209, "the department has too few coins to bring it back")]
def xE (A : Nat → Prop) (U : State) (H : Heap) : Prop := vx_Zq Bundle.tN "UNASSIGNED_STACK" Bundle.steD A U H ∧ vx_Zq Bundle.tN "SUPPRESSED_SENTINEL" Bundle.listD A U H ∧ (∀ w ∈ xB, va_Nw w U) ∧ ∀ x ∈ xT, ∃ sa : Nat, vk_R RX3 x.1 x.2 sa U
theorem xB_tab : ∀ w ∈ xB, w.onTables = true := by decide +kernel
theorem xB_warm {s U : State} (hW : s.WarmedH U.vm) (h : ∀ w ∈ xB, va_Nw w s) : ∀ w ∈ xB, va_Nw w U := by
  intro w hw
  have h0 := h w hw
  simp only [xB, List.mem_cons, List.not_mem_nil, or_false] at hw
  rcases hw with rfl | rfl | rfl | rfl | rfl | rfl
  · exact va_Nw.warmC hW h0
  · exact va_Nw.warmC hW h0
  · exact va_Nw.warmC hW h0
  · exact va_Nw.warmD hW h0
  · exact va_Nw.warmD hW h0
  · exact va_Nw.warmD hW h0
theorem xE.call {A : Nat → Prop} {s U : State} {H : Heap} {locs : List Loc} (h : xE A s s.heap) (hS : va_S A s.heap H locs) (hU : U.heap = H) (hW : s.WarmedH U.vm) : xE A U U.heap := by
  obtain ⟨h1, h2, h3, h4⟩ := h
  rw [hU]
  exact ⟨vx_Zq.moved hW.alike (h1.kept hS.2.1), vx_Zq.moved hW.alike (h2.kept hS.2.1), xB_warm hW h3, fun x hx => by obtain ⟨sa, h⟩ := h4 x hx; exact ⟨sa, vk_R.warm hW h⟩⟩
theorem xE.narrow {A B : Nat → Prop} {s : State} {H : Heap} (h : xE A s H) (hAB : ∀ q, B q → A q) : xE B s H := ⟨h.1.narrow hAB, h.2.1.narrow hAB, h.2.2⟩
theorem xE.calling {A : Nat → Prop} {U : State} (h : xE A U U.heap) (g : JFrame) (mk : MethodId) (a : Array Value) : xE A (U.calling g mk a) (U.calling g mk a).heap := by
  obtain ⟨h1, h2, h3, h4⟩ := h
  have hv : U.vm.Alike (U.calling g mk a).vm := Vm.Alike.refl U.vm
  have hv2 : U.vm = (U.calling g mk a).vm := rfl
  exact ⟨vx_Zq.moved hv h1, vx_Zq.moved hv h2, fun w hw => va_Nw.same (xB_tab w hw) hv2 (h3 w hw), fun x hx => by obtain ⟨sa, h⟩ := h4 x hx; exact ⟨sa, vk_R.same hv2.symm h⟩⟩
/-- which exception by which places of the pool -/
def xThrows (cls : String) (ik ic : Nat) : Prop := (cls = xISE ∧ ik = 47 ∧ ic = 51) ∨ (cls = xIOB ∧ ik = 179 ∧ ic = 183) ∨ (cls = xIAE ∧ ik = 190 ∧ ic = 194)
theorem xt_1a : ∀ w ∈ Cond.classLink RX3 47 xISE :: Cond.initialized xISE :: vx_atS RX3 51 xISE xNm, vx_ot w = true := by decide +kernel
theorem xt_1b : ∀ w ∈ (vx_atS RX3 51 xISE xNm).filter (fun w => !goodWord w), w ∈ xB := by decide +kernel
theorem xt_2a : ∀ w ∈ Cond.classLink RX3 179 xIOB :: Cond.initialized xIOB :: vx_atS RX3 183 xIOB xNm, vx_ot w = true := by decide +kernel
theorem xt_2b : ∀ w ∈ (vx_atS RX3 183 xIOB xNm).filter (fun w => !goodWord w), w ∈ xB := by decide +kernel
theorem xt_3a : ∀ w ∈ Cond.classLink RX3 190 xIAE :: Cond.initialized xIAE :: vx_atS RX3 194 xIAE xNm, vx_ot w = true := by decide +kernel
theorem xt_3b : ∀ w ∈ (vx_atS RX3 194 xIAE xNm).filter (fun w => !goodWord w), w ∈ xB := by decide +kernel
theorem xt_fit : Bundle.fit xISE = true ∧ Bundle.fit xIOB = true ∧ Bundle.fit xIAE = true ∧ ∀ n ∈ xNm, Bundle.fit n = true := by decide +kernel
theorem xt_all {cls : String} {ik ic : Nat} (h : xThrows cls ik ic) : Bundle.fit cls = true ∧ (∀ w ∈ Cond.classLink RX3 ik cls :: Cond.initialized cls :: vx_atS RX3 ic cls xNm, vx_ot w = true) ∧ ∀ w ∈ (vx_atS RX3 ic cls xNm).filter (fun w => !goodWord w), w ∈ xB := by
  rcases h with ⟨rfl, rfl, rfl⟩ | ⟨rfl, rfl, rfl⟩ | ⟨rfl, rfl, rfl⟩
  · exact ⟨xt_fit.1, xt_1a, xt_1b⟩
  · exact ⟨xt_fit.2.1, xt_2a, xt_2b⟩
  · exact ⟨xt_fit.2.2.1, xt_3a, xt_3b⟩
/-! the contracts of the system's own methods: by the world of its cells -/
def cPre (D : va_G) (cO : ClassId) (dz mi : Nat) (A : Nat → Prop) (w : CW) (U : State) : Prop := (∀ q, U.heap.size ≤ q → A q) ∧ cH D cO dz A w U.heap ∧ aE D cO dz mi A U U.heap ∧ xE A U U.heap
def cBh (D : va_G) (cO : ClassId) (dz : Nat) (A : Nat → Prop) (w : CW) (t : State) : Prop := cH D cO dz A w t.heap
def cXh (D : va_G) (cO : ClassId) (dz : Nat) (A : Nat → Prop) (w : CW) (pX : String → Prop) : String → State → State → Prop := vx_X (fun u : CW => u = w) (fun E u t => pX E ∧ cBh D cO dz A u t) A
def cI (l : Launch) (y : MethodName) (wl : List Cond) (rm : Room) (D : va_G) (cO : ClassId) (dz mi : Nat) (A : Nat → Prop) (av : List Value) (w : CW) (post : Int32 → CW → Prop) (mc ms : Nat) : Prop :=
  Met l y wl rm (va_Pc av (cPre D cO dz mi A w)) (va_Qi post (cBh D cO dz A) A) mc ms A
def cV (l : Launch) (y : MethodName) (wl : List Cond) (rm : Room) (D : va_G) (cO : ClassId) (dz mi : Nat) (A : Nat → Prop) (av : List Value) (w : CW) (post : CW → Prop) (mc ms : Nat) : Prop :=
  Met l y wl rm (va_Pc av (cPre D cO dz mi A w)) (va_Qv post (cBh D cO dz A) A) mc ms A
def cQ (l : Launch) (y : MethodName) (wl : List Cond) (rm : Room) (D : va_G) (cO : ClassId) (dz mi : Nat) (A : Nat → Prop) (av : List Value) (w : CW) (post : Option Nat → CW → Prop) (mc ms : Nat) : Prop :=
  Met l y wl rm (va_Pc av (cPre D cO dz mi A w)) (va_Qq post (cBh D cO dz A) A) mc ms A
def cIX (l : Launch) (y : MethodName) (wl : List Cond) (rm : Room) (D : va_G) (cO : ClassId) (dz mi : Nat) (A : Nat → Prop) (av : List Value) (w : CW) (post : Int32 → CW → Prop) (pX : String → Prop) (mc ms : Nat) : Prop :=
  vx_Met l y wl rm (va_Pc av (cPre D cO dz mi A w)) (va_Qi post (cBh D cO dz A) A) (cXh D cO dz A w pX) mc ms A
def cVX (l : Launch) (y : MethodName) (wl : List Cond) (rm : Room) (D : va_G) (cO : ClassId) (dz mi : Nat) (A : Nat → Prop) (av : List Value) (w : CW) (post : CW → Prop) (pX : String → Prop) (mc ms : Nat) : Prop :=
  vx_Met l y wl rm (va_Pc av (cPre D cO dz mi A w)) (va_Qv post (cBh D cO dz A) A) (cXh D cO dz A w pX) mc ms A
def cQX (l : Launch) (y : MethodName) (wl : List Cond) (rm : Room) (D : va_G) (cO : ClassId) (dz mi : Nat) (A : Nat → Prop) (av : List Value) (w : CW) (post : Option Nat → CW → Prop) (pX : String → Prop) (mc ms : Nat) : Prop :=
  vx_Met l y wl rm (va_Pc av (cPre D cO dz mi A w)) (va_Qq post (cBh D cO dz A) A) (cXh D cO dz A w pX) mc ms A
theorem c_blind {D : va_G} {cO : ClassId} {dz mi : Nat} {A : Nat → Prop} {av : List Value} {w : CW} : FrameBlind (va_Pc av (cPre D cO dz mi A w)) := fun a U g mk q => ⟨q.1, q.2.1, q.2.2.1, q.2.2.2.1.calling g mk a, q.2.2.2.2.calling g mk a⟩
theorem cH.kept {D : va_G} {cO : ClassId} {dz : Nat} {A : Nat → Prop} {w : CW} {H H1 : Heap} (h : cH D cO dz A w H) (hq : ∀ q : Nat, q < H.size → H1[q]? = H[q]?) : cH D cO dz A w H1 := by
  obtain ⟨ws, h1, h2, h3⟩ := h
  exact ⟨ws, h1.kept fun k q hk => hq q.1 (h1 k q hk).lt, h2, h3⟩
theorem hasRoom_up {s : State} {pl : Platform} {r r' : Room} (hf : r.frames ≤ r'.frames) (hl : r.locals ≤ r'.locals) (hc : r.cells ≤ r'.cells) (hs : r.slots ≤ r'.slots) (h : s.hasRoom pl r' = true) : s.hasRoom pl r = true := by
  simp only [State.hasRoom, Bool.and_eq_true, decide_eq_true_eq] at h ⊢
  obtain ⟨⟨⟨⟨y, a, b, c, d, e⟩, f⟩, g⟩, i⟩ := h
  exact ⟨⟨⟨⟨by omega, by omega, by omega, by omega, by omega, e⟩, by omega⟩, by omega⟩, i⟩
theorem met_room {l : Launch} {y : MethodName} {wl : List Cond} {rm rm' : Room} {Pc : Array Value → State → Prop} {Qc : Array Value → State → Outcome → State → Prop} {mc ms mc' ms' : Nat} {free : Addr → Prop} (h : Met l y wl rm Pc Qc mc ms free) (hf : rm.frames ≤ rm'.frames) (hl : rm.locals ≤ rm'.locals) (hc : rm.cells ≤ rm'.cells) (hs : rm.slots ≤ rm'.slots) (h1 : mc ≤ mc') (h2 : ms ≤ ms') : Met l y wl rm' Pc Qc mc' ms' free := by
  intro p e ha hcs hk s m args below hfr happ hP hK
  obtain ⟨a1, a2, a3, a4, a5, a6, a7, a8⟩ := (Spec.appliesLoose_iff hfr).mp happ
  obtain ⟨n, o, k1, k2, k3, k4, L, ⟨k5, k6, k7⟩, k8⟩ := h p e ha hcs hk s m args below hfr ((Spec.appliesLoose_iff hfr).mpr ⟨a1, a2, a3, a4, a5, a6, hasRoom_up hf hl hc hs a7, a8⟩) hP hK
  exact ⟨n, o, k1, k2, k3, k4, L, ⟨k5, k6, k7.mono h1 h2⟩, k8⟩
section CRows
variable {p : Program} {l : Launch} {e : Env} {R : Room} {s : State} {m : MethodId} {args : Array Value} {below : List Frame} {meth : Method} {c : Code} {H : Heap} {locs : List Loc} {cells slots : Nat} {Q : State → Prop}
variable {cc : ByteArray} {pc : Nat} {ls : Array Slot} {rest st0 : List Value} {D : va_G} {cO : ClassId} {dz mi mc ms : Nat} {A : Nat → Prop} {w : CW} {a : Array Value}
theorem c_preV {b k : Nat} {r : vw_C} {As : List Value} (hA : ∀ q, s.heap.size ≤ q → A q) (hE : aE D cO dz mi A s s.heap) (hX : xE A s s.heap) (hC : cH D cO dz A w H) (hS : va_S A s.heap H locs) (hk : w.1 b = k) (h1 : 1 ≤ k) (h4 : k ≤ 4) (hc : vwCl[k]? = some r) : PreV s H r.1 b (va_Pc (.ref b :: As) (cPre D cO dz mi A w)) As := by
  subst hk
  obtain ⟨ws, hP, hD, hR⟩ := hC
  obtain ⟨j, hj⟩ := hR.2.2.1 b h1 h4
  exact ⟨c_blind, va_recv hE.1 hP hc hj, fun U hU hW => ⟨rfl, fun q hq => hA q (by rw [hU] at hq; exact Nat.le_trans hS.1 hq), ⟨ws, by rw [hU]; exact hP, hD, hR⟩, hE.call hS hU hW, hX.call hS hU hW⟩⟩
theorem c_preL {b : Nat} {As : List Value} (hA : ∀ q, s.heap.size ≤ q → A q) (hE : aE D cO dz mi A s s.heap) (hX : xE A s s.heap) (hC : cH D cO dz A w H) (hS : va_S A s.heap H locs) (hk : w.1 b = 5) : PreV s H RJx4a65c b (va_Pc (.ref b :: As) (cPre D cO dz mi A w)) As := by
  obtain ⟨ws, hP, hD, hR⟩ := hC
  obtain ⟨ed, hL, -⟩ := hR.2.2.2
  obtain ⟨j, mo, hj, -⟩ := hL b hk
  exact ⟨c_blind, va_recv hE.1 hP (ci := 0) (q := (RJx4a65c, TJx4a65c, 3)) rfl hj, fun U hU hW => ⟨rfl, fun q hq => hA q (by rw [hU] at hq; exact Nat.le_trans hS.1 hq), ⟨ws, by rw [hU]; exact hP, hD, hR⟩, hE.call hS hU hW, hX.call hS hU hW⟩⟩
theorem c_preS {As : List Value} (hA : ∀ q, s.heap.size ≤ q → A q) (hE : aE D cO dz mi A s s.heap) (hX : xE A s s.heap) (hC : cH D cO dz A w H) (hS : va_S A s.heap H locs) : PreS s H (va_Pc As (cPre D cO dz mi A w)) As :=
  ⟨c_blind, fun U hU hW => ⟨rfl, fun q hq => hA q (by rw [hU] at hq; exact Nat.le_trans hS.1 hq), by rw [hU]; exact hC, hE.call hS hU hW, hX.call hS hU hW⟩⟩
theorem c_callI {post : Int32 → CW → Prop} (hS : va_S A s.heap H locs) (hr : va_Run p l e R s m args below meth c H locs cells slots mc ms (F0 m pc ls st0) rest (va_Qi post (cBh D cO dz A) A a) A)
    (kk : ∀ (r : Int32) (w' : CW) (H1 : Heap) (locs1 : List Loc), post r w' → cH D cO dz A w' H1 → va_S A s.heap H1 locs1 → W p l e R s m args below meth c H1 locs1 (cells + mc) (slots + ms) Q (F0 m (pc + 3) ls (.int r :: rest))) : W p l e R s m args below meth c H locs cells slots Q (F0 m pc ls st0) :=
  va_calli hr hS (fun _ _ h => h) (fun _ h => h) (fun r u t H1 locs1 ht _ hp hB _ _ hS1 => kk r u H1 locs1 hp (by rw [← ht]; exact hB) hS1)
theorem c_callV {post : CW → Prop} (hS : va_S A s.heap H locs) (hr : va_Run p l e R s m args below meth c H locs cells slots mc ms (F0 m pc ls st0) rest (va_Qv post (cBh D cO dz A) A a) A)
    (kk : ∀ (w' : CW) (H1 : Heap) (locs1 : List Loc), post w' → cH D cO dz A w' H1 → va_S A s.heap H1 locs1 → W p l e R s m args below meth c H1 locs1 (cells + mc) (slots + ms) Q (F0 m (pc + 3) ls rest)) : W p l e R s m args below meth c H locs cells slots Q (F0 m pc ls st0) :=
  va_callv hr hS (fun _ _ h => h) (fun _ h => h) (fun u t H1 locs1 ht _ hp hB _ _ hS1 => kk u H1 locs1 hp (by rw [← ht]; exact hB) hS1)
theorem c_callQ {post : Option Nat → CW → Prop} (hS : va_S A s.heap H locs) (hr : va_Run p l e R s m args below meth c H locs cells slots mc ms (F0 m pc ls st0) rest (va_Qq post (cBh D cO dz A) A a) A)
    (kk : ∀ (r : Option Nat) (w' : CW) (H1 : Heap) (locs1 : List Loc), post r w' → cH D cO dz A w' H1 → va_S A s.heap H1 locs1 → W p l e R s m args below meth c H1 locs1 (cells + mc) (slots + ms) Q (F0 m (pc + 3) ls (va_rf r :: rest))) : W p l e R s m args below meth c H locs cells slots Q (F0 m pc ls st0) :=
  va_callq hr hS (fun _ _ h => h) (fun _ h => h) (fun r u t H1 locs1 ht _ hp hB _ _ hS1 => kk r u H1 locs1 hp (by rw [← ht]; exact hB) hS1)
variable {Qc : Array Value → State → Outcome → State → Prop}
/-- 'throw new E(text)' in a method of the system, where nothing has changed -/
theorem x_throw (hexec : p.tables.exec = Jvm.exec) (hb : c.code = cc) (hl : l.stackTraces = false) {cls text : String} {ik is ic : Nat} {Ts : List Cond} {pX : String → Prop} (hX : xThrows cls ik ic) (hown : s.vm.findClass RX3 = some m.cls) (hts : ∀ z ∈ Ts, z.before args s = true)
    (hT : ∀ z ∈ Cond.classLink RX3 ik cls :: Cond.initialized cls :: (vx_atS RX3 ic cls xNm).filter goodWord, z ∈ Ts) (hstr : (is, text) ∈ xT) (hE : xE A s s.heap) (hC : cH D cO dz A w H) (hS : va_S A s.heap H locs) (hQ : Q = vx_MQ below Qc (cXh D cO dz A w pX) args s mc ms A) (hsize : ls.size = c.maxLocals)
    (d0 : decode cc pc = .ok (.new ik, 3)) (d3 : decode cc (pc + 3) = .ok (.dup, 1)) (d4 : decode cc (pc + 4) = .ok (.ldc is, 2)) (d6 : decode cc (pc + 6) = .ok (.invokespecial ic, 3)) (d9 : decode cc (pc + 9) = .ok (.athrow, 1))
    (hout : ∀ x ∈ c.exceptionTable.toList, False) (hf : 6 ≤ R.frames) (hlo : (rest.map fun v => v.category).sum + 82 ≤ R.locals) (hce : cells + 1 ≤ R.cells) (hsl : slots + 6 ≤ R.slots) (hlk : meth.locks = false) (hpx : pX cls) (hmc : cells + 1 ≤ mc) (hms : slots + 6 ≤ ms) :
    W p l e R s m args below meth c H locs cells slots Q (F0 m pc ls rest) := by
  rw [hQ]
  obtain ⟨f1, f2, f3⟩ := xt_all hX
  obtain ⟨sa, hsa⟩ := hE.2.2.2 _ hstr
  refine vx_throwS hexec hb hl (names := xNm) (A := A) hown f1 xt_fit.2.2.2 (hts _ (hT _ List.mem_cons_self)) (hts _ (hT _ (List.mem_cons_of_mem _ List.mem_cons_self))) hsa (vx_hat (fun z hz => hts z (hT z (List.mem_cons_of_mem _ (List.mem_cons_of_mem _ hz)))) f3 (fun z hz => va_Nw.use (xB_tab z hz) (hE.2.2.1 z hz))) f2 hE.1 hE.2.1 hS hsize d0 d3 d4 d6 d9 (fun x hx => (hout x hx).elim) (by show 2 + 3 < _; omega) (by show _ + (13 * (2 + 1) + 43) ≤ _; omega) hce hsl hlk (fun t _ h1 h2 => ⟨w, rfl, ⟨hpx, hC.kept h2⟩, Nat.le_trans hS.1 h1, fun q h3 h4 => by rw [h2 q (Nat.lt_of_lt_of_le h3 hS.1)]; exact hS.2.1 q h3 h4⟩) hS.2.2 hmc hms
/-- the callee's exception goes on, where nothing has changed -/
theorem x_on {pX pY : String → Prop} {mc' ms' : Nat} (hQ : Q = vx_MQ below Qc (cXh D cO dz A w pY) args s mc' ms' A) (hpx : ∀ E, pX E → pY E) (hout : ∀ x ∈ c.exceptionTable.toList, False) (hlk : meth.locks = false) (h1 : cells + mc ≤ mc') (h2 : slots + ms ≤ ms') :
    ∀ (E : String) (ce : Cell) (q9 : Addr) (u : CW) (t : State) (H1 : Heap) (locs1 : List Loc), t.heap = H1 → s.vm.Alike t.vm → u = w → (pX E ∧ cBh D cO dz A u t) → H.size ≤ H1.size → (∀ q : Nat, q < H.size → ¬ A q → H1[q]? = H[q]?) → va_S A s.heap H1 locs1 → H1[q9]? = some ce → ce.vm = .none → s.vm.findClass E = some ce.cls → vx_W p l e R s m args below meth c H1 locs1 (cells + mc) (slots + ms) Q (F0 m pc ls rest) q9 := by
  intro E ce q9 u t H1 locs1 ht _ hu hB _ _ hS1 hce hv hcl
  rw [hQ]
  subst hu
  refine vx_out (fun x hx => (hout x hx).elim) hlk hce hv hcl (fun t2 ht2 _ => ⟨u, rfl, ⟨hpx E hB.1, ?_⟩, hS1.F ht2⟩) hS1.2.2 h1 h2
  have h9 : cH D cO dz A u t.heap := hB.2
  show cH D cO dz A u t2.heap
  rw [ht2, ← ht]
  exact h9
end CRows
