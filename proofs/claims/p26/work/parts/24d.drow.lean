/-! THE LAW'S WORLD: the server's cells, and the row of 30 ints in which it keeps its links -/
abbrev iC (kI : ClassId) (fn : Nat → Int32) : va_E := .inl (kI, 30, .inl fn)
def dFr (A : Nat → Prop) (lk : Nat) : Nat → Prop := fun q => A q ∨ q = lk
def dW (D : va_G) (cO : ClassId) (dz : Nat) (A : Nat → Prop) (kI : ClassId) (lk : Nat) (w : CW) (fn : Nat → Int32) (H : Heap) : Prop := cH D cO dz A w H ∧ va_P D vwCl [(lk, iC kI fn)] H
def DE (D : va_G) (cO : ClassId) (dz mi : Nat) (A : Nat → Prop) (kI : ClassId) (lk : Nat) (s : State) : Prop := (∀ q, s.heap.size ≤ q → q ≠ lk → A q) ∧ aE D cO dz mi (dFr A lk) s s.heap ∧ xE (dFr A lk) s s.heap ∧ ¬ A lk ∧ va_K D vwCl [(kI, .int)] s
def dPre (D : va_G) (cO : ClassId) (dz mi : Nat) (A : Nat → Prop) (kI : ClassId) (lk : Nat) (w : CW) (fn : Nat → Int32) (U : State) : Prop := (∀ q, U.heap.size ≤ q → A q) ∧ dW D cO dz A kI lk w fn U.heap ∧ aE D cO dz mi (dFr A lk) U U.heap ∧ xE (dFr A lk) U U.heap ∧ ¬ A lk ∧ va_K D vwCl [(kI, .int)] U
def dBh (D : va_G) (cO : ClassId) (dz : Nat) (A : Nat → Prop) (kI : ClassId) (lk : Nat) (x : CW × (Nat → Int32)) (t : State) : Prop := dW D cO dz A kI lk x.1 x.2 t.heap
def dI (l : Launch) (y : MethodName) (wl : List Cond) (rm : Room) (D : va_G) (cO : ClassId) (dz mi : Nat) (A : Nat → Prop) (kI : ClassId) (lk : Nat) (w : CW) (fn : Nat → Int32) (av : List Value) (post : CW × (Nat → Int32) → Prop) (mc ms : Nat) : Prop :=
  Met l y wl rm (va_Pc av (dPre D cO dz mi A kI lk w fn)) (va_Qi (fun r x => r = iI 1 ∧ post x) (dBh D cO dz A kI lk) (dFr A lk)) mc ms (dFr A lk)
theorem d_blind {D : va_G} {cO : ClassId} {dz mi : Nat} {A : Nat → Prop} {kI : ClassId} {lk : Nat} {w : CW} {fn : Nat → Int32} {av : List Value} : FrameBlind (va_Pc av (dPre D cO dz mi A kI lk w fn)) := fun a U g mk q => by
  obtain ⟨q0, q1, q2, q3, q4, q5, q6⟩ := q
  exact ⟨q0, q1, q2, q3.calling g mk a, q4.calling g mk a, q5, va_K.moved (u := U) (U := U.calling g mk a) (Vm.Alike.refl U.vm) q6⟩
theorem iC_of {kI : ClassId} {lk : Nat} {fn : Nat → Int32} {k : Nat} {q : Nat × va_E} (h : ([(lk, iC kI fn)] : va_W)[k]? = some q) : k = 0 ∧ q = (lk, iC kI fn) := by
  have hz : k < 1 := (List.getElem?_eq_some_iff.mp h).1
  have hk0 : k = 0 := by omega
  subst hk0
  cases h
  exact ⟨rfl, rfl⟩
theorem iC_kept {D : va_G} {kI : ClassId} {lk : Nat} {fn : Nat → Int32} {A1 : Nat → Prop} {H H1 : Heap} (hO : va_P D vwCl [(lk, iC kI fn)] H) (hk : ∀ q : Nat, q < H.size → ¬ A1 q → H1[q]? = H[q]?) (hlk : ¬ A1 lk) : va_P D vwCl [(lk, iC kI fn)] H1 := hO.kept fun k q hq => by
  obtain ⟨rfl, rfl⟩ := iC_of hq
  exact hk lk (hO 0 _ rfl).lt hlk
section DRows
variable {p : Program} {l : Launch} {e : Env} {R : Room} {s : State} {m : MethodId} {args : Array Value} {below : List Frame} {meth : Method} {c : Code} {H : Heap} {locs : List Loc} {cells slots : Nat} {Q : State → Prop}
variable {cc : ByteArray} {pc : Nat} {ls : Array Slot} {rest st0 : List Value} {D : va_G} {cO : ClassId} {dz mi : Nat} {A : Nat → Prop} {kI : ClassId} {lk a0 : Nat} {w : CW} {fn : Nat → Int32}
theorem h_irem (hexec : p.tables.exec = Jvm.exec) (hb : c.code = cc) {a b : Int} (h0 : 0 ≤ a) (h1 : a ≤ 2147483647) (h2 : 0 < b) (h3 : b ≤ 2147483647) (hdg : decode cc pc = .ok (.irem, 1)) (k : W p l e R s m args below meth c H locs cells slots Q (F0 m (pc + 1) ls (.int (iI (a % b)) :: rest))) : W p l e R s m args below meth c H locs cells slots Q (F0 m pc ls (.int (iI b) :: .int (iI a) :: rest)) := lv_irem hexec hb hdg (by rw [iI_0, iI_eq (by omega) (by omega)]; omega) (by rw [iI_rem h0 h1 h2 h3]; exact k)
theorem dW.lt (h : dW D cO dz A kI lk w fn H) : lk < H.size := (h.2 0 _ rfl).lt
theorem dW.up (hEn : DE D cO dz mi A kI lk s) (h : dW D cO dz A kI lk w fn H) (hS : va_S (dFr A lk) s.heap H locs) : ∀ q, H.size ≤ q → A q := fun q hq => hEn.1 q (Nat.le_trans hS.1 hq) (fun e => by have := h.lt; omega)
theorem d_call {wl : List Cond} {y : MethodName} {rm : Room} {maxL nL index n mc ms : Nat} {ret : Option FieldType} {bytes : ByteArray} {Ts : List Cond} {own : String} {As : List Value} {v : Int} {S' : HdS} (CF : CallFix p m c cc nL s args Ts own) (hM : cI l y wl rm D cO dz mi A (.ref a0 :: As) w (fun r w9 => r = iI v ∧ ST S' w9 a0) mc ms) (cw : CallW R s args own RX3 index y bytes maxL ret wl rm mc ms n)
    (hEn : DE D cO dz mi A kI lk s) (hW : dW D cO dz A kI lk w fn H) (hS : va_S (dFr A lk) s.heap H locs) (hk0 : w.1 a0 = 4) (hn : As.length = n) (hsize : ls.size = nL) (hst : st0 = As.reverse ++ .ref a0 :: rest) (hWr : (rest.map fun v => v.category).sum ≤ 8) (hf : cells + mc ≤ R.cells ∧ slots + ms ≤ R.slots) (hdg : decode cc pc = .ok (.invokevirtual index, 3))
    (kk : ∀ (w1 : CW) (H1 : Heap) (locs1 : List Loc), ST S' w1 a0 → dW D cO dz A kI lk w1 fn H1 → va_S (dFr A lk) s.heap H1 locs1 → W p l e R s m args below meth c H1 locs1 (cells + mc) (slots + ms) Q (F0 m (pc + 3) ls (.int (iI v) :: rest))) : W p l e R s m args below meth c H locs cells slots Q (F0 m pc ls st0) := by
  have hup := dW.up hEn hW hS
  obtain ⟨hA, hE, hX, hlk, hI⟩ := id hEn
  obtain ⟨ws, hP, hD, hR⟩ := id hW.1
  obtain ⟨j, hj⟩ := hR.2.2.1 a0 (by omega) (by omega)
  rw [hk0] at hj
  refine va_calli (A0 := dFr A lk) (A1 := A) (va_runV (g := F0 m pc ls st0) CF hM cw ⟨c_blind, va_recv hE.1 hP (ci := 4) (q := (RX3, TX3, 4)) rfl hj, fun U hU hWm => ⟨rfl, fun q hq => hup q (by rw [← hU]; exact hq), by rw [hU]; exact hW.1, (hE.call hS hU hWm).narrow (fun _ z => Or.inl z), (hX.call hS hU hWm).narrow (fun _ z => Or.inl z)⟩⟩ rfl hn hsize hst (lv_room hWr) hdg hf) hS (fun q _ h => Or.inl h) (fun q h => Or.inl h) (fun r x t H1 locs1 ht _ hp hB _ hk hS1 => ?_)
  obtain ⟨rfl, hST⟩ := hp
  have hC1 : cH D cO dz A x H1 := by rw [← ht]; exact hB
  exact kk x H1 locs1 hST ⟨hC1, iC_kept hW.2 hk hlk⟩ hS1
theorem d_calls {wl : List Cond} {y : MethodName} {rm : Room} {maxL nL index n mc ms : Nat} {ret : Option FieldType} {bytes : ByteArray} {Ts : List Cond} {own : String} {As : List Value} {v : Int} {S' : HdS} (CF : CallFix p m c cc nL s args Ts own) (hM : cI l y wl rm D cO dz mi A As w (fun r w9 => r = iI v ∧ ST S' w9 a0) mc ms) (cw : CallB R s args own index y bytes maxL ret wl rm mc ms n ∧ (Cond.static y).before args s = true)
    (hEn : DE D cO dz mi A kI lk s) (hW : dW D cO dz A kI lk w fn H) (hS : va_S (dFr A lk) s.heap H locs) (hn : As.length = n) (hsize : ls.size = nL) (hst : st0 = As.reverse ++ rest) (hWr : (rest.map fun v => v.category).sum ≤ 8) (hf : cells + mc ≤ R.cells ∧ slots + ms ≤ R.slots) (hdg : decode cc pc = .ok (.invokestatic index, 3))
    (kk : ∀ (w1 : CW) (H1 : Heap) (locs1 : List Loc), ST S' w1 a0 → dW D cO dz A kI lk w1 fn H1 → va_S (dFr A lk) s.heap H1 locs1 → W p l e R s m args below meth c H1 locs1 (cells + mc) (slots + ms) Q (F0 m (pc + 3) ls (.int (iI v) :: rest))) : W p l e R s m args below meth c H locs cells slots Q (F0 m pc ls st0) := by
  have hup := dW.up hEn hW hS
  obtain ⟨hA, hE, hX, hlk, hI⟩ := id hEn
  refine va_calli (A0 := dFr A lk) (A1 := A) (va_runS (g := F0 m pc ls st0) CF hM cw ⟨c_blind, fun U hU hWm => ⟨rfl, fun q hq => hup q (by rw [← hU]; exact hq), by rw [hU]; exact hW.1, (hE.call hS hU hWm).narrow (fun _ z => Or.inl z), (hX.call hS hU hWm).narrow (fun _ z => Or.inl z)⟩⟩ rfl hn hsize hst (lv_room hWr) hdg hf) hS (fun q _ h => Or.inl h) (fun q h => Or.inl h) (fun r x t H1 locs1 ht _ hp hB _ hk hS1 => ?_)
  obtain ⟨rfl, hST⟩ := hp
  have hC1 : cH D cO dz A x H1 := by rw [← ht]; exact hB
  exact kk x H1 locs1 hST ⟨hC1, iC_kept hW.2 hk hlk⟩ hS1
theorem d_ild (hexec : p.tables.exec = Jvm.exec) (hb : c.code = cc) (hEn : DE D cO dz mi A kI lk s) (hW : dW D cO dz A kI lk w fn H) {z : Int} (h0 : 0 ≤ z) (h1 : z < 30) (hdg : decode cc pc = .ok (.iaload, 1))
    (kk : W p l e R s m args below meth c H locs cells slots Q (F0 m (pc + 1) ls (.int (fn z.toNat) :: rest))) : W p l e R s m args below meth c H locs cells slots Q (F0 m pc ls (.int (iI z) :: .ref lk :: rest)) := by
  refine va_iald hexec hb hEn.2.2.2.2 hW.2 0 0 rfl rfl (iI_in h0 (by omega) (by omega)) hdg ?_
  rw [iI_clamp h0 (by omega)]
  exact kk
theorem d_ist (hexec : p.tables.exec = Jvm.exec) (hb : c.code = cc) (hEn : DE D cO dz mi A kI lk s) (hW : dW D cO dz A kI lk w fn H) (hS : va_S (dFr A lk) s.heap H locs) {z : Int} {x : Int32} (h0 : 0 ≤ z) (h1 : z < 30) (hdg : decode cc pc = .ok (.iastore, 1))
    (kk : ∀ (H1 : Heap) (locs1 : List Loc), dW D cO dz A kI lk w (upd fn z.toNat x) H1 → va_S (dFr A lk) s.heap H1 locs1 → W p l e R s m args below meth c H1 locs1 cells slots Q (F0 m (pc + 1) ls rest)) : W p l e R s m args below meth c H locs cells slots Q (F0 m pc ls (.int x :: .int (iI z) :: .ref lk :: rest)) := by
  obtain ⟨hA, hE, hX, hlk, hI⟩ := hEn
  obtain ⟨⟨ws, hP, hD, hR⟩, hO⟩ := hW
  have hP2 : va_P D vwCl (ws ++ [(lk, iC kI fn)]) H := hP.app hO
  have hD2 : va_D (dFr A lk) (ws ++ [(lk, iC kI fn)]) := by
    refine va_D.app (hD.weaken fun k q _ hq => Or.inl hq) ⟨fun i j x y hx hy _ => ?_, fun k q hq => ?_⟩ (fun i j x y hx hy e => ?_)
    · rw [(iC_of hx).1, (iC_of hy).1]
    · rw [(iC_of hq).2]
      exact Or.inr rfl
    · rw [(iC_of hy).2] at e
      have e : x.1 = lk := e
      exact hlk (e ▸ hD.2 i x hx)
  refine va_iast hexec hb hI hP2 hD2 hS ws.length 0 (app_last _ _) rfl (iI_in h0 (by omega) (by omega)) hdg fun H1 locs1 hP1 hD1 hS1 => ?_
  rw [set_last, iI_clamp h0 (by omega)] at hP1
  refine kk H1 locs1 ⟨⟨ws, fun k q hk => hP1 k q (app_at hk), hD, hR⟩, fun k q hk => ?_⟩ hS1
  obtain ⟨rfl, rfl⟩ := iC_of hk
  exact hP1 ws.length _ (app_last _ _)
theorem dI_of {wl wl' : List Cond} {y : MethodName} {rm : Room} {maxL : Nat} {av : List Value} {post : CW × (Nat → Int32) → Prop} {mc ms : Nat} (hy : plainName y.cls = true) (hw : wl = Cond.code y cc maxL (some .boolean) :: wl') (hlen : (lg_sl av).length ≤ maxL)
    (body : ∀ (p : Program) (e : Env) (s : State) (m : MethodId) (args : Array Value) (below : List Frame) (meth : Method) (c : Code) (Q : State → Prop), p.tables.exec = Jvm.exec → c.code = cc → c.maxLocals = maxL → s.vm.findClass y.cls = some m.cls → (∀ x ∈ wl, x.before args s = true) → DE D cO dz mi A kI lk s → dW D cO dz A kI lk w fn s.heap → va_S (dFr A lk) s.heap s.heap [] →
      (∀ (x : CW × (Nat → Int32)) (H : Heap) (locs : List Loc) (pc cells slots : Nat) (ls : Array Slot), decode cc pc = .ok (.ireturn, 1) → dW D cO dz A kI lk x.1 x.2 H → va_S (dFr A lk) s.heap H locs → cells ≤ mc → slots ≤ ms → post x → W p l e rm s m args below meth c H locs cells slots Q (F0 m pc ls [.int (iI 1)])) →
      ∀ ls : Array Slot, lv_has ls maxL (lv_args 0 av) → W p l e rm s m args below meth c s.heap [] 0 0 Q (F0 m 0 ls [])) : dI l y wl rm D cO dz mi A kI lk w fn av post mc ms := by
  refine Met.ofW (cc := cc) (maxL := maxL) (ret := some .boolean) hy hw ?_
  intro p e s m args below meth c s₁ B hml hv
  obtain ⟨rfl, hA, hW, hE, hX, hlk, hI⟩ := hv
  have hl := lv_entry av (n := maxL) hlen
  rw [lg_entry_eq]
  refine body p e s m av.toArray below meth c _ B.exec B.bytes hml (findClass_of_methodNamed B.named) (atoms_spec (ws := wl) B.pre) ⟨fun q hq _ => hA q hq, hE, hX, hlk, hI⟩ hW va_S.rf ?_ _ hl
  intro x H locs pc cells slots ls hdg hW1 hS1 hc hs hp
  refine W.widen hc hs ?_
  exact W.zret (ty := .boolean) B.exec B.bytes B.returns (by decide) (fun t ht hWm => ⟨⟨iI 1, x, rfl, ⟨rfl, hp⟩, by show dW _ _ _ _ _ _ _ _ t.heap; rw [ht]; exact hW1⟩, hS1.F ht⟩) hS1.2.2 hdg B.notSynchronized
end DRows
theorem and_top (x : Int32) : ∃ v : Int, x &&& iI 2147483647 = iI v ∧ 0 ≤ v ∧ v ≤ 2147483647 := by
  have h1 : (x &&& iI 2147483647).toBitVec.toNat ≤ 2147483647 := by
    rw [Int32.toBitVec_and, BitVec.toNat_and]
    exact Nat.and_le_right
  have h2 : (x &&& iI 2147483647).toInt = ((x &&& iI 2147483647).toBitVec.toNat : Int) := by
    show (x &&& iI 2147483647).toBitVec.toInt = _
    exact BitVec.toInt_eq_toNat_of_lt (by omega)
  exact ⟨(x &&& iI 2147483647).toInt, (iI_of _).symm, by omega, by omega⟩
/-- told: an int that isn't below 0 -/
def tI (l : Launch) (rm : Room) (b L : Nat) (xs : Nat → Int32) (av : List Value) : Prop :=
  Met l yL_told wsL_told rm (va_Pc av (fun U => va_X b L xs U U.heap)) (va_Qi (fun r (_ : Unit) => ∃ v : Int, r = iI v ∧ 0 ≤ v ∧ v ≤ 2147483647) (fun _ _ => True) (fun _ => False)) 0 0 (fun _ => False)
set_option maxHeartbeats 4000000 in
theorem c_told (l : Launch) {b L : Nat} {xs : Nat → Int32} (hL : L ≤ 260) {k : Int} (k0 : 0 ≤ k) (k1 : k ≤ 1000) : tI l { frames := 0, cells := 0, slots := 0, locals := 0 } b L xs [.ref b, .int (iI k)] := by
  refine Met.ofW (cc := cL_told) (maxL := 2) (ret := some .int) (by decide) rfl ?_
  intro p e s m args below meth c s₁ B hml hv
  obtain ⟨rfl, hX⟩ := hv
  have hx := B.exec
  have hb := B.bytes
  have hown : s.vm.findClass RL = some m.cls := findClass_of_methodNamed B.named
  have hts := atoms_spec (ws := wsL_told) B.pre
  have hbl : b < s.heap.size := by
    obtain ⟨scr, h1, -⟩ := hX
    exact (Array.getElem?_eq_some_iff.mp h1).1
  have hS : va_S (fun _ => False) s.heap s.heap [] := va_S.rf
  have hl := lv_entry ([.ref b, .int (iI k)]) (n := 2) (Nat.le_of_ble_eq_true rfl)
  rw [lg_entry_eq]
  generalize (lg_sl ([.ref b, .int (iI k)]) ++ List.replicate (2 - (lg_sl ([.ref b, .int (iI k)])).length) Slot.unset).toArray = ls at hl ⊢
  have hl : lv_has ls 2 [(0, .ref b), (1, .int (iI k))] := hl
  have tail : ∀ x : Int32, W p l e (headSpec wsL_told { frames := 0, cells := 0, slots := 0, locals := 0 }).room s m ([.ref b, .int (iI k)] : List Value).toArray below meth c s.heap [] 0 0 (MQ below (va_Qi (fun r (_ : Unit) => ∃ v : Int, r = iI v ∧ 0 ≤ v ∧ v ≤ 2147483647) (fun _ _ => True) (fun _ => False)) ([.ref b, .int (iI k)] : List Value).toArray s 0 0 (fun _ => False)) (F0 m 22 ls [.int x]) := fun x => by
    refine lv_ldc (v := iI 2147483647) hx hb hown (hts (.constant RL 8 (iI 2147483647)) (by decide +kernel)) dL_told_22 ?_
    refine lv_iand hx hb dL_told_24 ?_
    obtain ⟨v, hv, v0, v1⟩ := and_top x
    refine h_top hx hv ?_
    exact W.iret B.exec B.bytes B.returns (fun t ht hWm => ⟨⟨iI v, (), rfl, ⟨v, rfl, v0, v1⟩, trivial⟩, hS.F ht⟩) hS.2.2 dL_told_25 B.notSynchronized
  refine lv_iload_n hx hb dL_told_0 rfl (lv_at hl 1 rfl) ?_
  refine lv_aload_n hx hb dL_told_1 rfl (lv_at hl 0 rfl) ?_
  refine va_slen hx hb hX hbl (A := fun _ => False) (fun z => z) hS dL_told_2 ?_
  refine h_top hx (y := iI (L : Int)) (iI_nat L) ?_
  refine h_icmp_ge (tgt := 12) hx hb (by omega) (by omega) dL_told_3 (by decide) (fun c1 => ?_) (fun c1 => ?_)
  · refine lv_ldc (v := iI 52027) hx hb hown (hts (.constant RL 7 (iI 52027)) (by decide +kernel)) dL_told_12 ?_
    refine lv_iload_n hx hb dL_told_14 rfl (lv_at hl 1 rfl) ?_
    refine lv_iconst (v := iI 3) hx hb dL_told_15 rfl ?_
    refine h_iadd hx hb dL_told_16 ?_
    refine h_imul hx hb dL_told_17 ?_
    refine lv_iload_n hx hb dL_told_18 rfl (lv_at hl 1 rfl) ?_
    refine lv_iconst (v := iI 5) hx hb dL_told_19 rfl ?_
    refine h_iadd hx hb dL_told_20 ?_
    refine h_imul hx hb dL_told_21 ?_
    exact tail _
  · refine lv_aload_n hx hb dL_told_6 rfl (lv_at hl 0 rfl) ?_
    refine lv_iload_n hx hb dL_told_7 rfl (lv_at hl 1 rfl) ?_
    refine va_sld hx hb hX hbl (A := fun _ => False) (fun z => z) hS (iI_in k0 (by omega) (by omega)) dL_told_8 ?_
    refine lv_goto (tgt := 22) hx hb dL_told_9 (by decide) ?_
    exact tail _
