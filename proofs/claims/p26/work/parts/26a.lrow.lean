/-! THE CLAIM OUT OF ONE WALK OF THE LAW'S BODY. Your part is whole_start (and what it stands on); all else here is the same for every law, but numbers. -/
def R_law : String := "HoldServerLaw"
def lw_P (b : Addr) (xs : List Int32) (args : Array Value) (s : State) : Prop := args = #[.ref b] ∧ s.IntsAt b xs ∧ xs.length ≤ 260 ∧ (Jvm.Cond.and given_1 narrow_1).before args s = true
def lw_Q (_ : Array Value) (s : State) (o : Outcome) (t : State) : Prop := o = .returned (some (.int 1)) ∧ Framed s o t [] 662934 7112667
def lw_Z (below : List Frame) (a : Array Value) (s : State) : State → Prop := fun t => ∃ o, t.status = .running ∧ Ended t below o ∧ lw_Q a s o t
/-- the law's own end, with 1 on the stack, nothing written that was there before, its room as the claim has it -/
theorem lw_ret {p : Program} {l : Launch} {e : Env} {s : State} {m : MethodId} {below : List Frame} {meth : Method} {c : Code} {b : Nat} (hx : p.tables.exec = Jvm.exec) (hb : c.code = code) (hr : meth.sig.returnType = ret) (hlocks : meth.locks = false) {pc : Nat} {H : Heap} {ls : Array Slot} (hdg : decode code pc = .ok (.ireturn, 1)) : W p l e room_1 s m #[Value.ref b] below meth c H [] 662934 7112667 (lw_Z below #[Value.ref b] s) (F0 m pc ls [.int 1]) := by
  intro T hT X
  obtain ⟨fs, hret, hrun, hended, hW, hframe⟩ := X.leave (v := some (.int 1)) (hlocks := hlocks) (fun h => by rw [hr] at h; cases h)
  have hmeth' : T.vm.method? m = some meth := X.method'
  refine ⟨T.setFrames fs, ?_, .returned (some (.int 1)), hrun, hended, rfl, ⟨_, rfl⟩, hW, hframe⟩
  jvm_step X.here [X.here.top, hx, hb, hdg, hmeth', hr, ret, narrow_b1]
  (try refine ⟨rfl, ?_⟩); (try refine ⟨rfl, ?_⟩)
  first | (intro acts; rw [hret _ acts rfl rfl rfl]) | rw [hret _ _ rfl rfl rfl]
  exact Steps.refl _
/-- what holds at the law's entry: the machine, the code, the tables' words (any of lw_tbl by 'hts w (by decide +kernel)'), the script of L ints xs at the cell b, what the Statement gives of the start (any of its parts by flat_of_before) -/
def lw_At (p : Program) (s : State) (m : MethodId) (meth : Method) (c : Code) (b L : Nat) (xs : Nat → Int32) : Prop :=
  p.tables.exec = Jvm.exec ∧ c.code = code ∧ meth.sig.returnType = ret ∧ c.maxLocals = 7 ∧ s.vm.findClass R_law = some m.cls ∧ (∀ w ∈ lw_tbl, w.before #[Value.ref b] s = true) ∧ va_X b L xs s s.heap ∧ b < s.heap.size ∧ meth.locks = false ∧ (Jvm.Cond.and given_1 narrow_1).before #[Value.ref b] s = true
/-! THE LAW'S OWN ROWS: told, does -/
def lA (N lk : Nat) : Nat → Prop := fun q => N ≤ q ∧ q ≠ lk
def LC (p : Program) (l : Launch) (s : State) (m : MethodId) (c : Code) (b L : Nat) (xs : Nat → Int32) (D : va_G) (cO : ClassId) (dz mi : Nat) (kI : ClassId) (lk : Nat) : Prop := p.tables.exec = Jvm.exec ∧ c.code = code ∧ c.maxLocals = 7 ∧ s.vm.findClass RL = some m.cls ∧ (∀ w ∈ wsL_law, w.before #[Value.ref b] s = true) ∧ va_X b L xs s s.heap ∧ b < s.heap.size ∧ L ≤ 260 ∧ DE D cO dz mi (lA s.heap.size lk) kI lk s ∧ s.heap.size ≤ lk ∧ l.stackTraces = false
section LRows
variable {p : Program} {l : Launch} {e : Env} {R : Room} {s : State} {m : MethodId} {args : Array Value} {below : List Frame} {meth : Method} {c : Code} {H : Heap} {locs : List Loc} {cells slots : Nat} {Q : State → Prop}
variable {cc : ByteArray} {pc : Nat} {ls : Array Slot} {rest st0 : List Value} {D : va_G} {cO : ClassId} {dz mi : Nat} {A : Nat → Prop} {kI : ClassId} {lk a0 : Nat} {w : CW} {fn : Nat → Int32}
theorem l_told {rm : Room} {maxL nL index n b L : Nat} {xs : Nat → Int32} {bytes : ByteArray} {ret : Option FieldType} {Ts : List Cond} {own : String} {As : List Value} (CF : CallFix p m c cc nL s args Ts own) (hM : tI l rm b L xs As) (cw : CallB R s args own index yL_told bytes maxL ret wsL_told rm 0 0 n ∧ (Cond.static yL_told).before args s = true)
    (hX : va_X b L xs s s.heap) (hbl : b < s.heap.size) (hbA : ¬ dFr A lk b) (hEn : DE D cO dz mi A kI lk s) (hW : dW D cO dz A kI lk w fn H) (hS : va_S (dFr A lk) s.heap H locs) (hn : As.length = n) (hsize : ls.size = nL) (hst : st0 = As.reverse ++ rest) (hWr : (rest.map fun v => v.category).sum ≤ 8) (hf : cells + 0 ≤ R.cells ∧ slots + 0 ≤ R.slots) (hdg : decode cc pc = .ok (.invokestatic index, 3))
    (kk : ∀ (v : Int) (H1 : Heap) (locs1 : List Loc), 0 ≤ v ∧ v ≤ 2147483647 → dW D cO dz A kI lk w fn H1 → va_S (dFr A lk) s.heap H1 locs1 → W p l e R s m args below meth c H1 locs1 (cells + 0) (slots + 0) Q (F0 m (pc + 3) ls (.int (iI v) :: rest))) : W p l e R s m args below meth c H locs cells slots Q (F0 m pc ls st0) := by
  refine va_calli (A0 := dFr A lk) (A1 := fun _ => False) (va_runS (g := F0 m pc ls st0) CF hM cw ⟨fun a U g mk q => ⟨q.1, va_X.moved (u := U) (U := U.calling g mk a) (Vm.Alike.refl U.vm) q.2⟩, fun U hU hWm => ⟨rfl, by show va_X b L xs U U.heap; rw [hU]; exact (hX.kept (hS.2.1 b hbl hbA)).moved hWm.alike⟩⟩ rfl hn hsize hst (lv_room hWr) hdg hf) hS (fun q _ h => h.elim) (fun q h => h.elim) (fun r u t H1 locs1 ht _ hp hB _ hk hS1 => ?_)
  obtain ⟨v, rfl, hv⟩ := hp
  exact kk v H1 locs1 hv ⟨hW.1.kept (fun q hq => hk q hq (fun z => z)), iC_kept hW.2 hk (fun z => z)⟩ hS1
theorem l_does {wl : List Cond} {y : MethodName} {rm : Room} {maxL nL index n mc ms : Nat} {ret : Option FieldType} {bytes : ByteArray} {Ts : List Cond} {own : String} {As : List Value} {post : CW × (Nat → Int32) → Prop} (CF : CallFix p m c cc nL s args Ts own) (hM : dI l y wl rm D cO dz mi A kI lk w fn As post mc ms) (cw : CallB R s args own index y bytes maxL ret wl rm mc ms n ∧ (Cond.static y).before args s = true)
    (hEn : DE D cO dz mi A kI lk s) (hW : dW D cO dz A kI lk w fn H) (hS : va_S (dFr A lk) s.heap H locs) (hn : As.length = n) (hsize : ls.size = nL) (hst : st0 = As.reverse ++ rest) (hWr : (rest.map fun v => v.category).sum ≤ 8) (hf : cells + mc ≤ R.cells ∧ slots + ms ≤ R.slots) (hdg : decode cc pc = .ok (.invokestatic index, 3))
    (kk : ∀ (x : CW × (Nat → Int32)) (H1 : Heap) (locs1 : List Loc), post x → dW D cO dz A kI lk x.1 x.2 H1 → va_S (dFr A lk) s.heap H1 locs1 → W p l e R s m args below meth c H1 locs1 (cells + mc) (slots + ms) Q (F0 m (pc + 3) ls (.int (iI 1) :: rest))) : W p l e R s m args below meth c H locs cells slots Q (F0 m pc ls st0) := by
  have hup := dW.up hEn hW hS
  obtain ⟨hA, hE, hX, hlk, hI⟩ := id hEn
  refine va_calli (A0 := dFr A lk) (A1 := dFr A lk) (va_runS (g := F0 m pc ls st0) CF hM cw ⟨d_blind, fun U hU hWm => ⟨rfl, fun q hq => hup q (by rw [← hU]; exact hq), by rw [hU]; exact hW, hE.call hS hU hWm, hX.call hS hU hWm, hlk, va_K.moved hWm.alike hI⟩⟩ rfl hn hsize hst (lv_room hWr) hdg hf) hS (fun q _ h => h) (fun q h => h) (fun r x t H1 locs1 ht _ hp hB _ hk hS1 => ?_)
  obtain ⟨rfl, hpost⟩ := hp
  have hW1 : dW D cO dz A kI lk x.1 x.2 H1 := by rw [← ht]; exact hB
  exact kk x H1 locs1 hpost hW1 hS1
end LRows
