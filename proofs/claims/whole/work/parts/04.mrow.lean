/-! THE REFERENCE'S CELLS: its object (place 0) and its eleven int arrays (place k + 1): 0 parent, 1 quota, 2 department, 3 size, 4 link, 5 links, 6 kept, 7 holders, 8 used, 9 back, 10 coins; the ints X: 0 directories, 1 files, 2 day, 3 thrown. ad k: the array's address; ad 11: the object's -/
def mLen : Nat → Nat := fun k => match k with
  | 0 => 12
  | 1 => 12
  | 4 => 360
  | 10 => 4
  | _ => 30
abbrev MS : Type := (Nat → Nat → Int32) × (Nat → Int32)
def mFs (ad : Nat → Nat) (X : Nat → Int32) : List Value := [.ref (ad 0), .ref (ad 1), .int (X 0), .ref (ad 2), .ref (ad 3), .ref (ad 4), .ref (ad 5), .ref (ad 6), .ref (ad 7), .ref (ad 8), .ref (ad 9), .int (X 1), .ref (ad 10), .int (X 2), .int (X 3)]
def wM (ad : Nat → Nat) (cI : ClassId) (u : MS) : va_W := (ad 11, .inr (5, mFs ad u.2)) :: (List.range 11).map (fun k => (ad k, .inl (cI, mLen k, .inl (u.1 k))))
theorem wM_k (ad : Nat → Nat) (cI : ClassId) (u : MS) {k : Nat} (hk : k < 11) : (wM ad cI u)[k + 1]? = some (ad k, .inl (cI, mLen k, .inl (u.1 k))) := by
  unfold wM
  rw [List.getElem?_cons_succ, List.getElem?_map, List.getElem?_range hk]
  rfl
theorem wM_set (ad : Nat → Nat) (cI : ClassId) (u : MS) {k : Nat} (hk : k < 11) (g : Nat → Int32) : (wM ad cI u).set (k + 1) (ad k, .inl (cI, mLen k, .inl g)) = wM ad cI (va_up u.1 k g, u.2) := by
  unfold wM
  rw [List.set_cons_succ]
  congr 1
  apply List.ext_getElem?
  intro i
  by_cases hi : i < 11
  · by_cases hik : i = k
    · subst hik
      rw [List.getElem?_set_self (by simpa using hi), List.getElem?_map, List.getElem?_range hi]
      simp [va_up_self]
    · rw [List.getElem?_set_ne (Ne.symm hik), List.getElem?_map, List.getElem?_map, List.getElem?_range hi]
      simp [va_up_ne _ _ hik]
  · rw [List.getElem?_eq_none (by simp; omega), List.getElem?_eq_none (by simp; omega)]
/-- which field of the object is which int -/
def mXf : Nat → Nat := fun j => match j with
  | 0 => 2
  | 1 => 11
  | 2 => 13
  | _ => 14
theorem wM_setX (ad : Nat → Nat) (cI : ClassId) (u : MS) {j : Nat} (hj : j < 4) (x : Int32) : (wM ad cI u).set 0 (ad 11, .inr (5, (mFs ad u.2).set (mXf j) (.int x))) = wM ad cI (u.1, va_up u.2 j x) := by
  match j, hj with
  | 0, _ => rfl
  | 1, _ => rfl
  | 2, _ => rfl
  | 3, _ => rfl
theorem wM_D {A : Nat → Prop} {ad : Nat → Nat} {cI cI' : ClassId} {u u' : MS} (h : va_D A (wM ad cI u)) : va_D A (wM ad cI' u') := by
  have key : ∀ (k : Nat) (q : Nat × va_E), (wM ad cI' u')[k]? = some q → ∃ q0, (wM ad cI u)[k]? = some q0 ∧ q0.1 = q.1 := by
    intro k q hq
    cases k with
    | zero => exact ⟨_, rfl, by cases hq; rfl⟩
    | succ k =>
      by_cases hk : k < 11
      · rw [wM_k ad cI' u' hk] at hq
        exact ⟨_, wM_k ad cI u hk, by cases hq; rfl⟩
      · exfalso
        unfold wM at hq
        rw [List.getElem?_cons_succ, List.getElem?_eq_none (by simp; omega)] at hq
        cases hq
  refine ⟨fun i j x y hx hy hxy => ?_, fun k q hq => ?_⟩
  · obtain ⟨x0, h1, h2⟩ := key i x hx
    obtain ⟨y0, h3, h4⟩ := key j y hy
    exact h.1 i j x0 y0 h1 h3 (by rw [h2, h4]; exact hxy)
  · obtain ⟨q0, h1, h2⟩ := key k q hq
    rw [← h2]
    exact h.2 k q0 h1
/-- the world of the reference -/
def mB (D : va_G) (ad : Nat → Nat) (cI : ClassId) (u : MS) (U : State) : Prop := va_P D vwCl (wM ad cI u) U.heap ∧ va_K D vwCl [(cI, .int)] U
/-- a contract of a method of the reference that answers an int (or a boolean) and makes nothing -/
def mI (l : Launch) (y : MethodName) (w : List Cond) (rm : Room) (D : va_G) (ad : Nat → Nat) (cI : ClassId) (A : Nat → Prop) (av : List Value) (u : MS) (post : Int32 → MS → Prop) : Prop :=
  Met l y w rm (va_Pc av (fun U => mB D ad cI u U)) (va_Qi post (mB D ad cI) A) 0 0 A
def pokeF (u : MS) (k : Nat) (i v : Int) : MS := (va_up u.1 k (upd (u.1 k) i.toNat (iI v)), u.2)
def pokeX (u : MS) (j : Nat) (v : Int) : MS := (u.1, va_up u.2 j (iI v))
theorem pokeF_1 (u : MS) (k : Nat) {i v : Int} (k' : Nat) {i' : Int} (h : 0 ≤ i) (h' : 0 ≤ i') : (pokeF u k i v).1 k' i'.toNat = if k' = k ∧ i' = i then iI v else u.1 k' i'.toNat := by
  unfold pokeF va_up upd
  by_cases hk : k' = k
  · subst hk
    by_cases hi : i' = i
    · subst hi; simp
    · have : i'.toNat ≠ i.toNat := by omega
      simp [hi, this]
  · simp [hk]
theorem pokeF_2 (u : MS) (k : Nat) (i v : Int) : (pokeF u k i v).2 = u.2 := rfl
theorem pokeX_1 (u : MS) (j : Nat) (v : Int) : (pokeX u j v).1 = u.1 := rfl
theorem pokeX_2 (u : MS) (j : Nat) (v : Int) (j' : Nat) : (pokeX u j v).2 j' = if j' = j then iI v else u.2 j' := rfl
section MRows
variable {p : Program} {l : Launch} {e : Env} {R : Room} {s : State} {m : MethodId} {args : Array Value} {below : List Frame} {meth : Method} {c : Code} {H : Heap} {locs : List Loc} {cells slots : Nat} {Q : State → Prop}
variable {cc : ByteArray} {pc : Nat} {ls : Array Slot} {rest : List Value} {D : va_G} {A : Nat → Prop} {H0 : Heap} {ad : Nat → Nat} {cI : ClassId} {u : MS}
theorem m_ld (hexec : p.tables.exec = Jvm.exec) (hb : c.code = cc) (hK : va_K D vwCl [(cI, .int)] s) (hP : va_P D vwCl (wM ad cI u) H) {k : Nat} (hk : k < 11) {z v : Int} (h0 : 0 ≤ z) (h1 : z < mLen k) (hv : u.1 k z.toNat = iI v) (hdg : decode cc pc = .ok (.iaload, 1))
    (kk : W p l e R s m args below meth c H locs cells slots Q (F0 m (pc + 1) ls (.int (iI v) :: rest))) : W p l e R s m args below meth c H locs cells slots Q (F0 m pc ls (.int (iI z) :: .ref (ad k) :: rest)) := by
  have hl : mLen k ≤ 360 := by unfold mLen; split <;> omega
  refine va_iald hexec hb hK hP (k + 1) 0 (wM_k ad cI u hk) rfl (iI_in h0 h1 (by omega)) hdg ?_
  rw [iI_clamp h0 (by omega), hv]
  exact kk
theorem m_st (hexec : p.tables.exec = Jvm.exec) (hb : c.code = cc) (hK : va_K D vwCl [(cI, .int)] s) (hP : va_P D vwCl (wM ad cI u) H) (hD : va_D A (wM ad cI u)) (hS : va_S A H0 H locs) {k : Nat} (hk : k < 11) {z v : Int} (h0 : 0 ≤ z) (h1 : z < mLen k) (hdg : decode cc pc = .ok (.iastore, 1))
    (kk : ∀ (H1 : Heap) (locs1 : List Loc), va_P D vwCl (wM ad cI (pokeF u k z v)) H1 → va_D A (wM ad cI (pokeF u k z v)) → va_S A H0 H1 locs1 → W p l e R s m args below meth c H1 locs1 cells slots Q (F0 m (pc + 1) ls rest)) : W p l e R s m args below meth c H locs cells slots Q (F0 m pc ls (.int (iI v) :: .int (iI z) :: .ref (ad k) :: rest)) := by
  have hl : mLen k ≤ 360 := by unfold mLen; split <;> omega
  refine va_iast hexec hb hK hP hD hS (k + 1) 0 (wM_k ad cI u hk) rfl (iI_in h0 h1 (by omega)) hdg fun H1 locs1 hP1 hD1 hS1 => ?_
  rw [iI_clamp h0 (by omega), wM_set ad cI u hk] at hP1 hD1
  exact kk H1 locs1 hP1 hD1 hS1
theorem m_get (hexec : p.tables.exec = Jvm.exec) (hb : c.code = cc) {index : Nat} {Ts : List Cond} (hts : ∀ w ∈ Ts, w.before args s = true) (hin : ∀ w ∈ wsX40, w ∈ Ts) (hown : s.vm.findClass RX4 = some m.cls) (hK : va_K D vwCl [(cI, .int)] s) (hP : va_P D vwCl (wM ad cI u) H) (k : Nat) (hk : k < 15) {v : Value} (hv : (mFs ad u.2)[k]? = some v) (hlink : (Cond.fieldLink RX4 index "HoldServerModel" (TX4 k).2.1 (TX4 k).2.2.1).before args s = true) (hr : (TX4 k).1 = "HoldServerModel") (hdg : decode cc pc = .ok (.getfield index, 3))
    (kk : W p l e R s m args below meth c H locs cells slots Q (F0 m (pc + 3) ls (v :: rest))) : W p l e R s m args below meth c H locs cells slots Q (F0 m pc ls (.ref (ad 11) :: rest)) :=
  va_get (C := RX4) (T := TX4) (N := 15) hexec hb hts hin hown hK hP 0 rfl rfl k hk hlink (fun x h => by rw [hr] at h; exact h) hv hdg kk
theorem m_geti (hexec : p.tables.exec = Jvm.exec) (hb : c.code = cc) {index : Nat} {Ts : List Cond} (hts : ∀ w ∈ Ts, w.before args s = true) (hin : ∀ w ∈ wsX40, w ∈ Ts) (hown : s.vm.findClass RX4 = some m.cls) (hK : va_K D vwCl [(cI, .int)] s) (hP : va_P D vwCl (wM ad cI u) H) (k : Nat) (hk : k < 15) {v : Int} (j : Nat) (hv : (mFs ad u.2)[k]? = some (.int (u.2 j))) (hj : u.2 j = iI v) (hlink : (Cond.fieldLink RX4 index "HoldServerModel" (TX4 k).2.1 (TX4 k).2.2.1).before args s = true) (hr : (TX4 k).1 = "HoldServerModel") (hdg : decode cc pc = .ok (.getfield index, 3))
    (kk : W p l e R s m args below meth c H locs cells slots Q (F0 m (pc + 3) ls (.int (iI v) :: rest))) : W p l e R s m args below meth c H locs cells slots Q (F0 m pc ls (.ref (ad 11) :: rest)) :=
  m_get hexec hb hts hin hown hK hP k hk (by rw [hv, hj]) hlink hr hdg kk
theorem m_put (hexec : p.tables.exec = Jvm.exec) (hb : c.code = cc) {index : Nat} {Ts : List Cond} (hts : ∀ w ∈ Ts, w.before args s = true) (hin : ∀ w ∈ wsX40, w ∈ Ts) (hown : s.vm.findClass RX4 = some m.cls) (hK : va_K D vwCl [(cI, .int)] s) (hP : va_P D vwCl (wM ad cI u) H) (hD : va_D A (wM ad cI u)) (hS : va_S A H0 H locs) (j : Nat) (hj : j < 4) {v : Int} (hlink : (Cond.fieldLink RX4 index "HoldServerModel" (TX4 (mXf j)).2.1 "I").before args s = true) (hr : (TX4 (mXf j)).1 = "HoldServerModel") (hdg : decode cc pc = .ok (.putfield index, 3))
    (kk : ∀ (H1 : Heap) (locs1 : List Loc), va_P D vwCl (wM ad cI (pokeX u j v)) H1 → va_D A (wM ad cI (pokeX u j v)) → va_S A H0 H1 locs1 → W p l e R s m args below meth c H1 locs1 cells slots Q (F0 m (pc + 3) ls rest)) : W p l e R s m args below meth c H locs cells slots Q (F0 m pc ls (.int (iI v) :: .ref (ad 11) :: rest)) := by
  have hd : (TX4 (mXf j)).2.2.1 = "I" ∧ (TX4 (mXf j)).2.2.2 = false ∧ mXf j < 15 := by
    match j, hj with
    | 0, _ => exact ⟨rfl, rfl, by decide⟩
    | 1, _ => exact ⟨rfl, rfl, by decide⟩
    | 2, _ => exact ⟨rfl, rfl, by decide⟩
    | 3, _ => exact ⟨rfl, rfl, by decide⟩
  refine va_put (C := RX4) (T := TX4) (N := 15) (ty := .int) hexec hb hts hin tyX4 tyX4_ok nmX4 hown hK hP hD hS 0 rfl rfl (mXf j) hd.2.2 (by rw [hd.1]; exact hlink) (fun x h => by rw [hr] at h; exact h) hd.2.1 (by rw [hd.1]; decide +kernel) rfl rfl hd.2.2 hdg fun H1 locs1 hP1 hD1 hS1 => ?_
  rw [wM_setX ad cI u hj] at hP1 hD1
  exact kk H1 locs1 hP1 hD1 hS1
/-- the entry of a contract: the body is walked to any Q that its ends reach -/
theorem mI_of {y : MethodName} {w w' : List Cond} {rm : Room} {maxL : Nat} {ty : FieldType} {av : List Value} {post : Int32 → MS → Prop} (hy : plainName y.cls = true) (hw : w = Cond.code y cc maxL (some ty) :: w') (hlen : (lg_sl av).length ≤ maxL)
    (body : ∀ (p : Program) (e : Env) (s : State) (m : MethodId) (args : Array Value) (below : List Frame) (meth : Method) (c : Code) (Q : State → Prop), p.tables.exec = Jvm.exec → c.code = cc → c.maxLocals = maxL → s.vm.findClass y.cls = some m.cls → (∀ x ∈ w, x.before args s = true) → va_P D vwCl (wM ad cI u) s.heap → va_K D vwCl [(cI, .int)] s → va_S A s.heap s.heap [] →
      (∀ (v : Int) (u' : MS) (H : Heap) (locs : List Loc) (pc : Nat) (ls : Array Slot), decode cc pc = .ok (.ireturn, 1) → narrow ty (.int (iI v)) = .int (iI v) → va_P D vwCl (wM ad cI u') H → va_S A s.heap H locs → post (iI v) u' → W p l e rm s m args below meth c H locs 0 0 Q (F0 m pc ls [.int (iI v)])) →
      ∀ ls : Array Slot, lv_has ls maxL (lv_args 0 av) → W p l e rm s m args below meth c s.heap [] 0 0 Q (F0 m 0 ls [])) : mI l y w rm D ad cI A av u post := by
  refine Met.ofW (cc := cc) (maxL := maxL) (ret := some ty) hy hw ?_
  intro p e s m args below meth c s₁ B hml hv
  obtain ⟨rfl, hP, hK⟩ := hv
  have hl := lv_entry av (n := maxL) hlen
  rw [lg_entry_eq]
  refine body p e s m av.toArray below meth c _ B.exec B.bytes hml (findClass_of_methodNamed B.named) (atoms_spec (ws := w) B.pre) hP hK va_S.rf ?_ _ hl
  intro v u' H locs pc ls hdg hn hP1 hS1 hp
  exact W.zret B.exec B.bytes B.returns hn (fun t ht hW => ⟨⟨iI v, u', rfl, hp, by show va_P _ _ _ t.heap; rw [ht]; exact hP1, va_K.moved hW.alike hK⟩, hS1.F ht⟩) hS1.2.2 hdg B.notSynchronized
theorem m_blind {av : List Value} : FrameBlind (va_Pc av (fun U => mB D ad cI u U)) := fun a U g mk q => by
  obtain ⟨q0, qP, qK⟩ := q
  exact ⟨q0, qP, va_K.moved (u := U) (U := U.calling g mk a) (Vm.Alike.refl U.vm) qK⟩
theorem m_back {post : Int32 → MS → Prop} {y : MethodName} {a : Array Value} {free : Addr → Prop} {st0 : List Value} (hK : va_K D vwCl [(cI, .int)] s) (hS : va_S A H0 H locs) (hr : va_Run p l e R s m args below meth c H locs cells slots 0 0 (F0 m pc ls st0) rest (va_Qi post (mB D ad cI) A a) A)
    (kk : ∀ (r : Int32) (u' : MS) (H1 : Heap) (locs1 : List Loc), post r u' → va_P D vwCl (wM ad cI u') H1 → va_S A H0 H1 locs1 → W p l e R s m args below meth c H1 locs1 cells slots Q (F0 m (pc + 3) ls (.int r :: rest))) : W p l e R s m args below meth c H locs cells slots Q (F0 m pc ls st0) :=
  va_calli hr hS (fun _ _ h => h) (fun _ h => h) (fun r u' t H1 locs1 ht hvm hp hB _ _ hS1 => kk r u' H1 locs1 hp (by rw [← ht]; exact hB.1) hS1)
theorem m_callv {post : Int32 → MS → Prop} {y : MethodName} {bytes : ByteArray} {maxL nL n index : Nat} {ret : Option FieldType} {ws : List Cond} {rm : Room} {Ts : List Cond} {own : String} {As : List Value} {st0 : List Value} (S : CallFix p m c cc nL s args Ts own) (hM : mI l y ws rm D ad cI A (.ref (ad 11) :: As) u post) (cw : CallW R s args own RX4 index y bytes maxL ret ws rm 0 0 n)
    (hK : va_K D vwCl [(cI, .int)] s) (hP : va_P D vwCl (wM ad cI u) H) (hS : va_S A H0 H locs) (hn : As.length = n) (hsize : ls.size = nL) (hst : st0 = As.reverse ++ .ref (ad 11) :: rest) (hW : (rest.map fun v => v.category).sum ≤ 8) (hf : cells ≤ R.cells ∧ slots ≤ R.slots) (hdg : decode cc pc = .ok (.invokevirtual index, 3))
    (kk : ∀ (r : Int32) (u' : MS) (H1 : Heap) (locs1 : List Loc), post r u' → va_P D vwCl (wM ad cI u') H1 → va_S A H0 H1 locs1 → W p l e R s m args below meth c H1 locs1 cells slots Q (F0 m (pc + 3) ls (.int r :: rest))) : W p l e R s m args below meth c H locs cells slots Q (F0 m pc ls st0) :=
  m_back (y := y) (free := A) hK hS (va_runV (g := F0 m pc ls st0) S hM cw ⟨m_blind, va_recv hK hP (ci := 5) (q0 := 0) rfl rfl, fun U hU hW => ⟨rfl, by show va_P _ _ _ U.heap; rw [hU]; exact hP, va_K.moved hW.alike hK⟩⟩ rfl hn hsize hst (lv_room hW) hdg hf) kk
theorem m_calls {post : Int32 → MS → Prop} {y : MethodName} {bytes : ByteArray} {maxL nL n index : Nat} {ret : Option FieldType} {ws : List Cond} {rm : Room} {Ts : List Cond} {own : String} {As : List Value} {st0 : List Value} (S : CallFix p m c cc nL s args Ts own) (hM : mI l y ws rm D ad cI A As u post) (cw : CallB R s args own index y bytes maxL ret ws rm 0 0 n ∧ (Cond.static y).before args s = true)
    (hK : va_K D vwCl [(cI, .int)] s) (hP : va_P D vwCl (wM ad cI u) H) (hS : va_S A H0 H locs) (hn : As.length = n) (hsize : ls.size = nL) (hst : st0 = As.reverse ++ rest) (hW : (rest.map fun v => v.category).sum ≤ 8) (hf : cells ≤ R.cells ∧ slots ≤ R.slots) (hdg : decode cc pc = .ok (.invokestatic index, 3))
    (kk : ∀ (r : Int32) (u' : MS) (H1 : Heap) (locs1 : List Loc), post r u' → va_P D vwCl (wM ad cI u') H1 → va_S A H0 H1 locs1 → W p l e R s m args below meth c H1 locs1 cells slots Q (F0 m (pc + 3) ls (.int r :: rest))) : W p l e R s m args below meth c H locs cells slots Q (F0 m pc ls st0) :=
  m_back (y := y) (free := A) hK hS (va_runS (g := F0 m pc ls st0) S hM cw ⟨m_blind, fun U hU hW => ⟨rfl, by show va_P _ _ _ U.heap; rw [hU]; exact hP, va_K.moved hW.alike hK⟩⟩ rfl hn hsize hst (lv_room hW) hdg hf) kk
end MRows
