/-! MAKING NEW THINGS -/
set_option maxRecDepth 100000 in
set_option maxHeartbeats 4000000 in
theorem a_initC (l : Launch) (D : va_G) (cO : ClassId) (dz mi : Nat) {A : Nat → Prop} (ws : va_W) (hD : va_D A ws) (b : Nat) : aV l yJxa1e45_init_da8c8 wsJxa1e45_init_da8c8 { frames := 1, cells := 0, slots := 0, locals := 12 } D cO dz mi A [.ref b] ws (fun w9 => ws = w9) 0 0 := by
  refine aV_of (cc := cJxa1e45_init_da8c8) (maxL := 1) (by decide) rfl (Nat.le_of_ble_eq_true rfl) ?_
  intro pp ee ss mm args below meth cc Q hx hb hml hown hts hA hP hE hS hini hret ls hl
  have hl : lv_has ls 1 [(0, .ref b)] := hl
  refine lv_aload_n hx hb dJxa1e45_init_da8c8_0 rfl (lv_at hl 0 rfl) ?_
  refine W.objInit hx hb hown (hts (.methodLink RJxa1e45 1 objectInit) (by decide +kernel)) (hts (.instanceMethod objectInit) (by decide +kernel)) (hts (.code objectInit ⟨#[0xb1]⟩ 1 none) (by decide +kernel)) rfl (by rw [hml]; exact hl.1) rfl dJxa1e45_init_da8c8_1 (Nat.le_of_ble_eq_true rfl) (Nat.le_of_ble_eq_true rfl) ?_
  exact hret ws _ _ _ _ _ _ dJxa1e45_init_da8c8_4 hP hD hS (by omega) (by omega) rfl
set_option maxRecDepth 100000 in
set_option maxHeartbeats 4000000 in
theorem a_initA (l : Launch) (D : va_G) (cO : ClassId) (dz mi : Nat) {A : Nat → Prop} (ws : va_W) (hD : va_D A ws) (k q : Nat) (hk : ws[k]? = some (q, .inr (0, [.int (iI 0), .null, .int (iI 0)]))) : aV l yJxc12de_init_da8c8 wsJxc12de_init_da8c8 { frames := 2, cells := 0, slots := 0, locals := 32 } D cO dz mi A [.ref q] ws (fun w9 => ws.set k (q, .inr (0, [.int (iI 0), .null, .int (iI 0)])) = w9) 0 0 := by
  refine aV_of (cc := cJxc12de_init_da8c8) (maxL := 1) (by decide) rfl (Nat.le_of_ble_eq_true rfl) ?_
  intro pp ee ss mm args below meth cc Q hx hb hml hown hts hA hP hE hS hini hret ls hl
  have hl : lv_has ls 1 [(0, .ref q)] := hl
  have hin : ∀ w ∈ wsJx4a65c0, w ∈ wsJxc12de_init_da8c8 := by decide +kernel
  refine lv_aload_n hx hb dJxc12de_init_da8c8_0 rfl (lv_at hl 0 rfl) ?_
  refine a_callV hS (va_runI (As := []) (rest := []) ⟨hx, hb, hml, hown, hts⟩ (a_initC l D cO dz mi ws hD q) (cwI 0 hts gJxc12de_init_da8c8_Jxa1e45_init_da8c8 rfl rfl rfl (hts (.initialized RJxa1e45) (by decide +kernel)) (hts (.methodLink RJxc12de 1 yJxa1e45_init_da8c8) (by decide +kernel)) (hts (.instanceMethod yJxa1e45_init_da8c8) (by decide +kernel)) rfl (by decide +kernel) ⟨Nat.le_of_ble_eq_true rfl, Nat.le_of_ble_eq_true rfl⟩) (a_preS hA hE hP hS) rfl rfl hl.1 rfl (lv_room (Nat.le_of_ble_eq_true rfl)) dJxc12de_init_da8c8_1 ⟨Nat.le_of_ble_eq_true rfl, Nat.le_of_ble_eq_true rfl⟩) (fun w9 H locs hpost hP hD hS => ?_)
  subst hpost
  refine lv_aload_n hx hb dJxc12de_init_da8c8_4 rfl (lv_at hl 0 rfl) ?_
  refine lv_iconst (v := iI 0) hx hb dJxc12de_init_da8c8_5 rfl ?_
  refine va_put (D := D) (ci := 0) (v := .int (iI 0)) (ty := .int) (C := RJx4a65c) (T := TJx4a65c) (N := 3) hx hb hts hin tyJx4a65c tyJx4a65c_ok nmJx4a65c hown hE.1 hP hD hS k hk rfl 0 (by decide) (hts (.fieldLink RJxc12de 7 "java/util/AbstractList" "modCount" "I") (by decide +kernel)) (fun _ h9 => h9) rfl (by decide +kernel) rfl rfl (Nat.le_of_ble_eq_true rfl) dJxc12de_init_da8c8_6 (fun H locs hP hD hS => ?_)
  exact hret _ _ _ _ _ _ _ dJxc12de_init_da8c8_9 hP hD hS (by omega) (by omega) rfl
set_option maxRecDepth 100000 in
set_option maxHeartbeats 4000000 in
theorem a_initL (l : Launch) (D : va_G) (cO : ClassId) (dz mi : Nat) {A : Nat → Prop} (ws : va_W) (hD : va_D A ws) (k q : Nat) (hk : ws[k]? = some (q, .inr (0, [.int (iI 0), .null, .int (iI 0)]))) : aV l yJx4a65c_init_da8c8 wsJx4a65c_init_da8c8 { frames := 3, cells := 0, slots := 0, locals := 52 } D cO dz mi A [.ref q] ws (fun w9 => ws.set k (q, .inr (0, [.int (iI 0), .ref dz, .int (iI 0)])) = w9) 0 0 := by
  refine aV_of (cc := cJx4a65c_init_da8c8) (maxL := 1) (by decide) rfl (Nat.le_of_ble_eq_true rfl) ?_
  intro pp ee ss mm args below meth cc Q hx hb hml hown hts hA hP hE hS hini hret ls hl
  have hl : lv_has ls 1 [(0, .ref q)] := hl
  have hin : ∀ w ∈ wsJx4a65c0, w ∈ wsJx4a65c_init_da8c8 := by decide +kernel
  refine lv_aload_n hx hb dJx4a65c_init_da8c8_0 rfl (lv_at hl 0 rfl) ?_
  refine a_callV hS (va_runI (As := []) (rest := []) ⟨hx, hb, hml, hown, hts⟩ (a_initA l D cO dz mi ws hD k q hk) (cwI 0 hts gJx4a65c_init_da8c8_Jxc12de_init_da8c8 rfl rfl rfl (hts (.initialized RJxc12de) (by decide +kernel)) (hts (.methodLink RJx4a65c 1 yJxc12de_init_da8c8) (by decide +kernel)) (hts (.instanceMethod yJxc12de_init_da8c8) (by decide +kernel)) rfl (by decide +kernel) ⟨Nat.le_of_ble_eq_true rfl, Nat.le_of_ble_eq_true rfl⟩) (a_preS hA hE hP hS) rfl rfl hl.1 rfl (lv_room (Nat.le_of_ble_eq_true rfl)) dJx4a65c_init_da8c8_1 ⟨Nat.le_of_ble_eq_true rfl, Nat.le_of_ble_eq_true rfl⟩) (fun w9 H locs hpost hP hD hS => ?_)
  subst hpost
  have hk2 := set_at (y := (q, (.inr (0, [.int (iI 0), .null, .int (iI 0)]) : va_E))) hk
  refine lv_aload_n hx hb dJx4a65c_init_da8c8_4 rfl (lv_at hl 0 rfl) ?_
  refine va_gets hx hb hE.2.2.1 hS hown (hts (.fieldLink RJx4a65c 39 "java/util/ArrayList" "DEFAULTCAPACITY_EMPTY_ELEMENTDATA" "[Ljava/lang/Object;") (by decide +kernel)) (fun _ h9 => h9) dJx4a65c_init_da8c8_5 ?_
  refine va_put (D := D) (ci := 0) (v := .ref dz) (ty := (.array (.object "java/lang/Object"))) (C := RJx4a65c) (T := TJx4a65c) (N := 3) hx hb hts hin tyJx4a65c tyJx4a65c_ok nmJx4a65c hown hE.1 hP hD hS k hk2 rfl 1 (by decide) (hts (.fieldLink RJx4a65c 9 "java/util/ArrayList" "elementData" "[Ljava/lang/Object;") (by decide +kernel)) (fun _ h9 => h9) rfl (by decide +kernel) rfl rfl (Nat.le_of_ble_eq_true rfl) dJx4a65c_init_da8c8_8 (fun H locs hP hD hS => ?_)
  exact hret _ _ _ _ _ _ _ dJx4a65c_init_da8c8_11 hP hD hS (by omega) (by omega) (by rw [List.set_set]; rfl)
section CNew
variable {p : Program} {l : Launch} {e : Env} {R : Room} {s : State} {m : MethodId} {args : Array Value} {below : List Frame} {meth : Method} {c : Code} {H : Heap} {locs : List Loc} {cells slots : Nat} {Q : State → Prop}
variable {cc : ByteArray} {pc : Nat} {ls : Array Slot} {rest st0 : List Value} {D : va_G} {cO : ClassId} {dz mi mc ms : Nat} {A : Nat → Prop} {w : CW} {b : Nat}
/-- a new thing, all of whose fields are 0 or null -/
theorem c_new (hexec : p.tables.exec = Jvm.exec) (hb : c.code = cc) {own C : String} {T : u_T} {N ci index : Nat} {Ts : List Cond} (hts : ∀ z ∈ Ts, z.before args s = true) (hin : ∀ z ∈ u_ws C T N, z ∈ Ts) (ty : Nat → FieldType) (hty : ∀ k, k < N → parseFieldDescriptor (T k).2.2.1 = some (ty k)) (hown : s.vm.findClass own = some m.cls) (hcl : (Cond.classLink own index C).before args s = true) (hinst : (Cond.instantiable C N).before args s = true) (hini : (Cond.initialized C).before args s = true)
    (hA : ∀ q, s.heap.size ≤ q → A q) (hE : aE D cO dz mi A s s.heap) (hC : cH D cO dz A w H) (hS : va_S A s.heap H locs) (h1 : 1 ≤ ci) (h4 : ci ≤ 4) (hc : vwCl[ci]? = some (C, T, N)) (fs : List Value) (hfs : ∀ j, j < N → defaultValue (ty j) = vp_V fs j) (hf0 : ∀ q, cFs (wMk w q ci) q ci = fs) (hcells : cells + 1 ≤ R.cells) (hslots : slots + N ≤ R.slots) (hdg : decode cc pc = .ok (.new index, 3))
    (kk : ∀ (q : Nat) (H1 : Heap), w.1 q = 0 → cH D cO dz A (wMk w q ci) H1 → va_S A s.heap H1 locs → W p l e R s m args below meth c H1 locs (cells + 1) (slots + N) Q (F0 m (pc + 3) ls (.ref q :: rest))) : W p l e R s m args below meth c H locs cells slots Q (F0 m pc ls rest) := by
  obtain ⟨ws, hP, hD, hR⟩ := hC
  refine va_new hexec hb hts hin ty hty hown hcl hinst hini hE.1 hP hD hS hA hc hfs hcells hslots hdg fun q H1 hP1 hD1 hS1 => ?_
  have hf9 := fresh_of hD1
  have h9 := hR.new (k := ci) (hR.free hf9) h1 h4 hf9
  rw [hf0 q] at h9
  exact kk q H1 (hR.free hf9) ⟨_, hP1, hD1, h9⟩ hS1
/-- a new list: new, dup, its constructor -/
theorem c_newList (hexec : p.tables.exec = Jvm.exec) (hb : c.code = cc) {nL : Nat} (hml : c.maxLocals = nL) (hsize : ls.size = nL) {own : String} {ik ic : Nat} {Ts : List Cond} (hts : ∀ z ∈ Ts, z.before args s = true) (hin : ∀ z ∈ wsJx4a65c0, z ∈ Ts) (hG : GoodIn Ts wsJx4a65c_init_da8c8) (hown : s.vm.findClass own = some m.cls) (hcl : (Cond.classLink own ik RJx4a65c).before args s = true) (hinst : (Cond.instantiable RJx4a65c 3).before args s = true) (hini : (Cond.initialized RJx4a65c).before args s = true) (hlink : (Cond.methodLink own ic yJx4a65c_init_da8c8).before args s = true) (hinm : (Cond.instanceMethod yJx4a65c_init_da8c8).before args s = true)
    (hA : ∀ q, s.heap.size ≤ q → A q) (hE : aE D cO dz mi A s s.heap) (hC : cH D cO dz A w H) (hS : va_S A s.heap H locs) (hW : (rest.map fun v => v.category).sum + 1 ≤ 8) (hfr : 4 ≤ R.frames) (hlo : 72 ≤ R.locals) (hcells : cells + 1 ≤ R.cells) (hslots : slots + 3 ≤ R.slots) (d0 : decode cc pc = .ok (.new ik, 3)) (d3 : decode cc (pc + 3) = .ok (.dup, 1)) (d4 : decode cc (pc + 4) = .ok (.invokespecial ic, 3))
    (kk : ∀ (q : Nat) (H1 : Heap) (locs1 : List Loc), w.1 q = 0 → cH D cO dz A (wMk w q 5) H1 → va_S A s.heap H1 locs1 → W p l e R s m args below meth c H1 locs1 (cells + 1) (slots + 3) Q (F0 m (pc + 7) ls (.ref q :: rest))) : W p l e R s m args below meth c H locs cells slots Q (F0 m pc ls rest) := by
  obtain ⟨ws, hP, hD, hR⟩ := hC
  refine va_new (C := RJx4a65c) (T := TJx4a65c) (N := 3) (ci := 0) (fs := [.int (iI 0), .null, .int (iI 0)]) hexec hb hts hin tyJx4a65c tyJx4a65c_ok hown hcl hinst hini hE.1 hP hD hS hA rfl (fun j hj => by rcases (show j = 0 ∨ j = 1 ∨ j = 2 by omega) with rfl | rfl | rfl <;> first | rfl | exact congrArg Value.int iI_0) hcells hslots d0 fun q H1 hP1 hD1 hS1 => ?_
  have hf9 := fresh_of hD1
  refine lv_dup hexec hb d3 rfl ?_
  refine a_callV hS1 (va_runI (As := []) (rest := .ref q :: rest) ⟨hexec, hb, hml, hown, hts⟩ (a_initL l D cO dz mi _ hD1 ws.length q (app_last _ _)) (cwI 0 hts hG rfl rfl rfl hini hlink hinm rfl (by decide +kernel) ⟨by show 3 + 1 ≤ _; omega, by show 8 + (1 + 11) + 52 ≤ _; omega⟩) (a_preS hA hE hP1 hS1) rfl rfl hsize rfl (lv_room (by simp only [List.map_cons, List.sum_cons]; show 1 + _ ≤ 8; omega)) d4 ⟨by omega, by omega⟩) (fun w9 H2 locs2 hpost hP2 hD2 hS2 => ?_)
  rw [set_last] at hpost
  subst hpost
  exact kk q H2 locs2 (hR.free hf9) ⟨_, hP2, hD2, hR.newL (hR.free hf9) hf9⟩ hS2
/-- a field is written: any field, also a final one in its own constructor -/
theorem c_putG (hexec : p.tables.exec = Jvm.exec) (hb : c.code = cc) {own ref C : String} {T : u_T} {N ci index : Nat} {Ts : List Cond} (hts : ∀ z ∈ Ts, z.before args s = true) (hin : ∀ z ∈ u_ws C T N, z ∈ Ts) (ty0 : Nat → FieldType) (hty : ∀ k, k < N → parseFieldDescriptor (T k).2.2.1 = some (ty0 k)) (hnm : ∀ a, a < N → ∀ b, b < N → a ≠ b → (T a).2.1 ≠ (T b).2.1) (hown : s.vm.findClass own = some m.cls) (hE : aE D cO dz mi A s s.heap) (hC : cH D cO dz A w H) (hS : va_S A s.heap H locs) (hk : w.1 b = ci) (h1 : 1 ≤ ci) (h4 : ci ≤ 4) (hc : vwCl[ci]? = some (C, T, N)) (k : Nat) (hkN : k < N) (hlink : (Cond.fieldLink own index ref (T k).2.1 (T k).2.2.1).before args s = true) (hr : (T k).1 = ref) (hfin : (T k).2.2.2 = false ∨ ((T k).2.2.2 = true ∧ meth.name = "<init>" ∧ (T k).1 = own)) {ty : FieldType} {v : Value} (hd : parseFieldDescriptor (T k).2.2.1 = some ty) (hn : narrow ty v = v) (hfit : fits ty v = true) (w' : CW) (eK : w'.1 = w.1) (eL : w'.2.2.2 = w.2.2.2) (eo : ∀ b', b' ≠ b → ∀ q, cFs w' b' q = cFs w b' q) (hl : k < (cFs w b ci).length) (hset : cFs w' b ci = (cFs w b ci).set k v) (hdg : decode cc pc = .ok (.putfield index, 3))
    (kk : ∀ (H1 : Heap) (locs1 : List Loc), cH D cO dz A w' H1 → va_S A s.heap H1 locs1 → W p l e R s m args below meth c H1 locs1 cells slots Q (F0 m (pc + 3) ls rest)) : W p l e R s m args below meth c H locs cells slots Q (F0 m pc ls (v :: .ref b :: rest)) := by
  subst hk
  obtain ⟨ws, hP, hD, hR⟩ := hC
  obtain ⟨j, hj⟩ := hR.2.2.1 b h1 h4
  have h9 := hR.put (w' := w') h1 h4 hj eK eL eo
  rw [hset] at h9
  rcases hfin with hfin | ⟨hfin, hin2, hdecl⟩
  · exact va_put hexec hb hts hin ty0 hty hnm hown hE.1 hP hD hS j hj hc k hkN hlink (fun x h => by rw [hr] at h; exact h) hfin hd hn hfit hl hdg fun H1 locs1 hP1 hD1 hS1 => kk H1 locs1 ⟨_, hP1, hD1, h9⟩ hS1
  · exact va_putF hexec hb hts hin ty0 hty hnm hown hE.1 hP hD hS j hj hc k hkN hlink (fun x h => by rw [hr] at h; exact h) hfin hin2 hdecl hd hn hfit hl hdg fun H1 locs1 hP1 hD1 hS1 => kk H1 locs1 ⟨_, hP1, hD1, h9⟩ hS1
end CNew
theorem rf_fits (r : Option Nat) (nm : String) : narrow (.object nm) (va_rf r) = va_rf r ∧ fits (.object nm) (va_rf r) = true := by cases r <;> exact ⟨rfl, rfl⟩
theorem cs_10 (w : CW) (a : Nat) (r : Option Nat) : cFs (wR w 10 a r) a 1 = (cFs w a 1).set 0 (va_rf r) := by
  show [va_rf ((wR w 10 a r).2.2.1 10 a), _] = _
  rw [wR_R, if_pos ⟨rfl, rfl⟩]; rfl
theorem cs_21 (w : CW) (a : Nat) (r : Option Nat) : cFs (wR w 21 a r) a 2 = (cFs w a 2).set 1 (va_rf r) := by
  show [_, va_rf ((wR w 21 a r).2.2.1 21 a), _, _] = _
  rw [wR_R, if_pos ⟨rfl, rfl⟩]; rfl
theorem cs_30 (w : CW) (a : Nat) (r : Option Nat) : cFs (wR w 30 a r) a 3 = (cFs w a 3).set 0 (va_rf r) := by
  show [va_rf ((wR w 30 a r).2.2.1 30 a), va_rf ((wR w 30 a r).2.2.1 31 a), _, _, _, _] = _
  rw [wR_R, wR_R, if_pos ⟨rfl, rfl⟩, if_neg (by omega)]; rfl
theorem cs_31 (w : CW) (a : Nat) (r : Option Nat) : cFs (wR w 31 a r) a 3 = (cFs w a 3).set 1 (va_rf r) := by
  show [va_rf ((wR w 31 a r).2.2.1 30 a), va_rf ((wR w 31 a r).2.2.1 31 a), _, _, _, _] = _
  rw [wR_R, wR_R, if_neg (by omega), if_pos ⟨rfl, rfl⟩]; rfl
theorem cs_40 (w : CW) (a : Nat) (r : Option Nat) : cFs (wR w 40 a r) a 4 = (cFs w a 4).set 0 (va_rf r) := by
  show [va_rf ((wR w 40 a r).2.2.1 40 a), va_rf ((wR w 40 a r).2.2.1 41 a), va_rf ((wR w 40 a r).2.2.1 42 a), _] = _
  rw [wR_R, wR_R, wR_R, if_pos ⟨rfl, rfl⟩, if_neg (by omega), if_neg (by omega)]; rfl
theorem cs_41 (w : CW) (a : Nat) (r : Option Nat) : cFs (wR w 41 a r) a 4 = (cFs w a 4).set 1 (va_rf r) := by
  show [va_rf ((wR w 41 a r).2.2.1 40 a), va_rf ((wR w 41 a r).2.2.1 41 a), va_rf ((wR w 41 a r).2.2.1 42 a), _] = _
  rw [wR_R, wR_R, wR_R, if_neg (by omega), if_pos ⟨rfl, rfl⟩, if_neg (by omega)]; rfl
theorem cs_42 (w : CW) (a : Nat) (r : Option Nat) : cFs (wR w 42 a r) a 4 = (cFs w a 4).set 2 (va_rf r) := by
  show [va_rf ((wR w 42 a r).2.2.1 40 a), va_rf ((wR w 42 a r).2.2.1 41 a), va_rf ((wR w 42 a r).2.2.1 42 a), _] = _
  rw [wR_R, wR_R, wR_R, if_neg (by omega), if_neg (by omega), if_pos ⟨rfl, rfl⟩]; rfl
theorem cn_1 (w : CW) (q : Nat) : cFs (wMk w q 1) q 1 = [.null, .int (iI 0)] := by
  show [va_rf ((wMk w q 1).2.2.1 10 q), Value.int (iI ((wMk w q 1).2.1 11 q))] = _
  simp [wMk_R, wMk_F, va_rf]
theorem cn_2 (w : CW) (q : Nat) : cFs (wMk w q 2) q 2 = [.int (iI 0), .null, .int (iI 0), .int (iI 0)] := by
  show [Value.int (iI ((wMk w q 2).2.1 20 q)), va_rf ((wMk w q 2).2.2.1 21 q), Value.int (iI ((wMk w q 2).2.1 22 q)), Value.int (iI ((wMk w q 2).2.1 23 q))] = _
  simp [wMk_R, wMk_F, va_rf]
theorem cn_3 (w : CW) (q : Nat) : cFs (wMk w q 3) q 3 = [.null, .null, .int (iI 0), .int (iI 0), .int (iI 0), .int (iI 0)] := by
  show [va_rf ((wMk w q 3).2.2.1 30 q), va_rf ((wMk w q 3).2.2.1 31 q), Value.int (iI ((wMk w q 3).2.1 32 q)), Value.int (iI ((wMk w q 3).2.1 33 q)), Value.int (iI ((wMk w q 3).2.1 34 q)), Value.int (iI ((wMk w q 3).2.1 35 q))] = _
  simp [wMk_R, wMk_F, va_rf]
theorem cn_4 (w : CW) (q : Nat) : cFs (wMk w q 4) q 4 = [.null, .null, .null, .int (iI 0)] := by
  show [va_rf ((wMk w q 4).2.2.1 40 q), va_rf ((wMk w q 4).2.2.1 41 q), va_rf ((wMk w q 4).2.2.1 42 q), Value.int (iI ((wMk w q 4).2.1 43 q))] = _
  simp [wMk_R, wMk_F, va_rf]
