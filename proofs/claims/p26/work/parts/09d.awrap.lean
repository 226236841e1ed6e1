abbrev aCell (cO : ClassId) (cap : Nat) (arr : Nat → Option Nat) : va_E := .inl (cO, cap, .inr (.inr (.inr (.inr arr))))
theorem fresh_of {A : Nat → Prop} {ws : va_W} {q : Nat} {x : va_E} (hD : va_D A (ws ++ [(q, x)])) : ∀ (j : Nat) (z : Nat × va_E), ws[j]? = some z → z.1 ≠ q := fun j z hj e => by
  have hl := (List.getElem?_eq_some_iff.mp hj).1
  have := hD.1 j ws.length z (q, x) (by rw [List.getElem?_append_left hl]; exact hj) (by simp) e
  omega
theorem app_at {ws : va_W} {k : Nat} {x : Nat × va_E} {w2 : va_W} (h : ws[k]? = some x) : (ws ++ w2)[k]? = some x := by
  rw [List.getElem?_append_left (List.getElem?_eq_some_iff.mp h).1]
  exact h
theorem app_last (ws : va_W) (x : Nat × va_E) : (ws ++ [x])[ws.length]? = some x := by simp
section AWrap
variable {p : Program} {l : Launch} {e : Env} {R : Room} {s : State} {m : MethodId} {args : Array Value} {below : List Frame} {meth : Method} {c : Code} {H : Heap} {locs : List Loc} {cells slots : Nat} {Q : State → Prop}
variable {cc : ByteArray} {pc : Nat} {ls : Array Slot} {rest : List Value} {D : va_G} {cO : ClassId} {dz mi : Nat} {A : Nat → Prop} {ws : va_W} {a : Nat}
theorem a_newq (hexec : p.tables.exec = Jvm.exec) (hb : c.code = cc) {own : String} {index : Nat} (hown : s.vm.findClass own = some m.cls) (hclink : (Cond.classLink own index "java/lang/Object").before args s = true) (hE : aE D cO dz mi A s s.heap) (hP : va_P D vwCl ws H) (hD : va_D A ws) (hS : va_S A s.heap H locs) (hA : ∀ q, s.heap.size ≤ q → A q)
    {z : Int} (h0 : 0 ≤ z) (h1 : z ≤ 1000) (hcells : cells + 1 ≤ R.cells) (hslots : slots + z.toNat ≤ R.slots) (hdg : decode cc pc = .ok (.anewarray index, 3))
    (kk : ∀ (q : Nat) (H1 : Heap), va_P D vwCl (ws ++ [(q, aCell cO z.toNat (fun _ => none))]) H1 → va_D A (ws ++ [(q, aCell cO z.toNat (fun _ => none))]) → va_S A s.heap H1 locs → W p l e R s m args below meth c H1 locs (cells + 1) (slots + z.toNat) Q (F0 m (pc + 3) ls (.ref q :: rest))) : W p l e R s m args below meth c H locs cells slots Q (F0 m pc ls (.int (iI z) :: rest)) := by
  refine va_newq hexec hb hown hclink hE.2.1 hE.1 hP hD hS hA (by rw [iI_0, iI_lt ⟨by omega, by omega⟩ ⟨by omega, by omega⟩]; omega) (iI_clamp h0 (by omega)) (by omega) hcells hslots hdg fun q cA H1 hK1 hP1 hD1 hS1 => ?_
  have e9 : cA = cO := Option.some.inj ((va_nmO (nm := "[Ljava/lang/Object;") (hK1.2 1 _ rfl).2 (by decide +kernel)).symm.trans (va_nmO (nm := "[Ljava/lang/Object;") (hK1.2 0 _ rfl).2 (by decide +kernel)))
  subst e9
  exact kk q H1 hP1 hD1 hS1
theorem a_ald (hexec : p.tables.exec = Jvm.exec) (hb : c.code = cc) (hE : aE D cO dz mi A s s.heap) (hP : va_P D vwCl ws H) {k cap : Nat} {arr : Nat → Option Nat} (hk : ws[k]? = some (a, aCell cO cap arr)) {z : Int} (h0 : 0 ≤ z) (h1 : z < cap) (h2 : cap ≤ 1000) {r : Option Nat} (hv : arr z.toNat = r) (hdg : decode cc pc = .ok (.aaload, 1))
    (kk : W p l e R s m args below meth c H locs cells slots Q (F0 m (pc + 1) ls (va_rf r :: rest))) : W p l e R s m args below meth c H locs cells slots Q (F0 m pc ls (.int (iI z) :: .ref a :: rest)) := by
  refine va_aldq hexec hb hE.1 hP k 0 hk rfl (iI_in h0 h1 (by omega)) hdg ?_
  rw [iI_clamp h0 (by omega), hv]
  exact kk
theorem a_cast {s : State} (hE : aE D cO dz mi A s s.heap) {ci : Nat} (h1 : 1 ≤ ci) (h3 : ci ≤ 3) : ∃ r : vw_C, vwCl[ci]? = some r ∧ va_Nw (.castable r.1 "java/lang/Object") s := by
  have : ci = 1 ∨ ci = 2 ∨ ci = 3 := by omega
  rcases this with rfl | rfl | rfl
  · exact ⟨_, rfl, hE.2.2.2.2.2.2.1⟩
  · exact ⟨_, rfl, hE.2.2.2.2.2.2.2.1⟩
  · exact ⟨_, rfl, hE.2.2.2.2.2.2.2.2⟩
theorem a_ast (hexec : p.tables.exec = Jvm.exec) (hb : c.code = cc) (hE : aE D cO dz mi A s s.heap) (hP : va_P D vwCl ws H) (hD : va_D A ws) (hS : va_S A s.heap H locs) {k cap : Nat} {arr : Nat → Option Nat} (hk : ws[k]? = some (a, aCell cO cap arr)) {v kb ci : Nat} {fs : List Value} (hb2 : ws[kb]? = some (v, .inr (ci, fs))) (c1 : 1 ≤ ci) (c3 : ci ≤ 3) {z : Int} (h0 : 0 ≤ z) (h1 : z < cap) (h2 : cap ≤ 1000) (hdg : decode cc pc = .ok (.aastore, 1))
    (kk : ∀ (H1 : Heap) (locs1 : List Loc), va_P D vwCl (ws.set k (a, aCell cO cap (va_up arr z.toNat (some v)))) H1 → va_D A (ws.set k (a, aCell cO cap (va_up arr z.toNat (some v)))) → va_S A s.heap H1 locs1 → W p l e R s m args below meth c H1 locs1 cells slots Q (F0 m (pc + 1) ls rest)) : W p l e R s m args below meth c H locs cells slots Q (F0 m pc ls (.ref v :: .int (iI z) :: .ref a :: rest)) := by
  obtain ⟨r, hr, hca⟩ := a_cast hE c1 c3
  refine va_astqO hexec hb hE.1 hP hD hS k 0 kb ci hk rfl hca hb2 hr (iI_in h0 h1 (by omega)) hdg fun H1 locs1 hP1 hD1 hS1 => ?_
  rw [iI_clamp h0 (by omega)] at hP1 hD1
  exact kk H1 locs1 hP1 hD1 hS1
theorem a_astN (hexec : p.tables.exec = Jvm.exec) (hb : c.code = cc) (hE : aE D cO dz mi A s s.heap) (hP : va_P D vwCl ws H) (hD : va_D A ws) (hS : va_S A s.heap H locs) {k cap : Nat} {arr : Nat → Option Nat} (hk : ws[k]? = some (a, aCell cO cap arr)) {z : Int} (h0 : 0 ≤ z) (h1 : z < cap) (h2 : cap ≤ 1000) (hdg : decode cc pc = .ok (.aastore, 1))
    (kk : ∀ (H1 : Heap) (locs1 : List Loc), va_P D vwCl (ws.set k (a, aCell cO cap (va_up arr z.toNat none))) H1 → va_D A (ws.set k (a, aCell cO cap (va_up arr z.toNat none))) → va_S A s.heap H1 locs1 → W p l e R s m args below meth c H1 locs1 cells slots Q (F0 m (pc + 1) ls rest)) : W p l e R s m args below meth c H locs cells slots Q (F0 m pc ls (.null :: .int (iI z) :: .ref a :: rest)) := by
  refine va_astqN hexec hb hE.1 hP hD hS k 0 hk rfl (iI_in h0 h1 (by omega)) hdg fun H1 locs1 hP1 hD1 hS1 => ?_
  rw [iI_clamp h0 (by omega)] at hP1 hD1
  exact kk H1 locs1 hP1 hD1 hS1
/-- whatever may lie in a row of objects -/
def elsOk (ws : va_W) (cap : Nat) (arr : Nat → Option Nat) : Prop := ∀ i : Nat, i < cap → ∀ y : Nat, arr i = some y → ∃ (kb ci : Nat) (fs : List Value), ws[kb]? = some (y, .inr (ci, fs)) ∧ 1 ≤ ci ∧ ci ≤ 3
theorem a_copy (hexec : p.tables.exec = Jvm.exec) (hb : c.code = cc) (hml : c.maxLocals = ls.size) {own : String} {index : Nat} (hown : s.vm.findClass own = some m.cls) (hlink : (Cond.methodLink own index arraycopyName).before args s = true) (hnat : (Cond.native arraycopyName).before args s = true) (hstat : (Cond.static arraycopyName).before args s = true) (hini : (Cond.initialized "java/lang/System").before args s = true)
    (hE : aE D cO dz mi A s s.heap) (hP : va_P D vwCl ws H) (hD : va_D A ws) (hS : va_S A s.heap H locs) {k0 k1 a0 n0 n1 : Nat} {f g : Nat → Option Nat} (ha0 : ws[k0]? = some (a0, aCell cO n0 f)) (ha1 : ws[k1]? = some (a, aCell cO n1 g)) (hel : elsOk ws n0 f) {sp dp z : Int} (s0 : 0 ≤ sp) (d0 : 0 ≤ dp) (z0 : 0 ≤ z) (h4 : sp + z ≤ n0) (h5 : dp + z ≤ n1) (b0 : n0 ≤ 1000) (b1 : n1 ≤ 1000)
    (hframes : 1 ≤ R.frames) (hlocals : (rest.map fun v => v.category).sum + (nativeFrameWords "java/lang/System" "arraycopy" 5 + 11) ≤ R.locals) (hdg : decode cc pc = .ok (.invokestatic index, 3))
    (kk : ∀ (H1 : Heap) (locs1 : List Loc), va_P D vwCl (ws.set k1 (a, aCell cO n1 (va_cpy f g sp.toNat dp.toNat z.toNat))) H1 → va_D A (ws.set k1 (a, aCell cO n1 (va_cpy f g sp.toNat dp.toNat z.toNat))) → va_S A s.heap H1 locs1 → W p l e R s m args below meth c H1 locs1 cells slots Q (F0 m (pc + 3) ls rest)) : W p l e R s m args below meth c H locs cells slots Q (F0 m pc ls (.int (iI z) :: .int (iI dp) :: .ref a :: .int (iI sp) :: .ref a0 :: rest)) := by
  have nn : ∀ {x : Int}, 0 ≤ x → x ≤ 1000 → ¬ iI x < 0 := fun {x} h0 h1 => by rw [iI_0, iI_lt ⟨by omega, by omega⟩ ⟨by omega, by omega⟩]; omega
  refine va_copyM hexec hb hml hown hlink hnat hstat hini hE.1 hP hD hS k0 k1 0 0 ha0 ha1 rfl rfl (nn s0 (by omega)) (nn d0 (by omega)) (nn z0 (by omega)) (by rw [iI_clamp s0 (by omega), iI_clamp z0 (by omega)]; omega) (by rw [iI_clamp d0 (by omega), iI_clamp z0 (by omega)]; omega) (fun i hi y hy => ?_) hframes hlocals hdg fun H1 locs1 hP1 hD1 hS1 => ?_
  · rw [iI_clamp z0 (by omega)] at hi
    rw [iI_clamp s0 (by omega)] at hy
    obtain ⟨kb, ci, fs, hkb, c1, c3⟩ := hel _ (by omega) y hy
    obtain ⟨r, hr, hca⟩ := a_cast hE c1 c3
    exact va_rAny hE.1 hP hkb hr (fun comp c0 h1 h2 => vb_asgC hca comp c0 h1 h2)
  · rw [iI_clamp s0 (by omega), iI_clamp d0 (by omega), iI_clamp z0 (by omega)] at hP1 hD1
    exact kk H1 locs1 hP1 hD1 hS1
theorem a_arr {k cap : Nat} {arr : Nat → Option Nat} (hE : aE D cO dz mi A s s.heap) (hP : va_P D vwCl ws H) (hk : ws[k]? = some (a, aCell cO cap arr)) : ∃ cell : Cell, H[a]? = some cell ∧ cell.vm.isStatics = false ∧ s.vm.findClass "[Ljava/lang/Object;" = some cell.cls :=
  ⟨_, hP k _ hk, rfl, va_nmO (nm := "[Ljava/lang/Object;") (hE.1.2 0 _ rfl).2 (by decide +kernel)⟩
end AWrap
