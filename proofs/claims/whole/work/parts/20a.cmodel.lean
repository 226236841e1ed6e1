/-! THE REFERENCE'S START -/
section MNew
variable {p : Program} {l : Launch} {e : Env} {R : Room} {s : State} {m : MethodId} {args : Array Value} {below : List Frame} {meth : Method} {c : Code} {H H0 : Heap} {locs : List Loc} {cells slots : Nat} {Q : State → Prop}
variable {cc : ByteArray} {pc : Nat} {ls : Array Slot} {rest : List Value} {D : va_G} {A : Nat → Prop} {cI : ClassId} {ws : va_W}
theorem m_newa (hexec : p.tables.exec = Jvm.exec) (hb : c.code = cc) (harr : (Cond.arrayClass .int).before args s = true) (hK : va_K D vwCl [(cI, .int)] s) (hP : va_P D vwCl ws H) (hD : va_D A ws) (hS : va_S A H0 H locs) (hA : ∀ q, H0.size ≤ q → A q) {z : Int} {N : Nat} (hz : z = N) (h1 : N ≤ 1000) (hcells : cells + 1 ≤ R.cells) (hslots : slots + N ≤ R.slots) (hdg : decode cc pc = .ok (.newarray .int, 2))
    (kk : ∀ (q : Nat) (H1 : Heap), va_P D vwCl (ws ++ [(q, .inl (cI, N, .inl (fun _ => iI 0)))]) H1 → va_D A (ws ++ [(q, .inl (cI, N, .inl (fun _ => iI 0)))]) → va_S A H0 H1 locs → W p l e R s m args below meth c H1 locs (cells + 1) (slots + N) Q (F0 m (pc + 2) ls (.ref q :: rest))) : W p l e R s m args below meth c H locs cells slots Q (F0 m pc ls (.int (iI z) :: rest)) := by
  subst hz
  refine va_newa (atype := .int) (ty := .int) (N' := N) (a0 := (N, .inl (fun _ => iI 0))) hexec hb harr rfl hK hP hD hS hA (fun cA => by rw [← iI_0]; rfl) (by rw [iI_0, iI_lt ⟨by omega, by omega⟩ ⟨by omega, by omega⟩]; omega) (by rw [iI_clamp (by omega) (by omega)]; rfl) (by show N * 4 ≤ 536870912; omega) hcells hslots hdg fun q cA H1 hK1 hP1 hD1 hS1 => ?_
  have e9 : cA = cI := Option.some.inj ((show s.vm.findClass _ = some cA from (hK1.2 1 _ rfl).2).symm.trans (show s.vm.findClass _ = some cI from (hK1.2 0 _ rfl).2))
  subst e9
  exact kk q H1 hP1 hD1 hS1
end MNew
def mF0 : List Value := [.null, .null, .int (iI 0), .null, .null, .null, .null, .null, .null, .null, .null, .int (iI 0), .null, .int (iI 0), .int (iI 0)]
theorem df_5 : ∀ j, j < 15 → defaultValue (tyX4 j) = vp_V mF0 j := fun j hj => by
  rcases (show j = 0 ∨ j = 1 ∨ j = 2 ∨ j = 3 ∨ j = 4 ∨ j = 5 ∨ j = 6 ∨ j = 7 ∨ j = 8 ∨ j = 9 ∨ j = 10 ∨ j = 11 ∨ j = 12 ∨ j = 13 ∨ j = 14 by omega) with rfl | rfl | rfl | rfl | rfl | rfl | rfl | rfl | rfl | rfl | rfl | rfl | rfl | rfl | rfl <;> first | rfl | exact congrArg Value.int iI_0
def mAd (b : Nat) (qs : Nat → Nat) : Nat → Nat := fun k => if k < 11 then qs k else b
def mU0 : MS := (fun _ _ => iI 0, fun j => if j = 0 then iI 1 else iI 0)
def mU1 : MS := pokeF (pokeF (pokeF (pokeF (pokeF (pokeF mU0 0 0 (-1)) 1 0 (-1)) 10 0 100) 10 1 100) 10 2 100) 10 3 100
theorem RelM_0 : RelM stS0 mU1 := by
  have e : ∀ (k : Nat) (i : Int), 0 ≤ i → mU1.1 k i.toNat = if k = 10 ∧ i = 3 then iI 100 else if k = 10 ∧ i = 2 then iI 100 else if k = 10 ∧ i = 1 then iI 100 else if k = 10 ∧ i = 0 then iI 100 else if k = 1 ∧ i = 0 then iI (-1) else if k = 0 ∧ i = 0 then iI (-1) else iI 0 := fun k i hi => by
    unfold mU1
    rw [pokeF_1 _ 10 k (by omega) hi, pokeF_1 _ 10 k (by omega) hi, pokeF_1 _ 10 k (by omega) hi, pokeF_1 _ 10 k (by omega) hi, pokeF_1 _ 1 k (by omega) hi, pokeF_1 _ 0 k (by omega) hi]
    rfl
  unfold RelM
  rw [st_d, st_f, st_t]
  refine ⟨rfl, rfl, rfl, fun k hk i h0 h1 => ?_, fun k hk i h0 h1 => by omega, fun i h0 h1 => ?_, fun i h0 h1 => by omega, fun i h0 h1 j hj => by omega, fun i h0 h1 => ?_⟩
  · have hi : i = 0 := by omega
    subst hi
    rw [e k 0 (by omega)]
    rcases (show k = 0 ∨ k = 1 by omega) with rfl | rfl <;> rfl
  · rw [e 10 i h0]
    rcases (show i = 0 ∨ i = 1 ∨ i = 2 ∨ i = 3 by omega) with rfl | rfl | rfl | rfl <;> rfl
  · rw [e 6 i (by omega), e 7 i (by omega)]
    simp

set_option maxRecDepth 100000 in
set_option maxHeartbeats 4000000 in
theorem c_modelInit (l : Launch) (D : va_G) (cI : ClassId) {A : Nat → Prop} (b : Nat) : Met l yX4_init wsX4_init { frames := 1, cells := 11, slots := 598, locals := 12 } (va_Pc [.ref b] (fun U => (∀ q, U.heap.size ≤ q → A q) ∧ A b ∧ va_P D vwCl [(b, .inr (5, mF0))] U.heap ∧ va_K D vwCl [(cI, .int)] U)) (va_Qv (fun x : (Nat → Nat) × MS => x.1 11 = b ∧ RelM stS0 x.2) (fun x t => va_P D vwCl (wM x.1 cI x.2) t.heap ∧ va_D A (wM x.1 cI x.2)) A) 11 598 A := by
  refine Met.ofW (cc := cX4_init) (maxL := 2) (ret := none) (by decide) rfl ?_
  intro pp ee ss mm args below meth cc s₁ B hml hv
  obtain ⟨rfl, hA, hAb, hP, hK⟩ := hv
  have hl := lv_entry ([.ref b]) (n := 2) (Nat.le_of_ble_eq_true rfl)
  rw [lg_entry_eq]
  have hx := B.exec
  have hb := B.bytes
  have hown : ss.vm.findClass RX4 = some mm.cls := findClass_of_methodNamed B.named
  have hts := atoms_spec (ws := wsX4_init) B.pre
  have hini : meth.name = "<init>" := (name_of_methodNamed B.named B.method).1
  have hS : va_S A ss.heap ss.heap [] := va_S.rf
  have hD : va_D A [(b, .inr (5, mF0))] := ⟨fun i j p q h1 h2 _ => by have := (List.getElem?_eq_some_iff.mp h1).1; have := (List.getElem?_eq_some_iff.mp h2).1; simp only [List.length_cons, List.length_nil] at *; omega, fun k q h => by have h9 := (List.getElem?_eq_some_iff.mp h).1; simp only [List.length_cons, List.length_nil] at h9; have hk : k = 0 := (by omega); subst hk; cases h; exact hAb⟩
  generalize (lg_sl ([.ref b]) ++ List.replicate (2 - (lg_sl ([.ref b])).length) Slot.unset).toArray = ls at hl ⊢
  have hl : lv_has ls 2 [(0, .ref b)] := hl
  have hin : ∀ w ∈ wsX40, w ∈ wsX4_init := by decide +kernel
  refine lv_aload_n hx hb dX4_init_0 rfl (lv_at hl 0 rfl) ?_
  refine W.objInit hx hb hown (hts (.methodLink RX4 1 objectInit) (by decide +kernel)) (hts (.instanceMethod objectInit) (by decide +kernel)) (hts (.code objectInit ⟨#[0xb1]⟩ 1 none) (by decide +kernel)) rfl (by rw [hml]; exact hl.1) rfl dX4_init_1 (Nat.le_of_ble_eq_true rfl) (Nat.le_of_ble_eq_true rfl) ?_
  show W _ _ _ _ _ _ _ _ _ _ _ _ _ _ _ (F0 mm 4 ls [])
  have hP : va_P D vwCl [(b, .inr (5, [.null, .null, .int (iI 0), .null, .null, .null, .null, .null, .null, .null, .null, .int (iI 0), .null, .int (iI 0), .int (iI 0)]))] ss.heap := hP
  have hD : va_D A [(b, .inr (5, [.null, .null, .int (iI 0), .null, .null, .null, .null, .null, .null, .null, .null, .int (iI 0), .null, .int (iI 0), .int (iI 0)]))] := hD
  refine lv_aload_n hx hb dX4_init_4 rfl (lv_at hl 0 rfl) ?_
  refine lv_bipush (v := iI 12) hx hb dX4_init_5 (by decide) ?_
  refine m_newa (N := 12) hx hb (hts (.arrayClass .int) (by decide +kernel)) hK hP hD hS hA rfl (Nat.le_of_ble_eq_true rfl) (Nat.le_of_ble_eq_true rfl) (Nat.le_of_ble_eq_true rfl) dX4_init_7 (fun q0 H hP hD hS => ?_)
  have hP : va_P D vwCl [(b, .inr (5, [.null, .null, .int (iI 0), .null, .null, .null, .null, .null, .null, .null, .null, .int (iI 0), .null, .int (iI 0), .int (iI 0)])), (q0, .inl (cI, 12, .inl (fun _ => iI 0)))] H := hP
  have hD : va_D A [(b, .inr (5, [.null, .null, .int (iI 0), .null, .null, .null, .null, .null, .null, .null, .null, .int (iI 0), .null, .int (iI 0), .int (iI 0)])), (q0, .inl (cI, 12, .inl (fun _ => iI 0)))] := hD
  refine va_putF (C := RX4) (T := TX4) (N := 15) (ty := .array .int) (v := .ref q0) hx hb hts hin tyX4 tyX4_ok nmX4 hown hK hP hD hS 0 rfl rfl 0 (by decide) (hts (.fieldLink RX4 7 "HoldServerModel" "parent" "[I") (by decide +kernel)) (fun _ h9 => h9) rfl hini rfl (by decide +kernel) rfl rfl (Nat.le_of_ble_eq_true rfl) dX4_init_9 (fun H locs hP hD hS => ?_)
  have hP : va_P D vwCl [(b, .inr (5, [.ref q0, .null, .int (iI 0), .null, .null, .null, .null, .null, .null, .null, .null, .int (iI 0), .null, .int (iI 0), .int (iI 0)])), (q0, .inl (cI, 12, .inl (fun _ => iI 0)))] H := hP
  have hD : va_D A [(b, .inr (5, [.ref q0, .null, .int (iI 0), .null, .null, .null, .null, .null, .null, .null, .null, .int (iI 0), .null, .int (iI 0), .int (iI 0)])), (q0, .inl (cI, 12, .inl (fun _ => iI 0)))] := hD
  refine lv_aload_n hx hb dX4_init_12 rfl (lv_at hl 0 rfl) ?_
  refine lv_bipush (v := iI 12) hx hb dX4_init_13 (by decide) ?_
  refine m_newa (N := 12) hx hb (hts (.arrayClass .int) (by decide +kernel)) hK hP hD hS hA rfl (Nat.le_of_ble_eq_true rfl) (Nat.le_of_ble_eq_true rfl) (Nat.le_of_ble_eq_true rfl) dX4_init_15 (fun q1 H hP hD hS => ?_)
  have hP : va_P D vwCl [(b, .inr (5, [.ref q0, .null, .int (iI 0), .null, .null, .null, .null, .null, .null, .null, .null, .int (iI 0), .null, .int (iI 0), .int (iI 0)])), (q0, .inl (cI, 12, .inl (fun _ => iI 0))), (q1, .inl (cI, 12, .inl (fun _ => iI 0)))] H := hP
  have hD : va_D A [(b, .inr (5, [.ref q0, .null, .int (iI 0), .null, .null, .null, .null, .null, .null, .null, .null, .int (iI 0), .null, .int (iI 0), .int (iI 0)])), (q0, .inl (cI, 12, .inl (fun _ => iI 0))), (q1, .inl (cI, 12, .inl (fun _ => iI 0)))] := hD
  refine va_putF (C := RX4) (T := TX4) (N := 15) (ty := .array .int) (v := .ref q1) hx hb hts hin tyX4 tyX4_ok nmX4 hown hK hP hD hS 0 rfl rfl 1 (by decide) (hts (.fieldLink RX4 13 "HoldServerModel" "quota" "[I") (by decide +kernel)) (fun _ h9 => h9) rfl hini rfl (by decide +kernel) rfl rfl (Nat.le_of_ble_eq_true rfl) dX4_init_17 (fun H locs hP hD hS => ?_)
  have hP : va_P D vwCl [(b, .inr (5, [.ref q0, .ref q1, .int (iI 0), .null, .null, .null, .null, .null, .null, .null, .null, .int (iI 0), .null, .int (iI 0), .int (iI 0)])), (q0, .inl (cI, 12, .inl (fun _ => iI 0))), (q1, .inl (cI, 12, .inl (fun _ => iI 0)))] H := hP
  have hD : va_D A [(b, .inr (5, [.ref q0, .ref q1, .int (iI 0), .null, .null, .null, .null, .null, .null, .null, .null, .int (iI 0), .null, .int (iI 0), .int (iI 0)])), (q0, .inl (cI, 12, .inl (fun _ => iI 0))), (q1, .inl (cI, 12, .inl (fun _ => iI 0)))] := hD
  refine lv_aload_n hx hb dX4_init_20 rfl (lv_at hl 0 rfl) ?_
  refine lv_iconst (v := iI 1) hx hb dX4_init_21 rfl ?_
  refine va_put (C := RX4) (T := TX4) (N := 15) (ty := .int) (v := .int (iI 1)) hx hb hts hin tyX4 tyX4_ok nmX4 hown hK hP hD hS 0 rfl rfl 2 (by decide) (hts (.fieldLink RX4 16 "HoldServerModel" "directories" "I") (by decide +kernel)) (fun _ h9 => h9) rfl (by decide +kernel) rfl rfl (Nat.le_of_ble_eq_true rfl) dX4_init_22 (fun H locs hP hD hS => ?_)
  have hP : va_P D vwCl [(b, .inr (5, [.ref q0, .ref q1, .int (iI 1), .null, .null, .null, .null, .null, .null, .null, .null, .int (iI 0), .null, .int (iI 0), .int (iI 0)])), (q0, .inl (cI, 12, .inl (fun _ => iI 0))), (q1, .inl (cI, 12, .inl (fun _ => iI 0)))] H := hP
  have hD : va_D A [(b, .inr (5, [.ref q0, .ref q1, .int (iI 1), .null, .null, .null, .null, .null, .null, .null, .null, .int (iI 0), .null, .int (iI 0), .int (iI 0)])), (q0, .inl (cI, 12, .inl (fun _ => iI 0))), (q1, .inl (cI, 12, .inl (fun _ => iI 0)))] := hD
  refine lv_aload_n hx hb dX4_init_25 rfl (lv_at hl 0 rfl) ?_
  refine lv_bipush (v := iI 30) hx hb dX4_init_26 (by decide) ?_
  refine m_newa (N := 30) hx hb (hts (.arrayClass .int) (by decide +kernel)) hK hP hD hS hA rfl (Nat.le_of_ble_eq_true rfl) (Nat.le_of_ble_eq_true rfl) (Nat.le_of_ble_eq_true rfl) dX4_init_28 (fun q2 H hP hD hS => ?_)
  have hP : va_P D vwCl [(b, .inr (5, [.ref q0, .ref q1, .int (iI 1), .null, .null, .null, .null, .null, .null, .null, .null, .int (iI 0), .null, .int (iI 0), .int (iI 0)])), (q0, .inl (cI, 12, .inl (fun _ => iI 0))), (q1, .inl (cI, 12, .inl (fun _ => iI 0))), (q2, .inl (cI, 30, .inl (fun _ => iI 0)))] H := hP
  have hD : va_D A [(b, .inr (5, [.ref q0, .ref q1, .int (iI 1), .null, .null, .null, .null, .null, .null, .null, .null, .int (iI 0), .null, .int (iI 0), .int (iI 0)])), (q0, .inl (cI, 12, .inl (fun _ => iI 0))), (q1, .inl (cI, 12, .inl (fun _ => iI 0))), (q2, .inl (cI, 30, .inl (fun _ => iI 0)))] := hD
  refine va_putF (C := RX4) (T := TX4) (N := 15) (ty := .array .int) (v := .ref q2) hx hb hts hin tyX4 tyX4_ok nmX4 hown hK hP hD hS 0 rfl rfl 3 (by decide) (hts (.fieldLink RX4 20 "HoldServerModel" "department" "[I") (by decide +kernel)) (fun _ h9 => h9) rfl hini rfl (by decide +kernel) rfl rfl (Nat.le_of_ble_eq_true rfl) dX4_init_30 (fun H locs hP hD hS => ?_)
  have hP : va_P D vwCl [(b, .inr (5, [.ref q0, .ref q1, .int (iI 1), .ref q2, .null, .null, .null, .null, .null, .null, .null, .int (iI 0), .null, .int (iI 0), .int (iI 0)])), (q0, .inl (cI, 12, .inl (fun _ => iI 0))), (q1, .inl (cI, 12, .inl (fun _ => iI 0))), (q2, .inl (cI, 30, .inl (fun _ => iI 0)))] H := hP
  have hD : va_D A [(b, .inr (5, [.ref q0, .ref q1, .int (iI 1), .ref q2, .null, .null, .null, .null, .null, .null, .null, .int (iI 0), .null, .int (iI 0), .int (iI 0)])), (q0, .inl (cI, 12, .inl (fun _ => iI 0))), (q1, .inl (cI, 12, .inl (fun _ => iI 0))), (q2, .inl (cI, 30, .inl (fun _ => iI 0)))] := hD
  refine lv_aload_n hx hb dX4_init_33 rfl (lv_at hl 0 rfl) ?_
  refine lv_bipush (v := iI 30) hx hb dX4_init_34 (by decide) ?_
  refine m_newa (N := 30) hx hb (hts (.arrayClass .int) (by decide +kernel)) hK hP hD hS hA rfl (Nat.le_of_ble_eq_true rfl) (Nat.le_of_ble_eq_true rfl) (Nat.le_of_ble_eq_true rfl) dX4_init_36 (fun q3 H hP hD hS => ?_)
  have hP : va_P D vwCl [(b, .inr (5, [.ref q0, .ref q1, .int (iI 1), .ref q2, .null, .null, .null, .null, .null, .null, .null, .int (iI 0), .null, .int (iI 0), .int (iI 0)])), (q0, .inl (cI, 12, .inl (fun _ => iI 0))), (q1, .inl (cI, 12, .inl (fun _ => iI 0))), (q2, .inl (cI, 30, .inl (fun _ => iI 0))), (q3, .inl (cI, 30, .inl (fun _ => iI 0)))] H := hP
  have hD : va_D A [(b, .inr (5, [.ref q0, .ref q1, .int (iI 1), .ref q2, .null, .null, .null, .null, .null, .null, .null, .int (iI 0), .null, .int (iI 0), .int (iI 0)])), (q0, .inl (cI, 12, .inl (fun _ => iI 0))), (q1, .inl (cI, 12, .inl (fun _ => iI 0))), (q2, .inl (cI, 30, .inl (fun _ => iI 0))), (q3, .inl (cI, 30, .inl (fun _ => iI 0)))] := hD
  refine va_putF (C := RX4) (T := TX4) (N := 15) (ty := .array .int) (v := .ref q3) hx hb hts hin tyX4 tyX4_ok nmX4 hown hK hP hD hS 0 rfl rfl 4 (by decide) (hts (.fieldLink RX4 23 "HoldServerModel" "size" "[I") (by decide +kernel)) (fun _ h9 => h9) rfl hini rfl (by decide +kernel) rfl rfl (Nat.le_of_ble_eq_true rfl) dX4_init_38 (fun H locs hP hD hS => ?_)
  have hP : va_P D vwCl [(b, .inr (5, [.ref q0, .ref q1, .int (iI 1), .ref q2, .ref q3, .null, .null, .null, .null, .null, .null, .int (iI 0), .null, .int (iI 0), .int (iI 0)])), (q0, .inl (cI, 12, .inl (fun _ => iI 0))), (q1, .inl (cI, 12, .inl (fun _ => iI 0))), (q2, .inl (cI, 30, .inl (fun _ => iI 0))), (q3, .inl (cI, 30, .inl (fun _ => iI 0)))] H := hP
  have hD : va_D A [(b, .inr (5, [.ref q0, .ref q1, .int (iI 1), .ref q2, .ref q3, .null, .null, .null, .null, .null, .null, .int (iI 0), .null, .int (iI 0), .int (iI 0)])), (q0, .inl (cI, 12, .inl (fun _ => iI 0))), (q1, .inl (cI, 12, .inl (fun _ => iI 0))), (q2, .inl (cI, 30, .inl (fun _ => iI 0))), (q3, .inl (cI, 30, .inl (fun _ => iI 0)))] := hD
  refine lv_aload_n hx hb dX4_init_41 rfl (lv_at hl 0 rfl) ?_
  refine lv_sipush (v := iI 360) hx hb dX4_init_42 (by decide) ?_
  refine m_newa (N := 360) hx hb (hts (.arrayClass .int) (by decide +kernel)) hK hP hD hS hA rfl (Nat.le_of_ble_eq_true rfl) (Nat.le_of_ble_eq_true rfl) (Nat.le_of_ble_eq_true rfl) dX4_init_45 (fun q4 H hP hD hS => ?_)
  have hP : va_P D vwCl [(b, .inr (5, [.ref q0, .ref q1, .int (iI 1), .ref q2, .ref q3, .null, .null, .null, .null, .null, .null, .int (iI 0), .null, .int (iI 0), .int (iI 0)])), (q0, .inl (cI, 12, .inl (fun _ => iI 0))), (q1, .inl (cI, 12, .inl (fun _ => iI 0))), (q2, .inl (cI, 30, .inl (fun _ => iI 0))), (q3, .inl (cI, 30, .inl (fun _ => iI 0))), (q4, .inl (cI, 360, .inl (fun _ => iI 0)))] H := hP
  have hD : va_D A [(b, .inr (5, [.ref q0, .ref q1, .int (iI 1), .ref q2, .ref q3, .null, .null, .null, .null, .null, .null, .int (iI 0), .null, .int (iI 0), .int (iI 0)])), (q0, .inl (cI, 12, .inl (fun _ => iI 0))), (q1, .inl (cI, 12, .inl (fun _ => iI 0))), (q2, .inl (cI, 30, .inl (fun _ => iI 0))), (q3, .inl (cI, 30, .inl (fun _ => iI 0))), (q4, .inl (cI, 360, .inl (fun _ => iI 0)))] := hD
  refine va_putF (C := RX4) (T := TX4) (N := 15) (ty := .array .int) (v := .ref q4) hx hb hts hin tyX4 tyX4_ok nmX4 hown hK hP hD hS 0 rfl rfl 5 (by decide) (hts (.fieldLink RX4 26 "HoldServerModel" "link" "[I") (by decide +kernel)) (fun _ h9 => h9) rfl hini rfl (by decide +kernel) rfl rfl (Nat.le_of_ble_eq_true rfl) dX4_init_47 (fun H locs hP hD hS => ?_)
  have hP : va_P D vwCl [(b, .inr (5, [.ref q0, .ref q1, .int (iI 1), .ref q2, .ref q3, .ref q4, .null, .null, .null, .null, .null, .int (iI 0), .null, .int (iI 0), .int (iI 0)])), (q0, .inl (cI, 12, .inl (fun _ => iI 0))), (q1, .inl (cI, 12, .inl (fun _ => iI 0))), (q2, .inl (cI, 30, .inl (fun _ => iI 0))), (q3, .inl (cI, 30, .inl (fun _ => iI 0))), (q4, .inl (cI, 360, .inl (fun _ => iI 0)))] H := hP
  have hD : va_D A [(b, .inr (5, [.ref q0, .ref q1, .int (iI 1), .ref q2, .ref q3, .ref q4, .null, .null, .null, .null, .null, .int (iI 0), .null, .int (iI 0), .int (iI 0)])), (q0, .inl (cI, 12, .inl (fun _ => iI 0))), (q1, .inl (cI, 12, .inl (fun _ => iI 0))), (q2, .inl (cI, 30, .inl (fun _ => iI 0))), (q3, .inl (cI, 30, .inl (fun _ => iI 0))), (q4, .inl (cI, 360, .inl (fun _ => iI 0)))] := hD
  refine lv_aload_n hx hb dX4_init_50 rfl (lv_at hl 0 rfl) ?_
  refine lv_bipush (v := iI 30) hx hb dX4_init_51 (by decide) ?_
  refine m_newa (N := 30) hx hb (hts (.arrayClass .int) (by decide +kernel)) hK hP hD hS hA rfl (Nat.le_of_ble_eq_true rfl) (Nat.le_of_ble_eq_true rfl) (Nat.le_of_ble_eq_true rfl) dX4_init_53 (fun q5 H hP hD hS => ?_)
  have hP : va_P D vwCl [(b, .inr (5, [.ref q0, .ref q1, .int (iI 1), .ref q2, .ref q3, .ref q4, .null, .null, .null, .null, .null, .int (iI 0), .null, .int (iI 0), .int (iI 0)])), (q0, .inl (cI, 12, .inl (fun _ => iI 0))), (q1, .inl (cI, 12, .inl (fun _ => iI 0))), (q2, .inl (cI, 30, .inl (fun _ => iI 0))), (q3, .inl (cI, 30, .inl (fun _ => iI 0))), (q4, .inl (cI, 360, .inl (fun _ => iI 0))), (q5, .inl (cI, 30, .inl (fun _ => iI 0)))] H := hP
  have hD : va_D A [(b, .inr (5, [.ref q0, .ref q1, .int (iI 1), .ref q2, .ref q3, .ref q4, .null, .null, .null, .null, .null, .int (iI 0), .null, .int (iI 0), .int (iI 0)])), (q0, .inl (cI, 12, .inl (fun _ => iI 0))), (q1, .inl (cI, 12, .inl (fun _ => iI 0))), (q2, .inl (cI, 30, .inl (fun _ => iI 0))), (q3, .inl (cI, 30, .inl (fun _ => iI 0))), (q4, .inl (cI, 360, .inl (fun _ => iI 0))), (q5, .inl (cI, 30, .inl (fun _ => iI 0)))] := hD
  refine va_putF (C := RX4) (T := TX4) (N := 15) (ty := .array .int) (v := .ref q5) hx hb hts hin tyX4 tyX4_ok nmX4 hown hK hP hD hS 0 rfl rfl 6 (by decide) (hts (.fieldLink RX4 29 "HoldServerModel" "links" "[I") (by decide +kernel)) (fun _ h9 => h9) rfl hini rfl (by decide +kernel) rfl rfl (Nat.le_of_ble_eq_true rfl) dX4_init_55 (fun H locs hP hD hS => ?_)
  have hP : va_P D vwCl [(b, .inr (5, [.ref q0, .ref q1, .int (iI 1), .ref q2, .ref q3, .ref q4, .ref q5, .null, .null, .null, .null, .int (iI 0), .null, .int (iI 0), .int (iI 0)])), (q0, .inl (cI, 12, .inl (fun _ => iI 0))), (q1, .inl (cI, 12, .inl (fun _ => iI 0))), (q2, .inl (cI, 30, .inl (fun _ => iI 0))), (q3, .inl (cI, 30, .inl (fun _ => iI 0))), (q4, .inl (cI, 360, .inl (fun _ => iI 0))), (q5, .inl (cI, 30, .inl (fun _ => iI 0)))] H := hP
  have hD : va_D A [(b, .inr (5, [.ref q0, .ref q1, .int (iI 1), .ref q2, .ref q3, .ref q4, .ref q5, .null, .null, .null, .null, .int (iI 0), .null, .int (iI 0), .int (iI 0)])), (q0, .inl (cI, 12, .inl (fun _ => iI 0))), (q1, .inl (cI, 12, .inl (fun _ => iI 0))), (q2, .inl (cI, 30, .inl (fun _ => iI 0))), (q3, .inl (cI, 30, .inl (fun _ => iI 0))), (q4, .inl (cI, 360, .inl (fun _ => iI 0))), (q5, .inl (cI, 30, .inl (fun _ => iI 0)))] := hD
  refine lv_aload_n hx hb dX4_init_58 rfl (lv_at hl 0 rfl) ?_
  refine lv_bipush (v := iI 30) hx hb dX4_init_59 (by decide) ?_
  refine m_newa (N := 30) hx hb (hts (.arrayClass .int) (by decide +kernel)) hK hP hD hS hA rfl (Nat.le_of_ble_eq_true rfl) (Nat.le_of_ble_eq_true rfl) (Nat.le_of_ble_eq_true rfl) dX4_init_61 (fun q6 H hP hD hS => ?_)
  have hP : va_P D vwCl [(b, .inr (5, [.ref q0, .ref q1, .int (iI 1), .ref q2, .ref q3, .ref q4, .ref q5, .null, .null, .null, .null, .int (iI 0), .null, .int (iI 0), .int (iI 0)])), (q0, .inl (cI, 12, .inl (fun _ => iI 0))), (q1, .inl (cI, 12, .inl (fun _ => iI 0))), (q2, .inl (cI, 30, .inl (fun _ => iI 0))), (q3, .inl (cI, 30, .inl (fun _ => iI 0))), (q4, .inl (cI, 360, .inl (fun _ => iI 0))), (q5, .inl (cI, 30, .inl (fun _ => iI 0))), (q6, .inl (cI, 30, .inl (fun _ => iI 0)))] H := hP
  have hD : va_D A [(b, .inr (5, [.ref q0, .ref q1, .int (iI 1), .ref q2, .ref q3, .ref q4, .ref q5, .null, .null, .null, .null, .int (iI 0), .null, .int (iI 0), .int (iI 0)])), (q0, .inl (cI, 12, .inl (fun _ => iI 0))), (q1, .inl (cI, 12, .inl (fun _ => iI 0))), (q2, .inl (cI, 30, .inl (fun _ => iI 0))), (q3, .inl (cI, 30, .inl (fun _ => iI 0))), (q4, .inl (cI, 360, .inl (fun _ => iI 0))), (q5, .inl (cI, 30, .inl (fun _ => iI 0))), (q6, .inl (cI, 30, .inl (fun _ => iI 0)))] := hD
  refine va_putF (C := RX4) (T := TX4) (N := 15) (ty := .array .int) (v := .ref q6) hx hb hts hin tyX4 tyX4_ok nmX4 hown hK hP hD hS 0 rfl rfl 7 (by decide) (hts (.fieldLink RX4 32 "HoldServerModel" "kept" "[I") (by decide +kernel)) (fun _ h9 => h9) rfl hini rfl (by decide +kernel) rfl rfl (Nat.le_of_ble_eq_true rfl) dX4_init_63 (fun H locs hP hD hS => ?_)
  have hP : va_P D vwCl [(b, .inr (5, [.ref q0, .ref q1, .int (iI 1), .ref q2, .ref q3, .ref q4, .ref q5, .ref q6, .null, .null, .null, .int (iI 0), .null, .int (iI 0), .int (iI 0)])), (q0, .inl (cI, 12, .inl (fun _ => iI 0))), (q1, .inl (cI, 12, .inl (fun _ => iI 0))), (q2, .inl (cI, 30, .inl (fun _ => iI 0))), (q3, .inl (cI, 30, .inl (fun _ => iI 0))), (q4, .inl (cI, 360, .inl (fun _ => iI 0))), (q5, .inl (cI, 30, .inl (fun _ => iI 0))), (q6, .inl (cI, 30, .inl (fun _ => iI 0)))] H := hP
  have hD : va_D A [(b, .inr (5, [.ref q0, .ref q1, .int (iI 1), .ref q2, .ref q3, .ref q4, .ref q5, .ref q6, .null, .null, .null, .int (iI 0), .null, .int (iI 0), .int (iI 0)])), (q0, .inl (cI, 12, .inl (fun _ => iI 0))), (q1, .inl (cI, 12, .inl (fun _ => iI 0))), (q2, .inl (cI, 30, .inl (fun _ => iI 0))), (q3, .inl (cI, 30, .inl (fun _ => iI 0))), (q4, .inl (cI, 360, .inl (fun _ => iI 0))), (q5, .inl (cI, 30, .inl (fun _ => iI 0))), (q6, .inl (cI, 30, .inl (fun _ => iI 0)))] := hD
  refine lv_aload_n hx hb dX4_init_66 rfl (lv_at hl 0 rfl) ?_
  refine lv_bipush (v := iI 30) hx hb dX4_init_67 (by decide) ?_
  refine m_newa (N := 30) hx hb (hts (.arrayClass .int) (by decide +kernel)) hK hP hD hS hA rfl (Nat.le_of_ble_eq_true rfl) (Nat.le_of_ble_eq_true rfl) (Nat.le_of_ble_eq_true rfl) dX4_init_69 (fun q7 H hP hD hS => ?_)
  have hP : va_P D vwCl [(b, .inr (5, [.ref q0, .ref q1, .int (iI 1), .ref q2, .ref q3, .ref q4, .ref q5, .ref q6, .null, .null, .null, .int (iI 0), .null, .int (iI 0), .int (iI 0)])), (q0, .inl (cI, 12, .inl (fun _ => iI 0))), (q1, .inl (cI, 12, .inl (fun _ => iI 0))), (q2, .inl (cI, 30, .inl (fun _ => iI 0))), (q3, .inl (cI, 30, .inl (fun _ => iI 0))), (q4, .inl (cI, 360, .inl (fun _ => iI 0))), (q5, .inl (cI, 30, .inl (fun _ => iI 0))), (q6, .inl (cI, 30, .inl (fun _ => iI 0))), (q7, .inl (cI, 30, .inl (fun _ => iI 0)))] H := hP
  have hD : va_D A [(b, .inr (5, [.ref q0, .ref q1, .int (iI 1), .ref q2, .ref q3, .ref q4, .ref q5, .ref q6, .null, .null, .null, .int (iI 0), .null, .int (iI 0), .int (iI 0)])), (q0, .inl (cI, 12, .inl (fun _ => iI 0))), (q1, .inl (cI, 12, .inl (fun _ => iI 0))), (q2, .inl (cI, 30, .inl (fun _ => iI 0))), (q3, .inl (cI, 30, .inl (fun _ => iI 0))), (q4, .inl (cI, 360, .inl (fun _ => iI 0))), (q5, .inl (cI, 30, .inl (fun _ => iI 0))), (q6, .inl (cI, 30, .inl (fun _ => iI 0))), (q7, .inl (cI, 30, .inl (fun _ => iI 0)))] := hD
  refine va_putF (C := RX4) (T := TX4) (N := 15) (ty := .array .int) (v := .ref q7) hx hb hts hin tyX4 tyX4_ok nmX4 hown hK hP hD hS 0 rfl rfl 8 (by decide) (hts (.fieldLink RX4 35 "HoldServerModel" "holders" "[I") (by decide +kernel)) (fun _ h9 => h9) rfl hini rfl (by decide +kernel) rfl rfl (Nat.le_of_ble_eq_true rfl) dX4_init_71 (fun H locs hP hD hS => ?_)
  have hP : va_P D vwCl [(b, .inr (5, [.ref q0, .ref q1, .int (iI 1), .ref q2, .ref q3, .ref q4, .ref q5, .ref q6, .ref q7, .null, .null, .int (iI 0), .null, .int (iI 0), .int (iI 0)])), (q0, .inl (cI, 12, .inl (fun _ => iI 0))), (q1, .inl (cI, 12, .inl (fun _ => iI 0))), (q2, .inl (cI, 30, .inl (fun _ => iI 0))), (q3, .inl (cI, 30, .inl (fun _ => iI 0))), (q4, .inl (cI, 360, .inl (fun _ => iI 0))), (q5, .inl (cI, 30, .inl (fun _ => iI 0))), (q6, .inl (cI, 30, .inl (fun _ => iI 0))), (q7, .inl (cI, 30, .inl (fun _ => iI 0)))] H := hP
  have hD : va_D A [(b, .inr (5, [.ref q0, .ref q1, .int (iI 1), .ref q2, .ref q3, .ref q4, .ref q5, .ref q6, .ref q7, .null, .null, .int (iI 0), .null, .int (iI 0), .int (iI 0)])), (q0, .inl (cI, 12, .inl (fun _ => iI 0))), (q1, .inl (cI, 12, .inl (fun _ => iI 0))), (q2, .inl (cI, 30, .inl (fun _ => iI 0))), (q3, .inl (cI, 30, .inl (fun _ => iI 0))), (q4, .inl (cI, 360, .inl (fun _ => iI 0))), (q5, .inl (cI, 30, .inl (fun _ => iI 0))), (q6, .inl (cI, 30, .inl (fun _ => iI 0))), (q7, .inl (cI, 30, .inl (fun _ => iI 0)))] := hD
  refine lv_aload_n hx hb dX4_init_74 rfl (lv_at hl 0 rfl) ?_
  refine lv_bipush (v := iI 30) hx hb dX4_init_75 (by decide) ?_
  refine m_newa (N := 30) hx hb (hts (.arrayClass .int) (by decide +kernel)) hK hP hD hS hA rfl (Nat.le_of_ble_eq_true rfl) (Nat.le_of_ble_eq_true rfl) (Nat.le_of_ble_eq_true rfl) dX4_init_77 (fun q8 H hP hD hS => ?_)
  have hP : va_P D vwCl [(b, .inr (5, [.ref q0, .ref q1, .int (iI 1), .ref q2, .ref q3, .ref q4, .ref q5, .ref q6, .ref q7, .null, .null, .int (iI 0), .null, .int (iI 0), .int (iI 0)])), (q0, .inl (cI, 12, .inl (fun _ => iI 0))), (q1, .inl (cI, 12, .inl (fun _ => iI 0))), (q2, .inl (cI, 30, .inl (fun _ => iI 0))), (q3, .inl (cI, 30, .inl (fun _ => iI 0))), (q4, .inl (cI, 360, .inl (fun _ => iI 0))), (q5, .inl (cI, 30, .inl (fun _ => iI 0))), (q6, .inl (cI, 30, .inl (fun _ => iI 0))), (q7, .inl (cI, 30, .inl (fun _ => iI 0))), (q8, .inl (cI, 30, .inl (fun _ => iI 0)))] H := hP
  have hD : va_D A [(b, .inr (5, [.ref q0, .ref q1, .int (iI 1), .ref q2, .ref q3, .ref q4, .ref q5, .ref q6, .ref q7, .null, .null, .int (iI 0), .null, .int (iI 0), .int (iI 0)])), (q0, .inl (cI, 12, .inl (fun _ => iI 0))), (q1, .inl (cI, 12, .inl (fun _ => iI 0))), (q2, .inl (cI, 30, .inl (fun _ => iI 0))), (q3, .inl (cI, 30, .inl (fun _ => iI 0))), (q4, .inl (cI, 360, .inl (fun _ => iI 0))), (q5, .inl (cI, 30, .inl (fun _ => iI 0))), (q6, .inl (cI, 30, .inl (fun _ => iI 0))), (q7, .inl (cI, 30, .inl (fun _ => iI 0))), (q8, .inl (cI, 30, .inl (fun _ => iI 0)))] := hD
  refine va_putF (C := RX4) (T := TX4) (N := 15) (ty := .array .int) (v := .ref q8) hx hb hts hin tyX4 tyX4_ok nmX4 hown hK hP hD hS 0 rfl rfl 9 (by decide) (hts (.fieldLink RX4 38 "HoldServerModel" "used" "[I") (by decide +kernel)) (fun _ h9 => h9) rfl hini rfl (by decide +kernel) rfl rfl (Nat.le_of_ble_eq_true rfl) dX4_init_79 (fun H locs hP hD hS => ?_)
  have hP : va_P D vwCl [(b, .inr (5, [.ref q0, .ref q1, .int (iI 1), .ref q2, .ref q3, .ref q4, .ref q5, .ref q6, .ref q7, .ref q8, .null, .int (iI 0), .null, .int (iI 0), .int (iI 0)])), (q0, .inl (cI, 12, .inl (fun _ => iI 0))), (q1, .inl (cI, 12, .inl (fun _ => iI 0))), (q2, .inl (cI, 30, .inl (fun _ => iI 0))), (q3, .inl (cI, 30, .inl (fun _ => iI 0))), (q4, .inl (cI, 360, .inl (fun _ => iI 0))), (q5, .inl (cI, 30, .inl (fun _ => iI 0))), (q6, .inl (cI, 30, .inl (fun _ => iI 0))), (q7, .inl (cI, 30, .inl (fun _ => iI 0))), (q8, .inl (cI, 30, .inl (fun _ => iI 0)))] H := hP
  have hD : va_D A [(b, .inr (5, [.ref q0, .ref q1, .int (iI 1), .ref q2, .ref q3, .ref q4, .ref q5, .ref q6, .ref q7, .ref q8, .null, .int (iI 0), .null, .int (iI 0), .int (iI 0)])), (q0, .inl (cI, 12, .inl (fun _ => iI 0))), (q1, .inl (cI, 12, .inl (fun _ => iI 0))), (q2, .inl (cI, 30, .inl (fun _ => iI 0))), (q3, .inl (cI, 30, .inl (fun _ => iI 0))), (q4, .inl (cI, 360, .inl (fun _ => iI 0))), (q5, .inl (cI, 30, .inl (fun _ => iI 0))), (q6, .inl (cI, 30, .inl (fun _ => iI 0))), (q7, .inl (cI, 30, .inl (fun _ => iI 0))), (q8, .inl (cI, 30, .inl (fun _ => iI 0)))] := hD
  refine lv_aload_n hx hb dX4_init_82 rfl (lv_at hl 0 rfl) ?_
  refine lv_bipush (v := iI 30) hx hb dX4_init_83 (by decide) ?_
  refine m_newa (N := 30) hx hb (hts (.arrayClass .int) (by decide +kernel)) hK hP hD hS hA rfl (Nat.le_of_ble_eq_true rfl) (Nat.le_of_ble_eq_true rfl) (Nat.le_of_ble_eq_true rfl) dX4_init_85 (fun q9 H hP hD hS => ?_)
  have hP : va_P D vwCl [(b, .inr (5, [.ref q0, .ref q1, .int (iI 1), .ref q2, .ref q3, .ref q4, .ref q5, .ref q6, .ref q7, .ref q8, .null, .int (iI 0), .null, .int (iI 0), .int (iI 0)])), (q0, .inl (cI, 12, .inl (fun _ => iI 0))), (q1, .inl (cI, 12, .inl (fun _ => iI 0))), (q2, .inl (cI, 30, .inl (fun _ => iI 0))), (q3, .inl (cI, 30, .inl (fun _ => iI 0))), (q4, .inl (cI, 360, .inl (fun _ => iI 0))), (q5, .inl (cI, 30, .inl (fun _ => iI 0))), (q6, .inl (cI, 30, .inl (fun _ => iI 0))), (q7, .inl (cI, 30, .inl (fun _ => iI 0))), (q8, .inl (cI, 30, .inl (fun _ => iI 0))), (q9, .inl (cI, 30, .inl (fun _ => iI 0)))] H := hP
  have hD : va_D A [(b, .inr (5, [.ref q0, .ref q1, .int (iI 1), .ref q2, .ref q3, .ref q4, .ref q5, .ref q6, .ref q7, .ref q8, .null, .int (iI 0), .null, .int (iI 0), .int (iI 0)])), (q0, .inl (cI, 12, .inl (fun _ => iI 0))), (q1, .inl (cI, 12, .inl (fun _ => iI 0))), (q2, .inl (cI, 30, .inl (fun _ => iI 0))), (q3, .inl (cI, 30, .inl (fun _ => iI 0))), (q4, .inl (cI, 360, .inl (fun _ => iI 0))), (q5, .inl (cI, 30, .inl (fun _ => iI 0))), (q6, .inl (cI, 30, .inl (fun _ => iI 0))), (q7, .inl (cI, 30, .inl (fun _ => iI 0))), (q8, .inl (cI, 30, .inl (fun _ => iI 0))), (q9, .inl (cI, 30, .inl (fun _ => iI 0)))] := hD
  refine va_putF (C := RX4) (T := TX4) (N := 15) (ty := .array .int) (v := .ref q9) hx hb hts hin tyX4 tyX4_ok nmX4 hown hK hP hD hS 0 rfl rfl 10 (by decide) (hts (.fieldLink RX4 41 "HoldServerModel" "back" "[I") (by decide +kernel)) (fun _ h9 => h9) rfl hini rfl (by decide +kernel) rfl rfl (Nat.le_of_ble_eq_true rfl) dX4_init_87 (fun H locs hP hD hS => ?_)
  have hP : va_P D vwCl [(b, .inr (5, [.ref q0, .ref q1, .int (iI 1), .ref q2, .ref q3, .ref q4, .ref q5, .ref q6, .ref q7, .ref q8, .ref q9, .int (iI 0), .null, .int (iI 0), .int (iI 0)])), (q0, .inl (cI, 12, .inl (fun _ => iI 0))), (q1, .inl (cI, 12, .inl (fun _ => iI 0))), (q2, .inl (cI, 30, .inl (fun _ => iI 0))), (q3, .inl (cI, 30, .inl (fun _ => iI 0))), (q4, .inl (cI, 360, .inl (fun _ => iI 0))), (q5, .inl (cI, 30, .inl (fun _ => iI 0))), (q6, .inl (cI, 30, .inl (fun _ => iI 0))), (q7, .inl (cI, 30, .inl (fun _ => iI 0))), (q8, .inl (cI, 30, .inl (fun _ => iI 0))), (q9, .inl (cI, 30, .inl (fun _ => iI 0)))] H := hP
  have hD : va_D A [(b, .inr (5, [.ref q0, .ref q1, .int (iI 1), .ref q2, .ref q3, .ref q4, .ref q5, .ref q6, .ref q7, .ref q8, .ref q9, .int (iI 0), .null, .int (iI 0), .int (iI 0)])), (q0, .inl (cI, 12, .inl (fun _ => iI 0))), (q1, .inl (cI, 12, .inl (fun _ => iI 0))), (q2, .inl (cI, 30, .inl (fun _ => iI 0))), (q3, .inl (cI, 30, .inl (fun _ => iI 0))), (q4, .inl (cI, 360, .inl (fun _ => iI 0))), (q5, .inl (cI, 30, .inl (fun _ => iI 0))), (q6, .inl (cI, 30, .inl (fun _ => iI 0))), (q7, .inl (cI, 30, .inl (fun _ => iI 0))), (q8, .inl (cI, 30, .inl (fun _ => iI 0))), (q9, .inl (cI, 30, .inl (fun _ => iI 0)))] := hD
  refine lv_aload_n hx hb dX4_init_90 rfl (lv_at hl 0 rfl) ?_
  refine lv_iconst (v := iI 4) hx hb dX4_init_91 rfl ?_
  refine m_newa (N := 4) hx hb (hts (.arrayClass .int) (by decide +kernel)) hK hP hD hS hA rfl (Nat.le_of_ble_eq_true rfl) (Nat.le_of_ble_eq_true rfl) (Nat.le_of_ble_eq_true rfl) dX4_init_92 (fun q10 H hP hD hS => ?_)
  have hP : va_P D vwCl [(b, .inr (5, [.ref q0, .ref q1, .int (iI 1), .ref q2, .ref q3, .ref q4, .ref q5, .ref q6, .ref q7, .ref q8, .ref q9, .int (iI 0), .null, .int (iI 0), .int (iI 0)])), (q0, .inl (cI, 12, .inl (fun _ => iI 0))), (q1, .inl (cI, 12, .inl (fun _ => iI 0))), (q2, .inl (cI, 30, .inl (fun _ => iI 0))), (q3, .inl (cI, 30, .inl (fun _ => iI 0))), (q4, .inl (cI, 360, .inl (fun _ => iI 0))), (q5, .inl (cI, 30, .inl (fun _ => iI 0))), (q6, .inl (cI, 30, .inl (fun _ => iI 0))), (q7, .inl (cI, 30, .inl (fun _ => iI 0))), (q8, .inl (cI, 30, .inl (fun _ => iI 0))), (q9, .inl (cI, 30, .inl (fun _ => iI 0))), (q10, .inl (cI, 4, .inl (fun _ => iI 0)))] H := hP
  have hD : va_D A [(b, .inr (5, [.ref q0, .ref q1, .int (iI 1), .ref q2, .ref q3, .ref q4, .ref q5, .ref q6, .ref q7, .ref q8, .ref q9, .int (iI 0), .null, .int (iI 0), .int (iI 0)])), (q0, .inl (cI, 12, .inl (fun _ => iI 0))), (q1, .inl (cI, 12, .inl (fun _ => iI 0))), (q2, .inl (cI, 30, .inl (fun _ => iI 0))), (q3, .inl (cI, 30, .inl (fun _ => iI 0))), (q4, .inl (cI, 360, .inl (fun _ => iI 0))), (q5, .inl (cI, 30, .inl (fun _ => iI 0))), (q6, .inl (cI, 30, .inl (fun _ => iI 0))), (q7, .inl (cI, 30, .inl (fun _ => iI 0))), (q8, .inl (cI, 30, .inl (fun _ => iI 0))), (q9, .inl (cI, 30, .inl (fun _ => iI 0))), (q10, .inl (cI, 4, .inl (fun _ => iI 0)))] := hD
  refine va_putF (C := RX4) (T := TX4) (N := 15) (ty := .array .int) (v := .ref q10) hx hb hts hin tyX4 tyX4_ok nmX4 hown hK hP hD hS 0 rfl rfl 12 (by decide) (hts (.fieldLink RX4 44 "HoldServerModel" "coins" "[I") (by decide +kernel)) (fun _ h9 => h9) rfl hini rfl (by decide +kernel) rfl rfl (Nat.le_of_ble_eq_true rfl) dX4_init_94 (fun H locs hP hD hS => ?_)
  have hP : va_P D vwCl [(b, .inr (5, [.ref q0, .ref q1, .int (iI 1), .ref q2, .ref q3, .ref q4, .ref q5, .ref q6, .ref q7, .ref q8, .ref q9, .int (iI 0), .ref q10, .int (iI 0), .int (iI 0)])), (q0, .inl (cI, 12, .inl (fun _ => iI 0))), (q1, .inl (cI, 12, .inl (fun _ => iI 0))), (q2, .inl (cI, 30, .inl (fun _ => iI 0))), (q3, .inl (cI, 30, .inl (fun _ => iI 0))), (q4, .inl (cI, 360, .inl (fun _ => iI 0))), (q5, .inl (cI, 30, .inl (fun _ => iI 0))), (q6, .inl (cI, 30, .inl (fun _ => iI 0))), (q7, .inl (cI, 30, .inl (fun _ => iI 0))), (q8, .inl (cI, 30, .inl (fun _ => iI 0))), (q9, .inl (cI, 30, .inl (fun _ => iI 0))), (q10, .inl (cI, 4, .inl (fun _ => iI 0)))] H := hP
  have hD : va_D A [(b, .inr (5, [.ref q0, .ref q1, .int (iI 1), .ref q2, .ref q3, .ref q4, .ref q5, .ref q6, .ref q7, .ref q8, .ref q9, .int (iI 0), .ref q10, .int (iI 0), .int (iI 0)])), (q0, .inl (cI, 12, .inl (fun _ => iI 0))), (q1, .inl (cI, 12, .inl (fun _ => iI 0))), (q2, .inl (cI, 30, .inl (fun _ => iI 0))), (q3, .inl (cI, 30, .inl (fun _ => iI 0))), (q4, .inl (cI, 360, .inl (fun _ => iI 0))), (q5, .inl (cI, 30, .inl (fun _ => iI 0))), (q6, .inl (cI, 30, .inl (fun _ => iI 0))), (q7, .inl (cI, 30, .inl (fun _ => iI 0))), (q8, .inl (cI, 30, .inl (fun _ => iI 0))), (q9, .inl (cI, 30, .inl (fun _ => iI 0))), (q10, .inl (cI, 4, .inl (fun _ => iI 0)))] := hD
  obtain ⟨ad, had, hadb⟩ : ∃ ad : Nat → Nat, (ad 0 = q0 ∧ ad 1 = q1 ∧ ad 2 = q2 ∧ ad 3 = q3 ∧ ad 4 = q4 ∧ ad 5 = q5 ∧ ad 6 = q6 ∧ ad 7 = q7 ∧ ad 8 = q8 ∧ ad 9 = q9 ∧ ad 10 = q10) ∧ ad 11 = b := ⟨fun k => match k with | 0 => q0 | 1 => q1 | 2 => q2 | 3 => q3 | 4 => q4 | 5 => q5 | 6 => q6 | 7 => q7 | 8 => q8 | 9 => q9 | 10 => q10 | _ => b, ⟨rfl, rfl, rfl, rfl, rfl, rfl, rfl, rfl, rfl, rfl, rfl⟩, rfl⟩
  obtain ⟨rfl, rfl, rfl, rfl, rfl, rfl, rfl, rfl, rfl, rfl, rfl⟩ := had
  subst hadb
  have hP : va_P D vwCl (wM ad cI mU0) H := hP
  have hD : va_D A (wM ad cI mU0) := hD
  refine lv_aload_n hx hb dX4_init_97 rfl (lv_at hl 0 rfl) ?_
  refine m_get (index := 7) hx hb hts hin hown hK hP 0 (by decide) (v := .ref (ad 0)) rfl (hts (.fieldLink RX4 7 "HoldServerModel" "parent" "[I") (by decide +kernel)) rfl dX4_init_98 ?_
  refine lv_iconst (v := iI 0) hx hb dX4_init_101 rfl ?_
  refine lv_iconst (v := iI (-1)) hx hb dX4_init_102 rfl ?_
  refine m_st (k := 0) (z := 0) (v := (-1)) hx hb hK hP hD hS (by decide) (by decide) (by decide) dX4_init_103 (fun H locs hP hD hS => ?_)
  refine lv_aload_n hx hb dX4_init_104 rfl (lv_at hl 0 rfl) ?_
  refine m_get (index := 13) hx hb hts hin hown hK hP 1 (by decide) (v := .ref (ad 1)) rfl (hts (.fieldLink RX4 13 "HoldServerModel" "quota" "[I") (by decide +kernel)) rfl dX4_init_105 ?_
  refine lv_iconst (v := iI 0) hx hb dX4_init_108 rfl ?_
  refine lv_iconst (v := iI (-1)) hx hb dX4_init_109 rfl ?_
  refine m_st (k := 1) (z := 0) (v := (-1)) hx hb hK hP hD hS (by decide) (by decide) (by decide) dX4_init_110 (fun H locs hP hD hS => ?_)
  refine lv_iconst (v := iI 0) hx hb dX4_init_111 rfl ?_
  refine lv_istore_n (lv' := [(1, .int (iI 0)), (0, .ref (ad 11))]) hx hb dX4_init_112 rfl hl (by decide) rfl (fun ls hl => ?_)
  refine lv_iload_n hx hb dX4_init_113 rfl (lv_at hl 0 rfl) ?_
  refine lv_iconst (v := iI 4) hx hb dX4_init_114 rfl ?_
  refine h_icmp_ge (tgt := 132) hx hb (by omega) (by omega) dX4_init_115 (by decide) (fun c9 => by exfalso; omega) (fun c9 => ?_)
  refine lv_aload_n hx hb dX4_init_118 rfl (lv_at hl 1 rfl) ?_
  refine m_get (index := 44) hx hb hts hin hown hK hP 12 (by decide) (v := .ref (ad 10)) rfl (hts (.fieldLink RX4 44 "HoldServerModel" "coins" "[I") (by decide +kernel)) rfl dX4_init_119 ?_
  refine lv_iload_n hx hb dX4_init_122 rfl (lv_at hl 0 rfl) ?_
  refine lv_bipush (v := iI 100) hx hb dX4_init_123 (by decide) ?_
  refine m_st (k := 10) (z := 0) (v := 100) hx hb hK hP hD hS (by decide) (by decide) (by decide) dX4_init_125 (fun H locs hP hD hS => ?_)
  refine lv_iinc (v := iI 1) (lv' := [(1, .int (iI 1)), (0, .ref (ad 11))]) hx hb dX4_init_126 hl (k := 0) rfl (by decide) (by decide) rfl (fun ls hl => ?_)
  refine lv_goto (tgt := 113) hx hb dX4_init_129 (by decide) ?_
  refine lv_iload_n hx hb dX4_init_113 rfl (lv_at hl 0 rfl) ?_
  refine lv_iconst (v := iI 4) hx hb dX4_init_114 rfl ?_
  refine h_icmp_ge (tgt := 132) hx hb (by omega) (by omega) dX4_init_115 (by decide) (fun c9 => by exfalso; omega) (fun c9 => ?_)
  refine lv_aload_n hx hb dX4_init_118 rfl (lv_at hl 1 rfl) ?_
  refine m_get (index := 44) hx hb hts hin hown hK hP 12 (by decide) (v := .ref (ad 10)) rfl (hts (.fieldLink RX4 44 "HoldServerModel" "coins" "[I") (by decide +kernel)) rfl dX4_init_119 ?_
  refine lv_iload_n hx hb dX4_init_122 rfl (lv_at hl 0 rfl) ?_
  refine lv_bipush (v := iI 100) hx hb dX4_init_123 (by decide) ?_
  refine m_st (k := 10) (z := 1) (v := 100) hx hb hK hP hD hS (by decide) (by decide) (by decide) dX4_init_125 (fun H locs hP hD hS => ?_)
  refine lv_iinc (v := iI 2) (lv' := [(1, .int (iI 2)), (0, .ref (ad 11))]) hx hb dX4_init_126 hl (k := 0) rfl (by decide) (by decide) rfl (fun ls hl => ?_)
  refine lv_goto (tgt := 113) hx hb dX4_init_129 (by decide) ?_
  refine lv_iload_n hx hb dX4_init_113 rfl (lv_at hl 0 rfl) ?_
  refine lv_iconst (v := iI 4) hx hb dX4_init_114 rfl ?_
  refine h_icmp_ge (tgt := 132) hx hb (by omega) (by omega) dX4_init_115 (by decide) (fun c9 => by exfalso; omega) (fun c9 => ?_)
  refine lv_aload_n hx hb dX4_init_118 rfl (lv_at hl 1 rfl) ?_
  refine m_get (index := 44) hx hb hts hin hown hK hP 12 (by decide) (v := .ref (ad 10)) rfl (hts (.fieldLink RX4 44 "HoldServerModel" "coins" "[I") (by decide +kernel)) rfl dX4_init_119 ?_
  refine lv_iload_n hx hb dX4_init_122 rfl (lv_at hl 0 rfl) ?_
  refine lv_bipush (v := iI 100) hx hb dX4_init_123 (by decide) ?_
  refine m_st (k := 10) (z := 2) (v := 100) hx hb hK hP hD hS (by decide) (by decide) (by decide) dX4_init_125 (fun H locs hP hD hS => ?_)
  refine lv_iinc (v := iI 3) (lv' := [(1, .int (iI 3)), (0, .ref (ad 11))]) hx hb dX4_init_126 hl (k := 0) rfl (by decide) (by decide) rfl (fun ls hl => ?_)
  refine lv_goto (tgt := 113) hx hb dX4_init_129 (by decide) ?_
  refine lv_iload_n hx hb dX4_init_113 rfl (lv_at hl 0 rfl) ?_
  refine lv_iconst (v := iI 4) hx hb dX4_init_114 rfl ?_
  refine h_icmp_ge (tgt := 132) hx hb (by omega) (by omega) dX4_init_115 (by decide) (fun c9 => by exfalso; omega) (fun c9 => ?_)
  refine lv_aload_n hx hb dX4_init_118 rfl (lv_at hl 1 rfl) ?_
  refine m_get (index := 44) hx hb hts hin hown hK hP 12 (by decide) (v := .ref (ad 10)) rfl (hts (.fieldLink RX4 44 "HoldServerModel" "coins" "[I") (by decide +kernel)) rfl dX4_init_119 ?_
  refine lv_iload_n hx hb dX4_init_122 rfl (lv_at hl 0 rfl) ?_
  refine lv_bipush (v := iI 100) hx hb dX4_init_123 (by decide) ?_
  refine m_st (k := 10) (z := 3) (v := 100) hx hb hK hP hD hS (by decide) (by decide) (by decide) dX4_init_125 (fun H locs hP hD hS => ?_)
  refine lv_iinc (v := iI 4) (lv' := [(1, .int (iI 4)), (0, .ref (ad 11))]) hx hb dX4_init_126 hl (k := 0) rfl (by decide) (by decide) rfl (fun ls hl => ?_)
  refine lv_goto (tgt := 113) hx hb dX4_init_129 (by decide) ?_
  refine lv_iload_n hx hb dX4_init_113 rfl (lv_at hl 0 rfl) ?_
  refine lv_iconst (v := iI 4) hx hb dX4_init_114 rfl ?_
  refine h_icmp_ge (tgt := 132) hx hb (by omega) (by omega) dX4_init_115 (by decide) (fun c9 => ?_) (fun c9 => by exfalso; omega)
  refine W.widen (k := 11) (n := 598) (Nat.le_of_ble_eq_true rfl) (Nat.le_of_ble_eq_true rfl) ?_
  exact W.vret B.exec B.bytes B.returns (fun t ht hW => ⟨⟨(ad, mU1), rfl, ⟨rfl, RelM_0⟩, by show va_P D vwCl (wM ad cI mU1) t.heap ∧ va_D A (wM ad cI mU1); rw [ht]; exact ⟨hP, hD⟩⟩, hS.F ht⟩) hS.2.2 dX4_init_132 B.notSynchronized
