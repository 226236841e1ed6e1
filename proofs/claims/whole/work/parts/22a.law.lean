/-! THE LAW'S WORLD: the system's cells, the reference's, the row of one long; each apart from the others -/
def lA (N : Nat) (ad : Nat → Nat) (ob : Nat) : Nat → Prop := fun q => N ≤ q ∧ (∀ k, k < 12 → q ≠ ad k) ∧ q ≠ ob
def lM (ad : Nat → Nat) : Nat → Prop := fun q => ∃ k, k < 12 ∧ q = ad k
def LW (D : va_G) (cO : ClassId) (dz : Nat) (kI cJ : ClassId) (N : Nat) (ad : Nat → Nat) (ob : Nat) (w : CW) (u : MS) (f : Nat → Int64) (H : Heap) : Prop := cH D cO dz (lA N ad ob) w H ∧ va_P D vwCl (wM ad kI u) H ∧ va_P D vwCl [(ob, oC cJ f)] H
def LEnv (D : va_G) (cO : ClassId) (dz mi : Nat) (kI cJ : ClassId) (s : State) : Prop := aE D cO dz mi (fun q => s.heap.size ≤ q) s s.heap ∧ xE (fun q => s.heap.size ≤ q) s s.heap ∧ va_K D vwCl [(kI, .int)] s ∧ va_K D vwCl [(cJ, .long)] s ∧ lNc s
def LFix (D : va_G) (kI : ClassId) (N : Nat) (ad : Nat → Nat) (ob : Nat) : Prop := (∀ k, k < 12 → N ≤ ad k) ∧ N ≤ ob ∧ (∀ k, k < 12 → ad k ≠ ob) ∧ ∃ u0 : MS, va_D (lM ad) (wM ad kI u0)
theorem wM_ad (ad : Nat → Nat) (kI : ClassId) (u : MS) {k : Nat} (hk : k < 12) : ∃ (j : Nat) (x : va_E), (wM ad kI u)[j]? = some (ad k, x) := by
  by_cases h : k < 11
  · exact ⟨k + 1, _, wM_k ad kI u h⟩
  · have e : k = 11 := by omega
    subst e
    exact ⟨0, _, rfl⟩
theorem wM_lt {D : va_G} {ad : Nat → Nat} {kI : ClassId} {u : MS} {H : Heap} (hP : va_P D vwCl (wM ad kI u) H) {k : Nat} (hk : k < 12) : ad k < H.size := by
  obtain ⟨j, x, hj⟩ := wM_ad ad kI u hk
  exact (hP j _ hj).lt
theorem wM_of {ad : Nat → Nat} {kI : ClassId} {u : MS} {j : Nat} {q : Nat × va_E} (h : (wM ad kI u)[j]? = some q) : ∃ k, k < 12 ∧ q.1 = ad k := by
  cases j with
  | zero => cases h; exact ⟨11, by omega, rfl⟩
  | succ j =>
    by_cases hj : j < 11
    · rw [wM_k ad kI u hj] at h
      cases h
      exact ⟨j, by omega, rfl⟩
    · exfalso
      unfold wM at h
      rw [List.getElem?_cons_succ, List.getElem?_eq_none (by simp; omega)] at h
      cases h
theorem oC_of {cJ : ClassId} {ob : Nat} {f : Nat → Int64} {k : Nat} {q : Nat × va_E} (h : ([(ob, oC cJ f)] : va_W)[k]? = some q) : q = (ob, oC cJ f) := by
  have hz : k < 1 := (List.getElem?_eq_some_iff.mp h).1
  have hk0 : k = 0 := by omega
  subst hk0
  cases h
  rfl
section LW
variable {D : va_G} {cO : ClassId} {dz mi : Nat} {kI cJ : ClassId} {N : Nat} {ad : Nat → Nat} {ob : Nat} {w w1 : CW} {u u1 : MS} {f f1 : Nat → Int64} {H H1 : Heap}
theorem LW.byC (h : LW D cO dz kI cJ N ad ob w u f H) (hne : ∀ k, k < 12 → ad k ≠ ob) (hC : cH D cO dz (lA N ad ob) w1 H1) (hO : va_P D vwCl [(ob, oC cJ f1)] H1) (hk : ∀ q : Nat, q < H.size → ¬ lFr (lA N ad ob) ob q → H1[q]? = H[q]?) : LW D cO dz kI cJ N ad ob w1 u f1 H1 := by
  refine ⟨hC, h.2.1.kept fun j q hj => ?_, hO⟩
  obtain ⟨k, k1, k2⟩ := wM_of hj
  refine hk q.1 (h.2.1 j q hj).lt ?_
  rintro (⟨-, x, -⟩ | x)
  · exact x k k1 k2
  · exact hne k k1 (by rw [← k2]; exact x)
theorem LW.byS (h : LW D cO dz kI cJ N ad ob w u f H) (hC : cH D cO dz (lA N ad ob) w1 H1) (hk : ∀ q : Nat, q < H.size → ¬ lA N ad ob q → H1[q]? = H[q]?) : LW D cO dz kI cJ N ad ob w1 u f H1 := by
  refine ⟨hC, h.2.1.kept fun j q hj => ?_, h.2.2.kept fun j q hj => ?_⟩
  · obtain ⟨k, k1, k2⟩ := wM_of hj
    exact hk q.1 (h.2.1 j q hj).lt fun x => x.2.1 k k1 k2
  · have e := oC_of hj
    subst e
    exact hk ob (h.2.2 j _ hj).lt fun x => x.2.2 rfl
theorem LW.byM (h : LW D cO dz kI cJ N ad ob w u f H) (hne : ∀ k, k < 12 → ad k ≠ ob) (hM : va_P D vwCl (wM ad kI u1) H1) (hk : ∀ q : Nat, q < H.size → ¬ lM ad q → H1[q]? = H[q]?) : LW D cO dz kI cJ N ad ob w u1 f H1 := by
  obtain ⟨⟨ws, h1, h2, h3⟩, -, hO⟩ := h
  refine ⟨⟨ws, h1.kept fun j q hj => ?_, h2, h3⟩, hM, hO.kept fun j q hj => ?_⟩
  · refine hk q.1 (h1 j q hj).lt ?_
    rintro ⟨k, k1, k2⟩
    exact (h2.2 j q hj).2.1 k k1 k2
  · have e := oC_of hj
    subst e
    refine hk ob (hO j _ hj).lt ?_
    rintro ⟨k, k1, k2⟩
    exact hne k k1 k2.symm
end LW
section LawRows
variable {p : Program} {l : Launch} {e : Env} {R : Room} {s : State} {m : MethodId} {args : Array Value} {below : List Frame} {meth : Method} {c : Code} {H : Heap} {cells slots : Nat} {Q : State → Prop}
variable {cc : ByteArray} {pc : Nat} {ls : Array Slot} {rest st0 : List Value} {D : va_G} {cO : ClassId} {dz mi : Nat} {kI cJ : ClassId} {ad : Nat → Nat} {ob : Nat} {w : CW} {u : MS} {f : Nat → Int64}
theorem lS_C (hS : va_S (fun q => s.heap.size ≤ q) s.heap H []) (A : Nat → Prop) : va_S A s.heap H [] := ⟨hS.1, fun q h1 _ => hS.2.1 q h1 (Nat.not_le.mpr h1), fun _ h => absurd h List.not_mem_nil⟩
theorem lA_up (hL : LW D cO dz kI cJ s.heap.size ad ob w u f H) (hS : va_S (fun q => s.heap.size ≤ q) s.heap H []) : ∀ q, H.size ≤ q → lA s.heap.size ad ob q := fun q hq => ⟨Nat.le_trans hS.1 hq, fun k hk e => by have := wM_lt hL.2.1 hk; omega, fun e => by have := (hL.2.2 0 _ rfl).lt; have e : q = ob := e; have h9 : ob < H.size := this; omega⟩
theorem l_preS {As : List Value} (hEn : LEnv D cO dz mi kI cJ s) (hL : LW D cO dz kI cJ s.heap.size ad ob w u f H) (hS : va_S (fun q => s.heap.size ≤ q) s.heap H []) : PreS s H (va_Pc As (lPre D cO dz mi (lA s.heap.size ad ob) w cJ ob f)) As := by
  obtain ⟨hE, hX, hI, hJ, hN⟩ := hEn
  have hAB : ∀ q, lA s.heap.size ad ob q → s.heap.size ≤ q := fun q h => h.1
  refine ⟨l_blind, fun U hU hW => ⟨rfl, ⟨fun q hq => lA_up hL hS q (by rw [← hU]; exact hq), by rw [hU]; exact hL.1, (hE.narrow hAB).call (lS_C hS _) hU hW, (hX.narrow hAB).call (lS_C hS _) hU hW⟩, fun h => h.2.2 rfl, by rw [hU]; exact hL.2.2, va_K.moved hW.alike hJ, hN.moved hW.alike⟩⟩
theorem l_wrap {wl : List Cond} {y : MethodName} {rm : Room} {maxL nL index mc ms n a0 : Nat} {ret : Option FieldType} {bytes : ByteArray} {hh : List (Nat × Nat × Nat × Nat)} {Ts : List Cond} {own : String} {As : List Value} {q : SR} (S : CallFix p m c cc nL s args Ts own) (hM : lI l y wl rm D cO dz mi (lA s.heap.size ad ob) w cJ ob f As a0 q mc ms) (cw : vx_CSW R s args own index y bytes maxL ret hh wl rm mc ms n)
    (hEn : LEnv D cO dz mi kI cJ s) (hFx : LFix D kI s.heap.size ad ob) (hL : LW D cO dz kI cJ s.heap.size ad ob w u f H) (hS : va_S (fun q => s.heap.size ≤ q) s.heap H []) (hn : As.length = n) (hsize : ls.size = nL) (hst : st0 = As.reverse ++ rest) (hW : (rest.map fun v => v.category).sum ≤ 8) (hf : cells + mc ≤ R.cells ∧ slots + ms ≤ R.slots) (hdg : decode cc pc = .ok (.invokestatic index, 3))
    (kk : ∀ (w1 : CW) (f1 : Nat → Int64) (H1 : Heap), (∃ (g : Nat → Int → Nat) (T : Nat → Nat × Int), g 0 0 = a0 ∧ RelC q.2.2 w1 g T (usg q.2.2)) → (q.1 = 0 → f1 0 = (iI q.2.1).toInt64) → LW D cO dz kI cJ s.heap.size ad ob w1 u f1 H1 → va_S (fun q => s.heap.size ≤ q) s.heap H1 [] → W p l e R s m args below meth c H1 [] (cells + mc) (slots + ms) Q (F0 m (pc + 3) ls (.int (iI q.1) :: rest))) : W p l e R s m args below meth c H [] cells slots Q (F0 m pc ls st0) := by
  have hAB : ∀ q, lFr (lA s.heap.size ad ob) ob q → s.heap.size ≤ q := fun q h => h.elim (fun z => z.1) (fun z => by rw [z]; exact hFx.2.1)
  refine va_calli (A0 := fun q => s.heap.size ≤ q) (A1 := lFr (lA s.heap.size ad ob) ob) (vx_runSW (g := F0 m pc ls st0) S hM cw (l_preS hEn hL hS) rfl hn hsize hst (lv_room hW) hdg hf) hS (fun q _ h => hAB q h) hAB (fun r x t H1 locs1 ht _ hp hB _ hk hS1 => ?_)
  obtain ⟨rfl, hrel, hans⟩ := hp
  have hC1 : cH D cO dz (lA s.heap.size ad ob) x.1 H1 := by rw [← ht]; exact hB.1
  have hO1 : va_P D vwCl [(ob, oC cJ x.2)] H1 := by rw [← ht]; exact hB.2
  refine va_forget (fun z hz => hS1.2.2 z hz) ?_
  exact kk x.1 x.2 H1 hrel hans (hL.byC hFx.2.2.1 hC1 hO1 hk) ⟨hS1.1, hS1.2.1, fun _ h => absurd h List.not_mem_nil⟩
theorem l_mod {wl : List Cond} {y : MethodName} {rm : Room} {maxL nL index n : Nat} {ret : Option FieldType} {bytes : ByteArray} {Ts : List Cond} {own : String} {As : List Value} {post : Int32 → MS → Prop} (S : CallFix p m c cc nL s args Ts own) (hM : mI l y wl rm D ad kI (lM ad) (.ref (ad 11) :: As) u post) (cw : CallW R s args own RX4 index y bytes maxL ret wl rm 0 0 n)
    (hEn : LEnv D cO dz mi kI cJ s) (hFx : LFix D kI s.heap.size ad ob) (hL : LW D cO dz kI cJ s.heap.size ad ob w u f H) (hS : va_S (fun q => s.heap.size ≤ q) s.heap H []) (hn : As.length = n) (hsize : ls.size = nL) (hst : st0 = As.reverse ++ .ref (ad 11) :: rest) (hW : (rest.map fun v => v.category).sum ≤ 8) (hf : cells ≤ R.cells ∧ slots ≤ R.slots) (hdg : decode cc pc = .ok (.invokevirtual index, 3))
    (kk : ∀ (r : Int32) (u1 : MS) (H1 : Heap), post r u1 → LW D cO dz kI cJ s.heap.size ad ob w u1 f H1 → va_S (fun q => s.heap.size ≤ q) s.heap H1 [] → W p l e R s m args below meth c H1 [] cells slots Q (F0 m (pc + 3) ls (.int r :: rest))) : W p l e R s m args below meth c H [] cells slots Q (F0 m pc ls st0) := by
  obtain ⟨hE, hX, hI, hJ, hN⟩ := id hEn
  have hAB : ∀ q, lM ad q → s.heap.size ≤ q := fun q h => by obtain ⟨k, k1, k2⟩ := h; rw [k2]; exact hFx.1 k k1
  have hP := hL.2.1
  refine va_calli (A0 := fun q => s.heap.size ≤ q) (A1 := lM ad) (va_runV (g := F0 m pc ls st0) S hM cw ⟨m_blind, va_recv hI hP (ci := 5) (q0 := 0) rfl rfl, fun U hU hW => ⟨rfl, by show va_P _ _ _ U.heap; rw [hU]; exact hP, va_K.moved hW.alike hI⟩⟩ rfl hn hsize hst (lv_room hW) hdg hf) hS (fun q _ h => hAB q h) hAB (fun r u1 t H1 locs1 ht _ hp hB _ hk hS1 => ?_)
  have hM1 : va_P D vwCl (wM ad kI u1) H1 := by rw [← ht]; exact hB.1
  refine va_forget (fun z hz => hS1.2.2 z hz) ?_
  exact kk r u1 H1 hp (hL.byM hFx.2.2.1 hM1 hk) ⟨hS1.1, hS1.2.1, fun _ h => absurd h List.not_mem_nil⟩
theorem l_sys {wl : List Cond} {y : MethodName} {rm : Room} {maxL nL index n a0 : Nat} {ret : Option FieldType} {bytes : ByteArray} {Ts : List Cond} {own : String} {As : List Value} {v : Int} (S : CallFix p m c cc nL s args Ts own) (hM : cI l y wl rm D cO dz mi (lA s.heap.size ad ob) (.ref a0 :: As) w (fun r w9 => w = w9 ∧ r = iI v) 0 0) (cw : CallW R s args own RX3 index y bytes maxL ret wl rm 0 0 n)
    (hEn : LEnv D cO dz mi kI cJ s) (hL : LW D cO dz kI cJ s.heap.size ad ob w u f H) (hS : va_S (fun q => s.heap.size ≤ q) s.heap H []) (hk0 : w.1 a0 = 4) (hn : As.length = n) (hsize : ls.size = nL) (hst : st0 = As.reverse ++ .ref a0 :: rest) (hW : (rest.map fun v => v.category).sum ≤ 8) (hf : cells ≤ R.cells ∧ slots ≤ R.slots) (hdg : decode cc pc = .ok (.invokevirtual index, 3))
    (kk : ∀ (H1 : Heap), LW D cO dz kI cJ s.heap.size ad ob w u f H1 → va_S (fun q => s.heap.size ≤ q) s.heap H1 [] → W p l e R s m args below meth c H1 [] cells slots Q (F0 m (pc + 3) ls (.int (iI v) :: rest))) : W p l e R s m args below meth c H [] cells slots Q (F0 m pc ls st0) := by
  obtain ⟨hE, hX, hI, hJ, hN⟩ := id hEn
  have hAB : ∀ q, lA s.heap.size ad ob q → s.heap.size ≤ q := fun q h => h.1
  have hE' := hE.narrow hAB
  have hX' := hX.narrow hAB
  obtain ⟨ws, hP, hD, hR⟩ := id hL.1
  obtain ⟨j, hj⟩ := hR.2.2.1 a0 (by omega) (by omega)
  rw [hk0] at hj
  refine va_calli (A0 := fun q => s.heap.size ≤ q) (A1 := lA s.heap.size ad ob) (va_runV (g := F0 m pc ls st0) S hM cw ⟨c_blind, va_recv hE'.1 hP (ci := 4) (q := (RX3, TX3, 4)) rfl hj, fun U hU hW => ⟨rfl, fun q hq => lA_up hL hS q (by rw [← hU]; exact hq), by rw [hU]; exact hL.1, hE'.call (lS_C hS _) hU hW, hX'.call (lS_C hS _) hU hW⟩⟩ rfl hn hsize hst (lv_room hW) hdg hf) hS (fun q _ h => hAB q h) hAB (fun r x t H1 locs1 ht _ hp hB _ hk hS1 => ?_)
  obtain ⟨rfl, rfl⟩ := hp
  have hC1 : cH D cO dz (lA s.heap.size ad ob) w H1 := by rw [← ht]; exact hB
  refine va_forget (fun z hz => hS1.2.2 z hz) ?_
  exact kk H1 (hL.byS hC1 hk) ⟨hS1.1, hS1.2.1, fun _ h => absurd h List.not_mem_nil⟩
theorem l_lald (hexec : p.tables.exec = Jvm.exec) (hb : c.code = cc) (hEn : LEnv D cO dz mi kI cJ s) (hL : LW D cO dz kI cJ s.heap.size ad ob w u f H) {v : Int64} (hv : f 0 = v) (hdg : decode cc pc = .ok (.laload, 1))
    (kk : W p l e R s m args below meth c H [] cells slots Q (F0 m (pc + 1) ls (.long v :: rest))) : W p l e R s m args below meth c H [] cells slots Q (F0 m pc ls (.int (iI 0) :: .ref ob :: rest)) := by
  refine va_lald hexec hb hEn.2.2.2.1 hL.2.2 0 0 rfl rfl (iI_in (by omega) (by omega) (by omega)) hdg ?_
  rw [iI_clamp (by omega) (by omega)]
  show W p l e R s m args below meth c H [] cells slots Q (F0 m (pc + 1) ls (.long (f 0) :: rest))
  rw [hv]
  exact kk
theorem l_sld (hexec : p.tables.exec = Jvm.exec) (hb : c.code = cc) {b L : Nat} {xs : Nat → Int32} (hX : va_X b L xs s s.heap) (hbl : b < s.heap.size) (hS : va_S (fun q => s.heap.size ≤ q) s.heap H []) (hL : L ≤ 2048) {z : Int} (h0 : 0 ≤ z) (h1 : z < L) (hdg : decode cc pc = .ok (.iaload, 1))
    (kk : W p l e R s m args below meth c H [] cells slots Q (F0 m (pc + 1) ls (.int (iI (xs z.toNat).toInt) :: rest))) : W p l e R s m args below meth c H [] cells slots Q (F0 m pc ls (.int (iI z) :: .ref b :: rest)) := by
  refine va_sld hexec hb hX hbl (A := fun q => s.heap.size ≤ q) (Nat.not_le.mpr hbl) hS (iI_in h0 h1 (by omega)) hdg ?_
  rw [iI_clamp h0 (by omega)]
  rw [iI_of] at kk
  exact kk
end LawRows
theorem and31 (x : Int32) : ∃ d : Int, 0 ≤ d ∧ d ≤ 31 ∧ x &&& iI 31 = iI d := by
  have h1 : (x &&& iI 31).toBitVec.toNat ≤ 31 := by
    rw [Int32.toBitVec_and, BitVec.toNat_and]
    exact Nat.and_le_right
  have h2 : (x &&& iI 31).toInt = ((x &&& iI 31).toBitVec.toNat : Int) := by
    show (x &&& iI 31).toBitVec.toInt = _
    exact BitVec.toInt_eq_toNat_of_lt (by omega)
  exact ⟨(x &&& iI 31).toInt, by omega, by omega, (iI_of _).symm⟩
theorem cmp_same (x : Int64) : lg_cmp x x = iI 0 := by
  have h : ¬ x < x := by
    rw [Int64.lt_iff_toInt_lt]
    omega
  simp [lg_cmp, iI_0]
def LInv (D : va_G) (cO : ClassId) (dz : Nat) (kI cJ : ClassId) (s : State) (ad : Nat → Nat) (ob a0 : Nat) (n : Int) (H : Heap) : Prop := ∃ (S : HdS) (w : CW) (g : Nat → Int → Nat) (T : Nat → Nat × Int) (u : MS) (f : Nat → Int64), wf S n ∧ RelC S w g T (usg S) ∧ g 0 0 = a0 ∧ RelM S u ∧ LW D cO dz kI cJ s.heap.size ad ob w u f H ∧ va_S (fun q => s.heap.size ≤ q) s.heap H []
