/-! THE LISTS, BY THE STATE -/
theorem ownN_len (S : HdS) (q : Int) : ∀ n : Nat, (ownN S q n).length ≤ n := by
  intro n
  induction n with
  | zero => exact Nat.le_refl _
  | succ n ih =>
    simp only [ownN, List.length_append]
    split
    · simp; omega
    · simp; omega
theorem ownN_in (S : HdS) (q : Int) : ∀ n : Nat, ∀ f ∈ ownN S q n, 0 ≤ f ∧ f < n ∧ S.1 2 f = q := by
  intro n
  induction n with
  | zero => intro f hf; cases hf
  | succ n ih =>
    intro f hf
    simp only [ownN] at hf
    rcases List.mem_append.mp hf with h | h
    · have := ih f h; omega
    · by_cases e : S.1 2 n = q
      · rw [if_pos e] at h
        have h9 := List.mem_singleton.mp h
        subst h9
        exact ⟨by omega, by omega, e⟩
      · rw [if_neg e] at h; cases h
section RLists
variable {S : HdS} {w : CW} {g : Nat → Int → Nat} {T : Nat → Nat × Int} {U : Int → Int}
theorem R_size1 (l : Launch) (D : va_G) (cO : ClassId) (dz mi : Nat) {A : Nat → Prop} (hR : RelC S w g T U) (hn : 0 ≤ S.1 11 0) : cI l yJx4a65c_size_8abf5 wsJx4a65c_size_8abf5 { frames := 0, cells := 0, slots := 0, locals := 0 } D cO dz mi A [.ref (g 1 0)] w (fun r w9 => w = w9 ∧ r = iI (S.1 11 0)) 0 0 := by
  have h := L_size l D cO dz mi (A := A) w (g 1 0) hR.k1
  rw [hR.l1, List.length_map, intsC_len, Int.toNat_of_nonneg hn] at h
  exact h
theorem R_size2 (l : Launch) (D : va_G) (cO : ClassId) (dz mi : Nat) {A : Nat → Prop} (hR : RelC S w g T U) (hn : 0 ≤ S.1 11 1) : cI l yJx4a65c_size_8abf5 wsJx4a65c_size_8abf5 { frames := 0, cells := 0, slots := 0, locals := 0 } D cO dz mi A [.ref (g 2 0)] w (fun r w9 => w = w9 ∧ r = iI (S.1 11 1)) 0 0 := by
  have h := L_size l D cO dz mi (A := A) w (g 2 0) hR.k2
  rw [hR.l2, List.length_map, intsC_len, Int.toNat_of_nonneg hn] at h
  exact h
theorem R_size3 (l : Launch) (D : va_G) (cO : ClassId) (dz mi : Nat) {A : Nat → Prop} (hR : RelC S w g T U) : cI l yJx4a65c_size_8abf5 wsJx4a65c_size_8abf5 { frames := 0, cells := 0, slots := 0, locals := 0 } D cO dz mi A [.ref (g 3 0)] w (fun r w9 => w = w9 ∧ r = iI 4) 0 0 := by
  have h := L_size l D cO dz mi (A := A) w (g 3 0) hR.k3
  rw [hR.l3, List.length_map, intsC_len] at h
  exact h
theorem R_size6 (l : Launch) (D : va_G) (cO : ClassId) (dz mi : Nat) {A : Nat → Prop} (hR : RelC S w g T U) {f : Int} (h0 : 0 ≤ f) (h1 : f < S.1 11 1) : cI l yJx4a65c_size_8abf5 wsJx4a65c_size_8abf5 { frames := 0, cells := 0, slots := 0, locals := 0 } D cO dz mi A [.ref (g 6 f)] w (fun r w9 => w = w9 ∧ r = iI ((S.2 f).length : Int)) 0 0 := by
  have h := L_size l D cO dz mi (A := A) w (g 6 f) (hR.k6 h0 h1)
  rw [(hR.f h0 h1).2.2.1, List.length_map] at h
  exact h
theorem R_size8 (l : Launch) (D : va_G) (cO : ClassId) (dz mi : Nat) {A : Nat → Prop} (hR : RelC S w g T U) {q : Int} (h0 : 0 ≤ q) (h1 : q < 4) : cI l yJx4a65c_size_8abf5 wsJx4a65c_size_8abf5 { frames := 0, cells := 0, slots := 0, locals := 0 } D cO dz mi A [.ref (g 8 q)] w (fun r w9 => w = w9 ∧ r = iI ((ownN S q (S.1 11 1).toNat).length : Int)) 0 0 := by
  have h := L_size l D cO dz mi (A := A) w (g 8 q) (hR.k8 h0 h1)
  rw [(hR.p h0 h1).2.2, List.length_map] at h
  exact h
theorem R_empty6 (l : Launch) (D : va_G) (cO : ClassId) (dz mi : Nat) {A : Nat → Prop} (hR : RelC S w g T U) {f : Int} (h0 : 0 ≤ f) (h1 : f < S.1 11 1) (hn : (S.2 f).length ≤ 300) : cI l yJx4a65c_isEmpty_aae02 wsJx4a65c_isEmpty_aae02 { frames := 0, cells := 0, slots := 0, locals := 0 } D cO dz mi A [.ref (g 6 f)] w (fun r w9 => w = w9 ∧ (S.2 f = [] ∧ r = iI 1 ∨ S.2 f ≠ [] ∧ r = iI 0)) 0 0 := by
  have h := L_isEmpty l D cO dz mi (A := A) w (g 6 f) (hR.k6 h0 h1) (by rw [(hR.f h0 h1).2.2.1, List.length_map]; exact hn)
  rw [(hR.f h0 h1).2.2.1] at h
  simp only [ne_eq, List.map_eq_nil_iff] at h
  exact h
theorem R_get1 (l : Launch) (D : va_G) (cO : ClassId) (dz mi : Nat) {A : Nat → Prop} (hR : RelC S w g T U) (hn : S.1 11 0 ≤ 300) (i : Int) (h0 : 0 ≤ i) (h1 : i < S.1 11 0) : cQ l yJx4a65c_get_915e3 wsJx4a65c_get_915e3 { frames := 2, cells := 0, slots := 0, locals := 43 } D cO dz mi A [.ref (g 1 0), .int (iI i)] w (fun r w9 => w = w9 ∧ r = some (g 4 i)) 0 0 := by
  have h := L_get l D cO dz mi (A := A) w (g 1 0) hR.k1 (by rw [hR.l1, List.length_map, intsC_len]; omega) i h0 (by rw [hR.l1, List.length_map, intsC_len]; omega)
  rw [hR.l1, List.getElem?_map, intsC_at _ _ (by omega), Int.toNat_of_nonneg h0] at h
  exact h
theorem R_get2 (l : Launch) (D : va_G) (cO : ClassId) (dz mi : Nat) {A : Nat → Prop} (hR : RelC S w g T U) (hn : S.1 11 1 ≤ 300) (i : Int) (h0 : 0 ≤ i) (h1 : i < S.1 11 1) : cQ l yJx4a65c_get_915e3 wsJx4a65c_get_915e3 { frames := 2, cells := 0, slots := 0, locals := 43 } D cO dz mi A [.ref (g 2 0), .int (iI i)] w (fun r w9 => w = w9 ∧ r = some (g 5 i)) 0 0 := by
  have h := L_get l D cO dz mi (A := A) w (g 2 0) hR.k2 (by rw [hR.l2, List.length_map, intsC_len]; omega) i h0 (by rw [hR.l2, List.length_map, intsC_len]; omega)
  rw [hR.l2, List.getElem?_map, intsC_at _ _ (by omega), Int.toNat_of_nonneg h0] at h
  exact h
theorem R_get3 (l : Launch) (D : va_G) (cO : ClassId) (dz mi : Nat) {A : Nat → Prop} (hR : RelC S w g T U) (i : Int) (h0 : 0 ≤ i) (h1 : i < 4) : cQ l yJx4a65c_get_915e3 wsJx4a65c_get_915e3 { frames := 2, cells := 0, slots := 0, locals := 43 } D cO dz mi A [.ref (g 3 0), .int (iI i)] w (fun r w9 => w = w9 ∧ r = some (g 7 i)) 0 0 := by
  have h := L_get l D cO dz mi (A := A) w (g 3 0) hR.k3 (by rw [hR.l3, List.length_map, intsC_len]; omega) i h0 (by rw [hR.l3, List.length_map, intsC_len]; omega)
  rw [hR.l3, List.getElem?_map, intsC_at _ _ (by omega), Int.toNat_of_nonneg h0] at h
  exact h
theorem lsD_of {α : Type} {xs : List α} {j : Nat} {d : α} (h : j < xs.length) : xs[j]? = some (xs.getD j d) := by
  rw [List.getD_eq_getElem?_getD, List.getElem?_eq_getElem h]
  rfl
theorem R_get6 (l : Launch) (D : va_G) (cO : ClassId) (dz mi : Nat) {A : Nat → Prop} (hR : RelC S w g T U) {f : Int} (k0 : 0 ≤ f) (k1 : f < S.1 11 1) (hn : (S.2 f).length ≤ 300) (i : Int) (h0 : 0 ≤ i) (h1 : i < (S.2 f).length) : cQ l yJx4a65c_get_915e3 wsJx4a65c_get_915e3 { frames := 2, cells := 0, slots := 0, locals := 43 } D cO dz mi A [.ref (g 6 f), .int (iI i)] w (fun r w9 => w = w9 ∧ r = some (g 4 ((S.2 f).getD i.toNat 0))) 0 0 := by
  have h := L_get l D cO dz mi (A := A) w (g 6 f) (hR.k6 k0 k1) (by rw [(hR.f k0 k1).2.2.1, List.length_map]; exact hn) i h0 (by rw [(hR.f k0 k1).2.2.1, List.length_map]; exact h1)
  rw [(hR.f k0 k1).2.2.1, List.getElem?_map, lsD_of (d := 0) (by omega)] at h
  exact h
theorem R_get8 (l : Launch) (D : va_G) (cO : ClassId) (dz mi : Nat) {A : Nat → Prop} (hR : RelC S w g T U) (hn : S.1 11 1 ≤ 300) {q : Int} (k0 : 0 ≤ q) (k1 : q < 4) (i : Int) (h0 : 0 ≤ i) (h1 : i < (ownN S q (S.1 11 1).toNat).length) : cQ l yJx4a65c_get_915e3 wsJx4a65c_get_915e3 { frames := 2, cells := 0, slots := 0, locals := 43 } D cO dz mi A [.ref (g 8 q), .int (iI i)] w (fun r w9 => w = w9 ∧ r = some (g 5 ((ownN S q (S.1 11 1).toNat).getD i.toNat 0))) 0 0 := by
  have hlen := ownN_len S q (S.1 11 1).toNat
  have h := L_get l D cO dz mi (A := A) w (g 8 q) (hR.k8 k0 k1) (by rw [(hR.p k0 k1).2.2, List.length_map]; omega) i h0 (by rw [(hR.p k0 k1).2.2, List.length_map]; exact h1)
  rw [(hR.p k0 k1).2.2, List.getElem?_map, lsD_of (d := 0) (by omega)] at h
  exact h
end RLists
section CRows3
variable {p : Program} {l : Launch} {e : Env} {R : Room} {s : State} {m : MethodId} {args : Array Value} {below : List Frame} {meth : Method} {c : Code} {H : Heap} {locs : List Loc} {cells slots : Nat} {Q : State → Prop}
variable {cc : ByteArray} {pc : Nat} {ls : Array Slot} {rest st0 : List Value} {D : va_G} {cO : ClassId} {dz mi mc ms : Nat} {A : Nat → Prop} {w : CW} {b : Nat}
/-- a checkcast to the thing's own class; the tables say that the class is one -/
theorem c_castT (hexec : p.tables.exec = Jvm.exec) (hb : c.code = cc) {own : String} {r : vw_C} {k index : Nat} (hown : s.vm.findClass own = some m.cls) (hlink : (Cond.classLink own index r.1).before args s = true) (hE : aE D cO dz mi A s s.heap) (hC : cH D cO dz A w H) (hk : w.1 b = k) (h1 : 1 ≤ k) (h4 : k ≤ 4) (hc : vwCl[k]? = some r) (hdg : decode cc pc = .ok (.checkcast index, 3))
    (kk : W p l e R s m args below meth c H locs cells slots Q (F0 m (pc + 3) ls (.ref b :: rest))) : W p l e R s m args below meth c H locs cells slots Q (F0 m pc ls (.ref b :: rest)) := by
  obtain ⟨-, hfc, kC, hkC, hkind⟩ := hE.1.1 k r hc
  exact c_cast hexec hb hown hlink hE hC hk h1 h4 hc ⟨hfc, kC, hkC, hkind⟩ hdg kk
end CRows3
