/-! BITS, RELEASES, LINKS -/
theorem bit_sh0 : ∀ m : Nat, m < 5 → iI 1 <<< (iI (m : Int) &&& 31) = iI (2 ^ m) := by decide +kernel
theorem bit_sh {m : Int} (m0 : 0 ≤ m) (m1 : m ≤ 4) : iI 1 <<< (iI m &&& 31) = iI (2 ^ m.toNat) := by
  have := bit_sh0 m.toNat (by omega)
  rwa [Int.toNat_of_nonneg m0] at this
theorem bit_or2 {h m : Int} (h0 : 0 ≤ h) (h1 : h < 32) (m0 : 0 ≤ m) (m1 : m ≤ 4) : iI h ||| iI (2 ^ m.toNat) = iI (hOr h m) ∧ 0 < hOr h m ∧ hOr h m < 32 := by
  rw [← bit_sh m0 m1]
  exact bit_or h0 h1 m0 m1
theorem bit_clr2 {h m : Int} (h0 : 0 ≤ h) (h1 : h < 32) (m0 : 0 ≤ m) (m1 : m ≤ 4) : iI h &&& (iI (2 ^ m.toNat) ^^^ iI (-1)) = iI (hClr h m) ∧ 0 ≤ hClr h m ∧ hClr h m < 32 := by
  rw [← bit_sh m0 m1]
  exact bit_clr h0 h1 m0 m1
def relOne (S : HdS) (f m : Int) : HdS := sset (sset S 7 f (hClr (S.1 7 f) m)) 6 f (if hClr (S.1 7 f) m = 0 then 0 else S.1 6 f)
def relV (S : HdS) (f m : Int) : Int := if hClr (S.1 7 f) m = 0 then S.1 6 f else 0
theorem relOne_N (S : HdS) (m : Int) (j : Nat) : relOne (relN S m j) j m = relN S m ((j + 1 : Nat) : Int) := by
  unfold relOne
  rw [relN_7, relN_6]
  exact relN_succ S m j rfl
theorem relV_N (S : HdS) (m : Int) (j : Nat) : relV (relN S m j) j m = if hClr (S.1 7 j) m = 0 then S.1 6 j else 0 := by
  unfold relV
  rw [relN_7, relN_6]
theorem relN_off (S : HdS) (m j : Int) {k : Nat} (h6 : k ≠ 6) (h7 : k ≠ 7) (i : Int) : (relN S m j).1 k i = S.1 k i := by
  show (if k = 7 ∧ 0 ≤ i ∧ i < j then hClr (S.1 7 i) m else if k = 6 ∧ 0 ≤ i ∧ i < j ∧ hClr (S.1 7 i) m = 0 then 0 else S.1 k i) = S.1 k i
  rw [if_neg (fun q => h7 q.1), if_neg (fun q => h6 q.1)]
theorem usg_relN (S : HdS) (m j : Int) : usg (relN S m j) = usg S := usg_cong (funext fun i => relN_off S m j (by omega) (by omega) i) (fun _ _ _ => rfl) (fun f _ _ => relN_off S m j (by omega) (by omega) f) (relN_off S m j (by omega) (by omega) 1)
theorem map_eraseAt (g : Int → Nat) : ∀ (xs : List Int) (a : Nat), (xs.map g).eraseIdx a = (xs.eraseIdx a).map g := by
  intro xs
  induction xs with
  | nil => intro a; rfl
  | cons x xs ih =>
    intro a
    cases a with
    | zero => rfl
    | succ a =>
      show g x :: (xs.map g).eraseIdx a = g x :: (xs.eraseIdx a).map g
      rw [ih a]
theorem usg_home {S S' : HdS} (h0 : S'.1 0 = S.1 0) (h2 : ∀ f : Int, 0 ≤ f → f < S.1 11 1 → homeS S' f = homeS S f ∧ (S'.2 f = [] ↔ S.2 f = [])) (h3 : ∀ f : Int, 0 ≤ f → f < S.1 11 1 → S'.1 3 f = S.1 3 f) (h11 : S'.1 11 1 = S.1 11 1) : usg S' = usg S := by
  funext e
  have key : ∀ k : Nat, (k : Int) ≤ S.1 11 1 ∨ k = 0 → usgN S' e k = usgN S e k := by
    intro k
    induction k with
    | zero => intro _; rfl
    | succ k ih =>
      intro hk
      simp only [usgN]
      have e2 := h2 k (by omega) (by omega)
      have e3 := h3 k (by omega) (by omega)
      have e4 : wayS S' (homeS S' k) = wayS S (homeS S k) := by
        rw [e2.1]
        exact wayN_cong h0 13 _
      rw [ih (by omega), e3, e4]
      by_cases q : S.2 (k : Int) = []
      · rw [if_neg (fun z => z.1 (e2.2.mpr q)), if_neg (fun z => z.1 q)]
      · have q' : S'.2 (k : Int) ≠ [] := fun z => q (e2.2.mp z)
        by_cases r : e ∈ wayS S (homeS S k)
        · rw [if_pos ⟨q', r⟩, if_pos ⟨q, r⟩]
        · rw [if_neg (fun z => r z.2), if_neg (fun z => r z.2)]
  unfold usg
  rw [h11]
  exact key _ (by omega)
theorem usg_link {S : HdS} {f d : Int} (hne : S.2 f ≠ []) : usg (slks S f (S.2 f ++ [d])) = usg S := by
  refine usg_home rfl (fun f' _ _ => ?_) (fun _ _ _ => rfl) rfl
  unfold homeS
  rw [slks_2]
  by_cases e : f' = f
  · subst e
    rw [if_pos rfl]
    cases hs : S.2 f' with
    | nil => exact absurd hs hne
    | cons a t => exact ⟨rfl, by simp⟩
  · rw [if_neg e]
    exact ⟨rfl, Iff.rfl⟩
section RLists2
variable {S : HdS} {w : CW} {g : Nat → Int → Nat} {T : Nat → Nat × Int} {U : Int → Int}
theorem R_add6 (l : Launch) (D : va_G) (cO : ClassId) (dz mi : Nat) {A : Nat → Prop} (hR : RelC S w g T U) {f d : Int} (h0 : 0 ≤ f) (h1 : f < S.1 11 1) (d0 : 0 ≤ d) (d1 : d < S.1 11 0) (hn : (S.2 f).length ≤ 300) : cI l yJx4a65c_add_9ea2d wsJx4a65c_add_9ea2d { frames := 6, cells := 1, slots := 1000, locals := 170 } D cO dz mi A [.ref (g 6 f), .ref (g 4 d)] w (fun r w9 => wL w (g 6 f) ((S.2 f ++ [d]).map (g 4)) = w9 ∧ r = iI 1) 1 1000 := by
  have h := L_add l D cO dz mi (A := A) w (g 6 f) (g 4 d) (hR.k6 h0 h1) (by rw [hR.k4 d0 d1]; omega) (by rw [hR.k4 d0 d1]; omega) (by rw [(hR.f h0 h1).2.2.1, List.length_map]; exact hn)
  rw [(hR.f h0 h1).2.2.1, show (S.2 f).map (g 4) ++ [g 4 d] = (S.2 f ++ [d]).map (g 4) from by simp] at h
  exact h
theorem R_rem6 (l : Launch) (D : va_G) (cO : ClassId) (dz mi : Nat) {A : Nat → Prop} (hR : RelC S w g T U) {f : Int} (h0 : 0 ≤ f) (h1 : f < S.1 11 1) (hn : (S.2 f).length ≤ 300) (a : Nat) (ha : a < (S.2 f).length) : cQ l yJx4a65c_remove_915e3 wsJx4a65c_remove_915e3 { frames := 2, cells := 0, slots := 0, locals := 83 } D cO dz mi A [.ref (g 6 f), .int (iI (a : Int))] w (fun r w9 => wL w (g 6 f) (((S.2 f).eraseIdx a).map (g 4)) = w9 ∧ r = some (g 4 ((S.2 f).getD a 0))) 0 0 := by
  have h := L_remove l D cO dz mi (A := A) w (g 6 f) (hR.k6 h0 h1) (by rw [(hR.f h0 h1).2.2.1, List.length_map]; exact hn) a (by rw [(hR.f h0 h1).2.2.1, List.length_map]; exact ha)
  rw [(hR.f h0 h1).2.2.1, map_eraseAt, List.getElem?_map, lsD_of (d := 0) ha] at h
  exact h
end RLists2
