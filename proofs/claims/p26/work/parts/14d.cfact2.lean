/-! SUMS OVER A DEPARTMENT'S FILES -/
def bilL (S : HdS) (xs : List Int) : Nat → Int
  | 0 => 0
  | j + 1 => bilL S xs j + bilT S (xs.getD j 0)
theorem bilL_app (S : HdS) (xs ys : List Int) : ∀ j : Nat, j ≤ xs.length → bilL S (xs ++ ys) j = bilL S xs j := by
  intro j
  induction j with
  | zero => intro _; rfl
  | succ j ih =>
    intro h
    simp only [bilL]
    rw [ih (by omega), List.getD_eq_getElem?_getD, List.getElem?_append_left (by omega), ← List.getD_eq_getElem?_getD]
theorem bilL_own (S : HdS) (q : Int) : ∀ k : Nat, bilL S (ownN S q k) (ownN S q k).length = bilN S q k := by
  intro k
  induction k with
  | zero => rfl
  | succ k ih =>
    simp only [ownN, bilN]
    by_cases h : S.1 2 k = q
    · rw [if_pos h, if_pos h, List.length_append]
      show bilL S (ownN S q k ++ [(k : Int)]) (ownN S q k).length + bilT S ((ownN S q k ++ [(k : Int)]).getD (ownN S q k).length 0) = _
      rw [bilL_app S _ _ _ (Nat.le_refl _), ih, List.getD_eq_getElem?_getD, List.getElem?_append_right (Nat.le_refl _), Nat.sub_self]
      rfl
    · rw [if_neg h, if_neg h, List.append_nil, ih, Int.add_zero]
theorem own_getD {S : HdS} {q : Int} {j : Nat} (h : j < (ownN S q (S.1 11 1).toNat).length) : 0 ≤ (ownN S q (S.1 11 1).toNat).getD j 0 ∧ (ownN S q (S.1 11 1).toNat).getD j 0 < S.1 11 1 := by
  have hm := List.mem_of_getElem? (lsD_of (d := 0) h)
  have := ownN_in S q _ _ hm
  omega
/-- the files below j that are over e -/
theorem usgN_step (S : HdS) (e : Int) (j : Nat) : usgN S e (j + 1) = usgN S e j + (if S.2 (j : Int) ≠ [] ∧ e ∈ wayS S (homeS S (j : Int)) then S.1 3 (j : Int) else 0) := rfl
