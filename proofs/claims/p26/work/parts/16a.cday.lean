/-! DAYS, FOR THE SYSTEM -/
theorem pay_min {S : HdS} {n : Int} (hw : wf S n) {q : Int} (q0 : 0 ≤ q) (q1 : q < 4) : (if iI (S.1 10 q) < iI (bil S q) then iI (S.1 10 q) else iI (bil S q)) = iI (payS S q) := by
  have h1 := hw.coi q0 q1
  have h2 := bil_in hw q
  unfold payS
  by_cases h9 : S.1 10 q < bil S q
  · rw [if_pos ((iI_lt (by omega) (by omega)).mpr h9), if_neg (by omega)]
  · rw [if_neg (fun z => h9 ((iI_lt (by omega) (by omega)).mp z))]
    by_cases h8 : bil S q < S.1 10 q
    · rw [if_pos h8]
    · rw [if_neg h8, show S.1 10 q = bil S q from by omega]
theorem usg_payN (S : HdS) (j : Int) : usg (payN S j) = usg S := usg_cong (funext fun i => payN_o S j (by omega) i) (fun _ _ _ => rfl) (fun f _ _ => payN_o S j (by omega) f) (payN_o S j (by omega) 1)
theorem dueN_off (S : HdS) (j : Int) {k : Nat} {i : Int} (h8 : k ≠ 8) (h9 : k ≠ 9) (h2 : k ≠ 11 ∨ i ≠ 2) : (dueN S j).1 k i = S.1 k i := by
  rw [dueN_1, if_neg (fun q => h2.elim (fun z => z q.1) (fun z => z q.2)), if_neg (fun q => h8 q.1), if_neg (fun q => h9 q.1)]
theorem usg_dueN (S : HdS) (j : Int) : usg (dueN S j) = usg S := usg_cong (funext fun i => dueN_off S j (by omega) (by omega) (Or.inl (by omega))) (fun _ _ _ => rfl) (fun f _ _ => dueN_off S j (by omega) (by omega) (Or.inl (by omega))) (dueN_off S j (by omega) (by omega) (Or.inr (by omega)))
theorem usg_dayS (S : HdS) : usg (dayS S) = usg S := by
  unfold dayS
  rw [usg_dueN, usg_payN]
theorem uoS_due (S : HdS) {f : Int} (hd : 0 ≤ S.1 11 2) (h0 : 0 ≤ f) (h1 : f < S.1 11 1) : uoS (dueN S (S.1 11 1)) f = uoS S f := by
  have e8 : (dueN S (S.1 11 1)).1 8 f = if S.1 9 f = S.1 11 2 + 1 then S.1 11 2 + 1 else S.1 8 f := by
    rw [dueN_1, if_neg (by omega)]
    by_cases e : S.1 9 f = S.1 11 2 + 1
    · rw [if_pos ⟨rfl, h0, h1, e⟩, if_pos e]
    · rw [if_neg (fun q => e q.2.2.2), if_neg (by omega), if_neg e]
  have e9 : (dueN S (S.1 11 1)).1 9 f = if S.1 9 f = S.1 11 2 + 1 then -1 else S.1 9 f := by
    rw [dueN_1, if_neg (by omega), if_neg (by omega)]
    by_cases e : S.1 9 f = S.1 11 2 + 1
    · rw [if_pos ⟨rfl, h0, h1, e⟩, if_pos e]
    · rw [if_neg (fun q => e q.2.2.2), if_neg e]
  unfold uoS
  rw [e8, e9]
  by_cases e : S.1 9 f = S.1 11 2 + 1
  · simp only [if_pos e, if_true]
    rw [if_neg (by omega), e]
  · simp only [if_neg e]
theorem RelC.nextDay {S : HdS} {w : CW} {g : Nat → Int → Nat} {T : Nat → Nat × Int} (h : RelC (payN S 4) w g T (usg S)) (hn : 0 ≤ S.1 11 1) (hd : 0 ≤ S.1 11 2) : RelC (dayS S) (wF w 43 (g 0 0) (S.1 11 2 + 1)) g T (usg (dayS S)) := by
  rw [usg_dayS]
  exact h.dayTo (S' := dayS S) hn (fun k i h8 h9 h2 => dueN_off (payN S 4) (S.1 11 1) h8 h9 h2) rfl (dayS_day S) (fun f h0 h1 _ => uoS_due (payN S 4) hd h0 h1)
theorem usg_passN (S : HdS) : ∀ j : Nat, usg (passN S j).1 = usg S := by
  intro j
  induction j with
  | zero => rfl
  | succ j ih =>
    show usg (dayS (passN S j).1) = usg S
    rw [usg_dayS, ih]
