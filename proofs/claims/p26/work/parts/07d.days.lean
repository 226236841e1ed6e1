section Days
variable {S : HdS} {n : Int}
theorem payN_1 (S : HdS) (j : Int) (k : Nat) (i : Int) : (payN S j).1 k i = if k = 10 ∧ 0 ≤ i ∧ i < j then S.1 10 i - payS S i else S.1 k i := rfl
theorem payN_ge (S : HdS) {j i : Int} (h : j ≤ i) : (payN S j).1 10 i = S.1 10 i := by rw [payN_1, if_neg (by omega)]
theorem payN_o (S : HdS) (j : Int) {k : Nat} (h : k ≠ 10) (i : Int) : (payN S j).1 k i = S.1 k i := by rw [payN_1, if_neg (fun q => h q.1)]
theorem payN_0 (S : HdS) : payN S 0 = S := by
  refine Prod.ext ?_ rfl
  funext k i
  rw [payN_1, if_neg (by omega)]
theorem payN_succ (S : HdS) (j : Nat) {v : Int} (hv : v = S.1 10 j - payS S j) : sset (payN S j) 10 j v = payN S ((j + 1 : Nat) : Int) := by
  subst hv
  refine Prod.ext ?_ rfl
  funext k i
  rw [sset_1, payN_1, payN_1]
  by_cases hk : k = 10
  · subst hk
    by_cases hi : i = (j : Int)
    · subst hi
      rw [if_pos ⟨rfl, rfl⟩, if_pos ⟨rfl, by omega, by omega⟩]
    · rw [if_neg (fun q => hi q.2)]
      by_cases hb : 0 ≤ i ∧ i < (j : Int)
      · rw [if_pos ⟨rfl, hb⟩, if_pos ⟨rfl, by omega, by omega⟩]
      · rw [if_neg (fun q => hb q.2), if_neg (fun q => hb ⟨q.2.1, by omega⟩)]
  · rw [if_neg (fun q => hk q.1), if_neg (fun q => hk q.1), if_neg (fun q => hk q.1)]
theorem bilN_payN (S : HdS) (j p : Int) : ∀ k : Nat, bilN (payN S j) p k = bilN S p k := by
  intro k
  induction k with
  | zero => rfl
  | succ k ih =>
    show bilN (payN S j) p k + (if S.1 2 (k : Int) = p then bilT S (k : Int) else 0) = bilN S p k + (if S.1 2 (k : Int) = p then bilT S (k : Int) else 0)
    rw [ih]
theorem bil_payN (S : HdS) (j p : Int) : bil (payN S j) p = bil S p := by
  show (bilN (payN S j) p (S.1 11 1).toNat + 99) / 100 = (bilN S p (S.1 11 1).toNat + 99) / 100
  rw [bilN_payN]
theorem wf_payN (h : wf S n) {j : Int} (h4 : j ≤ 4) : wf (payN S j) n := by
  refine ⟨h.num, h.nd, h.nf, h.day, h.p0, fun d h1 h2 => h.par h1 h2, fun d h1 h2 => h.quo h1 h2, fun p h1 h2 => ?_, fun f h1 h2 => h.f h1 h2⟩
  have a := h.coi h1 h2
  have b := payS_in h h1 h2
  rw [payN_1]
  split <;> omega
theorem dueN_1 (S : HdS) (j : Int) (k : Nat) (i : Int) : (dueN S j).1 k i = if k = 11 ∧ i = 2 then S.1 11 2 + 1 else if k = 8 ∧ 0 ≤ i ∧ i < j ∧ S.1 9 i = S.1 11 2 + 1 then S.1 11 2 + 1 else if k = 9 ∧ 0 ≤ i ∧ i < j ∧ S.1 9 i = S.1 11 2 + 1 then -1 else S.1 k i := rfl
theorem dueN_0 (S : HdS) : dueN S 0 = sset S 11 2 (S.1 11 2 + 1) := by
  refine Prod.ext ?_ rfl
  funext k i
  rw [dueN_1, sset_1]
  by_cases hk : k = 11 ∧ i = 2
  · rw [if_pos hk, if_pos hk]
  · rw [if_neg hk, if_neg hk, if_neg (by omega), if_neg (by omega)]
theorem dueN_9 (S : HdS) (j : Int) : (dueN S j).1 9 j = S.1 9 j := by rw [dueN_1, if_neg (by omega), if_neg (by omega), if_neg (by omega)]
theorem dueN_skip (S : HdS) (j : Nat) (h : ¬ S.1 9 j = S.1 11 2 + 1) : dueN S ((j + 1 : Nat) : Int) = dueN S j := by
  refine Prod.ext ?_ rfl
  funext k i
  rw [dueN_1, dueN_1]
  have e : (0 ≤ i ∧ i < ((j + 1 : Nat) : Int) ∧ S.1 9 i = S.1 11 2 + 1) ↔ (0 ≤ i ∧ i < (j : Int) ∧ S.1 9 i = S.1 11 2 + 1) := by
    constructor
    · rintro ⟨a, b, c⟩
      have : i ≠ (j : Int) := fun q => h (q ▸ c)
      exact ⟨a, by omega, c⟩
    · rintro ⟨a, b, c⟩
      exact ⟨a, by omega, c⟩
  simp only [e]
theorem dueN_step (S : HdS) (j : Nat) (h : S.1 9 j = S.1 11 2 + 1) : sset (sset (dueN S j) 8 j (S.1 11 2 + 1)) 9 j (-1) = dueN S ((j + 1 : Nat) : Int) := by
  refine Prod.ext ?_ rfl
  funext k i
  rw [sset_1, sset_1, dueN_1, dueN_1]
  by_cases hi : i = (j : Int)
  · subst hi
    by_cases h9 : k = 9
    · subst h9
      rw [if_pos ⟨rfl, rfl⟩, if_neg (by omega), if_neg (by omega), if_pos ⟨rfl, by omega, by omega, h⟩]
    · by_cases h8 : k = 8
      · subst h8
        rw [if_neg (by omega), if_pos ⟨rfl, rfl⟩, if_neg (by omega), if_pos ⟨rfl, by omega, by omega, h⟩]
      · simp [h9, h8]
  · have e : (0 ≤ i ∧ i < ((j + 1 : Nat) : Int) ∧ S.1 9 i = S.1 11 2 + 1) ↔ (0 ≤ i ∧ i < (j : Int) ∧ S.1 9 i = S.1 11 2 + 1) := by
      constructor
      · rintro ⟨a, b, c⟩
        exact ⟨a, by omega, c⟩
      · rintro ⟨a, b, c⟩
        exact ⟨a, by omega, c⟩
    rw [if_neg (fun q => hi q.2), if_neg (fun q => hi q.2)]
    simp only [e]
theorem wf_dueN (h : wf S n) (hd : S.1 11 2 < 10000) : wf (dueN S (S.1 11 1)) n := by
  have hday := h.day
  have e2 : (dueN S (S.1 11 1)).1 11 2 = S.1 11 2 + 1 := rfl
  have eo : ∀ (k : Nat) (i : Int), k ≠ 8 → k ≠ 9 → (k ≠ 11 ∨ i ≠ 2) → (dueN S (S.1 11 1)).1 k i = S.1 k i := fun k i a b c => by
    rw [dueN_1, if_neg (by omega), if_neg (by omega), if_neg (by omega)]
  refine ⟨h.num, h.nd, h.nf, ⟨by rw [e2]; omega, by rw [e2]; omega⟩, h.p0, fun d h1 h2 => h.par h1 h2, fun d h1 h2 => h.quo h1 h2, fun p h1 h2 => h.coi h1 h2, fun f h1 h2 => ?_⟩
  have h2 : f < S.1 11 1 := h2
  have hf := h.f h1 h2
  have hu := h.usd h1 h2
  have hb := h.bac h1 h2
  have e9 : (dueN S (S.1 11 1)).1 9 f = if S.1 9 f = S.1 11 2 + 1 then -1 else S.1 9 f := by
    rw [dueN_1, if_neg (by omega), if_neg (by omega)]
    by_cases hq : S.1 9 f = S.1 11 2 + 1
    · rw [if_pos ⟨rfl, h1, h2, hq⟩, if_pos hq]
    · rw [if_neg (fun q => hq q.2.2.2), if_neg hq]
  have e8 : (dueN S (S.1 11 1)).1 8 f = if S.1 9 f = S.1 11 2 + 1 then S.1 11 2 + 1 else S.1 8 f := by
    rw [dueN_1, if_neg (by omega)]
    by_cases hq : S.1 9 f = S.1 11 2 + 1
    · rw [if_pos ⟨rfl, h1, h2, hq⟩, if_pos hq]
    · rw [if_neg (fun q => hq q.2.2.2), if_neg (by omega), if_neg hq]
  refine ⟨h.dep h1 h2, h.siz h1 h2, h.kep h1 h2, h.hol h1 h2, ?_, ?_, fun q => h.siz0 h1 h2 q, h.lks h1 h2, h.nod h1 h2⟩
  · rw [e2, e8]
    split <;> omega
  · rw [e2, e9, e8]
    by_cases hq : S.1 9 f = S.1 11 2 + 1
    · rw [if_pos hq, if_pos hq]
      exact Or.inl rfl
    · rw [if_neg hq, if_neg hq]
      rcases hb with hb | hb
      · exact Or.inl hb
      · exact Or.inr ⟨by omega, by omega, by omega, hb.2.2.2⟩
theorem wf_dayS (h : wf S n) (hd : S.1 11 2 < 10000) : wf (dayS S) n := wf_dueN (S := payN S 4) (wf_payN h (by omega)) hd
theorem dayS_day (S : HdS) : (dayS S).1 11 2 = S.1 11 2 + 1 := rfl
theorem passN_wf (h : wf S n) : ∀ j : Nat, S.1 11 2 + j ≤ 10000 → wf (passN S j).1 n ∧ (passN S j).1.1 11 2 = S.1 11 2 + j := by
  intro j
  induction j with
  | zero => intro _; exact ⟨h, by show S.1 11 2 = _; omega⟩
  | succ j ih =>
    intro hj
    obtain ⟨h1, h2⟩ := ih (by omega)
    refine ⟨wf_dayS h1 (by omega), ?_⟩
    show (passN S j).1.1 11 2 + 1 = _
    omega
end Days
