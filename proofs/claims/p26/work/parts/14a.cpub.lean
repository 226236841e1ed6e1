/-! WHAT A PUBLIC CALL OF THE SYSTEM OWES -/
/-- it returned: the answer, and the state then (a0: the server) -/
def spC (a0 : Nat) (q : SR) (r : Int32) (w9 : CW) : Prop := q.1 = 0 ∧ r = iI q.2.1 ∧ ∃ (g : Nat → Int → Nat) (T : Nat → Nat × Int), g 0 0 = a0 ∧ RelC q.2.2 w9 g T (usg q.2.2)
/-- it threw: which -/
def spE (tb : Int → String) (q : SR) (E : String) : Prop := q.1 ≠ 0 ∧ E = tb q.1
def tb1 : Int → String := fun k => if k = 1 then xIOB else if k = 2 then xIAE else xISE
def tb2 : Int → String := fun k => if k = 1 then xIOB else xISE
def tb3 : Int → String := fun k => if k = 1 then xIAE else xISE
theorem spE_of {tb : Int → String} {q : SR} {k : Int} {v : Int} {S' : HdS} (h : q = (k, v, S')) (hk : k ≠ 0) : spE tb q (tb k) := by
  subst h
  exact ⟨hk, rfl⟩
theorem spC_of {q : SR} {v : Int} {S' : HdS} {w9 : CW} {g : Nat → Int → Nat} {T : Nat → Nat × Int} (h : q = (0, v, S')) (hR : RelC S' w9 g T (usg S')) : spC (g 0 0) q (iI v) w9 := by
  subst h
  exact ⟨rfl, rfl, g, T, rfl, hR⟩
theorem RelC.usgEq {S : HdS} {w : CW} {g : Nat → Int → Nat} {T : Nat → Nat × Int} {U U' : Int → Int} (h : RelC S w g T U) (e : U = U') : RelC S w g T U' := by rw [← e]; exact h
theorem wayN_cong {S S' : HdS} (h : S'.1 0 = S.1 0) : ∀ (k : Nat) (d : Int), wayN S' k d = wayN S k d := by
  intro k
  induction k with
  | zero => intro d; rfl
  | succ k ih =>
    intro d
    simp only [wayN]
    rw [h, ih]
theorem usg_cong {S S' : HdS} (h0 : S'.1 0 = S.1 0) (h2 : ∀ f : Int, 0 ≤ f → f < S.1 11 1 → S'.2 f = S.2 f) (h3 : ∀ f : Int, 0 ≤ f → f < S.1 11 1 → S'.1 3 f = S.1 3 f) (h11 : S'.1 11 1 = S.1 11 1) : usg S' = usg S := by
  funext e
  have key : ∀ k : Nat, (k : Int) ≤ S.1 11 1 ∨ k = 0 → usgN S' e k = usgN S e k := by
    intro k
    induction k with
    | zero => intro _; rfl
    | succ k ih =>
      intro hk
      simp only [usgN]
      have e2 := h2 k (by omega) (by omega)
      have e3 := h3 k (by omega) (by omega)
      rw [ih (by omega), e2, e3]
      have e4 : wayS S' (homeS S' k) = wayS S (homeS S k) := by
        have e5 : homeS S' (k : Int) = homeS S (k : Int) := by unfold homeS; rw [e2]
        rw [e5]
        exact wayN_cong h0 13 _
      rw [e4]
  unfold usg
  rw [h11]
  exact key _ (by omega)
theorem usg_off {S : HdS} {k : Nat} {i v : Int} (h0 : k ≠ 0) (h3 : k ≠ 3) (h11 : k ≠ 11) : usg (sset S k i v) = usg S := usg_cong (funext fun i' => sset_off (Ne.symm h0)) (fun _ _ _ => rfl) (fun _ _ _ => sset_off (Ne.symm h3)) (sset_off (Ne.symm h11))
theorem sset_at (S : HdS) (k : Nat) (i v : Int) : (sset S k i v).1 k i = v := by rw [sset_1, if_pos ⟨rfl, rfl⟩]
theorem uoS_8 (S : HdS) (f x : Int) : uoS (sset S 8 f x) f = if S.1 9 f = -1 then x else S.1 9 f := by
  unfold uoS
  rw [sset_at, sset_off (by omega)]
theorem uoS_bring {S : HdS} {n : Int} (hw : wf S n) (f : Int) : uoS (s_bring S f) f = S.1 11 2 + 2 := by
  have hdy := hw.day
  unfold uoS s_bring
  rw [sset_at, if_neg (by omega)]
theorem usg_bring (S : HdS) (f : Int) : usg (s_bring S f) = usg S := by
  unfold s_bring
  rw [usg_off (by omega) (by omega) (by omega), usg_off (by omega) (by omega) (by omega)]
