/-! SMALL FACTS FOR THE SYSTEM'S METHODS -/
theorem xs_49 : ((49, "there is no room for another directory") : Nat × String) ∈ xT := by decide +kernel
theorem xs_62 : ((62, "there is no room for another file") : Nat × String) ∈ xT := by decide +kernel
theorem xs_98 : ((98, "the file has a link to the directory") : Nat × String) ∈ xT := by decide +kernel
theorem xs_108 : ((108, "the file has no link to the directory") : Nat × String) ∈ xT := by decide +kernel
theorem xs_119 : ((119, "the file is gone or has to be brought back") : Nat × String) ∈ xT := by decide +kernel
theorem xs_160 : ((160, "the department would have too many coins") : Nat × String) ∈ xT := by decide +kernel
theorem xs_162 : ((162, "the day would be above the last one") : Nat × String) ∈ xT := by decide +kernel
theorem xs_181 : ((181, "there is no such directory") : Nat × String) ∈ xT := by decide +kernel
theorem xs_184 : ((184, "there is no such file") : Nat × String) ∈ xT := by decide +kernel
theorem xs_186 : ((186, "there is no such department") : Nat × String) ∈ xT := by decide +kernel
theorem xs_188 : ((188, "there is no such matter") : Nat × String) ∈ xT := by decide +kernel
theorem xs_192 : ((192, "a number is out of range") : Nat × String) ∈ xT := by decide +kernel
theorem xs_199 : ((199, "the file is gone") : Nat × String) ∈ xT := by decide +kernel
theorem xs_204 : ((204, "the growth is not possible") : Nat × String) ∈ xT := by decide +kernel
theorem xs_209 : ((209, "the department has too few coins to bring it back") : Nat × String) ∈ xT := by decide +kernel
theorem home_mem {S : HdS} {f : Int} (h : S.2 f ≠ []) : homeS S f ∈ S.2 f := by
  unfold homeS
  cases hs : S.2 f with
  | nil => exact absurd hs h
  | cons a t => exact List.mem_cons_self
theorem home_get {S : HdS} {f : Int} (h : S.2 f ≠ []) : (S.2 f).getD (0 : Int).toNat 0 = homeS S f := by
  unfold homeS
  cases hs : S.2 f with
  | nil => exact absurd hs h
  | cons a t => rfl
theorem uo_in {S : HdS} {n : Int} (hw : wf S n) {f : Int} (h0 : 0 ≤ f) (h1 : f < S.1 11 1) : 0 ≤ uoS S f ∧ uoS S f ≤ 10002 := by
  have hus := hw.usd h0 h1
  have hba := hw.bac h0 h1
  have hdy := hw.day
  unfold uoS
  split <;> omega
theorem tier_uo {S : HdS} {n : Int} (hw : wf S n) {f : Int} (h0 : 0 ≤ f) (h1 : f < S.1 11 1) (hne : S.2 f ≠ []) : tierS S f = if S.1 11 2 < uoS S f ∨ 90 ≤ S.1 11 2 - uoS S f then 2 else if S.1 11 2 - uoS S f < 30 then 0 else 1 := by
  have hus := hw.usd h0 h1
  have hba := hw.bac h0 h1
  unfold tierS uoS
  rw [if_neg hne]
  by_cases e : S.1 9 f = -1
  · rw [if_pos e]
    by_cases a : S.1 11 2 - S.1 8 f < 30
    · rw [if_pos a, if_neg (by omega), if_pos a]
    · rw [if_neg a]
      by_cases b : S.1 11 2 - S.1 8 f < 90
      · rw [if_pos b, if_neg (by omega), if_neg a]
      · rw [if_neg b, if_pos (by omega)]
  · rw [if_neg e, if_neg (by omega), if_neg (by omega), if_pos (by omega)]
theorem wayS_le {S : HdS} {n : Int} (hw : wf S n) : ∀ (k : Nat) (d : Int), -1 ≤ d → d < k → d < S.1 11 0 → ∀ e ∈ wayS S d, e ≤ d := by
  intro k
  induction k with
  | zero => intro d h1 h2 h3 e he; rw [show d = -1 by omega, wayS_neg] at he; cases he
  | succ k ih =>
    intro d h1 h2 h3 e he
    by_cases hd : d = -1
    · rw [hd, wayS_neg] at he; cases he
    · rw [wayS_step hw (by omega) h3] at he
      have hp := hw.par' (d := d) (by omega) h3
      rcases List.mem_cons.mp he with rfl | he
      · omega
      · have := ih _ hp.1 (by omega) (by omega) e he; omega
/-- the usages along a way, z more -/
def addU (S : HdS) (U : Int → Int) (d z : Int) : Int → Int := fun e => if e ∈ wayS S d then U e + z else U e
theorem addU_neg (S : HdS) (U : Int → Int) (z : Int) : addU S U (-1) z = U := by
  funext e
  unfold addU
  rw [wayS_neg, if_neg (by simp)]
theorem addU_step {S : HdS} {n : Int} (hw : wf S n) (U : Int → Int) {d z : Int} (h0 : 0 ≤ d) (h1 : d < S.1 11 0) : addU S (fun i => if i = d then U d + z else U i) (S.1 0 d) z = addU S U d z := by
  funext e
  unfold addU
  have hp := hw.par' h0 h1
  have hle := wayS_le hw (S.1 11 0).toNat (S.1 0 d) hp.1 (by omega) (by omega)
  rw [wayS_step hw h0 h1]
  by_cases e1 : e = d
  · subst e1
    rw [if_neg (fun h => by have := hle _ h; omega), if_pos List.mem_cons_self]
    exact if_pos rfl
  · simp only [List.mem_cons, e1, false_or, if_false]
theorem sset_same (S : HdS) (k : Nat) (i : Int) : sset S k i (S.1 k i) = S := by
  refine Prod.ext (funext fun k' => funext fun i' => ?_) rfl
  show (if k' = k ∧ i' = i then S.1 k i else S.1 k' i') = S.1 k' i'
  by_cases h : k' = k ∧ i' = i
  · rw [if_pos h, h.1, h.2]
  · rw [if_neg h]
