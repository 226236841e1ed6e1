section RM3
variable {S : HdS} {u : MS} {n : Int}
theorem RelM.addDir (h : RelM S u) (hw : wf S n) {p q : Int} (hlt : S.1 11 0 < 12) : RelM (s_addDir S p q) (pokeX (pokeF (pokeF u 0 (S.1 11 0) p) 1 (S.1 11 0) q) 0 (S.1 11 0 + 1)) := by
  have hnd := hw.nd
  have hnf := hw.nf
  have e0 : (s_addDir S p q).1 11 0 = S.1 11 0 + 1 := by simp [s_addDir, sset_1]
  have e1 : (s_addDir S p q).1 11 1 = S.1 11 1 := by simp [s_addDir, sset_1]
  have e2 : (s_addDir S p q).1 11 2 = S.1 11 2 := by simp [s_addDir, sset_1]
  have eM : ∀ (k : Nat) (j : Int), k < 11 → (s_addDir S p q).1 k j = if k = 1 ∧ j = S.1 11 0 then q else if k = 0 ∧ j = S.1 11 0 then p else S.1 k j := fun k j hk => by
    unfold s_addDir
    rw [sset_1, if_neg (by omega), sset_1, sset_1]
  have eU : ∀ (k : Nat) (j : Int), 0 ≤ j → (pokeX (pokeF (pokeF u 0 (S.1 11 0) p) 1 (S.1 11 0) q) 0 (S.1 11 0 + 1)).1 k j.toNat = if k = 1 ∧ j = S.1 11 0 then iI q else if k = 0 ∧ j = S.1 11 0 then iI p else u.1 k j.toNat := fun k j hj => by
    rw [pokeX_1, pokeF_1 _ 1 k (by omega) hj, pokeF_1 _ 0 k (by omega) hj]
  unfold RelM
  rw [e0, e1, e2]
  refine ⟨rfl, h.x1, h.x2, fun k hk j h2 h3 => ?_, fun k hk j h2 h3 => ?_, fun j h2 h3 => ?_, fun j h2 h3 => ?_, fun j h2 h3 r hr => ?_, fun j h2 h3 => ?_⟩
  · rw [eU k j h2, eM k j (by omega)]
    split
    · rfl
    · split
      · rfl
      · exact h.dir hk h2 (by omega)
  · rw [eU k j h2, eM k j (by omega), if_neg (by omega), if_neg (by omega), if_neg (by omega), if_neg (by omega)]
    exact h.fil hk h2 h3
  · rw [eU 10 j h2, eM 10 j (by omega), if_neg (by omega), if_neg (by omega), if_neg (by omega), if_neg (by omega)]
    exact h.coi h2 h3
  · rw [eU 5 j h2, if_neg (by omega), if_neg (by omega)]
    exact h.len h2 h3
  · rw [eU 4 _ (by omega), if_neg (by omega), if_neg (by omega)]
    exact h.lnk h2 h3 hr
  · rw [eU 6 j (by omega), eU 7 j (by omega), if_neg (by omega), if_neg (by omega), if_neg (by omega), if_neg (by omega)]
    exact h.new h2 h3
theorem RelM.make (h : RelM S u) (hw : wf S n) {p d z : Int} (hlt : S.1 11 1 < 30) : RelM (s_make S p d z) (pokeX (pokeF (pokeF (pokeF (pokeF (pokeF (pokeF u 2 (S.1 11 1) p) 3 (S.1 11 1) z) 4 (12 * S.1 11 1) d) 5 (S.1 11 1) 1) 8 (S.1 11 1) (S.1 11 2)) 9 (S.1 11 1) (-1)) 1 (S.1 11 1 + 1)) := by
  have hnd := hw.nd
  have hnf := hw.nf
  have e0 : (s_make S p d z).1 11 0 = S.1 11 0 := by simp [s_make, slks_1, sset_1]
  have e1 : (s_make S p d z).1 11 1 = S.1 11 1 + 1 := by simp [s_make, slks_1, sset_1]
  have e2 : (s_make S p d z).1 11 2 = S.1 11 2 := by simp [s_make, slks_1, sset_1]
  have eM : ∀ (k : Nat) (j : Int), k < 11 → (s_make S p d z).1 k j = if k = 9 ∧ j = S.1 11 1 then -1 else if k = 8 ∧ j = S.1 11 1 then S.1 11 2 else if k = 7 ∧ j = S.1 11 1 then 0 else if k = 6 ∧ j = S.1 11 1 then 0 else if k = 3 ∧ j = S.1 11 1 then z else if k = 2 ∧ j = S.1 11 1 then p else S.1 k j := fun k j hk => by
    unfold s_make
    rw [slks_1, sset_1, if_neg (by omega), sset_1, sset_1, sset_1, sset_1, sset_1, sset_1]
  have eL : ∀ j : Int, (s_make S p d z).2 j = if j = S.1 11 1 then [d] else S.2 j := fun j => by
    unfold s_make
    rw [slks_2]
    rfl
  have eU : ∀ (k : Nat) (j : Int), 0 ≤ j → (pokeX (pokeF (pokeF (pokeF (pokeF (pokeF (pokeF u 2 (S.1 11 1) p) 3 (S.1 11 1) z) 4 (12 * S.1 11 1) d) 5 (S.1 11 1) 1) 8 (S.1 11 1) (S.1 11 2)) 9 (S.1 11 1) (-1)) 1 (S.1 11 1 + 1)).1 k j.toNat = if k = 9 ∧ j = S.1 11 1 then iI (-1) else if k = 8 ∧ j = S.1 11 1 then iI (S.1 11 2) else if k = 5 ∧ j = S.1 11 1 then iI 1 else if k = 4 ∧ j = 12 * S.1 11 1 then iI d else if k = 3 ∧ j = S.1 11 1 then iI z else if k = 2 ∧ j = S.1 11 1 then iI p else u.1 k j.toNat := fun k j hj => by
    rw [pokeX_1, pokeF_1 _ 9 k (by omega) hj, pokeF_1 _ 8 k (by omega) hj, pokeF_1 _ 5 k (by omega) hj, pokeF_1 _ 4 k (by omega) hj, pokeF_1 _ 3 k (by omega) hj, pokeF_1 _ 2 k (by omega) hj]
  unfold RelM
  rw [e0, e1, e2]
  refine ⟨h.x0, rfl, h.x2, fun k hk j h2 h3 => ?_, fun k hk j h2 h3 => ?_, fun j h2 h3 => ?_, fun j h2 h3 => ?_, fun j h2 h3 r hr => ?_, fun j h2 h3 => ?_⟩
  · rw [eU k j h2, eM k j (by omega), if_neg (by omega), if_neg (by omega), if_neg (by omega), if_neg (by omega), if_neg (by omega), if_neg (by omega), if_neg (by omega), if_neg (by omega), if_neg (by omega), if_neg (by omega), if_neg (by omega), if_neg (by omega)]
    exact h.dir hk h2 h3
  · rw [eU k j h2, eM k j (by omega)]
    by_cases hj : j = S.1 11 1
    · have hn := h.new (i := j) (by omega) (by omega)
      have hk6 : k = 2 ∨ k = 3 ∨ k = 6 ∨ k = 7 ∨ k = 8 ∨ k = 9 := by omega
      rcases hk6 with rfl | rfl | rfl | rfl | rfl | rfl
      · simp [hj]
      · simp [hj]
      · simpa [hj] using hn.1
      · simpa [hj] using hn.2
      · simp [hj]
      · simp [hj]
    · rw [if_neg (by omega), if_neg (by omega), if_neg (by omega), if_neg (by omega), if_neg (by omega), if_neg (by omega), if_neg (by omega), if_neg (by omega), if_neg (by omega), if_neg (by omega), if_neg (by omega), if_neg (by omega)]
      exact h.fil hk h2 (by omega)
  · rw [eU 10 j h2, eM 10 j (by omega), if_neg (by omega), if_neg (by omega), if_neg (by omega), if_neg (by omega), if_neg (by omega), if_neg (by omega), if_neg (by omega), if_neg (by omega), if_neg (by omega), if_neg (by omega), if_neg (by omega), if_neg (by omega)]
    exact h.coi h2 h3
  · rw [eU 5 j h2, eL, if_neg (by omega), if_neg (by omega)]
    by_cases hj : j = S.1 11 1
    · rw [if_pos ⟨rfl, hj⟩, if_pos hj]
      rfl
    · rw [if_neg (by omega), if_neg (by omega), if_neg (by omega), if_neg (by omega), if_neg hj]
      exact h.len h2 (by omega)
  · rw [eL] at hr ⊢
    rw [eU 4 _ (by omega), if_neg (by omega), if_neg (by omega), if_neg (by omega)]
    by_cases hj : j = S.1 11 1
    · rw [if_pos hj] at hr ⊢
      have hr0 : r = 0 := by simpa using hr
      subst hr0
      rw [if_pos ⟨rfl, by omega⟩]
      rfl
    · rw [if_neg hj] at hr ⊢
      have hl := hw.len h2 (show j < S.1 11 1 by omega)
      rw [if_neg (by omega), if_neg (by omega), if_neg (by omega)]
      exact h.lnk h2 (by omega) hr
  · rw [eU 6 j (by omega), eU 7 j (by omega), if_neg (by omega), if_neg (by omega), if_neg (by omega), if_neg (by omega), if_neg (by omega), if_neg (by omega), if_neg (by omega), if_neg (by omega), if_neg (by omega), if_neg (by omega), if_neg (by omega), if_neg (by omega)]
    exact h.new (by omega) h3
end RM3
