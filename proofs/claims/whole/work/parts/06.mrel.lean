/-! the reference's cells hold the state S -/
def RelM (S : HdS) (u : MS) : Prop :=
  u.2 0 = iI (S.1 11 0) ∧ u.2 1 = iI (S.1 11 1) ∧ u.2 2 = iI (S.1 11 2) ∧
  (∀ k : Nat, k < 2 → ∀ i : Int, 0 ≤ i → i < S.1 11 0 → u.1 k i.toNat = iI (S.1 k i)) ∧
  (∀ k : Nat, k = 2 ∨ k = 3 ∨ 6 ≤ k ∧ k < 10 → ∀ i : Int, 0 ≤ i → i < S.1 11 1 → u.1 k i.toNat = iI (S.1 k i)) ∧
  (∀ i : Int, 0 ≤ i → i < 4 → u.1 10 i.toNat = iI (S.1 10 i)) ∧
  (∀ i : Int, 0 ≤ i → i < S.1 11 1 → u.1 5 i.toNat = iI ((S.2 i).length : Int)) ∧
  (∀ i : Int, 0 ≤ i → i < S.1 11 1 → ∀ j : Nat, j < (S.2 i).length → u.1 4 (12 * i + j).toNat = iI ((S.2 i).getD j 0)) ∧
  (∀ i : Int, S.1 11 1 ≤ i → i < 30 → u.1 6 i.toNat = iI 0 ∧ u.1 7 i.toNat = iI 0)
section RM
variable {S : HdS} {u : MS}
theorem RelM.x0 (h : RelM S u) : u.2 0 = iI (S.1 11 0) := h.1
theorem RelM.x1 (h : RelM S u) : u.2 1 = iI (S.1 11 1) := h.2.1
theorem RelM.x2 (h : RelM S u) : u.2 2 = iI (S.1 11 2) := h.2.2.1
theorem RelM.dir (h : RelM S u) {k : Nat} (hk : k < 2) {i : Int} (h0 : 0 ≤ i) (h1 : i < S.1 11 0) : u.1 k i.toNat = iI (S.1 k i) := h.2.2.2.1 k hk i h0 h1
theorem RelM.fil (h : RelM S u) {k : Nat} (hk : k = 2 ∨ k = 3 ∨ 6 ≤ k ∧ k < 10) {i : Int} (h0 : 0 ≤ i) (h1 : i < S.1 11 1) : u.1 k i.toNat = iI (S.1 k i) := h.2.2.2.2.1 k hk i h0 h1
theorem RelM.coi (h : RelM S u) {i : Int} (h0 : 0 ≤ i) (h1 : i < 4) : u.1 10 i.toNat = iI (S.1 10 i) := h.2.2.2.2.2.1 i h0 h1
theorem RelM.len (h : RelM S u) {i : Int} (h0 : 0 ≤ i) (h1 : i < S.1 11 1) : u.1 5 i.toNat = iI ((S.2 i).length : Int) := h.2.2.2.2.2.2.1 i h0 h1
theorem RelM.lnk (h : RelM S u) {i : Int} (h0 : 0 ≤ i) (h1 : i < S.1 11 1) {j : Nat} (h2 : j < (S.2 i).length) : u.1 4 (12 * i + j).toNat = iI ((S.2 i).getD j 0) := h.2.2.2.2.2.2.2.1 i h0 h1 j h2
theorem RelM.new (h : RelM S u) {i : Int} (h0 : S.1 11 1 ≤ i) (h1 : i < 30) : u.1 6 i.toNat = iI 0 ∧ u.1 7 i.toNat = iI 0 := h.2.2.2.2.2.2.2.2 i h0 h1
theorem RelM.thr (h : RelM S u) (v : Int) : RelM S (pokeX u 3 v) := h
end RM
section RM2
variable {S : HdS} {u : MS} {n : Int}
theorem RelM.setdir (h : RelM S u) (hnf : 0 ≤ S.1 11 1) {k : Nat} (hk : k < 2) {i v : Int} (h0 : 0 ≤ i) (h1 : i < S.1 11 0) : RelM (sset S k i v) (pokeF u k i v) := by
  have e11 : ∀ j : Int, (sset S k i v).1 11 j = S.1 11 j := fun j => by rw [sset_1, if_neg (by omega)]
  unfold RelM
  rw [e11, e11, e11]
  refine ⟨h.x0, h.x1, h.x2, fun k' hk' j h2 h3 => ?_, fun k' hk' j h2 h3 => ?_, fun j h2 h3 => ?_, fun j h2 h3 => ?_, fun j h2 h3 q hq => ?_, fun j h2 h3 => ?_⟩
  · rw [pokeF_1 u k k' h0 h2, sset_1]
    split
    · rfl
    · exact h.dir hk' h2 h3
  · rw [pokeF_1 u k k' h0 h2, sset_1, if_neg (by omega), if_neg (by omega)]
    exact h.fil hk' h2 h3
  · rw [pokeF_1 u k 10 h0 h2, sset_1, if_neg (by omega), if_neg (by omega)]
    exact h.coi h2 h3
  · rw [pokeF_1 u k 5 h0 h2, if_neg (by omega)]
    exact h.len h2 h3
  · rw [pokeF_1 u k 4 h0 (by omega), if_neg (by omega)]
    exact h.lnk h2 h3 hq
  · rw [pokeF_1 u k 6 h0 (by omega), pokeF_1 u k 7 h0 (by omega), if_neg (by omega), if_neg (by omega)]
    exact h.new h2 h3
theorem RelM.setfil (h : RelM S u) {k : Nat} (hk : k = 2 ∨ k = 3 ∨ 6 ≤ k ∧ k < 10) {i v : Int} (h0 : 0 ≤ i) (h1 : i < S.1 11 1) : RelM (sset S k i v) (pokeF u k i v) := by
  have e11 : ∀ j : Int, (sset S k i v).1 11 j = S.1 11 j := fun j => by rw [sset_1, if_neg (by omega)]
  unfold RelM
  rw [e11, e11, e11]
  refine ⟨h.x0, h.x1, h.x2, fun k' hk' j h2 h3 => ?_, fun k' hk' j h2 h3 => ?_, fun j h2 h3 => ?_, fun j h2 h3 => ?_, fun j h2 h3 q hq => ?_, fun j h2 h3 => ?_⟩
  · rw [pokeF_1 u k k' h0 h2, sset_1, if_neg (by omega), if_neg (by omega)]
    exact h.dir hk' h2 h3
  · rw [pokeF_1 u k k' h0 h2, sset_1]
    split
    · rfl
    · exact h.fil hk' h2 h3
  · rw [pokeF_1 u k 10 h0 h2, sset_1, if_neg (by omega), if_neg (by omega)]
    exact h.coi h2 h3
  · rw [pokeF_1 u k 5 h0 h2, if_neg (by omega)]
    exact h.len h2 h3
  · rw [pokeF_1 u k 4 h0 (by omega), if_neg (by omega)]
    exact h.lnk h2 h3 hq
  · rw [pokeF_1 u k 6 h0 (by omega), pokeF_1 u k 7 h0 (by omega), if_neg (by omega), if_neg (by omega)]
    exact h.new h2 h3
theorem RelM.setcoi (h : RelM S u) (hnf : 0 ≤ S.1 11 1) {i v : Int} (h0 : 0 ≤ i) : RelM (sset S 10 i v) (pokeF u 10 i v) := by
  have e11 : ∀ j : Int, (sset S 10 i v).1 11 j = S.1 11 j := fun j => by rw [sset_1, if_neg (by omega)]
  unfold RelM
  rw [e11, e11, e11]
  refine ⟨h.x0, h.x1, h.x2, fun k' hk' j h2 h3 => ?_, fun k' hk' j h2 h3 => ?_, fun j h2 h3 => ?_, fun j h2 h3 => ?_, fun j h2 h3 q hq => ?_, fun j h2 h3 => ?_⟩
  · rw [pokeF_1 u 10 k' h0 h2, sset_1, if_neg (by omega), if_neg (by omega)]
    exact h.dir hk' h2 h3
  · rw [pokeF_1 u 10 k' h0 h2, sset_1, if_neg (by omega), if_neg (by omega)]
    exact h.fil hk' h2 h3
  · rw [pokeF_1 u 10 10 h0 h2, sset_1]
    split
    · rfl
    · exact h.coi h2 h3
  · rw [pokeF_1 u 10 5 h0 h2, if_neg (by omega)]
    exact h.len h2 h3
  · rw [pokeF_1 u 10 4 h0 (by omega), if_neg (by omega)]
    exact h.lnk h2 h3 hq
  · rw [pokeF_1 u 10 6 h0 (by omega), pokeF_1 u 10 7 h0 (by omega), if_neg (by omega), if_neg (by omega)]
    exact h.new h2 h3
theorem RelM.setday (h : RelM S u) {v : Int} : RelM (sset S 11 2 v) (pokeX u 2 v) := by
  have e0 : (sset S 11 2 v).1 11 0 = S.1 11 0 := by rw [sset_1, if_neg (by omega)]
  have e1 : (sset S 11 2 v).1 11 1 = S.1 11 1 := by rw [sset_1, if_neg (by omega)]
  have e2 : (sset S 11 2 v).1 11 2 = v := by rw [sset_1, if_pos ⟨rfl, rfl⟩]
  have ek : ∀ (k : Nat) (j : Int), k < 11 → (sset S 11 2 v).1 k j = S.1 k j := fun k j hk => by rw [sset_1, if_neg (by omega)]
  unfold RelM
  rw [e0, e1, e2]
  refine ⟨h.x0, h.x1, rfl, fun k' hk' j h2 h3 => ?_, fun k' hk' j h2 h3 => ?_, fun j h2 h3 => ?_, fun j h2 h3 => h.len h2 h3, fun j h2 h3 q hq => h.lnk h2 h3 hq, fun j h2 h3 => h.new h2 h3⟩
  · rw [ek k' j (by omega)]; exact h.dir hk' h2 h3
  · rw [ek k' j (by omega)]; exact h.fil hk' h2 h3
  · rw [ek 10 j (by omega)]; exact h.coi h2 h3
end RM2
