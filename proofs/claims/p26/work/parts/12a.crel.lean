/-! THE STATE IN THE SYSTEM'S CELLS: g k i: the address of (0 the server, 1 its directories, 2 its files, 3 its departments, 4 the directory i, 5 the file i, 6 its links, 7 the department i, 8 its files); T: what an address is of; U: the usages that the directories keep -/
def intsC : Nat → List Int
  | 0 => []
  | n + 1 => intsC n ++ [(n : Int)]
def ownN (S : HdS) (q : Int) : Nat → List Int
  | 0 => []
  | n + 1 => ownN S q n ++ (if S.1 2 n = q then [(n : Int)] else [])
def kdC : Nat → Nat := fun k => match k with
  | 0 => 4
  | 4 => 2
  | 5 => 3
  | 7 => 1
  | _ => 5
def rngC (S : HdS) (k : Nat) (i : Int) : Prop := (k ≤ 3 ∧ i = 0) ∨ (k = 4 ∧ 0 ≤ i ∧ i < S.1 11 0) ∨ ((k = 5 ∨ k = 6) ∧ 0 ≤ i ∧ i < S.1 11 1) ∨ ((k = 7 ∨ k = 8) ∧ 0 ≤ i ∧ i < 4)
def opA (g : Nat → Int → Nat) (i : Int) : Option Nat := if i = -1 then none else some (g 4 i)
def uoS (S : HdS) (f : Int) : Int := if S.1 9 f = -1 then S.1 8 f else S.1 9 f
def RelC (S : HdS) (w : CW) (g : Nat → Int → Nat) (T : Nat → Nat × Int) (U : Int → Int) : Prop :=
  (∀ k i, rngC S k i → T (g k i) = (k, i) ∧ w.1 (g k i) = kdC k) ∧
  (w.2.2.1 40 (g 0 0) = some (g 1 0) ∧ w.2.2.1 41 (g 0 0) = some (g 2 0) ∧ w.2.2.1 42 (g 0 0) = some (g 3 0) ∧ w.2.1 43 (g 0 0) = S.1 11 2) ∧
  (w.2.2.2 (g 1 0) = (intsC (S.1 11 0).toNat).map (g 4) ∧ w.2.2.2 (g 2 0) = (intsC (S.1 11 1).toNat).map (g 5) ∧ w.2.2.2 (g 3 0) = (intsC 4).map (g 7)) ∧
  (∀ d, 0 ≤ d → d < S.1 11 0 → w.2.1 20 (g 4 d) = d ∧ w.2.2.1 21 (g 4 d) = opA g (S.1 0 d) ∧ w.2.1 22 (g 4 d) = S.1 1 d ∧ w.2.1 23 (g 4 d) = U d) ∧
  (∀ f, 0 ≤ f → f < S.1 11 1 → w.2.2.1 30 (g 5 f) = some (g 7 (S.1 2 f)) ∧ w.2.2.1 31 (g 5 f) = some (g 6 f) ∧ w.2.2.2 (g 6 f) = (S.2 f).map (g 4) ∧ w.2.1 32 (g 5 f) = S.1 3 f ∧ w.2.1 33 (g 5 f) = S.1 7 f ∧ w.2.1 34 (g 5 f) = S.1 6 f ∧ (S.2 f ≠ [] → w.2.1 35 (g 5 f) = uoS S f)) ∧
  (∀ q, 0 ≤ q → q < 4 → w.2.2.1 10 (g 7 q) = some (g 8 q) ∧ w.2.1 11 (g 7 q) = S.1 10 q ∧ w.2.2.2 (g 8 q) = (ownN S q (S.1 11 1).toNat).map (g 5))
theorem intsC_len (n : Nat) : (intsC n).length = n := by
  induction n with
  | zero => rfl
  | succ n ih => simp [intsC, ih]
theorem intsC_at : ∀ (n : Nat) (i : Nat), i < n → (intsC n)[i]? = some (i : Int) := by
  intro n
  induction n with
  | zero => intro i hi; omega
  | succ n ih =>
    intro i hi
    simp only [intsC]
    by_cases h : i < n
    · rw [List.getElem?_append_left (by rw [intsC_len]; exact h)]
      exact ih i h
    · have e : i = n := by omega
      subst e
      rw [List.getElem?_append_right (by rw [intsC_len]; exact Nat.le_refl _), intsC_len, Nat.sub_self]
      rfl
section RelCs
variable {S S' : HdS} {w w' : CW} {g : Nat → Int → Nat} {T : Nat → Nat × Int} {U U' : Int → Int}
theorem RelC.kd (h : RelC S w g T U) {k : Nat} {i : Int} (hr : rngC S k i) : w.1 (g k i) = kdC k := (h.1 k i hr).2
theorem RelC.k0 (h : RelC S w g T U) : w.1 (g 0 0) = 4 := h.kd (Or.inl ⟨by omega, rfl⟩)
theorem RelC.k1 (h : RelC S w g T U) : w.1 (g 1 0) = 5 := h.kd (Or.inl ⟨by omega, rfl⟩)
theorem RelC.k2 (h : RelC S w g T U) : w.1 (g 2 0) = 5 := h.kd (Or.inl ⟨by omega, rfl⟩)
theorem RelC.k3 (h : RelC S w g T U) : w.1 (g 3 0) = 5 := h.kd (Or.inl ⟨by omega, rfl⟩)
theorem RelC.k4 (h : RelC S w g T U) {d : Int} (h0 : 0 ≤ d) (h1 : d < S.1 11 0) : w.1 (g 4 d) = 2 := h.kd (Or.inr (Or.inl ⟨rfl, h0, h1⟩))
theorem RelC.k5 (h : RelC S w g T U) {f : Int} (h0 : 0 ≤ f) (h1 : f < S.1 11 1) : w.1 (g 5 f) = 3 := h.kd (Or.inr (Or.inr (Or.inl ⟨Or.inl rfl, h0, h1⟩)))
theorem RelC.k6 (h : RelC S w g T U) {f : Int} (h0 : 0 ≤ f) (h1 : f < S.1 11 1) : w.1 (g 6 f) = 5 := h.kd (Or.inr (Or.inr (Or.inl ⟨Or.inr rfl, h0, h1⟩)))
theorem RelC.k7 (h : RelC S w g T U) {q : Int} (h0 : 0 ≤ q) (h1 : q < 4) : w.1 (g 7 q) = 1 := h.kd (Or.inr (Or.inr (Or.inr ⟨Or.inl rfl, h0, h1⟩)))
theorem RelC.k8 (h : RelC S w g T U) {q : Int} (h0 : 0 ≤ q) (h1 : q < 4) : w.1 (g 8 q) = 5 := h.kd (Or.inr (Or.inr (Or.inr ⟨Or.inr rfl, h0, h1⟩)))
theorem RelC.ne (h : RelC S w g T U) {k k' : Nat} {i i' : Int} (hr : rngC S k i) (hr' : rngC S k' i') (hn : k ≠ k' ∨ i ≠ i') : g k i ≠ g k' i' := fun e => by
  have h1 := (h.1 k i hr).1
  rw [e, (h.1 k' i' hr').1] at h1
  cases h1
  rcases hn with q | q <;> exact q rfl
theorem RelC.dirs (h : RelC S w g T U) : w.2.2.1 40 (g 0 0) = some (g 1 0) := h.2.1.1
theorem RelC.fils (h : RelC S w g T U) : w.2.2.1 41 (g 0 0) = some (g 2 0) := h.2.1.2.1
theorem RelC.deps (h : RelC S w g T U) : w.2.2.1 42 (g 0 0) = some (g 3 0) := h.2.1.2.2.1
theorem RelC.day (h : RelC S w g T U) : w.2.1 43 (g 0 0) = S.1 11 2 := h.2.1.2.2.2
theorem RelC.l1 (h : RelC S w g T U) : w.2.2.2 (g 1 0) = (intsC (S.1 11 0).toNat).map (g 4) := h.2.2.1.1
theorem RelC.l2 (h : RelC S w g T U) : w.2.2.2 (g 2 0) = (intsC (S.1 11 1).toNat).map (g 5) := h.2.2.1.2.1
theorem RelC.l3 (h : RelC S w g T U) : w.2.2.2 (g 3 0) = (intsC 4).map (g 7) := h.2.2.1.2.2
theorem RelC.d (h : RelC S w g T U) {d : Int} (h0 : 0 ≤ d) (h1 : d < S.1 11 0) : w.2.1 20 (g 4 d) = d ∧ w.2.2.1 21 (g 4 d) = opA g (S.1 0 d) ∧ w.2.1 22 (g 4 d) = S.1 1 d ∧ w.2.1 23 (g 4 d) = U d := h.2.2.2.1 d h0 h1
theorem RelC.f (h : RelC S w g T U) {f : Int} (h0 : 0 ≤ f) (h1 : f < S.1 11 1) : w.2.2.1 30 (g 5 f) = some (g 7 (S.1 2 f)) ∧ w.2.2.1 31 (g 5 f) = some (g 6 f) ∧ w.2.2.2 (g 6 f) = (S.2 f).map (g 4) ∧ w.2.1 32 (g 5 f) = S.1 3 f ∧ w.2.1 33 (g 5 f) = S.1 7 f ∧ w.2.1 34 (g 5 f) = S.1 6 f ∧ (S.2 f ≠ [] → w.2.1 35 (g 5 f) = uoS S f) := h.2.2.2.2.1 f h0 h1
theorem RelC.p (h : RelC S w g T U) {q : Int} (h0 : 0 ≤ q) (h1 : q < 4) : w.2.2.1 10 (g 7 q) = some (g 8 q) ∧ w.2.1 11 (g 7 q) = S.1 10 q ∧ w.2.2.2 (g 8 q) = (ownN S q (S.1 11 1).toNat).map (g 5) := h.2.2.2.2.2 q h0 h1
theorem ownN_eq {q : Int} : ∀ n : Nat, (∀ f : Int, 0 ≤ f → f < n → S'.1 2 f = S.1 2 f) → ownN S' q n = ownN S q n := by
  intro n
  induction n with
  | zero => intro _; rfl
  | succ n ih =>
    intro h
    simp only [ownN]
    rw [ih (fun f h0 h1 => h f h0 (by omega)), h n (by omega) (by omega)]
/-- numbers change, and the lists of links -/
theorem RelC.upd (h : RelC S w g T U) (hn : 0 ≤ S.1 11 1) (eK : w'.1 = w.1) (eR : w'.2.2.1 = w.2.2.1) (e0 : S'.1 11 0 = S.1 11 0) (e1 : S'.1 11 1 = S.1 11 1) (eP : ∀ d, 0 ≤ d → d < S.1 11 0 → S'.1 0 d = S.1 0 d) (eO : ∀ f, 0 ≤ f → f < S.1 11 1 → S'.1 2 f = S.1 2 f) (eDay : w'.2.1 43 (g 0 0) = S'.1 11 2)
    (eL : ∀ k i, rngC S k i → k ≠ 6 → w'.2.2.2 (g k i) = w.2.2.2 (g k i)) (eN : ∀ d, 0 ≤ d → d < S.1 11 0 → w'.2.1 20 (g 4 d) = w.2.1 20 (g 4 d)) (hQ : ∀ d, 0 ≤ d → d < S.1 11 0 → w'.2.1 22 (g 4 d) = S'.1 1 d) (hU : ∀ d, 0 ≤ d → d < S.1 11 0 → w'.2.1 23 (g 4 d) = U' d)
    (hF : ∀ f, 0 ≤ f → f < S.1 11 1 → w'.2.2.2 (g 6 f) = (S'.2 f).map (g 4) ∧ w'.2.1 32 (g 5 f) = S'.1 3 f ∧ w'.2.1 33 (g 5 f) = S'.1 7 f ∧ w'.2.1 34 (g 5 f) = S'.1 6 f ∧ (S'.2 f ≠ [] → w'.2.1 35 (g 5 f) = uoS S' f)) (hP : ∀ q, 0 ≤ q → q < 4 → w'.2.1 11 (g 7 q) = S'.1 10 q) : RelC S' w' g T U' := by
  have er : ∀ k i, rngC S' k i → rngC S k i := fun k i hr => by
    unfold rngC at hr ⊢
    rw [e0, e1] at hr
    exact hr
  refine ⟨fun k i hr => by rw [eK]; exact h.1 k i (er k i hr), ⟨by rw [eR]; exact h.dirs, by rw [eR]; exact h.fils, by rw [eR]; exact h.deps, eDay⟩, ⟨?_, ?_, ?_⟩, fun d h0 h1 => ?_, fun f h0 h1 => ?_, fun q h0 h1 => ?_⟩
  · rw [eL 1 0 (Or.inl ⟨by omega, rfl⟩) (by omega), e0]; exact h.l1
  · rw [eL 2 0 (Or.inl ⟨by omega, rfl⟩) (by omega), e1]; exact h.l2
  · rw [eL 3 0 (Or.inl ⟨by omega, rfl⟩) (by omega)]; exact h.l3
  · rw [e0] at h1
    rw [eR, eP d h0 h1, eN d h0 h1]
    exact ⟨(h.d h0 h1).1, (h.d h0 h1).2.1, hQ d h0 h1, hU d h0 h1⟩
  · rw [e1] at h1
    rw [eR, eO f h0 h1]
    exact ⟨(h.f h0 h1).1, (h.f h0 h1).2.1, hF f h0 h1⟩
  · rw [eR, eL 8 q (Or.inr (Or.inr (Or.inr ⟨Or.inr rfl, h0, h1⟩))) (by omega), e1, ownN_eq (S := S) (S' := S') (S.1 11 1).toNat (fun f k0 k1 => eO f k0 (by omega))]
    exact ⟨(h.p h0 h1).1, hP q h0 h1, (h.p h0 h1).2.2⟩
theorem RelC.iff4 (h : RelC S w g T U) {d d' : Int} (h0 : 0 ≤ d) (h1 : d < S.1 11 0) (h2 : 0 ≤ d') (h3 : d' < S.1 11 0) : g 4 d = g 4 d' ↔ d = d' := ⟨fun e => Classical.byContradiction fun q => h.ne (Or.inr (Or.inl ⟨rfl, h0, h1⟩)) (Or.inr (Or.inl ⟨rfl, h2, h3⟩)) (Or.inr q) e, fun e => by rw [e]⟩
theorem RelC.iff5 (h : RelC S w g T U) {d d' : Int} (h0 : 0 ≤ d) (h1 : d < S.1 11 1) (h2 : 0 ≤ d') (h3 : d' < S.1 11 1) : g 5 d = g 5 d' ↔ d = d' := ⟨fun e => Classical.byContradiction fun q => h.ne (Or.inr (Or.inr (Or.inl ⟨Or.inl rfl, h0, h1⟩))) (Or.inr (Or.inr (Or.inl ⟨Or.inl rfl, h2, h3⟩))) (Or.inr q) e, fun e => by rw [e]⟩
theorem RelC.iff6 (h : RelC S w g T U) {d d' : Int} (h0 : 0 ≤ d) (h1 : d < S.1 11 1) (h2 : 0 ≤ d') (h3 : d' < S.1 11 1) : g 6 d = g 6 d' ↔ d = d' := ⟨fun e => Classical.byContradiction fun q => h.ne (Or.inr (Or.inr (Or.inl ⟨Or.inr rfl, h0, h1⟩))) (Or.inr (Or.inr (Or.inl ⟨Or.inr rfl, h2, h3⟩))) (Or.inr q) e, fun e => by rw [e]⟩
theorem RelC.iff7 (h : RelC S w g T U) {d d' : Int} (h0 : 0 ≤ d) (h1 : d < 4) (h2 : 0 ≤ d') (h3 : d' < 4) : g 7 d = g 7 d' ↔ d = d' := ⟨fun e => Classical.byContradiction fun q => h.ne (Or.inr (Or.inr (Or.inr ⟨Or.inl rfl, h0, h1⟩))) (Or.inr (Or.inr (Or.inr ⟨Or.inl rfl, h2, h3⟩))) (Or.inr q) e, fun e => by rw [e]⟩
theorem wF_off {id id' a a' : Nat} {v : Int} (hn : id' ≠ id) : (wF w id a v).2.1 id' a' = w.2.1 id' a' := by rw [wF_F, if_neg (fun q => hn q.1)]
theorem sset_off {S : HdS} {k k' : Nat} {i i' v : Int} (hn : k' ≠ k) : (sset S k i v).1 k' i' = S.1 k' i' := by rw [sset_1, if_neg (fun q => hn q.1)]
theorem uoS_set {S : HdS} {k : Nat} {i v f : Int} (h8 : k ≠ 8) (h9 : k ≠ 9) : uoS (sset S k i v) f = uoS S f := by
  unfold uoS
  rw [sset_off (Ne.symm h9), sset_off (Ne.symm h8)]
theorem RelC.quo (h : RelC S w g T U) (hn : 0 ≤ S.1 11 1) {d v : Int} (h0 : 0 ≤ d) (h1 : d < S.1 11 0) : RelC (sset S 1 d v) (wF w 22 (g 4 d) v) g T U := by
  refine h.upd hn rfl rfl (sset_off (by omega)) (sset_off (by omega)) (fun _ _ _ => sset_off (by omega)) (fun _ _ _ => sset_off (by omega)) (by rw [wF_off (by omega), sset_off (by omega)]; exact h.day) (fun _ _ _ _ => rfl) (fun _ _ _ => wF_off (by omega)) (fun d' k0 k1 => ?_) (fun d' k0 k1 => by rw [wF_off (by omega)]; exact (h.d k0 k1).2.2.2) (fun f k0 k1 => ?_) (fun q k0 k1 => by rw [wF_off (by omega), sset_off (by omega)]; exact (h.p k0 k1).2.1)
  · rw [wF_F, sset_1]
    simp only [h.iff4 k0 k1 h0 h1, true_and]
    split
    · rfl
    · exact (h.d k0 k1).2.2.1
  · rw [wF_off (by omega), wF_off (by omega), wF_off (by omega), wF_off (by omega), sset_off (by omega), sset_off (by omega), sset_off (by omega), uoS_set (by omega) (by omega)]
    exact (h.f k0 k1).2.2
theorem RelC.coin (h : RelC S w g T U) (hn : 0 ≤ S.1 11 1) {q v : Int} (h0 : 0 ≤ q) (h1 : q < 4) : RelC (sset S 10 q v) (wF w 11 (g 7 q) v) g T U := by
  refine h.upd hn rfl rfl (sset_off (by omega)) (sset_off (by omega)) (fun _ _ _ => sset_off (by omega)) (fun _ _ _ => sset_off (by omega)) (by rw [wF_off (by omega), sset_off (by omega)]; exact h.day) (fun _ _ _ _ => rfl) (fun _ _ _ => wF_off (by omega)) (fun d' k0 k1 => by rw [wF_off (by omega), sset_off (by omega)]; exact (h.d k0 k1).2.2.1) (fun d' k0 k1 => by rw [wF_off (by omega)]; exact (h.d k0 k1).2.2.2) (fun f k0 k1 => ?_) (fun q' k0 k1 => ?_)
  · rw [wF_off (by omega), wF_off (by omega), wF_off (by omega), wF_off (by omega), sset_off (by omega), sset_off (by omega), sset_off (by omega), uoS_set (by omega) (by omega)]
    exact (h.f k0 k1).2.2
  · rw [wF_F, sset_1]
    simp only [h.iff7 k0 k1 h0 h1, true_and]
    split
    · rfl
    · exact (h.p k0 k1).2.1
theorem RelC.use (h : RelC S w g T U) (hn : 0 ≤ S.1 11 1) {d v : Int} (h0 : 0 ≤ d) (h1 : d < S.1 11 0) : RelC S (wF w 23 (g 4 d) v) g T (fun i => if i = d then v else U i) := by
  refine h.upd hn rfl rfl rfl rfl (fun _ _ _ => rfl) (fun _ _ _ => rfl) (by rw [wF_off (by omega)]; exact h.day) (fun _ _ _ _ => rfl) (fun _ _ _ => wF_off (by omega)) (fun d' k0 k1 => by rw [wF_off (by omega)]; exact (h.d k0 k1).2.2.1) (fun d' k0 k1 => ?_) (fun f k0 k1 => ?_) (fun q k0 k1 => by rw [wF_off (by omega)]; exact (h.p k0 k1).2.1)
  · rw [wF_F]
    simp only [h.iff4 k0 k1 h0 h1, true_and]
    split
    · rfl
    · exact (h.d k0 k1).2.2.2
  · rw [wF_off (by omega), wF_off (by omega), wF_off (by omega), wF_off (by omega)]
    exact (h.f k0 k1).2.2
theorem RelC.siz (h : RelC S w g T U) (hn : 0 ≤ S.1 11 1) {f v : Int} (h0 : 0 ≤ f) (h1 : f < S.1 11 1) : RelC (sset S 3 f v) (wF w 32 (g 5 f) v) g T U := by
  refine h.upd hn rfl rfl (sset_off (by omega)) (sset_off (by omega)) (fun _ _ _ => sset_off (by omega)) (fun _ _ _ => sset_off (by omega)) (by rw [wF_off (by omega), sset_off (by omega)]; exact h.day) (fun _ _ _ _ => rfl) (fun _ _ _ => wF_off (by omega)) (fun d' k0 k1 => by rw [wF_off (by omega), sset_off (by omega)]; exact (h.d k0 k1).2.2.1) (fun d' k0 k1 => by rw [wF_off (by omega)]; exact (h.d k0 k1).2.2.2) (fun f' k0 k1 => ?_) (fun q k0 k1 => by rw [wF_off (by omega), sset_off (by omega)]; exact (h.p k0 k1).2.1)
  rw [wF_off (id' := 33) (by omega), wF_off (id' := 34) (by omega), wF_off (id' := 35) (by omega), sset_off (k' := 7) (by omega), sset_off (k' := 6) (by omega), uoS_set (by omega) (by omega), wF_F, sset_1]
  obtain ⟨a1, a2, a3, a4, a5, a6, a7⟩ := h.f k0 k1
  refine ⟨a3, ?_, a5, a6, a7⟩
  simp only [h.iff5 k0 k1 h0 h1, true_and]
  split
  · rfl
  · exact a4
theorem RelC.hol (h : RelC S w g T U) (hn : 0 ≤ S.1 11 1) {f v : Int} (h0 : 0 ≤ f) (h1 : f < S.1 11 1) : RelC (sset S 7 f v) (wF w 33 (g 5 f) v) g T U := by
  refine h.upd hn rfl rfl (sset_off (by omega)) (sset_off (by omega)) (fun _ _ _ => sset_off (by omega)) (fun _ _ _ => sset_off (by omega)) (by rw [wF_off (by omega), sset_off (by omega)]; exact h.day) (fun _ _ _ _ => rfl) (fun _ _ _ => wF_off (by omega)) (fun d' k0 k1 => by rw [wF_off (by omega), sset_off (by omega)]; exact (h.d k0 k1).2.2.1) (fun d' k0 k1 => by rw [wF_off (by omega)]; exact (h.d k0 k1).2.2.2) (fun f' k0 k1 => ?_) (fun q k0 k1 => by rw [wF_off (by omega), sset_off (by omega)]; exact (h.p k0 k1).2.1)
  rw [wF_off (id' := 32) (by omega), wF_off (id' := 34) (by omega), wF_off (id' := 35) (by omega), sset_off (k' := 3) (by omega), sset_off (k' := 6) (by omega), uoS_set (by omega) (by omega), wF_F, sset_1]
  obtain ⟨a1, a2, a3, a4, a5, a6, a7⟩ := h.f k0 k1
  refine ⟨a3, a4, ?_, a6, a7⟩
  simp only [h.iff5 k0 k1 h0 h1, true_and]
  split
  · rfl
  · exact a5
theorem RelC.kep (h : RelC S w g T U) (hn : 0 ≤ S.1 11 1) {f v : Int} (h0 : 0 ≤ f) (h1 : f < S.1 11 1) : RelC (sset S 6 f v) (wF w 34 (g 5 f) v) g T U := by
  refine h.upd hn rfl rfl (sset_off (by omega)) (sset_off (by omega)) (fun _ _ _ => sset_off (by omega)) (fun _ _ _ => sset_off (by omega)) (by rw [wF_off (by omega), sset_off (by omega)]; exact h.day) (fun _ _ _ _ => rfl) (fun _ _ _ => wF_off (by omega)) (fun d' k0 k1 => by rw [wF_off (by omega), sset_off (by omega)]; exact (h.d k0 k1).2.2.1) (fun d' k0 k1 => by rw [wF_off (by omega)]; exact (h.d k0 k1).2.2.2) (fun f' k0 k1 => ?_) (fun q k0 k1 => by rw [wF_off (by omega), sset_off (by omega)]; exact (h.p k0 k1).2.1)
  rw [wF_off (id' := 32) (by omega), wF_off (id' := 33) (by omega), wF_off (id' := 35) (by omega), sset_off (k' := 3) (by omega), sset_off (k' := 7) (by omega), uoS_set (by omega) (by omega), wF_F, sset_1]
  obtain ⟨a1, a2, a3, a4, a5, a6, a7⟩ := h.f k0 k1
  refine ⟨a3, a4, a5, ?_, a7⟩
  simp only [h.iff5 k0 k1 h0 h1, true_and]
  split
  · rfl
  · exact a6
/-- the day on which f was used, or comes back, is v now -/
theorem RelC.uon (h : RelC S w g T U) (hn : 0 ≤ S.1 11 1) {f v x y : Int} (h0 : 0 ≤ f) (h1 : f < S.1 11 1) (hv : S.2 f ≠ [] → v = if y = -1 then x else y) : RelC (sset (sset S 8 f x) 9 f y) (wF w 35 (g 5 f) v) g T U := by
  have so : ∀ (k : Nat) (i : Int), k ≠ 8 → k ≠ 9 → (sset (sset S 8 f x) 9 f y).1 k i = S.1 k i := fun k i k8 k9 => by rw [sset_off k9, sset_off k8]
  refine h.upd hn rfl rfl (so 11 0 (by omega) (by omega)) (so 11 1 (by omega) (by omega)) (fun d _ _ => so 0 d (by omega) (by omega)) (fun d _ _ => so 2 d (by omega) (by omega)) (by rw [wF_off (by omega), so 11 2 (by omega) (by omega)]; exact h.day) (fun _ _ _ _ => rfl) (fun _ _ _ => wF_off (by omega)) (fun d' k0 k1 => by rw [wF_off (by omega), so 1 d' (by omega) (by omega)]; exact (h.d k0 k1).2.2.1) (fun d' k0 k1 => by rw [wF_off (by omega)]; exact (h.d k0 k1).2.2.2) (fun f' k0 k1 => ?_) (fun q k0 k1 => by rw [wF_off (by omega), so 10 q (by omega) (by omega)]; exact (h.p k0 k1).2.1)
  rw [wF_off (id' := 32) (by omega), wF_off (id' := 33) (by omega), wF_off (id' := 34) (by omega), so 3 f' (by omega) (by omega), so 7 f' (by omega) (by omega), so 6 f' (by omega) (by omega), wF_F]
  obtain ⟨a1, a2, a3, a4, a5, a6, a7⟩ := h.f k0 k1
  refine ⟨a3, a4, a5, a6, fun hne => ?_⟩
  simp only [h.iff5 k0 k1 h0 h1, true_and]
  have e9 : ∀ i, (sset (sset S 8 f x) 9 f y).1 9 i = if i = f then y else S.1 9 i := fun i => by rw [sset_1, sset_off (by omega)]; simp only [true_and]
  have e8 : ∀ i, (sset (sset S 8 f x) 9 f y).1 8 i = if i = f then x else S.1 8 i := fun i => by rw [sset_off (by omega), sset_1]; simp only [true_and]
  unfold uoS
  rw [e9, e8]
  by_cases e : f' = f
  · simp only [if_pos e]
    exact hv (by rw [← e]; exact hne)
  · simp only [if_neg e]
    exact a7 hne
/-- the links of f are ls now -/
theorem RelC.lks (h : RelC S w g T U) (hn : 0 ≤ S.1 11 1) {f : Int} {ls : List Int} (h0 : 0 ≤ f) (h1 : f < S.1 11 1) (hls : S.2 f ≠ []) : RelC (slks S f ls) (wL w (g 6 f) (ls.map (g 4))) g T U := by
  refine h.upd hn rfl rfl rfl rfl (fun _ _ _ => rfl) (fun _ _ _ => rfl) h.day (fun k i hr hk => ?_) (fun _ _ _ => rfl) (fun d' k0 k1 => (h.d k0 k1).2.2.1) (fun d' k0 k1 => (h.d k0 k1).2.2.2) (fun f' k0 k1 => ?_) (fun q k0 k1 => (h.p k0 k1).2.1)
  · rw [wL_L, if_neg (h.ne hr (Or.inr (Or.inr (Or.inl ⟨Or.inr rfl, h0, h1⟩))) (Or.inl hk))]
  · obtain ⟨a1, a2, a3, a4, a5, a6, a7⟩ := h.f k0 k1
    rw [wL_L, slks_2]
    simp only [h.iff6 k0 k1 h0 h1]
    refine ⟨?_, a4, a5, a6, ?_⟩
    · split
      · rfl
      · exact a3
    · split
      · next e => subst e; exact fun _ => a7 hls
      · exact fun hne => a7 hne
/-- the day is v now; files whose day it is are back -/
theorem RelC.dayTo (h : RelC S w g T U) (hn : 0 ≤ S.1 11 1) {v : Int} (hk : ∀ (k : Nat) (i : Int), k ≠ 8 → k ≠ 9 → (k ≠ 11 ∨ i ≠ 2) → S'.1 k i = S.1 k i) (h2 : S'.2 = S.2) (hd : S'.1 11 2 = v) (hu : ∀ f, 0 ≤ f → f < S.1 11 1 → S.2 f ≠ [] → uoS S' f = uoS S f) : RelC S' (wF w 43 (g 0 0) v) g T U := by
  refine h.upd hn rfl rfl (hk 11 0 (by omega) (by omega) (by omega)) (hk 11 1 (by omega) (by omega) (by omega)) (fun d _ _ => hk 0 d (by omega) (by omega) (by omega)) (fun d _ _ => hk 2 d (by omega) (by omega) (by omega)) (by rw [wF_F, if_pos ⟨rfl, rfl⟩, hd]) (fun _ _ _ _ => rfl) (fun _ _ _ => wF_off (by omega)) (fun d' k0 k1 => by rw [wF_off (by omega), hk 1 d' (by omega) (by omega) (by omega)]; exact (h.d k0 k1).2.2.1) (fun d' k0 k1 => by rw [wF_off (by omega)]; exact (h.d k0 k1).2.2.2) (fun f k0 k1 => ?_) (fun q k0 k1 => by rw [wF_off (by omega), hk 10 q (by omega) (by omega) (by omega)]; exact (h.p k0 k1).2.1)
  rw [wF_off (id' := 32) (by omega), wF_off (id' := 33) (by omega), wF_off (id' := 34) (by omega), wF_off (id' := 35) (by omega), h2, hk 3 f (by omega) (by omega) (by omega), hk 7 f (by omega) (by omega) (by omega), hk 6 f (by omega) (by omega) (by omega)]
  obtain ⟨a1, a2, a3, a4, a5, a6, a7⟩ := h.f k0 k1
  exact ⟨a3, a4, a5, a6, fun hne => by rw [hu f k0 k1 hne]; exact a7 hne⟩
end RelCs
