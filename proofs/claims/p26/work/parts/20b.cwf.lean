/-! WHAT HOLDS OF EVERY STATE STAYS SO -/
section WfStep
variable {S S' : HdS} {n : Int}
theorem wfF_up {f : Int} (h : wfF S n f) : wfF S (n + 1) f := by
  obtain ⟨a1, a2, a3, a4, a5, a6, a7, a8, a9⟩ := h
  exact ⟨a1, a2, ⟨a3.1, by omega⟩, a4, a5, a6, a7, a8, a9⟩
theorem wf_up (h : wf S n) (hn : n < 512) : wf S (n + 1) := by
  obtain ⟨a1, a2, a3, a4, a5, a6, a7, a8, a9⟩ := h
  exact ⟨⟨by omega, by omega⟩, a2, a3, a4, a5, a6, a7, a8, fun f h1 h2 => wfF_up (a9 f h1 h2)⟩
theorem wfF_eq {f : Int} (h : wfF S n f) (e2 : S'.1 2 f = S.1 2 f) (e3 : S'.1 3 f = S.1 3 f) (e6 : S'.1 6 f = S.1 6 f) (e7 : S'.1 7 f = S.1 7 f) (e8 : S'.1 8 f = S.1 8 f) (e9 : S'.1 9 f = S.1 9 f) (eL : S'.2 f = S.2 f) (ed : S'.1 11 2 = S.1 11 2) (en : S.1 11 0 ≤ S'.1 11 0) : wfF S' (n + 1) f := by
  obtain ⟨a1, a2, a3, a4, a5, a6, a7, a8, a9⟩ := h
  unfold wfF
  rw [e2, e3, e6, e7, e8, e9, eL, ed]
  exact ⟨a1, a2, ⟨a3.1, by omega⟩, a4, a5, a6, a7, fun d hd => by have := a8 d hd; omega, a9⟩
/-- one file is another one now -/
theorem wf_file (h : wf S n) (hn : n < 512) {f : Int} (e11 : ∀ i, S'.1 11 i = S.1 11 i) (e0 : ∀ i, S'.1 0 i = S.1 0 i) (e1 : ∀ i, S'.1 1 i = S.1 1 i) (e10 : ∀ p, 0 ≤ p → p < 4 → 0 ≤ S'.1 10 p ∧ S'.1 10 p ≤ 1000000) (eo : ∀ f', f' ≠ f → (∀ k, k ≠ 10 → S'.1 k f' = S.1 k f') ∧ S'.2 f' = S.2 f') (hf : 0 ≤ f → f < S.1 11 1 → wfF S' (n + 1) f) : wf S' (n + 1) := by
  have hnn := h.num
  refine ⟨⟨by omega, by omega⟩, by rw [e11]; exact h.nd, by rw [e11]; exact h.nf, by rw [e11]; exact h.day, by rw [e0]; exact h.p0, fun d h1 h2 => by rw [e11] at h2; rw [e0]; exact h.par h1 h2, fun d h1 h2 => by rw [e11] at h2; rw [e1]; exact h.quo h1 h2, e10, fun f' h1 h2 => ?_⟩
  rw [e11] at h2
  by_cases hq : f' = f
  · subst hq
    exact hf h1 h2
  · obtain ⟨a, b⟩ := eo f' hq
    exact wfF_eq (h.f h1 h2) (a 2 (by omega)) (a 3 (by omega)) (a 6 (by omega)) (a 7 (by omega)) (a 8 (by omega)) (a 9 (by omega)) b (e11 2) (by rw [e11]; exact Int.le_refl _)
theorem wf_addDir (h : wf S n) (hn : n < 512) {p q : Int} (hp0 : 0 ≤ p) (hp1 : p < S.1 11 0) (hq : -1 ≤ q ∧ q ≤ 100000) (hlt : S.1 11 0 < 12) : wf (s_addDir S p q) (n + 1) := by
  have hnn := h.num
  have hnd := h.nd
  have hnf := h.nf
  have e0 : (s_addDir S p q).1 11 0 = S.1 11 0 + 1 := by simp [s_addDir, sset_1]
  have e1 : (s_addDir S p q).1 11 1 = S.1 11 1 := by simp [s_addDir, sset_1]
  have e2 : (s_addDir S p q).1 11 2 = S.1 11 2 := by simp [s_addDir, sset_1]
  have eM : ∀ (k : Nat) (j : Int), k < 11 → (s_addDir S p q).1 k j = if k = 1 ∧ j = S.1 11 0 then q else if k = 0 ∧ j = S.1 11 0 then p else S.1 k j := fun k j hk => by
    unfold s_addDir
    rw [sset_1, if_neg (by omega), sset_1, sset_1]
  have eo : ∀ (k : Nat) (j : Int), 2 ≤ k → k < 11 → (s_addDir S p q).1 k j = S.1 k j := fun k j a b => by rw [eM k j b, if_neg (by omega), if_neg (by omega)]
  refine ⟨⟨by omega, by omega⟩, by rw [e0]; omega, by rw [e1]; exact hnf, by rw [e2]; exact h.day, by rw [eM 0 0 (by omega), if_neg (by omega), if_neg (by omega)]; exact h.p0, fun d h1 h2 => ?_, fun d h1 h2 => ?_, fun x h1 h2 => by rw [eo 10 x (by omega) (by omega)]; exact h.coi h1 h2, fun f h1 h2 => ?_⟩
  · rw [e0] at h2
    rw [eM 0 d (by omega), if_neg (by omega)]
    by_cases hd : d = S.1 11 0
    · rw [if_pos ⟨rfl, hd⟩]; omega
    · rw [if_neg (fun z => hd z.2)]; exact h.par h1 (by omega)
  · rw [e0] at h2
    rw [eM 1 d (by omega)]
    by_cases hd : d = S.1 11 0
    · rw [if_pos ⟨rfl, hd⟩]; exact hq
    · rw [if_neg (fun z => hd z.2), if_neg (by omega)]; exact h.quo h1 (by omega)
  · rw [e1] at h2
    exact wfF_eq (h.f h1 h2) (eo 2 f (by omega) (by omega)) (eo 3 f (by omega) (by omega)) (eo 6 f (by omega) (by omega)) (eo 7 f (by omega) (by omega)) (eo 8 f (by omega) (by omega)) (eo 9 f (by omega) (by omega)) rfl e2 (by rw [e0]; omega)
theorem wf_quota (h : wf S n) (hn : n < 512) {d q : Int} (hq : -1 ≤ q ∧ q ≤ 100000) : wf (sset S 1 d q) (n + 1) := by
  have hnn := h.num
  refine ⟨⟨by omega, by omega⟩, by rw [sset_off (by omega)]; exact h.nd, by rw [sset_off (by omega)]; exact h.nf, by rw [sset_off (by omega)]; exact h.day, by rw [sset_off (by omega)]; exact h.p0, fun x h1 h2 => by rw [sset_off (by omega)] at h2; rw [sset_off (by omega)]; exact h.par h1 h2, fun x h1 h2 => ?_, fun x h1 h2 => by rw [sset_off (by omega)]; exact h.coi h1 h2, fun f h1 h2 => ?_⟩
  · rw [sset_off (by omega)] at h2
    rw [sset_1]
    split
    · exact hq
    · exact h.quo h1 h2
  · rw [sset_off (by omega)] at h2
    exact wfF_eq (h.f h1 h2) (sset_off (by omega)) (sset_off (by omega)) (sset_off (by omega)) (sset_off (by omega)) (sset_off (by omega)) (sset_off (by omega)) rfl (sset_off (by omega)) (by rw [sset_off (by omega)]; exact Int.le_refl _)
theorem wf_coin (h : wf S n) (hn : n < 512) {p v : Int} (hv : 0 ≤ v ∧ v ≤ 1000000) : wf (sset S 10 p v) (n + 1) := by
  refine wf_file h hn (f := -1) (fun i => sset_off (by omega)) (fun i => sset_off (by omega)) (fun i => sset_off (by omega)) (fun x h1 h2 => ?_) (fun f' _ => ⟨fun k hk => sset_off hk, rfl⟩) (fun h0 _ => by omega)
  rw [sset_1]
  split
  · exact hv
  · exact h.coi h1 h2
theorem wf_make (h : wf S n) (hn : n < 512) {p d z : Int} (hp0 : 0 ≤ p) (hp1 : p < 4) (hd0 : 0 ≤ d) (hd1 : d < S.1 11 0) (hz : 1 ≤ z ∧ z ≤ 1000) (hlt : S.1 11 1 < 30) : wf (s_make S p d z) (n + 1) := by
  have hnn := h.num
  have hnd := h.nd
  have hnf := h.nf
  have hdy := h.day
  have e0 : (s_make S p d z).1 11 0 = S.1 11 0 := by simp [s_make, slks_1, sset_1]
  have e1 : (s_make S p d z).1 11 1 = S.1 11 1 + 1 := by simp [s_make, slks_1, sset_1]
  have e2 : (s_make S p d z).1 11 2 = S.1 11 2 := by simp [s_make, slks_1, sset_1]
  have eM : ∀ (k : Nat) (j : Int), k < 11 → (s_make S p d z).1 k j = if k = 9 ∧ j = S.1 11 1 then -1 else if k = 8 ∧ j = S.1 11 1 then S.1 11 2 else if k = 7 ∧ j = S.1 11 1 then 0 else if k = 6 ∧ j = S.1 11 1 then 0 else if k = 3 ∧ j = S.1 11 1 then z else if k = 2 ∧ j = S.1 11 1 then p else S.1 k j := fun k j hk => by
    unfold s_make
    rw [slks_1, sset_1, if_neg (by omega), sset_1, sset_1, sset_1, sset_1, sset_1, sset_1]
  have eO : ∀ (k : Nat) (j : Int), k < 11 → (k ∉ [2, 3, 6, 7, 8, 9] ∨ j ≠ S.1 11 1) → (s_make S p d z).1 k j = S.1 k j := fun k j hk hj => by
    simp only [List.mem_cons, List.not_mem_nil, or_false, not_or] at hj
    rw [eM k j hk, if_neg (by omega), if_neg (by omega), if_neg (by omega), if_neg (by omega), if_neg (by omega), if_neg (by omega)]
  have eL : ∀ j : Int, (s_make S p d z).2 j = if j = S.1 11 1 then [d] else S.2 j := fun j => by
    unfold s_make
    rw [slks_2]
    rfl
  refine ⟨⟨by omega, by omega⟩, by rw [e0]; exact hnd, by rw [e1]; omega, by rw [e2]; exact hdy, by rw [eO 0 0 (by omega) (Or.inl (by decide))]; exact h.p0, fun x h1 h2 => by rw [e0] at h2; rw [eO 0 x (by omega) (Or.inl (by decide))]; exact h.par h1 h2, fun x h1 h2 => by rw [e0] at h2; rw [eO 1 x (by omega) (Or.inl (by decide))]; exact h.quo h1 h2, fun x h1 h2 => by rw [eO 10 x (by omega) (Or.inl (by decide))]; exact h.coi h1 h2, fun f h1 h2 => ?_⟩
  rw [e1] at h2
  by_cases hf : f = S.1 11 1
  · subst hf
    unfold wfF
    rw [e0, e2, eL, if_pos rfl, eM 2 _ (by omega), eM 3 _ (by omega), eM 6 _ (by omega), eM 7 _ (by omega), eM 8 _ (by omega), eM 9 _ (by omega)]
    simp
    omega
  · exact wfF_eq (h.f h1 (by omega)) (eO 2 f (by omega) (Or.inr hf)) (eO 3 f (by omega) (Or.inr hf)) (eO 6 f (by omega) (Or.inr hf)) (eO 7 f (by omega) (Or.inr hf)) (eO 8 f (by omega) (Or.inr hf)) (eO 9 f (by omega) (Or.inr hf)) (by rw [eL, if_neg hf]) e2 (by rw [e0]; exact Int.le_refl _)
theorem wf_link (h : wf S n) (hn : n < 512) {f d : Int} (hd0 : 0 ≤ d) (hd1 : d < S.1 11 0) (hne : S.2 f ≠ []) (hnm : d ∉ S.2 f) : wf (slks S f (S.2 f ++ [d])) (n + 1) := by
  refine wf_file h hn (f := f) (fun i => rfl) (fun i => rfl) (fun i => rfl) (fun x h1 h2 => h.coi h1 h2) (fun f' hf => ⟨fun k _ => rfl, slks_off hf⟩) (fun h0 h1 => ?_)
  obtain ⟨a1, a2, a3, a4, a5, a6, a7, a8, a9⟩ := h.f h0 h1
  unfold wfF
  rw [slks_at, slks_1]
  refine ⟨a1, a2, ⟨a3.1, by omega⟩, a4, a5, ?_, fun e => absurd e (by simp), fun x hx => ?_, ?_⟩
  · rcases a6 with q | q
    · exact Or.inl q
    · exact Or.inr ⟨q.1, q.2.1, q.2.2.1, by simp⟩
  · rcases List.mem_append.mp hx with q | q
    · exact a8 x q
    · rw [List.mem_singleton.mp q]; exact ⟨hd0, hd1⟩
  · rw [List.nodup_append]
    refine ⟨a9, by simp, fun a ha b hb => ?_⟩
    rw [List.mem_singleton.mp hb]
    exact fun e => hnm (e ▸ ha)
theorem keepT_in (h : wf S n) {f : Int} (h0 : 0 ≤ f) (h1 : f < S.1 11 1) : 0 ≤ keepT S f ∧ keepT S f ≤ 1000 * (n + 1) := by
  have a := h.kep h0 h1
  have b := h.siz h0 h1
  unfold keepT
  split <;> omega
theorem wf_unlink (h : wf S n) (hn : n < 512) {f d : Int} : wf (s_unlink S f d) (n + 1) := by
  unfold s_unlink
  by_cases he : (S.2 f).erase d = []
  · rw [if_pos he]
    refine wf_file h hn (f := f) (fun i => by rw [sset_off (by omega), sset_off (by omega), sset_off (by omega), slks_1]) (fun i => by rw [sset_off (by omega), sset_off (by omega), sset_off (by omega), slks_1]) (fun i => by rw [sset_off (by omega), sset_off (by omega), sset_off (by omega), slks_1]) (fun x h1 h2 => by rw [sset_off (by omega), sset_off (by omega), sset_off (by omega), slks_1]; exact h.coi h1 h2) (fun f' hf => ⟨fun k _ => by rw [sset_ne hf, sset_ne hf, sset_ne hf, slks_1], slks_off hf⟩) (fun h0 h1 => ?_)
    obtain ⟨a1, a2, a3, a4, a5, a6, a7, a8, a9⟩ := h.f h0 h1
    have hk := keepT_in h h0 h1
    have eL : (sset (sset (sset (slks S f []) 6 f (keepT S f)) 3 f 0) 9 f (-1)).2 f = [] := slks_at S f []
    have e9 : (sset (sset (sset (slks S f []) 6 f (keepT S f)) 3 f 0) 9 f (-1)).1 9 f = -1 := sset_at _ _ _ _
    have e3 : (sset (sset (sset (slks S f []) 6 f (keepT S f)) 3 f 0) 9 f (-1)).1 3 f = 0 := by rw [sset_off (by omega), sset_at]
    have e6 : (sset (sset (sset (slks S f []) 6 f (keepT S f)) 3 f 0) 9 f (-1)).1 6 f = keepT S f := by rw [sset_off (by omega), sset_off (by omega), sset_at]
    have eo : ∀ (k : Nat) (i : Int), k ≠ 9 → k ≠ 3 → k ≠ 6 → (sset (sset (sset (slks S f []) 6 f (keepT S f)) 3 f 0) 9 f (-1)).1 k i = S.1 k i := fun k i x y z => by rw [sset_off x, sset_off y, sset_off z, slks_1]
    unfold wfF
    rw [eL, e9, e3, e6, eo 2 f (by omega) (by omega) (by omega), eo 7 f (by omega) (by omega) (by omega), eo 8 f (by omega) (by omega) (by omega), eo 11 2 (by omega) (by omega) (by omega)]
    exact ⟨a1, ⟨by omega, by omega⟩, hk, a4, a5, Or.inl rfl, fun _ => rfl, (fun x hx => absurd hx List.not_mem_nil), List.nodup_nil⟩
  · rw [if_neg he]
    refine wf_file h hn (f := f) (fun i => rfl) (fun i => rfl) (fun i => rfl) (fun x h1 h2 => h.coi h1 h2) (fun f' hf => ⟨fun k _ => rfl, slks_off hf⟩) (fun h0 h1 => ?_)
    obtain ⟨a1, a2, a3, a4, a5, a6, a7, a8, a9⟩ := h.f h0 h1
    unfold wfF
    rw [slks_at, slks_1]
    refine ⟨a1, a2, ⟨a3.1, by omega⟩, a4, a5, ?_, fun e => absurd e he, fun x hx => a8 x (List.mem_of_mem_erase hx), a9.erase d⟩
    rcases a6 with q | q
    · exact Or.inl q
    · exact Or.inr ⟨q.1, q.2.1, q.2.2.1, he⟩
theorem used_no {f : Int} (h : wf S n) (h0 : 0 ≤ f) (h1 : f < S.1 11 1) (ht : tierS S f ≠ 2) (hne : S.2 f ≠ []) : S.1 9 f = -1 := by
  rcases h.bac h0 h1 with q | q
  · exact q
  · exfalso
    apply ht
    unfold tierS
    rw [if_neg hne, if_neg (by omega), if_neg (by omega)]
theorem wf_write (h : wf S n) (hn : n < 512) {f z : Int} (hz : 1 ≤ z ∧ z ≤ 1000) (hne : S.2 f ≠ []) (ht : tierS S f ≠ 2) : wf (s_write S f z) (n + 1) := by
  have eo : ∀ (k : Nat) (i : Int), k ≠ 8 → k ≠ 3 → k ≠ 6 → (s_write S f z).1 k i = S.1 k i := fun k i x y w => by unfold s_write; rw [sset_off x, sset_off y, sset_off w]
  refine wf_file h hn (f := f) (fun i => eo 11 i (by omega) (by omega) (by omega)) (fun i => eo 0 i (by omega) (by omega) (by omega)) (fun i => eo 1 i (by omega) (by omega) (by omega)) (fun x h1 h2 => by rw [eo 10 x (by omega) (by omega) (by omega)]; exact h.coi h1 h2) (fun f' hf => ⟨fun k _ => by unfold s_write; rw [sset_ne hf, sset_ne hf, sset_ne hf], rfl⟩) (fun h0 h1 => ?_)
  obtain ⟨a1, a2, a3, a4, a5, a6, a7, a8, a9⟩ := h.f h0 h1
  have hk := keepT_in h h0 h1
  have hdy := h.day
  have h9 := used_no h h0 h1 ht hne
  have e8 : (s_write S f z).1 8 f = S.1 11 2 := by unfold s_write; rw [sset_at]
  have e3 : (s_write S f z).1 3 f = z := by unfold s_write; rw [sset_off (by omega), sset_at]
  have eL : (s_write S f z).2 f = S.2 f := rfl
  unfold wfF
  rw [e8, e3, s_write_6, eL, eo 2 f (by omega) (by omega) (by omega), eo 7 f (by omega) (by omega) (by omega), eo 9 f (by omega) (by omega) (by omega), eo 11 2 (by omega) (by omega) (by omega), eo 11 0 (by omega) (by omega) (by omega)]
  exact ⟨a1, ⟨by omega, by omega⟩, hk, a4, ⟨by omega, by omega⟩, Or.inl h9, fun e => absurd e hne, a8, a9⟩
theorem wf_used (h : wf S n) (hn : n < 512) {f : Int} (hne : S.2 f ≠ []) (ht : tierS S f ≠ 2) : wf (sset S 8 f (S.1 11 2)) (n + 1) := by
  refine wf_file h hn (f := f) (fun i => sset_off (by omega)) (fun i => sset_off (by omega)) (fun i => sset_off (by omega)) (fun x h1 h2 => by rw [sset_off (by omega)]; exact h.coi h1 h2) (fun f' hf => ⟨fun k _ => sset_ne hf k, rfl⟩) (fun h0 h1 => ?_)
  obtain ⟨a1, a2, a3, a4, a5, a6, a7, a8, a9⟩ := h.f h0 h1
  have hdy := h.day
  have h9 := used_no h h0 h1 ht hne
  have eL : (sset S 8 f (S.1 11 2)).2 f = S.2 f := rfl
  unfold wfF
  rw [sset_at, eL, sset_off (k' := 2) (by omega), sset_off (k' := 3) (by omega), sset_off (k' := 6) (by omega), sset_off (k' := 7) (by omega), sset_off (k' := 9) (by omega), sset_off (k' := 11) (by omega), sset_off (k' := 11) (by omega)]
  exact ⟨a1, a2, ⟨a3.1, by omega⟩, a4, ⟨by omega, by omega⟩, Or.inl h9, a7, a8, a9⟩
theorem wf_bring (h : wf S n) (hn : n < 512) {f : Int} (h0 : 0 ≤ f) (h1 : f < S.1 11 1) (hne : S.2 f ≠ []) (ht : ¬ tierS S f < 2) (hc : ¬ S.1 10 (S.1 2 f) < priceS S f) : wf (s_bring S f) (n + 1) := by
  have hsz := h.siz h0 h1
  have hpr : 0 ≤ priceS S f := by unfold priceS; omega
  have eo : ∀ (k : Nat) (i : Int), k ≠ 9 → k ≠ 10 → (s_bring S f).1 k i = S.1 k i := fun k i x y => by unfold s_bring; rw [sset_off x, sset_off y]
  refine wf_file h hn (f := f) (fun i => eo 11 i (by omega) (by omega)) (fun i => eo 0 i (by omega) (by omega)) (fun i => eo 1 i (by omega) (by omega)) (fun x k0 k1 => ?_) (fun f' hf => ⟨fun k hk => by unfold s_bring; rw [sset_ne hf, sset_off hk], rfl⟩) (fun _ _ => ?_)
  · have hco := h.coi k0 k1
    unfold s_bring
    rw [sset_off (by omega), sset_1]
    by_cases hx : x = S.1 2 f
    · rw [if_pos ⟨rfl, hx⟩, ← hx]
      rw [← hx] at hc
      omega
    · rw [if_neg (fun z => hx z.2)]
      exact hco
  · obtain ⟨a1, a2, a3, a4, a5, a6, a7, a8, a9⟩ := h.f h0 h1
    have hdy := h.day
    have h90 : 90 ≤ S.1 11 2 - S.1 8 f := by
      unfold tierS at ht
      rw [if_neg hne] at ht
      by_cases x : S.1 11 2 - S.1 8 f < 30
      · rw [if_pos x] at ht; omega
      · rw [if_neg x] at ht
        by_cases y : S.1 11 2 - S.1 8 f < 90
        · rw [if_pos y] at ht; omega
        · omega
    have e9 : (s_bring S f).1 9 f = S.1 11 2 + 2 := by unfold s_bring; rw [sset_at]
    have eL : (s_bring S f).2 f = S.2 f := rfl
    unfold wfF
    rw [e9, eL, eo 2 f (by omega) (by omega), eo 3 f (by omega) (by omega), eo 6 f (by omega) (by omega), eo 7 f (by omega) (by omega), eo 8 f (by omega) (by omega), eo 11 2 (by omega) (by omega), eo 11 0 (by omega) (by omega)]
    exact ⟨a1, a2, ⟨a3.1, by omega⟩, a4, a5, Or.inr ⟨by omega, by omega, h90, hne⟩, a7, a8, a9⟩
theorem wf_hold (h : wf S n) (hn : n < 512) {f v : Int} (hv : 0 ≤ v ∧ v < 32) : wf (sset S 7 f v) (n + 1) := by
  refine wf_file h hn (f := f) (fun i => sset_off (by omega)) (fun i => sset_off (by omega)) (fun i => sset_off (by omega)) (fun x h1 h2 => by rw [sset_off (by omega)]; exact h.coi h1 h2) (fun f' hf => ⟨fun k _ => sset_ne hf k, rfl⟩) (fun h0 h1 => ?_)
  obtain ⟨a1, a2, a3, a4, a5, a6, a7, a8, a9⟩ := h.f h0 h1
  have eL : (sset S 7 f v).2 f = S.2 f := rfl
  unfold wfF
  rw [sset_at, eL, sset_off (k' := 2) (by omega), sset_off (k' := 3) (by omega), sset_off (k' := 6) (by omega), sset_off (k' := 8) (by omega), sset_off (k' := 9) (by omega), sset_off (k' := 11) (by omega), sset_off (k' := 11) (by omega)]
  exact ⟨a1, a2, ⟨a3.1, by omega⟩, hv, a5, a6, a7, a8, a9⟩
theorem wf_rel (h : wf S n) (hn : n < 512) {m : Int} (m0 : 0 ≤ m) (m1 : m ≤ 4) : wf (relN S m (S.1 11 1)) (n + 1) := by
  have hnn := h.num
  have eo : ∀ (k : Nat) (i : Int), k ≠ 6 → k ≠ 7 → (relN S m (S.1 11 1)).1 k i = S.1 k i := fun k i x y => relN_off S m _ x y i
  refine ⟨⟨by omega, by omega⟩, by rw [eo 11 0 (by omega) (by omega)]; exact h.nd, by rw [eo 11 1 (by omega) (by omega)]; exact h.nf, by rw [eo 11 2 (by omega) (by omega)]; exact h.day, by rw [eo 0 0 (by omega) (by omega)]; exact h.p0, fun d h1 h2 => by rw [eo 11 0 (by omega) (by omega)] at h2; rw [eo 0 d (by omega) (by omega)]; exact h.par h1 h2, fun d h1 h2 => by rw [eo 11 0 (by omega) (by omega)] at h2; rw [eo 1 d (by omega) (by omega)]; exact h.quo h1 h2, fun x h1 h2 => by rw [eo 10 x (by omega) (by omega)]; exact h.coi h1 h2, fun f h1 h2 => ?_⟩
  rw [eo 11 1 (by omega) (by omega)] at h2
  obtain ⟨a1, a2, a3, a4, a5, a6, a7, a8, a9⟩ := h.f h1 h2
  have hb := (bit_clr2 a4.1 a4.2 m0 m1).2
  have e7 : (relN S m (S.1 11 1)).1 7 f = hClr (S.1 7 f) m := by
    show (if 7 = 7 ∧ 0 ≤ f ∧ f < S.1 11 1 then hClr (S.1 7 f) m else _) = _
    rw [if_pos ⟨rfl, h1, h2⟩]
  have e6 : (relN S m (S.1 11 1)).1 6 f = 0 ∨ (relN S m (S.1 11 1)).1 6 f = S.1 6 f := by
    show (if 6 = 7 ∧ 0 ≤ f ∧ f < S.1 11 1 then hClr (S.1 7 f) m else if 6 = 6 ∧ 0 ≤ f ∧ f < S.1 11 1 ∧ hClr (S.1 7 f) m = 0 then 0 else S.1 6 f) = 0 ∨ (if 6 = 7 ∧ 0 ≤ f ∧ f < S.1 11 1 then hClr (S.1 7 f) m else if 6 = 6 ∧ 0 ≤ f ∧ f < S.1 11 1 ∧ hClr (S.1 7 f) m = 0 then 0 else S.1 6 f) = S.1 6 f
    rw [if_neg (by omega)]
    split
    · exact Or.inl rfl
    · exact Or.inr rfl
  have eL : (relN S m (S.1 11 1)).2 f = S.2 f := rfl
  unfold wfF
  rw [e7, eL, eo 2 f (by omega) (by omega), eo 3 f (by omega) (by omega), eo 8 f (by omega) (by omega), eo 9 f (by omega) (by omega), eo 11 2 (by omega) (by omega), eo 11 0 (by omega) (by omega)]
  exact ⟨a1, a2, ⟨by rcases e6 with q | q <;> rw [q] <;> omega, by rcases e6 with q | q <;> rw [q] <;> omega⟩, ⟨hb.1, hb.2⟩, a5, a6, a7, a8, a9⟩
end WfStep
/-! .. call by call -/
section WfSp
variable {S : HdS} {n : Int}
theorem wfs_addDirectory (h : wf S n) (hn : n < 512) (p q : Int) : wf (sp_addDirectory S p q).2.2 (n + 1) := by
  have hnd := h.nd
  unfold sp_addDirectory iteC
  split
  · exact wf_up h hn
  · split
    · exact wf_up h hn
    · split
      · exact wf_up h hn
      · exact wf_addDir h hn (by omega) (by omega) (by omega) (by omega)
theorem wfs_setQuota (h : wf S n) (hn : n < 512) (d q : Int) : wf (sp_setQuota S d q).2.2 (n + 1) := by
  unfold sp_setQuota iteC
  split
  · exact wf_up h hn
  · split
    · exact wf_up h hn
    · exact wf_quota h hn (by omega)
theorem wfs_make (h : wf S n) (hn : n < 512) (p d z : Int) : wf (sp_make S p d z).2.2 (n + 1) := by
  have hnf := h.nf
  unfold sp_make iteC
  split
  · exact wf_up h hn
  · split
    · exact wf_up h hn
    · split
      · exact wf_up h hn
      · next a b c => exact wf_make h hn (by omega) (by omega) (by omega) (by omega) (by omega) (by have : S.1 11 1 ≠ 30 := fun e => c (Or.inl e); omega)
theorem wfs_link (h : wf S n) (hn : n < 512) (f d : Int) : wf (sp_link S f d).2.2 (n + 1) := by
  unfold sp_link iteC
  split
  · exact wf_up h hn
  · split
    · exact wf_up h hn
    · next a c => exact wf_link h hn (by omega) (by omega) (fun e => c (Or.inl e)) (fun e => c (Or.inr e))
theorem wfs_unlink (h : wf S n) (hn : n < 512) (f d : Int) : wf (sp_unlink S f d).2.2 (n + 1) := by
  unfold sp_unlink iteC
  split
  · exact wf_up h hn
  · split
    · exact wf_up h hn
    · exact wf_unlink h hn
theorem wfs_write (h : wf S n) (hn : n < 512) (f z : Int) : wf (sp_write S f z).2.2 (n + 1) := by
  unfold sp_write iteC
  split
  · exact wf_up h hn
  · split
    · exact wf_up h hn
    · split
      · exact wf_up h hn
      · split
        · exact wf_up h hn
        · next a b c e => exact wf_write h hn (by omega) (fun q => c (Or.inl q)) (fun q => c (Or.inr q))
theorem wfs_read (h : wf S n) (hn : n < 512) (f : Int) : wf (sp_read S f).2.2 (n + 1) := by
  unfold sp_read iteC
  split
  · exact wf_up h hn
  · split
    · exact wf_up h hn
    · split
      · next a b c => exact wf_used h hn b (by omega)
      · split
        · split
          · exact wf_up h hn
          · next a b c e g => exact wf_bring h hn (by omega) (by omega) b c g
        · exact wf_up h hn
theorem wfs_hold (h : wf S n) (hn : n < 512) (m f : Int) : wf (sp_hold S m f).2.2 (n + 1) := by
  unfold sp_hold iteC
  split
  · exact wf_up h hn
  · split
    · exact wf_up h hn
    · next a b =>
      have hh := h.hol (f := f) (by omega) (by omega)
      have := (bit_or2 hh.1 hh.2 (m := m) (by omega) (by omega)).2
      exact wf_hold h hn ⟨by omega, this.2⟩
theorem wfs_release (h : wf S n) (hn : n < 512) (m : Int) : wf (sp_release S m).2.2 (n + 1) := by
  unfold sp_release iteC
  split
  · exact wf_up h hn
  · exact wf_rel h hn (by omega) (by omega)
theorem wfs_fund (h : wf S n) (hn : n < 512) (p c : Int) : wf (sp_fund S p c).2.2 (n + 1) := by
  unfold sp_fund iteC
  split
  · exact wf_up h hn
  · split
    · exact wf_up h hn
    · split
      · exact wf_up h hn
      · have := h.coi (d := p) (by omega) (by omega)
        exact wf_coin h hn ⟨by omega, by omega⟩
theorem wfs_pass (h : wf S n) (hn : n < 512) (k : Int) : wf (sp_pass S k).2.2 (n + 1) := by
  unfold sp_pass iteC
  split
  · exact wf_up h hn
  · split
    · exact wf_up h hn
    · exact wf_up (passN_wf h k.toNat (by omega)).1 hn
theorem wfs_dir (h : wf S n) (hn : n < 512) (d r : Int) : wf (sp_dir S d r).2.2 (n + 1) := by
  unfold sp_dir iteC
  split <;> exact wf_up h hn
theorem wfs_fil (h : wf S n) (hn : n < 512) (d r : Int) : wf (sp_fil S d r).2.2 (n + 1) := by
  unfold sp_fil iteC
  split <;> exact wf_up h hn
theorem wfs_dpt (h : wf S n) (hn : n < 512) (d r : Int) : wf (sp_dpt S d r).2.2 (n + 1) := by
  unfold sp_dpt iteC
  split <;> exact wf_up h hn
end WfSp
