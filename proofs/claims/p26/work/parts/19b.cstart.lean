/-! THE START -/
def stS0 : HdS := (fun k i => if k = 0 ∨ k = 1 then -1 else if k = 10 then 100 else if k = 11 ∧ i = 0 then 1 else 0, fun _ => [])
theorem st_d : stS0.1 11 0 = 1 := rfl
theorem st_f : stS0.1 11 1 = 0 := rfl
theorem st_t : stS0.1 11 2 = 0 := rfl
theorem st_u : usg stS0 = fun _ => 0 := rfl
theorem wf_0 : wf stS0 0 := by
  refine ⟨⟨by omega, by omega⟩, ⟨by rw [st_d]; omega, by rw [st_d]; omega⟩, ⟨by rw [st_f]; omega, by rw [st_f]; omega⟩, ⟨by rw [st_t]; omega, by rw [st_t]; omega⟩, rfl, fun d h1 h2 => ?_, fun d h1 h2 => ?_, fun p h1 h2 => ?_, fun f h1 h2 => ?_⟩
  · rw [st_d] at h2; omega
  · have e : stS0.1 1 d = -1 := rfl
    rw [e]; omega
  · have e : stS0.1 10 p = 100 := rfl
    rw [e]; omega
  · rw [st_f] at h2; omega
def rngI (j k : Nat) (i : Int) : Prop := (k ≤ 4 ∧ i = 0) ∨ ((k = 7 ∨ k = 8) ∧ 0 ≤ i ∧ i < (j : Int))
def RelI (j : Nat) (w : CW) (g : Nat → Int → Nat) (T : Nat → Nat × Int) : Prop :=
  (∀ k i, rngI j k i → T (g k i) = (k, i) ∧ w.1 (g k i) = kdC k) ∧
  (w.2.2.1 40 (g 0 0) = some (g 1 0) ∧ w.2.2.1 41 (g 0 0) = some (g 2 0) ∧ w.2.2.1 42 (g 0 0) = some (g 3 0) ∧ w.2.1 43 (g 0 0) = 0) ∧
  (w.2.2.2 (g 1 0) = [g 4 0] ∧ w.2.2.2 (g 2 0) = [] ∧ w.2.2.2 (g 3 0) = (intsC j).map (g 7)) ∧
  (w.2.1 20 (g 4 0) = 0 ∧ w.2.2.1 21 (g 4 0) = none ∧ w.2.1 22 (g 4 0) = -1 ∧ w.2.1 23 (g 4 0) = 0) ∧
  (∀ q : Int, 0 ≤ q → q < (j : Int) → w.2.2.1 10 (g 7 q) = some (g 8 q) ∧ w.2.1 11 (g 7 q) = 100 ∧ w.2.2.2 (g 8 q) = [])
theorem RelI.fin {w : CW} {g : Nat → Int → Nat} {T : Nat → Nat × Int} (h : RelI 4 w g T) : RelC stS0 w g T (usg stS0) := by
  obtain ⟨h1, h2, h3, h4, h5⟩ := h
  refine ⟨fun k i hr => h1 k i ?_, h2, ⟨?_, ?_, ?_⟩, fun d h0 h9 => ?_, fun f h0 h9 => ?_, fun q h0 h9 => ?_⟩
  · unfold rngC at hr
    rw [st_d, st_f] at hr
    unfold rngI
    omega
  · rw [h3.1]; rfl
  · rw [h3.2.1]; rfl
  · exact h3.2.2
  · rw [st_d] at h9
    have e : d = 0 := by omega
    subst e
    exact h4
  · rw [st_f] at h9; omega
  · exact h5 q h0 (by omega)
def newDep (w w9 : CW) (q o : Nat) : Prop := (∀ a, w9.1 a = if a = q then 1 else if a = o then 5 else w.1 a) ∧ (∀ id a, a ≠ q → a ≠ o → w9.2.1 id a = w.2.1 id a) ∧ (∀ id a, a ≠ q → a ≠ o → w9.2.2.1 id a = w.2.2.1 id a) ∧ (∀ a, a ≠ q → a ≠ o → w9.2.2.2 a = w.2.2.2 a) ∧ w9.2.2.2 o = [] ∧ w9.2.2.1 10 q = some o ∧ w9.2.1 11 q = 100
theorem newDep_of (w : CW) {q o : Nat} (hn : o ≠ q) : newDep w (wF (wR (wMk (wMk w q 1) o 5) 10 q (some o)) 11 q 100) q o := by
  have eF : ∀ id a, (wF (wR (wMk (wMk w q 1) o 5) 10 q (some o)) 11 q 100).2.1 id a = if id = 11 ∧ a = q then 100 else if a = o then 0 else if a = q then 0 else w.2.1 id a := fun id a => by
    rw [wF_F]
    show (if id = 11 ∧ a = q then 100 else (wMk (wMk w q 1) o 5).2.1 id a) = _
    rw [wMk_F, wMk_F]
  have eR : ∀ id a, (wF (wR (wMk (wMk w q 1) o 5) 10 q (some o)) 11 q 100).2.2.1 id a = if id = 10 ∧ a = q then some o else if a = o then none else if a = q then none else w.2.2.1 id a := fun id a => by
    show (wR (wMk (wMk w q 1) o 5) 10 q (some o)).2.2.1 id a = _
    rw [wR_R, wMk_R, wMk_R]
  refine ⟨fun a => ?_, fun id a h h2 => ?_, fun id a h h2 => ?_, fun a h h2 => ?_, ?_, ?_, ?_⟩
  · show (wMk (wMk w q 1) o 5).1 a = _
    rw [wMk_K, wMk_K]
    by_cases h : a = q
    · rw [if_pos h, if_pos h, if_neg (fun e => hn (by rw [← e]; exact h))]
    · rw [if_neg h, if_neg h]
  · rw [eF, if_neg (fun z => h z.2), if_neg h2, if_neg h]
  · rw [eR, if_neg (fun z => h z.2), if_neg h2, if_neg h]
  · show (wMk (wMk w q 1) o 5).2.2.2 a = _
    rw [wMk_L, if_neg h2, wMk_L, if_neg h]
  · show (wMk (wMk w q 1) o 5).2.2.2 o = _
    rw [wMk_L, if_pos rfl]
  · rw [eR, if_pos ⟨rfl, rfl⟩]
  · rw [eF, if_pos ⟨rfl, rfl⟩]
section RI
variable {j : Nat} {w w9 : CW} {g : Nat → Int → Nat} {T : Nat → Nat × Int}
theorem RelI.nz (h : RelI j w g T) {k : Nat} {i : Int} (hr : rngI j k i) : w.1 (g k i) ≠ 0 := by
  rw [(h.1 k i hr).2]
  exact kdC_pos k
theorem RelI.nq (h : RelI j w g T) {q : Nat} (hq : w.1 q = 0) {k : Nat} {i : Int} (hr : rngI j k i) : g k i ≠ q := fun e => h.nz hr (by rw [e]; exact hq)
theorem RelI.ne (h : RelI j w g T) {k k' : Nat} {i i' : Int} (hr : rngI j k i) (hr' : rngI j k' i') (hn : k ≠ k' ∨ i ≠ i') : g k i ≠ g k' i' := fun e => by
  have h1 := (h.1 k i hr).1
  rw [e, (h.1 k' i' hr').1] at h1
  cases h1
  rcases hn with q | q <;> exact q rfl
theorem rI_lo {j k : Nat} (h : k ≤ 4) : rngI j k 0 := Or.inl ⟨h, rfl⟩
theorem RelI.dep (h : RelI j w g T) {q o : Nat} (hq : w.1 q = 0) (ho : w.1 o = 0) (hqo : o ≠ q) (h9 : newDep w w9 q o) : RelI (j + 1) (wL w9 (g 3 0) (w9.2.2.2 (g 3 0) ++ [q])) (upG (upG g 7 j q) 8 j o) (upT (upT T q 7 j) o 8 j) := by
  obtain ⟨a1, a2, a3, a4, a5, a6, a7⟩ := h9
  have nq := fun {k : Nat} {i : Int} (hr : rngI j k i) => h.nq hq hr
  have no := fun {k : Nat} {i : Int} (hr : rngI j k i) => h.nq ho hr
  have n7 : ∀ k : Nat, k ≠ 7 → k ≠ 8 → upG (upG g 7 (j : Int) q) 8 (j : Int) o k = g k := fun k a b => by rw [upG_k b, upG_k a]
  have g7 : upG (upG g 7 (j : Int) q) 8 (j : Int) o 7 (j : Int) = q := by rw [upG_k (by omega), upG_at]
  have g8 : upG (upG g 7 (j : Int) q) 8 (j : Int) o 8 (j : Int) = o := upG_at _ _ _ _
  have gO : ∀ (k : Nat) (i : Int), i ≠ (j : Int) → upG (upG g 7 (j : Int) q) 8 (j : Int) o k i = g k i := fun k i hi => by rw [upG_off (fun z => hi z.2), upG_off (fun z => hi z.2)]
  have r0 := rI_lo (j := j) (k := 0) (by omega)
  have r1 := rI_lo (j := j) (k := 1) (by omega)
  have r2 := rI_lo (j := j) (k := 2) (by omega)
  have r3 := rI_lo (j := j) (k := 3) (by omega)
  have r4 := rI_lo (j := j) (k := 4) (by omega)
  obtain ⟨h1, ⟨b1, b2, b3, b4⟩, ⟨l1, l2, l3⟩, ⟨d1, d2, d3, d4⟩, h5⟩ := id h
  have fO : ∀ {k : Nat} {i : Int}, rngI j k i → ∀ id, (wL w9 (g 3 0) (w9.2.2.2 (g 3 0) ++ [q])).2.1 id (g k i) = w.2.1 id (g k i) := fun {k i} hr id => a2 id _ (nq hr) (no hr)
  have rO : ∀ {k : Nat} {i : Int}, rngI j k i → ∀ id, (wL w9 (g 3 0) (w9.2.2.2 (g 3 0) ++ [q])).2.2.1 id (g k i) = w.2.2.1 id (g k i) := fun {k i} hr id => a3 id _ (nq hr) (no hr)
  have lO : ∀ {k : Nat} {i : Int}, rngI j k i → k ≠ 3 → (wL w9 (g 3 0) (w9.2.2.2 (g 3 0) ++ [q])).2.2.2 (g k i) = w.2.2.2 (g k i) := fun {k i} hr hk => by
    rw [wL_L, if_neg (h.ne hr r3 (Or.inl hk))]
    exact a4 _ (nq hr) (no hr)
  refine ⟨fun k i hr => ?_, ⟨?_, ?_, ?_, ?_⟩, ⟨?_, ?_, ?_⟩, ⟨?_, ?_, ?_, ?_⟩, fun x h0 h9 => ?_⟩
  · by_cases hi : i = (j : Int) ∧ (k = 7 ∨ k = 8)
    · obtain ⟨rfl, rfl | rfl⟩ := hi
      · rw [g7, upT_off (Ne.symm hqo), upT_at]
        exact ⟨rfl, (a1 q).trans (if_pos rfl)⟩
      · rw [g8, upT_at]
        exact ⟨rfl, (a1 o).trans (by rw [if_neg hqo, if_pos rfl]; rfl)⟩
    · have hr' : rngI j k i := by unfold rngI at hr ⊢; omega
      have hg : upG (upG g 7 (j : Int) q) 8 (j : Int) o k i = g k i := by rw [upG_off (by omega), upG_off (by omega)]
      rw [hg, upT_off (no hr'), upT_off (nq hr')]
      refine ⟨(h1 k i hr').1, (a1 _).trans ?_⟩
      rw [if_neg (nq hr'), if_neg (no hr')]
      exact (h1 k i hr').2
  · rw [n7 0 (by omega) (by omega), n7 1 (by omega) (by omega), rO r0]; exact b1
  · rw [n7 0 (by omega) (by omega), n7 2 (by omega) (by omega), rO r0]; exact b2
  · rw [n7 0 (by omega) (by omega), n7 3 (by omega) (by omega), rO r0]; exact b3
  · rw [n7 0 (by omega) (by omega), fO r0]; exact b4
  · rw [n7 1 (by omega) (by omega), n7 4 (by omega) (by omega), lO r1 (by omega)]; exact l1
  · rw [n7 2 (by omega) (by omega), lO r2 (by omega)]; exact l2
  · rw [n7 3 (by omega) (by omega), wL_L, if_pos rfl, a4 _ (nq r3) (no r3), l3]
    simp only [intsC, List.map_append, List.map_cons, List.map_nil]
    rw [g7, List.map_congr_left fun x hx => (gO 7 x (by have := intsC_in _ x hx; omega)).symm]
  · rw [n7 4 (by omega) (by omega), fO r4]; exact d1
  · rw [n7 4 (by omega) (by omega), rO r4]; exact d2
  · rw [n7 4 (by omega) (by omega), fO r4]; exact d3
  · rw [n7 4 (by omega) (by omega), fO r4]; exact d4
  · by_cases hx : x = (j : Int)
    · subst hx
      rw [g7, g8]
      refine ⟨a6, a7, ?_⟩
      rw [wL_L, if_neg (Ne.symm (no r3))]
      exact a5
    · have hr7 : rngI j 7 x := Or.inr ⟨Or.inl rfl, h0, by omega⟩
      have hr8 : rngI j 8 x := Or.inr ⟨Or.inr rfl, h0, by omega⟩
      rw [gO 7 x hx, gO 8 x hx, rO hr7, fO hr7, lO hr8 (by omega)]
      exact h5 x h0 (by omega)
end RI
theorem mk_free {w : CW} {q k a : Nat} (hk : k ≠ 0) (h : (wMk w q k).1 a = 0) : a ≠ q ∧ w.1 a = 0 := by
  rw [wMk_K] at h
  by_cases e : a = q
  · rw [if_pos e] at h; exact absurd h hk
  · rw [if_neg e] at h; exact ⟨e, h⟩
def stG (b q1 q2 q3 qd : Nat) : Nat → Int → Nat := fun k _ => match k with
  | 0 => b
  | 1 => q1
  | 2 => q2
  | 3 => q3
  | _ => qd
def stT (b q1 q2 q3 : Nat) : Nat → Nat × Int := fun a => if a = b then (0, 0) else if a = q1 then (1, 0) else if a = q2 then (2, 0) else if a = q3 then (3, 0) else (4, 0)
theorem RelI.base {w : CW} {b q1 q2 q3 qd : Nat} (hb : w.1 b = 4) (hf : w.2.1 43 b = 0) (h1 : w.1 q1 = 0) (h2 : (wMk w q1 5).1 q2 = 0) (h3 : (wMk (wMk w q1 5) q2 5).1 q3 = 0) (hd : (wMk (wMk (wMk w q1 5) q2 5) q3 5).1 qd = 0) :
    RelI 0 (wL (wF (wR (wF (wMk (wR (wMk (wR (wMk (wR (wMk w q1 5) 40 b (some q1)) q2 5) 41 b (some q2)) q3 5) 42 b (some q3)) qd 2) 20 qd 0) 21 qd none) 22 qd (-1)) q1 [qd]) (stG b q1 q2 q3 qd) (stT b q1 q2 q3) := by
  have e1 : b ≠ q1 := fun e => by rw [e, h1] at hb; omega
  obtain ⟨f1, f2⟩ := mk_free (by omega) h2
  have e2 : b ≠ q2 := fun e => by rw [e, f2] at hb; omega
  obtain ⟨f3, f4⟩ := mk_free (by omega) h3
  obtain ⟨f5, f6⟩ := mk_free (by omega) f4
  have e3 : b ≠ q3 := fun e => by rw [e, f6] at hb; omega
  obtain ⟨f7, f8⟩ := mk_free (by omega) hd
  obtain ⟨f9, f10⟩ := mk_free (by omega) f8
  obtain ⟨f11, f12⟩ := mk_free (by omega) f10
  have e4 : b ≠ qd := fun e => by rw [e, f12] at hb; omega
  have K : ∀ a, (wL (wF (wR (wF (wMk (wR (wMk (wR (wMk (wR (wMk w q1 5) 40 b (some q1)) q2 5) 41 b (some q2)) q3 5) 42 b (some q3)) qd 2) 20 qd 0) 21 qd none) 22 qd (-1)) q1 [qd]).1 a = if a = qd then 2 else if a = q3 then 5 else if a = q2 then 5 else if a = q1 then 5 else w.1 a := fun a => rfl
  have L : ∀ a, (wL (wF (wR (wF (wMk (wR (wMk (wR (wMk (wR (wMk w q1 5) 40 b (some q1)) q2 5) 41 b (some q2)) q3 5) 42 b (some q3)) qd 2) 20 qd 0) 21 qd none) 22 qd (-1)) q1 [qd]).2.2.2 a = if a = q1 then [qd] else if a = qd then [] else if a = q3 then [] else if a = q2 then [] else if a = q1 then [] else w.2.2.2 a := fun a => rfl
  have F : ∀ id a, (wL (wF (wR (wF (wMk (wR (wMk (wR (wMk (wR (wMk w q1 5) 40 b (some q1)) q2 5) 41 b (some q2)) q3 5) 42 b (some q3)) qd 2) 20 qd 0) 21 qd none) 22 qd (-1)) q1 [qd]).2.1 id a = if id = 22 ∧ a = qd then -1 else if id = 20 ∧ a = qd then 0 else if a = qd then 0 else if a = q3 then 0 else if a = q2 then 0 else if a = q1 then 0 else w.2.1 id a := fun id a => by
    show (wF (wR (wF (wMk (wR (wMk (wR (wMk (wR (wMk w q1 5) 40 b (some q1)) q2 5) 41 b (some q2)) q3 5) 42 b (some q3)) qd 2) 20 qd 0) 21 qd none) 22 qd (-1)).2.1 id a = _
    rw [wF_F]
    show (if id = 22 ∧ a = qd then -1 else (wF (wMk (wR (wMk (wR (wMk (wR (wMk w q1 5) 40 b (some q1)) q2 5) 41 b (some q2)) q3 5) 42 b (some q3)) qd 2) 20 qd 0).2.1 id a) = _
    rw [wF_F]
    rfl
  have R : ∀ id a, (wL (wF (wR (wF (wMk (wR (wMk (wR (wMk (wR (wMk w q1 5) 40 b (some q1)) q2 5) 41 b (some q2)) q3 5) 42 b (some q3)) qd 2) 20 qd 0) 21 qd none) 22 qd (-1)) q1 [qd]).2.2.1 id a = if id = 21 ∧ a = qd then none else if a = qd then none else if id = 42 ∧ a = b then some q3 else if a = q3 then none else if id = 41 ∧ a = b then some q2 else if a = q2 then none else if id = 40 ∧ a = b then some q1 else if a = q1 then none else w.2.2.1 id a := fun id a => by
    show (wR (wF (wMk (wR (wMk (wR (wMk (wR (wMk w q1 5) 40 b (some q1)) q2 5) 41 b (some q2)) q3 5) 42 b (some q3)) qd 2) 20 qd 0) 21 qd none).2.2.1 id a = _
    rw [wR_R]
    show (if id = 21 ∧ a = qd then none else (wMk (wR (wMk (wR (wMk (wR (wMk w q1 5) 40 b (some q1)) q2 5) 41 b (some q2)) q3 5) 42 b (some q3)) qd 2).2.2.1 id a) = _
    rw [wMk_R, wR_R, wMk_R, wR_R, wMk_R, wR_R, wMk_R]
  refine ⟨fun k i hr => ?_, ⟨?_, ?_, ?_, ?_⟩, ⟨?_, ?_, ?_⟩, ⟨?_, ?_, ?_, ?_⟩, fun x h0 h9 => by omega⟩
  · have hk : k ≤ 4 ∧ i = 0 := by unfold rngI at hr; omega
    obtain ⟨hk, rfl⟩ := hk
    rw [K]
    match k, hk with
    | 0, _ => simp [stG, stT, kdC, e1, e2, e3, e4, hb]
    | 1, _ => simp [stG, stT, kdC, Ne.symm e1, Ne.symm f1, Ne.symm f5, Ne.symm f11]
    | 2, _ => simp [stG, stT, kdC, Ne.symm e2, f1, Ne.symm f3, Ne.symm f9]
    | 3, _ => simp [stG, stT, kdC, Ne.symm e3, f5, f3, Ne.symm f7]
    | 4, _ => simp [stG, stT, kdC, Ne.symm e4, f11, f9, f7]
  · rw [R]; simp [stG, e1, e2, e3, e4]
  · rw [R]; simp [stG, e1, e2, e3, e4]
  · rw [R]; simp [stG, e1, e2, e3, e4]
  · rw [F]; simp [stG, e1, e2, e3, e4, hf]
  · rw [L]; simp [stG]
  · rw [L]; simp [stG, f1]
  · rw [L]; simp [stG, f5, intsC]
  · rw [F]; simp [stG]
  · rw [R]; simp [stG]
  · rw [F]; simp [stG]
  · rw [F]; simp [stG]
