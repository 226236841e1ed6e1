/-! THE CELLS OF THE SYSTEM, BY ADDRESS: w.1 a: what lies there (1 a department, 2 a directory, 3 a file, 4 the server: places of vwCl; 5 a list); w.2.1 (10 k + i) a: its i-th field, a whole number; w.2.2.1 (10 k + i) a: .. a reference; w.2.2.2 a: the elements of a list -/
abbrev CW : Type := (Nat → Nat) × (Nat → Nat → Int) × (Nat → Nat → Option Nat) × (Nat → List Nat)
def cFs (w : CW) (a : Nat) : Nat → List Value := fun k => match k with
  | 1 => [va_rf (w.2.2.1 10 a), .int (iI (w.2.1 11 a))]
  | 2 => [.int (iI (w.2.1 20 a)), va_rf (w.2.2.1 21 a), .int (iI (w.2.1 22 a)), .int (iI (w.2.1 23 a))]
  | 3 => [va_rf (w.2.2.1 30 a), va_rf (w.2.2.1 31 a), .int (iI (w.2.1 32 a)), .int (iI (w.2.1 33 a)), .int (iI (w.2.1 34 a)), .int (iI (w.2.1 35 a))]
  | _ => [va_rf (w.2.2.1 40 a), va_rf (w.2.2.1 41 a), va_rf (w.2.2.1 42 a), .int (iI (w.2.1 43 a))]
def wF (w : CW) (id a : Nat) (v : Int) : CW := (w.1, va_up w.2.1 id (va_up (w.2.1 id) a v), w.2.2.1, w.2.2.2)
def wR (w : CW) (id a : Nat) (r : Option Nat) : CW := (w.1, w.2.1, va_up w.2.2.1 id (va_up (w.2.2.1 id) a r), w.2.2.2)
def wL (w : CW) (a : Nat) (xs : List Nat) : CW := (w.1, w.2.1, w.2.2.1, va_up w.2.2.2 a xs)
/-- a new thing at q -/
def wMk (w : CW) (q k : Nat) : CW := (va_up w.1 q k, fun id a => if a = q then 0 else w.2.1 id a, fun id a => if a = q then none else w.2.2.1 id a, va_up w.2.2.2 q [])
theorem wF_F (w : CW) (id a : Nat) (v : Int) (id' a' : Nat) : (wF w id a v).2.1 id' a' = if id' = id ∧ a' = a then v else w.2.1 id' a' := by
  unfold wF va_up
  by_cases h : id' = id
  · subst h; by_cases h2 : a' = a <;> simp [h2]
  · simp [h]
theorem wR_R (w : CW) (id a : Nat) (r : Option Nat) (id' a' : Nat) : (wR w id a r).2.2.1 id' a' = if id' = id ∧ a' = a then r else w.2.2.1 id' a' := by
  unfold wR va_up
  by_cases h : id' = id
  · subst h; by_cases h2 : a' = a <;> simp [h2]
  · simp [h]
theorem wL_L (w : CW) (a : Nat) (xs : List Nat) (a' : Nat) : (wL w a xs).2.2.2 a' = if a' = a then xs else w.2.2.2 a' := rfl
theorem wMk_K (w : CW) (q k a : Nat) : (wMk w q k).1 a = if a = q then k else w.1 a := rfl
theorem wMk_F (w : CW) (q k id a : Nat) : (wMk w q k).2.1 id a = if a = q then 0 else w.2.1 id a := rfl
theorem wMk_R (w : CW) (q k id a : Nat) : (wMk w q k).2.2.1 id a = if a = q then none else w.2.2.1 id a := rfl
theorem wMk_L (w : CW) (q k a : Nat) : (wMk w q k).2.2.2 a = if a = q then [] else w.2.2.2 a := rfl
/-- a list's cell, and the row behind it: dz, the empty row that all share, or one of its own -/
def lsAt (cO : ClassId) (dz : Nat) (ws : va_W) (l : Nat) (xs : List Nat) (e : Nat) : Prop :=
  ∃ (k : Nat) (m : Int32), ws[k]? = some (l, .inr (0, [.int m, .ref e, .int (iI (xs.length : Int))])) ∧
    ((xs = [] ∧ e = dz) ∨ (e ≠ dz ∧ ∃ (j cap : Nat) (arr : Nat → Option Nat), ws[j]? = some (e, .inl (cO, cap, .inr (.inr (.inr (.inr arr))))) ∧ xs.length ≤ cap ∧ 2 ≤ cap ∧ cap ≤ 600 ∧ ∀ i : Nat, i < cap → arr i = xs[i]?))
def cRep (cO : ClassId) (dz : Nat) (ws : va_W) (w : CW) : Prop :=
  (∀ a, w.1 a ≤ 5) ∧ (∀ l, w.1 l = 5 → ∀ b ∈ w.2.2.2 l, 1 ≤ w.1 b ∧ w.1 b ≤ 3) ∧ (∀ a, 1 ≤ w.1 a → w.1 a ≤ 4 → ∃ k : Nat, ws[k]? = some (a, .inr (w.1 a, cFs w a (w.1 a)))) ∧
  ∃ ed : Nat → Nat, (∀ a, w.1 a = 5 → lsAt cO dz ws a (w.2.2.2 a) (ed a)) ∧ (∀ a b, w.1 a = 5 → w.1 b = 5 → ed a = ed b → ed a ≠ dz → a = b) ∧ (∀ a, w.1 a = 5 → ed a ≠ dz → w.1 (ed a) = 0)
def cH (D : va_G) (cO : ClassId) (dz : Nat) (A : Nat → Prop) (w : CW) (H : Heap) : Prop := ∃ ws : va_W, va_P D vwCl ws H ∧ va_D A ws ∧ cRep cO dz ws w
theorem set_at {ws : va_W} {k : Nat} {x y : Nat × va_E} (h : ws[k]? = some x) : (ws.set k y)[k]? = some y := List.getElem?_set_self (List.getElem?_eq_some_iff.mp h).1
theorem set_off {ws : va_W} {k j : Nat} {x y z : Nat × va_E} (h : ws[k]? = some x) (hj : ws[j]? = some z) (hn : z.1 ≠ x.1) : (ws.set k y)[j]? = some z := by
  have hkj : k ≠ j := fun e => by
    subst e
    exact hn (by rw [h] at hj; rw [Option.some.inj hj])
  rw [List.getElem?_set_ne hkj]
  exact hj
theorem lsAt.off {cO : ClassId} {dz : Nat} {ws : va_W} {l e k a : Nat} {xs : List Nat} {x y : va_E} (h : lsAt cO dz ws l xs e) (hk : ws[k]? = some (a, x)) (h1 : a ≠ l) (h2 : e ≠ dz → a ≠ e) : lsAt cO dz (ws.set k (a, y)) l xs e := by
  obtain ⟨q, m, hq, hz⟩ := h
  refine ⟨q, m, set_off hk hq (Ne.symm h1), ?_⟩
  rcases hz with hz | ⟨hne, j, cap, arr, hj, hr⟩
  · exact Or.inl hz
  · exact Or.inr ⟨hne, j, cap, arr, set_off hk hj (Ne.symm (h2 hne)), hr⟩
theorem lsAt.app {cO : ClassId} {dz : Nat} {ws w2 : va_W} {l e : Nat} {xs : List Nat} (h : lsAt cO dz ws l xs e) : lsAt cO dz (ws ++ w2) l xs e := by
  have ap : ∀ {k : Nat} {z : Nat × va_E}, ws[k]? = some z → (ws ++ w2)[k]? = some z := fun {k z} hk => by
    rw [List.getElem?_append_left (List.getElem?_eq_some_iff.mp hk).1]; exact hk
  obtain ⟨q, m, hq, hz⟩ := h
  refine ⟨q, m, ap hq, ?_⟩
  rcases hz with hz | ⟨hne, j, cap, arr, hj, hr⟩
  · exact Or.inl hz
  · exact Or.inr ⟨hne, j, cap, arr, ap hj, hr⟩
/-- a field of a thing is written -/
theorem cRep.put {cO : ClassId} {dz : Nat} {ws : va_W} {w w' : CW} {a k : Nat} (h : cRep cO dz ws w) (h1 : 1 ≤ w.1 a) (h4 : w.1 a ≤ 4) (hk : ws[k]? = some (a, .inr (w.1 a, cFs w a (w.1 a)))) (eK : w'.1 = w.1) (eL : w'.2.2.2 = w.2.2.2) (eo : ∀ b, b ≠ a → ∀ q, cFs w' b q = cFs w b q) : cRep cO dz (ws.set k (a, .inr (w.1 a, cFs w' a (w.1 a)))) w' := by
  obtain ⟨h5, hE, hO, ed, hL, hI, hZ⟩ := h
  refine ⟨by rw [eK]; exact h5, by rw [eK, eL]; exact hE, fun b hb1 hb4 => ?_, ed, fun b hb => ?_, fun b c hb hc => ?_, fun b hb => ?_⟩
  · rw [eK] at hb1 hb4 ⊢
    by_cases hba : b = a
    · subst hba
      exact ⟨k, set_at hk⟩
    · obtain ⟨j, hj⟩ := hO b hb1 hb4
      exact ⟨j, by rw [eo b hba]; exact set_off hk hj hba⟩
  · rw [eK] at hb
    rw [eL]
    refine (hL b hb).off hk (fun e => by rw [e] at h4; omega) (fun hd e => ?_)
    have := hZ b hb hd
    rw [← e] at this
    omega
  · rw [eK] at hb hc; exact hI b c hb hc
  · rw [eK] at hb ⊢; exact hZ b hb
/-- a new thing, at an address that nothing has -/
theorem cRep.new {cO : ClassId} {dz : Nat} {ws : va_W} {w : CW} {q k : Nat} (h : cRep cO dz ws w) (hq : w.1 q = 0) (k1 : 1 ≤ k) (k4 : k ≤ 4) (hfree : ∀ (j : Nat) (x : Nat × va_E), ws[j]? = some x → x.1 ≠ q) : cRep cO dz (ws ++ [(q, .inr (k, cFs (wMk w q k) q k))]) (wMk w q k) := by
  have ap : ∀ {j : Nat} {z : Nat × va_E}, ws[j]? = some z → (ws ++ [(q, .inr (k, cFs (wMk w q k) q k))])[j]? = some z := fun {j z} hk => by
    rw [List.getElem?_append_left (List.getElem?_eq_some_iff.mp hk).1]; exact hk
  obtain ⟨h5, hE, hO, ed, hL, hI, hZ⟩ := h
  have hne : ∀ b, w.1 b ≠ 0 → b ≠ q := fun b hb e => hb (e ▸ hq)
  have hfs : ∀ b, b ≠ q → ∀ j, cFs (wMk w q k) b j = cFs w b j := fun b hb j => by
    unfold cFs
    split <;> simp [wMk_F, wMk_R, hb]
  have hEn : ∀ l, (wMk w q k).1 l = 5 → ∀ b ∈ (wMk w q k).2.2.2 l, 1 ≤ (wMk w q k).1 b ∧ (wMk w q k).1 b ≤ 3 := fun l hl b hb => by
    rw [wMk_K] at hl
    rw [wMk_L] at hb
    by_cases hlq : l = q
    · rw [if_pos hlq] at hb; cases hb
    · rw [if_neg hlq] at hl hb
      have h3 := hE l hl b hb
      rw [wMk_K, if_neg (hne b (by omega))]
      exact h3
  have h5n : ∀ a, (wMk w q k).1 a ≤ 5 := fun a => by
    rw [wMk_K]
    split
    · omega
    · exact h5 a
  refine ⟨h5n, hEn, fun b hb1 hb4 => ?_, ed, fun b hb => ?_, fun b c hb hc => ?_, fun b hb hd => ?_⟩
  · rw [wMk_K] at hb1 hb4 ⊢
    by_cases hbq : b = q
    · subst hbq
      rw [if_pos rfl]
      exact ⟨ws.length, by simp⟩
    · rw [if_neg hbq] at hb1 hb4 ⊢
      obtain ⟨j, hj⟩ := hO b hb1 hb4
      exact ⟨j, by rw [hfs b hbq]; exact ap hj⟩
  · rw [wMk_K] at hb
    by_cases hbq : b = q
    · rw [if_pos hbq] at hb; omega
    · rw [if_neg hbq] at hb
      rw [wMk_L, if_neg hbq]
      exact (hL b hb).app
  · rw [wMk_K] at hb hc
    by_cases hbq : b = q
    · rw [if_pos hbq] at hb; omega
    · by_cases hcq : c = q
      · rw [if_pos hcq] at hc; omega
      · rw [if_neg hbq] at hb
        rw [if_neg hcq] at hc
        exact hI b c hb hc
  · rw [wMk_K] at hb
    by_cases hbq : b = q
    · rw [if_pos hbq] at hb; omega
    · rw [if_neg hbq] at hb
      have h0 := hZ b hb hd
      rw [wMk_K, if_neg (fun e => ?_)]
      · exact h0
      · obtain ⟨j, m, hj, hz⟩ := hL b hb
        rcases hz with hz | ⟨-, j2, cap, arr, hj2, -⟩
        · exact hd hz.2
        · exact hfree j2 _ hj2 e
/-- a new list -/
theorem cRep.newL {cO : ClassId} {dz : Nat} {ws : va_W} {w : CW} {q : Nat} {m : Int32} (h : cRep cO dz ws w) (hq : w.1 q = 0) (hfree : ∀ (j : Nat) (x : Nat × va_E), ws[j]? = some x → x.1 ≠ q) : cRep cO dz (ws ++ [(q, .inr (0, [.int m, .ref dz, .int (iI 0)]))]) (wMk w q 5) := by
  have ap : ∀ {j : Nat} {z : Nat × va_E}, ws[j]? = some z → (ws ++ [(q, .inr (0, [.int m, .ref dz, .int (iI 0)]))])[j]? = some z := fun {j z} hk => by
    rw [List.getElem?_append_left (List.getElem?_eq_some_iff.mp hk).1]; exact hk
  obtain ⟨h5, hE, hO, ed, hL, hI, hZ⟩ := h
  have hfs : ∀ b, b ≠ q → ∀ j, cFs (wMk w q 5) b j = cFs w b j := fun b hb j => by
    unfold cFs
    split <;> simp [wMk_F, wMk_R, hb]
  have hne : ∀ b, w.1 b ≠ 0 → b ≠ q := fun b hb e => hb (e ▸ hq)
  have hEn : ∀ l, (wMk w q 5).1 l = 5 → ∀ b ∈ (wMk w q 5).2.2.2 l, 1 ≤ (wMk w q 5).1 b ∧ (wMk w q 5).1 b ≤ 3 := fun l hl b hb => by
    rw [wMk_K] at hl
    rw [wMk_L] at hb
    by_cases hlq : l = q
    · rw [if_pos hlq] at hb; cases hb
    · rw [if_neg hlq] at hl hb
      have h3 := hE l hl b hb
      rw [wMk_K, if_neg (hne b (by omega))]
      exact h3
  have h5n : ∀ a, (wMk w q 5).1 a ≤ 5 := fun a => by
    rw [wMk_K]
    split
    · omega
    · exact h5 a
  refine ⟨h5n, hEn, fun b hb1 hb4 => ?_, fun b => if b = q then dz else ed b, fun b hb => ?_, fun b c hb hc he hd => ?_, fun b hb hd => ?_⟩
  · rw [wMk_K] at hb1 hb4 ⊢
    by_cases hbq : b = q
    · rw [if_pos hbq] at hb4; omega
    · rw [if_neg hbq] at hb1 hb4 ⊢
      obtain ⟨j, hj⟩ := hO b hb1 hb4
      exact ⟨j, by rw [hfs b hbq]; exact ap hj⟩
  · show lsAt cO dz _ b _ (if b = q then dz else ed b)
    rw [wMk_K] at hb
    rw [wMk_L]
    by_cases hbq : b = q
    · subst hbq
      rw [if_pos rfl, if_pos rfl]
      exact ⟨ws.length, m, by simp, Or.inl ⟨rfl, rfl⟩⟩
    · rw [if_neg hbq] at hb
      rw [if_neg hbq, if_neg hbq]
      exact (hL b hb).app
  · have he : (if b = q then dz else ed b) = (if c = q then dz else ed c) := he
    have hd : (if b = q then dz else ed b) ≠ dz := hd
    rw [wMk_K] at hb hc
    by_cases hbq : b = q
    · rw [if_pos hbq] at hd; exact absurd rfl hd
    · rw [if_neg hbq] at hb hd he
      by_cases hcq : c = q
      · rw [if_pos hcq] at he; exact absurd he hd
      · rw [if_neg hcq] at hc he
        exact hI b c hb hc he hd
  · have hd : (if b = q then dz else ed b) ≠ dz := hd
    show (wMk w q 5).1 (if b = q then dz else ed b) = 0
    rw [wMk_K] at hb
    by_cases hbq : b = q
    · rw [if_pos hbq] at hd; exact absurd rfl hd
    · rw [if_neg hbq] at hb hd ⊢
      have h0 := hZ b hb hd
      rw [wMk_K, if_neg (fun e => ?_)]
      · exact h0
      · obtain ⟨j, m2, hj, hz⟩ := hL b hb
        rcases hz with hz | ⟨-, j2, cap, arr, hj2, -⟩
        · exact hd hz.2
        · exact hfree j2 _ hj2 e
/-- an address that no cell has holds nothing -/
theorem cRep.free {cO : ClassId} {dz : Nat} {ws : va_W} {w : CW} {q : Nat} (h : cRep cO dz ws w) (hfree : ∀ (j : Nat) (x : Nat × va_E), ws[j]? = some x → x.1 ≠ q) : w.1 q = 0 := by
  obtain ⟨h5, hE, hO, ed, hL, hI, hZ⟩ := h
  by_cases h1 : 1 ≤ w.1 q
  · by_cases h4 : w.1 q ≤ 4
    · obtain ⟨j, hj⟩ := hO q h1 h4
      exact absurd rfl (hfree j _ hj)
    · have := h5 q
      obtain ⟨j, m, hj, -⟩ := hL q (by omega)
      exact absurd rfl (hfree j _ hj)
  · omega
/-- a list is another one now -/
theorem cRep.list {cO : ClassId} {dz : Nat} {ws ws' : va_W} {w : CW} {l e' : Nat} {xs : List Nat} {ed : Nat → Nat} (h5 : ∀ a, w.1 a ≤ 5) (hE : ∀ l, w.1 l = 5 → ∀ b ∈ w.2.2.2 l, 1 ≤ w.1 b ∧ w.1 b ≤ 3) (hO : ∀ a, 1 ≤ w.1 a → w.1 a ≤ 4 → ∃ k : Nat, ws[k]? = some (a, .inr (w.1 a, cFs w a (w.1 a)))) (hL : ∀ a, w.1 a = 5 → lsAt cO dz ws a (w.2.2.2 a) (ed a)) (hI : ∀ a b, w.1 a = 5 → w.1 b = 5 → ed a = ed b → ed a ≠ dz → a = b) (hZ : ∀ a, w.1 a = 5 → ed a ≠ dz → w.1 (ed a) = 0)
    (hl : w.1 l = 5) (hx : ∀ b ∈ xs, 1 ≤ w.1 b ∧ w.1 b ≤ 3) (hkeep : ∀ (j : Nat) (x : Nat × va_E), ws[j]? = some x → x.1 ≠ l → (ed l ≠ dz → x.1 ≠ ed l) → ∃ j' : Nat, ws'[j']? = some x) (hls : lsAt cO dz ws' l xs e') (he : e' = ed l ∨ ∀ (j : Nat) (x : Nat × va_E), ws[j]? = some x → x.1 ≠ e') : cRep cO dz ws' (wL w l xs) := by
  have hz : e' ≠ dz → w.1 e' = 0 := fun hd => by
    rcases he with he | he
    · rw [he] at hd ⊢; exact hZ l hl hd
    · exact cRep.free (cO := cO) (dz := dz) ⟨h5, hE, hO, ed, hL, hI, hZ⟩ he
  have hat : ∀ b, w.1 b = 5 → ed b ≠ dz → ∃ (j : Nat) (y : va_E), ws[j]? = some (ed b, y) := fun b hb hd => by
    obtain ⟨j, m, hj, hr⟩ := hL b hb
    rcases hr with hr | ⟨-, j2, cap, arr, hj2, -⟩
    · exact absurd hr.2 hd
    · exact ⟨j2, _, hj2⟩
  have hdis : ∀ b, w.1 b = 5 → b ≠ l → ed b ≠ dz → e' ≠ ed b := fun b hb hbl hd e => by
    rcases he with he | he
    · exact hbl (hI b l hb hl (by rw [← e, he]) hd)
    · obtain ⟨j, y, hj⟩ := hat b hb hd
      exact he j _ hj e.symm
  refine ⟨h5, fun b hb x hxb => ?_, fun b hb1 hb4 => ?_, fun b => if b = l then e' else ed b, fun b hb => ?_, fun b c hb hc hbc hd => ?_, fun b hb hd => ?_⟩
  · rw [wL_L] at hxb
    by_cases hbl : b = l
    · rw [if_pos hbl] at hxb; exact hx x hxb
    · rw [if_neg hbl] at hxb; exact hE b hb x hxb
  · obtain ⟨j, hj⟩ := hO b hb1 hb4
    have hb1 : 1 ≤ w.1 b := hb1
    have hb4 : w.1 b ≤ 4 := hb4
    exact hkeep j _ hj (fun e => by have e : b = l := e; rw [e] at hb4; omega) (fun hd e => by have e : b = ed l := e; have := hZ l hl hd; rw [← e] at this; omega)
  · have hb : w.1 b = 5 := hb
    show lsAt cO dz _ b _ (if b = l then e' else ed b)
    rw [wL_L]
    by_cases hbl : b = l
    · rw [if_pos hbl, if_pos hbl, hbl]; exact hls
    · rw [if_neg hbl, if_neg hbl]
      obtain ⟨j, m, hj, hr⟩ := hL b hb
      obtain ⟨j', hj'⟩ := hkeep j _ hj hbl (fun hd e => by have e : b = ed l := e; have := hZ l hl hd; rw [← e] at this; omega)
      refine ⟨j', m, hj', ?_⟩
      rcases hr with hr | ⟨hne, j2, cap, arr, hj2, hr⟩
      · exact Or.inl hr
      · obtain ⟨j3, hj3⟩ := hkeep j2 _ hj2 (fun e => by have e : ed b = l := e; have := hZ b hb hne; rw [e] at this; omega) (fun hd e => hbl (hI b l hb hl e hne))
        exact Or.inr ⟨hne, j3, cap, arr, hj3, hr⟩
  · have hb : w.1 b = 5 := hb
    have hc : w.1 c = 5 := hc
    have hbc : (if b = l then e' else ed b) = (if c = l then e' else ed c) := hbc
    have hd : (if b = l then e' else ed b) ≠ dz := hd
    by_cases hbl : b = l
    · by_cases hcl : c = l
      · rw [hbl, hcl]
      · rw [if_pos hbl] at hbc hd
        rw [if_neg hcl] at hbc
        exact absurd hbc (hdis c hc hcl (by rw [← hbc]; exact hd))
    · by_cases hcl : c = l
      · rw [if_neg hbl] at hbc hd
        rw [if_pos hcl] at hbc
        exact absurd hbc.symm (hdis b hb hbl hd)
      · rw [if_neg hbl] at hbc hd
        rw [if_neg hcl] at hbc
        exact hI b c hb hc hbc hd
  · have hb : w.1 b = 5 := hb
    have hd : (if b = l then e' else ed b) ≠ dz := hd
    show w.1 (if b = l then e' else ed b) = 0
    by_cases hbl : b = l
    · rw [if_pos hbl] at hd ⊢; exact hz hd
    · rw [if_neg hbl] at hd ⊢; exact hZ b hb hd
