/-! MORE THINGS IN THE RELATION -/
def agreeC (w w' : CW) : Prop := ∀ a, w.1 a ≠ 0 → w'.1 a = w.1 a ∧ (∀ id, w'.2.1 id a = w.2.1 id a) ∧ (∀ id, w'.2.2.1 id a = w.2.2.1 id a) ∧ w'.2.2.2 a = w.2.2.2 a
def upG (g : Nat → Int → Nat) (k0 : Nat) (i0 : Int) (q : Nat) : Nat → Int → Nat := fun k i => if k = k0 ∧ i = i0 then q else g k i
def upT (T : Nat → Nat × Int) (q k0 : Nat) (i0 : Int) : Nat → Nat × Int := fun a => if a = q then (k0, i0) else T a
theorem upG_at (g : Nat → Int → Nat) (k0 : Nat) (i0 : Int) (q : Nat) : upG g k0 i0 q k0 i0 = q := if_pos ⟨rfl, rfl⟩
theorem upG_off {g : Nat → Int → Nat} {k0 k : Nat} {i0 i : Int} {q : Nat} (h : ¬ (k = k0 ∧ i = i0)) : upG g k0 i0 q k i = g k i := if_neg h
theorem upG_k {g : Nat → Int → Nat} {k0 k : Nat} {i0 : Int} {q : Nat} (h : k ≠ k0) : upG g k0 i0 q k = g k := funext fun _ => if_neg fun z => h z.1
theorem upT_at (T : Nat → Nat × Int) (q k0 : Nat) (i0 : Int) : upT T q k0 i0 q = (k0, i0) := if_pos rfl
theorem upT_off {T : Nat → Nat × Int} {q k0 a : Nat} {i0 : Int} (h : a ≠ q) : upT T q k0 i0 a = T a := if_neg h
theorem opA_up {g : Nat → Int → Nat} {i0 x : Int} {q : Nat} (h : x ≠ i0) : opA (upG g 4 i0 q) x = opA g x := by
  unfold opA
  split
  · rfl
  · rw [upG_off (fun z => h z.2)]
theorem opA_k {g : Nat → Int → Nat} {k0 : Nat} {i0 : Int} {q : Nat} (h : 4 ≠ k0) (x : Int) : opA (upG g k0 i0 q) x = opA g x := by
  unfold opA
  rw [upG_k h]
theorem map_up {g : Nat → Int → Nat} {k0 k : Nat} {i0 : Int} {q : Nat} {xs : List Int} (h : ∀ x ∈ xs, ¬ (k = k0 ∧ x = i0)) : xs.map (upG g k0 i0 q k) = xs.map (g k) := List.map_congr_left fun x hx => upG_off (h x hx)
theorem intsC_in : ∀ n : Nat, ∀ x ∈ intsC n, 0 ≤ x ∧ x < n := by
  intro n
  induction n with
  | zero => intro x hx; cases hx
  | succ n ih =>
    intro x hx
    simp only [intsC] at hx
    rcases List.mem_append.mp hx with h | h
    · have := ih x h; omega
    · have := List.mem_singleton.mp h; omega
theorem kdC_pos (k : Nat) : kdC k ≠ 0 := by unfold kdC; split <;> omega
section Grow
variable {S : HdS} {w w' : CW} {g : Nat → Int → Nat} {T : Nat → Nat × Int} {U U' : Int → Int} {n : Int}
theorem RelC.nz (h : RelC S w g T U) {k : Nat} {i : Int} (hr : rngC S k i) : w.1 (g k i) ≠ 0 := by
  rw [h.kd hr]
  exact kdC_pos k
theorem RelC.nq (h : RelC S w g T U) {q : Nat} (hq : w.1 q = 0) {k : Nat} {i : Int} (hr : rngC S k i) : g k i ≠ q := fun e => h.nz hr (by rw [e]; exact hq)
theorem RelC.keep (h : RelC S w g T U) (ha : agreeC w w') : RelC S w' g T U := by
  have hn : ∀ {k : Nat} {i : Int}, rngC S k i → _ := fun {k i} hr => ha _ (h.nz (k := k) (i := i) hr)
  refine ⟨fun k i hr => ⟨(h.1 k i hr).1, by rw [(hn hr).1]; exact h.kd hr⟩, ?_, ?_, fun d h0 h1 => ?_, fun f h0 h1 => ?_, fun q h0 h1 => ?_⟩
  · have a := hn (k := 0) (i := 0) (Or.inl ⟨by omega, rfl⟩)
    simp only [a.2.1, a.2.2.1]
    exact h.2.1
  · have a1 := hn (k := 1) (i := 0) (Or.inl ⟨by omega, rfl⟩)
    have a2 := hn (k := 2) (i := 0) (Or.inl ⟨by omega, rfl⟩)
    have a3 := hn (k := 3) (i := 0) (Or.inl ⟨by omega, rfl⟩)
    rw [a1.2.2.2, a2.2.2.2, a3.2.2.2]
    exact h.2.2.1
  · have a := hn (k := 4) (i := d) (Or.inr (Or.inl ⟨rfl, h0, h1⟩))
    simp only [a.2.1, a.2.2.1]
    exact h.d h0 h1
  · have a := hn (k := 5) (i := f) (Or.inr (Or.inr (Or.inl ⟨Or.inl rfl, h0, h1⟩)))
    have b := hn (k := 6) (i := f) (Or.inr (Or.inr (Or.inl ⟨Or.inr rfl, h0, h1⟩)))
    simp only [a.2.1, a.2.2.1, b.2.2.2]
    exact h.f h0 h1
  · have a := hn (k := 7) (i := q) (Or.inr (Or.inr (Or.inr ⟨Or.inl rfl, h0, h1⟩)))
    have b := hn (k := 8) (i := q) (Or.inr (Or.inr (Or.inr ⟨Or.inr rfl, h0, h1⟩)))
    simp only [a.2.1, a.2.2.1, b.2.2.2]
    exact h.p h0 h1
theorem RelC.growDir (h : RelC S w g T U) (hw : wf S n) {p quo : Int} (hp0 : 0 ≤ p) (hp1 : p < S.1 11 0) {q : Nat} (hq : w.1 q = 0) (hK : ∀ a, w'.1 a = if a = q then 2 else w.1 a) (hF : ∀ id a, a ≠ q → w'.2.1 id a = w.2.1 id a) (hRr : ∀ id a, a ≠ q → w'.2.2.1 id a = w.2.2.1 id a)
    (hL : ∀ a, a ≠ q → w'.2.2.2 a = if a = g 1 0 then w.2.2.2 (g 1 0) ++ [q] else w.2.2.2 a) (f20 : w'.2.1 20 q = S.1 11 0) (f21 : w'.2.2.1 21 q = some (g 4 p)) (f22 : w'.2.1 22 q = quo) (f23 : w'.2.1 23 q = U (S.1 11 0)) : RelC (s_addDir S p quo) w' (upG g 4 (S.1 11 0) q) (upT T q 4 (S.1 11 0)) U := by
  have hnd := hw.nd
  have hnf := hw.nf
  have e0 : (s_addDir S p quo).1 11 0 = S.1 11 0 + 1 := by simp [s_addDir, sset_1]
  have e1 : (s_addDir S p quo).1 11 1 = S.1 11 1 := by simp [s_addDir, sset_1]
  have e2 : (s_addDir S p quo).1 11 2 = S.1 11 2 := by simp [s_addDir, sset_1]
  have eM : ∀ (k : Nat) (j : Int), k < 11 → (s_addDir S p quo).1 k j = if k = 1 ∧ j = S.1 11 0 then quo else if k = 0 ∧ j = S.1 11 0 then p else S.1 k j := fun k j hk => by
    unfold s_addDir
    rw [sset_1, if_neg (by omega), sset_1, sset_1]
  have r0 : rngC S 0 0 := Or.inl ⟨by omega, rfl⟩
  have r1 : rngC S 1 0 := Or.inl ⟨by omega, rfl⟩
  have r2 : rngC S 2 0 := Or.inl ⟨by omega, rfl⟩
  have r3 : rngC S 3 0 := Or.inl ⟨by omega, rfl⟩
  have g0 : upG g 4 (S.1 11 0) q 0 = g 0 := upG_k (by omega)
  have g1 : upG g 4 (S.1 11 0) q 1 = g 1 := upG_k (by omega)
  have g2 : upG g 4 (S.1 11 0) q 2 = g 2 := upG_k (by omega)
  have g3 : upG g 4 (S.1 11 0) q 3 = g 3 := upG_k (by omega)
  have g5 : upG g 4 (S.1 11 0) q 5 = g 5 := upG_k (by omega)
  have g6 : upG g 4 (S.1 11 0) q 6 = g 6 := upG_k (by omega)
  have g7 : upG g 4 (S.1 11 0) q 7 = g 7 := upG_k (by omega)
  have g8 : upG g 4 (S.1 11 0) q 8 = g 8 := upG_k (by omega)
  refine ⟨fun k i hr => ?_, ⟨?_, ?_, ?_, ?_⟩, ⟨?_, ?_, ?_⟩, fun d h0 h1 => ?_, fun f h0 h1 => ?_, fun x h0 h1 => ?_⟩
  · by_cases hki : k = 4 ∧ i = S.1 11 0
    · obtain ⟨rfl, rfl⟩ := hki
      rw [upG_at, upT_at, hK, if_pos rfl]
      exact ⟨rfl, rfl⟩
    · have hr' : rngC S k i := by
        unfold rngC at hr ⊢
        rw [e0, e1] at hr
        omega
      rw [upG_off hki, upT_off (h.nq hq hr'), hK, if_neg (h.nq hq hr')]
      exact h.1 k i hr'
  · rw [g0, g1, hRr _ _ (h.nq hq r0)]; exact h.dirs
  · rw [g0, g2, hRr _ _ (h.nq hq r0)]; exact h.fils
  · rw [g0, g3, hRr _ _ (h.nq hq r0)]; exact h.deps
  · rw [g0, hF _ _ (h.nq hq r0), e2]; exact h.day
  · have e9 : (S.1 11 0 + 1).toNat = (S.1 11 0).toNat + 1 := by omega
    rw [g1, hL _ (h.nq hq r1), if_pos rfl, h.l1, e0, e9]
    simp only [intsC, List.map_append, List.map_cons, List.map_nil]
    rw [map_up (fun x hx z => by have := intsC_in _ x hx; omega), show (((S.1 11 0).toNat : Nat) : Int) = S.1 11 0 by omega, upG_at]
  · rw [g2, hL _ (h.nq hq r2), if_neg (h.ne r2 r1 (Or.inl (by omega))), g5, e1]; exact h.l2
  · rw [g3, hL _ (h.nq hq r3), if_neg (h.ne r3 r1 (Or.inl (by omega))), g7]; exact h.l3
  · rw [e0] at h1
    rw [eM 0 d (by omega), eM 1 d (by omega)]
    by_cases hd : d = S.1 11 0
    · subst hd
      rw [upG_at, if_neg (by omega), if_pos ⟨rfl, rfl⟩, if_pos ⟨rfl, rfl⟩, opA_up (by omega), opA_is (by omega)]
      exact ⟨f20, f21, f22, f23⟩
    · have hr : rngC S 4 d := Or.inr (Or.inl ⟨rfl, h0, by omega⟩)
      have hpa := hw.par' (d := d) h0 (by omega)
      rw [upG_off (fun z => hd z.2), if_neg (by omega), if_neg (fun z => hd z.2), if_neg (fun z => hd z.2), if_neg (by omega), opA_up (by omega), hF _ _ (h.nq hq hr), hF _ _ (h.nq hq hr), hF _ _ (h.nq hq hr), hRr _ _ (h.nq hq hr)]
      exact h.d h0 (by omega)
  · rw [e1] at h1
    have hr5 : rngC S 5 f := Or.inr (Or.inr (Or.inl ⟨Or.inl rfl, h0, h1⟩))
    have hr6 : rngC S 6 f := Or.inr (Or.inr (Or.inl ⟨Or.inr rfl, h0, h1⟩))
    have eo : ∀ k : Nat, 2 ≤ k → k < 11 → (s_addDir S p quo).1 k f = S.1 k f := fun k a b => by rw [eM k f b, if_neg (by omega), if_neg (by omega)]
    have eu : uoS (s_addDir S p quo) f = uoS S f := by unfold uoS; rw [eo 9 (by omega) (by omega), eo 8 (by omega) (by omega)]
    rw [g5, g6, g7, hF _ _ (h.nq hq hr5), hF _ _ (h.nq hq hr5), hF _ _ (h.nq hq hr5), hF _ _ (h.nq hq hr5), hRr _ _ (h.nq hq hr5), hRr _ _ (h.nq hq hr5), hL _ (h.nq hq hr6), if_neg (h.ne hr6 r1 (Or.inl (by omega))), eo 2 (by omega) (by omega), eo 3 (by omega) (by omega), eo 6 (by omega) (by omega), eo 7 (by omega) (by omega), eu, map_up (fun x hx z => by have := hw.lks h0 h1 x hx; omega)]
    exact h.f h0 h1
  · have hr7 : rngC S 7 x := Or.inr (Or.inr (Or.inr ⟨Or.inl rfl, h0, h1⟩))
    have hr8 : rngC S 8 x := Or.inr (Or.inr (Or.inr ⟨Or.inr rfl, h0, h1⟩))
    rw [g5, g7, g8, hRr _ _ (h.nq hq hr7), hF _ _ (h.nq hq hr7), hL _ (h.nq hq hr8), if_neg (h.ne hr8 r1 (Or.inl (by omega))), eM 10 x (by omega), if_neg (by omega), if_neg (by omega), e1, ownN_eq (S := S) (S' := s_addDir S p quo) _ (fun f _ _ => by rw [eM 2 f (by omega), if_neg (by omega), if_neg (by omega)])]
    exact h.p h0 h1
theorem RelC.growFile (h : RelC S w g T U) (hw : wf S n) {p d z : Int} (hd0 : 0 ≤ d) (hd1 : d < S.1 11 0) (hp0 : 0 ≤ p) (hp1 : p < 4) {q q2 : Nat} (hq : w.1 q = 0) (hq2 : w.1 q2 = 0) (hqq : q2 ≠ q) (hK : ∀ a, w'.1 a = if a = q then 3 else if a = q2 then 5 else w.1 a) (hF : ∀ id a, a ≠ q → a ≠ q2 → id ≠ 23 → w'.2.1 id a = w.2.1 id a) (hRr : ∀ id a, a ≠ q → a ≠ q2 → w'.2.2.1 id a = w.2.2.1 id a)
    (hL : ∀ a, a ≠ q → a ≠ q2 → w'.2.2.2 a = if a = g 2 0 then w.2.2.2 (g 2 0) ++ [q] else if a = g 8 p then w.2.2.2 (g 8 p) ++ [q] else w.2.2.2 a) (hL2 : w'.2.2.2 q2 = [g 4 d]) (f23 : ∀ e, 0 ≤ e → e < S.1 11 0 → w'.2.1 23 (g 4 e) = U' e) (f30 : w'.2.2.1 30 q = some (g 7 p)) (f31 : w'.2.2.1 31 q = some q2) (f32 : w'.2.1 32 q = z) (f33 : w'.2.1 33 q = 0) (f34 : w'.2.1 34 q = 0) (f35 : w'.2.1 35 q = S.1 11 2) :
    RelC (s_make S p d z) w' (upG (upG g 5 (S.1 11 1) q) 6 (S.1 11 1) q2) (upT (upT T q 5 (S.1 11 1)) q2 6 (S.1 11 1)) U' := by
  have hnd := hw.nd
  have hnf := hw.nf
  have e0 : (s_make S p d z).1 11 0 = S.1 11 0 := by simp [s_make, slks_1, sset_1]
  have e1 : (s_make S p d z).1 11 1 = S.1 11 1 + 1 := by simp [s_make, slks_1, sset_1]
  have e2 : (s_make S p d z).1 11 2 = S.1 11 2 := by simp [s_make, slks_1, sset_1]
  have eM : ∀ (k : Nat) (j : Int), k < 11 → (s_make S p d z).1 k j = if k = 9 ∧ j = S.1 11 1 then -1 else if k = 8 ∧ j = S.1 11 1 then S.1 11 2 else if k = 7 ∧ j = S.1 11 1 then 0 else if k = 6 ∧ j = S.1 11 1 then 0 else if k = 3 ∧ j = S.1 11 1 then z else if k = 2 ∧ j = S.1 11 1 then p else S.1 k j := fun k j hk => by
    unfold s_make
    rw [slks_1, sset_1, if_neg (by omega), sset_1, sset_1, sset_1, sset_1, sset_1, sset_1]
  have eO : ∀ (k : Nat) (j : Int), k < 11 → (k ∉ [2, 3, 6, 7, 8, 9] ∨ j ≠ S.1 11 1) → (s_make S p d z).1 k j = S.1 k j := fun k j hk hj => by
    simp only [List.mem_cons, List.not_mem_nil, or_false, not_or] at hj
    rw [eM k j hk, if_neg (by omega), if_neg (by omega), if_neg (by omega), if_neg (by omega), if_neg (by omega), if_neg (by omega)]
  have eL : ∀ j : Int, (s_make S p d z).2 j = if j = S.1 11 1 then [d] else S.2 j := fun j => by
    unfold s_make
    rw [slks_2]
    rfl
  have n5 : ∀ k : Nat, k ≠ 5 → k ≠ 6 → upG (upG g 5 (S.1 11 1) q) 6 (S.1 11 1) q2 k = g k := fun k a b => by rw [upG_k b, upG_k a]
  have g5N : upG (upG g 5 (S.1 11 1) q) 6 (S.1 11 1) q2 5 (S.1 11 1) = q := by rw [upG_k (by omega), upG_at]
  have g6N : upG (upG g 5 (S.1 11 1) q) 6 (S.1 11 1) q2 6 (S.1 11 1) = q2 := upG_at _ _ _ _
  have gO : ∀ (k : Nat) (j : Int), j ≠ S.1 11 1 → upG (upG g 5 (S.1 11 1) q) 6 (S.1 11 1) q2 k j = g k j := fun k j hj => by rw [upG_off (fun z => hj z.2), upG_off (fun z => hj z.2)]
  have m5 : ∀ {xs : List Int}, (∀ x ∈ xs, x < S.1 11 1) → xs.map (upG (upG g 5 (S.1 11 1) q) 6 (S.1 11 1) q2 5) = xs.map (g 5) := fun {xs} hx => List.map_congr_left fun x h9 => gO 5 x (by have := hx x h9; omega)
  have eA : ∀ x : Int, opA (upG (upG g 5 (S.1 11 1) q) 6 (S.1 11 1) q2) x = opA g x := fun x => by rw [opA_k (by omega), opA_k (by omega)]
  have nq := fun {k : Nat} {i : Int} (hr : rngC S k i) => h.nq hq hr
  have nq2 := fun {k : Nat} {i : Int} (hr : rngC S k i) => h.nq hq2 hr
  have r0 : rngC S 0 0 := Or.inl ⟨by omega, rfl⟩
  have r1 : rngC S 1 0 := Or.inl ⟨by omega, rfl⟩
  have r2 : rngC S 2 0 := Or.inl ⟨by omega, rfl⟩
  have r3 : rngC S 3 0 := Or.inl ⟨by omega, rfl⟩
  have rp : rngC S 8 p := Or.inr (Or.inr (Or.inr ⟨Or.inr rfl, hp0, hp1⟩))
  have e9 : (S.1 11 1 + 1).toNat = (S.1 11 1).toNat + 1 := by omega
  have e8 : (((S.1 11 1).toNat : Nat) : Int) = S.1 11 1 := by omega
  refine ⟨fun k i hr => ?_, ⟨?_, ?_, ?_, ?_⟩, ⟨?_, ?_, ?_⟩, fun c h0 h1 => ?_, fun f h0 h1 => ?_, fun x h0 h1 => ?_⟩
  · by_cases hi : i = S.1 11 1 ∧ (k = 5 ∨ k = 6)
    · obtain ⟨rfl, rfl | rfl⟩ := hi
      · rw [g5N, upT_off (Ne.symm hqq), upT_at, hK, if_pos rfl]
        exact ⟨rfl, rfl⟩
      · rw [g6N, upT_at, hK, if_neg hqq, if_pos rfl]
        exact ⟨rfl, rfl⟩
    · have hr' : rngC S k i := by
        unfold rngC at hr ⊢
        rw [e0, e1] at hr
        omega
      have hg : upG (upG g 5 (S.1 11 1) q) 6 (S.1 11 1) q2 k i = g k i := by rw [upG_off (by omega), upG_off (by omega)]
      rw [hg, upT_off (nq2 hr'), upT_off (nq hr'), hK, if_neg (nq hr'), if_neg (nq2 hr')]
      exact h.1 k i hr'
  · rw [n5 0 (by omega) (by omega), n5 1 (by omega) (by omega), hRr _ _ (nq r0) (nq2 r0)]; exact h.dirs
  · rw [n5 0 (by omega) (by omega), n5 2 (by omega) (by omega), hRr _ _ (nq r0) (nq2 r0)]; exact h.fils
  · rw [n5 0 (by omega) (by omega), n5 3 (by omega) (by omega), hRr _ _ (nq r0) (nq2 r0)]; exact h.deps
  · rw [n5 0 (by omega) (by omega), hF _ _ (nq r0) (nq2 r0) (by omega), e2]; exact h.day
  · rw [n5 1 (by omega) (by omega), n5 4 (by omega) (by omega), hL _ (nq r1) (nq2 r1), if_neg (h.ne r1 r2 (Or.inl (by omega))), if_neg (h.ne r1 rp (Or.inl (by omega))), e0]; exact h.l1
  · rw [n5 2 (by omega) (by omega), hL _ (nq r2) (nq2 r2), if_pos rfl, h.l2, e1, e9]
    simp only [intsC, List.map_append, List.map_cons, List.map_nil]
    rw [m5 (fun x hx => by have := intsC_in _ x hx; omega), e8, g5N]
  · rw [n5 3 (by omega) (by omega), n5 7 (by omega) (by omega), hL _ (nq r3) (nq2 r3), if_neg (h.ne r3 r2 (Or.inl (by omega))), if_neg (h.ne r3 rp (Or.inl (by omega)))]; exact h.l3
  · rw [e0] at h1
    have hr : rngC S 4 c := Or.inr (Or.inl ⟨rfl, h0, h1⟩)
    obtain ⟨a1, a2, a3, a4⟩ := h.d h0 h1
    rw [n5 4 (by omega) (by omega), eO 0 c (by omega) (Or.inl (by decide)), eO 1 c (by omega) (Or.inl (by decide)), eA, hF _ _ (nq hr) (nq2 hr) (by omega), hF _ _ (nq hr) (nq2 hr) (by omega), hRr _ _ (nq hr) (nq2 hr)]
    exact ⟨a1, a2, a3, f23 c h0 h1⟩
  · rw [e1] at h1
    rw [n5 7 (by omega) (by omega), n5 4 (by omega) (by omega)]
    by_cases hf : f = S.1 11 1
    · subst hf
      have u9 : uoS (s_make S p d z) (S.1 11 1) = S.1 11 2 := by
        have u1 : (s_make S p d z).1 9 (S.1 11 1) = -1 := by rw [eM 9 _ (by omega), if_pos ⟨rfl, rfl⟩]
        have u2 : (s_make S p d z).1 8 (S.1 11 1) = S.1 11 2 := by rw [eM 8 _ (by omega), if_neg (by omega), if_pos ⟨rfl, rfl⟩]
        unfold uoS
        rw [u1, if_pos rfl, u2]
      rw [g5N, g6N, eL, if_pos rfl, u9, hL2, f30, f31, f32, f33, f34, f35]
      refine ⟨?_, rfl, rfl, ?_, ?_, ?_, fun _ => rfl⟩
      · rw [eM 2 _ (by omega), if_neg (by omega), if_neg (by omega), if_neg (by omega), if_neg (by omega), if_neg (by omega), if_pos ⟨rfl, rfl⟩]
      · rw [eM 3 _ (by omega), if_neg (by omega), if_neg (by omega), if_neg (by omega), if_neg (by omega), if_pos ⟨rfl, rfl⟩]
      · rw [eM 7 _ (by omega), if_neg (by omega), if_neg (by omega), if_pos ⟨rfl, rfl⟩]
      · rw [eM 6 _ (by omega), if_neg (by omega), if_neg (by omega), if_neg (by omega), if_pos ⟨rfl, rfl⟩]
    · have hlt : f < S.1 11 1 := by omega
      have hr5 : rngC S 5 f := Or.inr (Or.inr (Or.inl ⟨Or.inl rfl, h0, hlt⟩))
      have hr6 : rngC S 6 f := Or.inr (Or.inr (Or.inl ⟨Or.inr rfl, h0, hlt⟩))
      have eu : uoS (s_make S p d z) f = uoS S f := by unfold uoS; rw [eO 9 f (by omega) (Or.inr hf), eO 8 f (by omega) (Or.inr hf)]
      rw [gO 5 f hf, gO 6 f hf, eL, if_neg hf, eu, eO 2 f (by omega) (Or.inr hf), eO 3 f (by omega) (Or.inr hf), eO 6 f (by omega) (Or.inr hf), eO 7 f (by omega) (Or.inr hf), hF _ _ (nq hr5) (nq2 hr5) (by omega), hF _ _ (nq hr5) (nq2 hr5) (by omega), hF _ _ (nq hr5) (nq2 hr5) (by omega), hF _ _ (nq hr5) (nq2 hr5) (by omega), hRr _ _ (nq hr5) (nq2 hr5), hRr _ _ (nq hr5) (nq2 hr5), hL _ (nq hr6) (nq2 hr6), if_neg (h.ne hr6 r2 (Or.inl (by omega))), if_neg (h.ne hr6 rp (Or.inl (by omega)))]
      exact h.f h0 hlt
  · have hr7 : rngC S 7 x := Or.inr (Or.inr (Or.inr ⟨Or.inl rfl, h0, h1⟩))
    have hr8 : rngC S 8 x := Or.inr (Or.inr (Or.inr ⟨Or.inr rfl, h0, h1⟩))
    obtain ⟨a1, a2, a3⟩ := h.p h0 h1
    rw [n5 7 (by omega) (by omega), n5 8 (by omega) (by omega), hRr _ _ (nq hr7) (nq2 hr7), hF _ _ (nq hr7) (nq2 hr7) (by omega), eO 10 x (by omega) (Or.inl (by decide)), hL _ (nq hr8) (nq2 hr8), if_neg (h.ne hr8 r2 (Or.inl (by omega))), e1, e9]
    refine ⟨a1, a2, ?_⟩
    have ew : ownN (s_make S p d z) x (S.1 11 1).toNat = ownN S x (S.1 11 1).toNat := ownN_eq _ (fun f k0 k1 => eO 2 f (by omega) (Or.inr (by omega)))
    have eN : (s_make S p d z).1 2 (S.1 11 1) = p := by rw [eM 2 _ (by omega), if_neg (by omega), if_neg (by omega), if_neg (by omega), if_neg (by omega), if_neg (by omega), if_pos ⟨rfl, rfl⟩]
    simp only [ownN]
    rw [ew, e8, eN, List.map_append, m5 (fun f hf => by have := ownN_in S x _ f hf; omega), ← a3]
    by_cases hx : p = x
    · subst hx
      rw [if_pos rfl, if_pos rfl]
      simp only [List.map_cons, List.map_nil]
      rw [g5N]
    · rw [if_neg hx, if_neg (h.ne hr8 rp (Or.inr (Ne.symm hx)))]
      simp
end Grow
