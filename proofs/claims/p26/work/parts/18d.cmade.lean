/-! USAGES AND WORLDS WHERE SOMETHING IS NEW -/
theorem way_low {S S' : HdS} {n : Int} (hw : wf S n) (h : ∀ d, 0 ≤ d → d < S.1 11 0 → S'.1 0 d = S.1 0 d) : ∀ (k : Nat) (d : Int), -1 ≤ d → d < S.1 11 0 → wayN S' k d = wayN S k d := by
  intro k
  induction k with
  | zero => intro d _ _; rfl
  | succ k ih =>
    intro d h0 h1
    simp only [wayN]
    by_cases hd : d = -1
    · rw [if_pos hd, if_pos hd]
    · have hp := hw.par' (d := d) (by omega) h1
      rw [if_neg hd, if_neg hd, h d (by omega) h1, ih _ hp.1 (by omega)]
theorem usg_addDir {S : HdS} {n : Int} (hw : wf S n) (p q : Int) : usg (s_addDir S p q) = usg S := by
  have hnd := hw.nd
  have hnf := hw.nf
  have e1 : (s_addDir S p q).1 11 1 = S.1 11 1 := by simp [s_addDir, sset_1]
  have e3 : ∀ f : Int, (s_addDir S p q).1 3 f = S.1 3 f := fun f => by unfold s_addDir; rw [sset_off (by omega), sset_off (by omega), sset_off (by omega)]
  have e0 : ∀ d : Int, 0 ≤ d → d < S.1 11 0 → (s_addDir S p q).1 0 d = S.1 0 d := fun d _ h1 => by unfold s_addDir; rw [sset_off (by omega), sset_off (by omega), sset_ne (by omega)]
  funext e
  have key : ∀ k : Nat, (k : Int) ≤ S.1 11 1 → usgN (s_addDir S p q) e k = usgN S e k := by
    intro k
    induction k with
    | zero => intro _; rfl
    | succ k ih =>
      intro hk
      have e2 : (s_addDir S p q).2 (k : Int) = S.2 (k : Int) := rfl
      have e5 : homeS (s_addDir S p q) (k : Int) = homeS S (k : Int) := rfl
      simp only [usgN]
      rw [ih (by omega), e3, e2, e5]
      by_cases hs : S.2 (k : Int) = []
      · rw [if_neg (fun z => z.1 hs), if_neg (fun z => z.1 hs)]
      · have hh := hw.home (f := (k : Int)) (by omega) (by omega) hs
        have e6 : wayS (s_addDir S p q) (homeS S (k : Int)) = wayS S (homeS S (k : Int)) := way_low hw e0 13 _ (by omega) hh.2
        rw [e6]
  unfold usg
  rw [e1]
  exact key _ (by omega)
theorem usg_new0 {S : HdS} {n : Int} (hw : wf S n) : usg S (S.1 11 0) = 0 := by
  have hnf := hw.nf
  have key : ∀ k : Nat, (k : Int) ≤ S.1 11 1 → usgN S (S.1 11 0) k = 0 := by
    intro k
    induction k with
    | zero => intro _; rfl
    | succ k ih =>
      intro hk
      simp only [usgN]
      rw [ih (by omega), if_neg]
      · rfl
      · rintro ⟨h1, h2⟩
        have hh := hw.home (f := (k : Int)) (by omega) (by omega) h1
        have := hw.wayB (by omega) hh.2 _ h2
        omega
  exact key _ (by omega)
theorem usg_make {S : HdS} {n : Int} (hw : wf S n) (p d z : Int) : addU S (usg S) d z = usg (s_make S p d z) := by
  have hnf := hw.nf
  have e1 : (s_make S p d z).1 11 1 = S.1 11 1 + 1 := by simp [s_make, slks_1, sset_1]
  have eP : (s_make S p d z).1 0 = S.1 0 := funext fun i => by unfold s_make; rw [slks_1, sset_off (by omega), sset_off (by omega), sset_off (by omega), sset_off (by omega), sset_off (by omega), sset_off (by omega), sset_off (by omega)]
  have eL : ∀ j : Int, (s_make S p d z).2 j = if j = S.1 11 1 then [d] else S.2 j := fun j => by
    unfold s_make
    rw [slks_2]
    rfl
  have eN : (s_make S p d z).2 (S.1 11 1) = [d] := by rw [eL, if_pos rfl]
  have e3 : (s_make S p d z).1 3 (S.1 11 1) = z := by unfold s_make; rw [slks_1, sset_off (by omega), sset_off (by omega), sset_off (by omega), sset_off (by omega), sset_off (by omega), sset_at]
  have e3o : ∀ f : Int, f ≠ S.1 11 1 → (s_make S p d z).1 3 f = S.1 3 f := fun f hf => by unfold s_make; rw [slks_1, sset_off (by omega), sset_off (by omega), sset_off (by omega), sset_off (by omega), sset_off (by omega), sset_ne hf, sset_ne hf]
  funext e
  have key : ∀ k : Nat, (k : Int) ≤ S.1 11 1 → usgN (s_make S p d z) e k = usgN S e k := by
    intro k
    induction k with
    | zero => intro _; rfl
    | succ k ih =>
      intro hk
      have a1 : usgN (s_make S p d z) e (k + 1) = usgN (s_make S p d z) e k + usgP (s_make S p d z) e (k : Int) := rfl
      have a2 : usgN S e (k + 1) = usgN S e k + usgP S e (k : Int) := rfl
      rw [a1, a2, ih (by omega), usgP_eq eP (by rw [eL, if_neg (by omega)]) (e3o _ (by omega))]
  have h9 : usgN (s_make S p d z) e ((S.1 11 1).toNat + 1) = usgN (s_make S p d z) e (S.1 11 1).toNat + usgP (s_make S p d z) e (((S.1 11 1).toNat : Nat) : Int) := rfl
  have eh : homeS (s_make S p d z) (S.1 11 1) = d := by unfold homeS; rw [eN]; rfl
  have eu : usg (s_make S p d z) e = usgN S e (S.1 11 1).toNat + (if e ∈ wayS S d then z else 0) := by
    unfold usg
    rw [e1, show (S.1 11 1 + 1).toNat = (S.1 11 1).toNat + 1 by omega, h9, key _ (by omega), show (((S.1 11 1).toNat : Nat) : Int) = S.1 11 1 by omega, usgP_home (by rw [eN]; simp), eh, e3, way_0 eP]
  rw [eu, addU_at]
  show (if e ∈ wayS S d then usgN S e (S.1 11 1).toNat + z else usgN S e (S.1 11 1).toNat) = _
  split <;> omega
/-- what is new in w9 against w: a directory at q -/
def newDir (w w9 : CW) (q : Nat) (num : Int) (r : Option Nat) (quo : Int) : Prop := (∀ a, w9.1 a = if a = q then 2 else w.1 a) ∧ (∀ id a, a ≠ q → w9.2.1 id a = w.2.1 id a) ∧ (∀ id a, a ≠ q → w9.2.2.1 id a = w.2.2.1 id a) ∧ (∀ a, a ≠ q → w9.2.2.2 a = w.2.2.2 a) ∧ w9.2.1 20 q = num ∧ w9.2.2.1 21 q = r ∧ w9.2.1 22 q = quo ∧ w9.2.1 23 q = 0
theorem newDir_of (w : CW) (q : Nat) (num : Int) (r : Option Nat) (quo : Int) : newDir w (wF (wR (wF (wMk w q 2) 20 q num) 21 q r) 22 q quo) q num r quo := by
  have eF : ∀ id a, (wF (wR (wF (wMk w q 2) 20 q num) 21 q r) 22 q quo).2.1 id a = if id = 22 ∧ a = q then quo else if id = 20 ∧ a = q then num else if a = q then 0 else w.2.1 id a := fun id a => by
    rw [wF_F]
    show (if id = 22 ∧ a = q then quo else (wF (wMk w q 2) 20 q num).2.1 id a) = _
    rw [wF_F, wMk_F]
  have eR : ∀ id a, (wF (wR (wF (wMk w q 2) 20 q num) 21 q r) 22 q quo).2.2.1 id a = if id = 21 ∧ a = q then r else if a = q then none else w.2.2.1 id a := fun id a => by
    show (wR (wF (wMk w q 2) 20 q num) 21 q r).2.2.1 id a = _
    rw [wR_R]
    show (if id = 21 ∧ a = q then r else (wMk w q 2).2.2.1 id a) = _
    rw [wMk_R]
  refine ⟨fun a => rfl, fun id a h => ?_, fun id a h => ?_, fun a h => ?_, ?_, ?_, ?_, ?_⟩
  · rw [eF, if_neg (fun z => h z.2), if_neg (fun z => h z.2), if_neg h]
  · rw [eR, if_neg (fun z => h z.2), if_neg h]
  · show (wMk w q 2).2.2.2 a = _
    rw [wMk_L, if_neg h]
  · rw [eF, if_neg (by omega), if_pos ⟨rfl, rfl⟩]
  · rw [eR, if_pos ⟨rfl, rfl⟩]
  · rw [eF, if_pos ⟨rfl, rfl⟩]
  · rw [eF, if_neg (by omega), if_neg (by omega), if_pos rfl]
theorem newDir.agree {w w9 : CW} {q : Nat} {num quo : Int} {r : Option Nat} (h : newDir w w9 q num r quo) (hq : w.1 q = 0) : agreeC w w9 := fun a ha => by
  have hn : a ≠ q := fun e => ha (e ▸ hq)
  exact ⟨by rw [h.1, if_neg hn], fun id => h.2.1 id a hn, fun id => h.2.2.1 id a hn, h.2.2.2.1 a hn⟩
/-- .. a file at q, with its list at q2 -/
def newFile (w w9 : CW) (q q2 ow : Nat) (z u : Int) : Prop := (∀ a, w9.1 a = if a = q then 3 else if a = q2 then 5 else w.1 a) ∧ (∀ id a, a ≠ q → a ≠ q2 → w9.2.1 id a = w.2.1 id a) ∧ (∀ id a, a ≠ q → a ≠ q2 → w9.2.2.1 id a = w.2.2.1 id a) ∧ (∀ a, a ≠ q → a ≠ q2 → w9.2.2.2 a = w.2.2.2 a) ∧ w9.2.2.2 q2 = [] ∧ w9.2.2.1 30 q = some ow ∧ w9.2.2.1 31 q = some q2 ∧ w9.2.1 32 q = z ∧ w9.2.1 33 q = 0 ∧ w9.2.1 34 q = 0 ∧ w9.2.1 35 q = u
theorem newFile_of (w : CW) {q q2 ow : Nat} (hn : q2 ≠ q) (z u : Int) : newFile w (wF (wF (wR (wR (wMk (wMk w q 3) q2 5) 31 q (some q2)) 30 q (some ow)) 32 q z) 35 q u) q q2 ow z u := by
  have eF : ∀ id a, (wF (wF (wR (wR (wMk (wMk w q 3) q2 5) 31 q (some q2)) 30 q (some ow)) 32 q z) 35 q u).2.1 id a = if id = 35 ∧ a = q then u else if id = 32 ∧ a = q then z else if a = q2 then 0 else if a = q then 0 else w.2.1 id a := fun id a => by
    rw [wF_F, wF_F]
    show (if id = 35 ∧ a = q then u else if id = 32 ∧ a = q then z else (wMk (wMk w q 3) q2 5).2.1 id a) = _
    rw [wMk_F, wMk_F]
  have eR : ∀ id a, (wF (wF (wR (wR (wMk (wMk w q 3) q2 5) 31 q (some q2)) 30 q (some ow)) 32 q z) 35 q u).2.2.1 id a = if id = 30 ∧ a = q then some ow else if id = 31 ∧ a = q then some q2 else if a = q2 then none else if a = q then none else w.2.2.1 id a := fun id a => by
    show (wR (wR (wMk (wMk w q 3) q2 5) 31 q (some q2)) 30 q (some ow)).2.2.1 id a = _
    rw [wR_R, wR_R, wMk_R, wMk_R]
  refine ⟨fun a => ?_, fun id a h h2 => ?_, fun id a h h2 => ?_, fun a h h2 => ?_, ?_, ?_, ?_, ?_, ?_, ?_, ?_⟩
  · show (wMk (wMk w q 3) q2 5).1 a = _
    rw [wMk_K, wMk_K]
    by_cases h : a = q
    · rw [if_pos h, if_pos h, if_neg (fun e => hn (by rw [← e]; exact h))]
    · rw [if_neg h, if_neg h]
  · rw [eF, if_neg (fun z => h z.2), if_neg (fun z => h z.2), if_neg h2, if_neg h]
  · rw [eR, if_neg (fun z => h z.2), if_neg (fun z => h z.2), if_neg h2, if_neg h]
  · show (wMk (wMk w q 3) q2 5).2.2.2 a = _
    rw [wMk_L, if_neg h2, wMk_L, if_neg h]
  · show (wMk (wMk w q 3) q2 5).2.2.2 q2 = _
    rw [wMk_L, if_pos rfl]
  · rw [eR, if_pos ⟨rfl, rfl⟩]
  · rw [eR, if_neg (by omega), if_pos ⟨rfl, rfl⟩]
  · rw [eF, if_neg (by omega), if_pos ⟨rfl, rfl⟩]
  · rw [eF, if_neg (by omega), if_neg (by omega), if_neg (Ne.symm hn), if_pos rfl]
  · rw [eF, if_neg (by omega), if_neg (by omega), if_neg (Ne.symm hn), if_pos rfl]
  · rw [eF, if_pos ⟨rfl, rfl⟩]
theorem newFile.agree {w w9 : CW} {q q2 ow : Nat} {z u : Int} (h : newFile w w9 q q2 ow z u) (hq : w.1 q = 0) (hq2 : w.1 q2 = 0) (xs : List Nat) : agreeC w (wL w9 q2 xs) := fun a ha => by
  have hn : a ≠ q := fun e => ha (e ▸ hq)
  have hn2 : a ≠ q2 := fun e => ha (e ▸ hq2)
  refine ⟨?_, fun id => h.2.1 id a hn hn2, fun id => h.2.2.1 id a hn hn2, ?_⟩
  · show w9.1 a = _
    rw [h.1, if_neg hn, if_neg hn2]
  · rw [wL_L, if_neg hn2]
    exact h.2.2.2.1 a hn hn2
theorem agree_mk {w : CW} {q : Nat} (hq : w.1 q = 0) (k : Nat) : agreeC w (wMk w q k) := fun a ha => by
  have hn : a ≠ q := fun e => ha (e ▸ hq)
  exact ⟨by rw [wMk_K, if_neg hn], fun id => by rw [wMk_F, if_neg hn], fun id => by rw [wMk_R, if_neg hn], by rw [wMk_L, if_neg hn]⟩
theorem newFile.agree0 {w w9 : CW} {q q2 ow : Nat} {z u : Int} (h : newFile w w9 q q2 ow z u) (hq : w.1 q = 0) (hq2 : w.1 q2 = 0) : agreeC w w9 := fun a ha => by
  have hn : a ≠ q := fun e => ha (e ▸ hq)
  have hn2 : a ≠ q2 := fun e => ha (e ▸ hq2)
  exact ⟨by rw [h.1, if_neg hn, if_neg hn2], fun id => h.2.1 id a hn hn2, fun id => h.2.2.1 id a hn hn2, h.2.2.2.1 a hn hn2⟩
section Made
variable {S : HdS} {w w9 w11 : CW} {g : Nat → Int → Nat} {T : Nat → Nat × Int} {n : Int}
theorem RelC.dirMade (h : RelC S w g T (usg S)) (hw : wf S n) {p quo : Int} (hp0 : 0 ≤ p) (hp1 : p < S.1 11 0) {q : Nat} (hq : w.1 q = 0) (h9 : newDir w w9 q (S.1 11 0) (some (g 4 p)) quo) : RelC (s_addDir S p quo) (wL w9 (g 1 0) (w9.2.2.2 (g 1 0) ++ [q])) (upG g 4 (S.1 11 0) q) (upT T q 4 (S.1 11 0)) (usg (s_addDir S p quo)) := by
  rw [usg_addDir hw]
  have r1 : rngC S 1 0 := Or.inl ⟨by omega, rfl⟩
  refine h.growDir hw hp0 hp1 hq h9.1 h9.2.1 h9.2.2.1 (fun a ha => ?_) h9.2.2.2.2.1 h9.2.2.2.2.2.1 h9.2.2.2.2.2.2.1 ?_
  · rw [wL_L, h9.2.2.2.1 _ (h.nq hq r1), h9.2.2.2.1 a ha]
  · rw [usg_new0 hw]
    exact h9.2.2.2.2.2.2.2
theorem RelC.fileMade (h : RelC S w g T (usg S)) (hw : wf S n) {p d z : Int} (hd0 : 0 ≤ d) (hd1 : d < S.1 11 0) (hp0 : 0 ≤ p) (hp1 : p < 4) {q q2 : Nat} (hq : w.1 q = 0) (hq2 : w.1 q2 = 0) (hqq : q2 ≠ q) (h9 : newFile w w9 q q2 (g 7 p) z (S.1 11 2)) (hbt : but23 (wL w9 q2 [g 4 d]) w11) (hR : RelC S w11 g T (addU S (usg S) d z)) :
    RelC (s_make S p d z) (wL (wL w11 (g 8 p) (w11.2.2.2 (g 8 p) ++ [q])) (g 2 0) ((wL w11 (g 8 p) (w11.2.2.2 (g 8 p) ++ [q])).2.2.2 (g 2 0) ++ [q])) (upG (upG g 5 (S.1 11 1) q) 6 (S.1 11 1) q2) (upT (upT T q 5 (S.1 11 1)) q2 6 (S.1 11 1)) (usg (s_make S p d z)) := by
  obtain ⟨b1, b2, b3⟩ := hbt
  have bF : ∀ id a, id ≠ 23 → w11.2.1 id a = w9.2.1 id a := fun id a hi => b3 id a hi
  have bR : ∀ id a, w11.2.2.1 id a = w9.2.2.1 id a := fun id a => by rw [b2]; rfl
  have bL : ∀ a, w11.2.2.2 a = if a = q2 then [g 4 d] else w9.2.2.2 a := fun a => by rw [b2]; rfl
  obtain ⟨a1, a2, a3, a4, a5, a6, a7, a8, a9, a10, a11⟩ := h9
  have r2 : rngC S 2 0 := Or.inl ⟨by omega, rfl⟩
  have rp : rngC S 8 p := Or.inr (Or.inr (Or.inr ⟨Or.inr rfl, hp0, hp1⟩))
  have q28 := h.nq hq2 rp
  have q22 := h.nq hq2 r2
  refine h.growFile hw hd0 hd1 hp0 hp1 hq hq2 hqq (fun a => ?_) (fun id a h1 h2 h3 => ?_) (fun id a h1 h2 => ?_) (fun a h1 h2 => ?_) ?_ (fun e h1 h2 => ?_) ?_ ?_ ?_ ?_ ?_ ?_
  · show w11.1 a = _
    rw [b1]
    exact a1 a
  · show w11.2.1 id a = _
    rw [bF id a h3, a2 id a h1 h2]
  · show w11.2.2.1 id a = _
    rw [bR, a3 id a h1 h2]
  · rw [wL_L, wL_L, wL_L, if_neg (h.ne r2 rp (Or.inl (by omega))), bL, bL, bL, if_neg q22, if_neg q28, if_neg h2, a4 _ (h.nq hq r2) q22, a4 _ (h.nq hq rp) q28, a4 a h1 h2]
  · rw [wL_L, if_neg (Ne.symm q22), wL_L, if_neg (Ne.symm q28), bL, if_pos rfl]
  · show w11.2.1 23 (g 4 e) = _
    rw [← usg_make hw]
    exact (hR.d h1 h2).2.2.2
  · show w11.2.2.1 30 q = _
    rw [bR, a6]
  · show w11.2.2.1 31 q = _
    rw [bR, a7]
  · show w11.2.1 32 q = _
    rw [bF _ _ (by omega), a8]
  · show w11.2.1 33 q = _
    rw [bF _ _ (by omega), a9]
  · show w11.2.1 34 q = _
    rw [bF _ _ (by omega), a10]
  · show w11.2.1 35 q = _
    rw [bF _ _ (by omega), a11]
end Made
theorem spC_at {q : SR} {v : Int} {S' : HdS} {w9 : CW} {g : Nat → Int → Nat} {T : Nat → Nat × Int} {a0 : Nat} (h : q = (0, v, S')) (hR : RelC S' w9 g T (usg S')) (hg : g 0 0 = a0) : spC a0 q (iI v) w9 := by
  subst h
  exact ⟨rfl, rfl, g, T, hg, hR⟩
theorem df_1 : ∀ j, j < 2 → defaultValue (tyX0 j) = vp_V [.null, .int (iI 0)] j := fun j hj => by rcases (show j = 0 ∨ j = 1 by omega) with rfl | rfl <;> first | rfl | exact congrArg Value.int iI_0
theorem df_2 : ∀ j, j < 4 → defaultValue (tyX1 j) = vp_V [.int (iI 0), .null, .int (iI 0), .int (iI 0)] j := fun j hj => by rcases (show j = 0 ∨ j = 1 ∨ j = 2 ∨ j = 3 by omega) with rfl | rfl | rfl | rfl <;> first | rfl | exact congrArg Value.int iI_0
theorem df_3 : ∀ j, j < 6 → defaultValue (tyX2 j) = vp_V [.null, .null, .int (iI 0), .int (iI 0), .int (iI 0), .int (iI 0)] j := fun j hj => by rcases (show j = 0 ∨ j = 1 ∨ j = 2 ∨ j = 3 ∨ j = 4 ∨ j = 5 by omega) with rfl | rfl | rfl | rfl | rfl | rfl <;> first | rfl | exact congrArg Value.int iI_0
theorem df_4 : ∀ j, j < 4 → defaultValue (tyX3 j) = vp_V [.null, .null, .null, .int (iI 0)] j := fun j hj => by rcases (show j = 0 ∨ j = 1 ∨ j = 2 ∨ j = 3 by omega) with rfl | rfl | rfl | rfl <;> first | rfl | exact congrArg Value.int iI_0
