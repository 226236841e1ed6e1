/-! bits of the holders -/
theorem bit_0 : ∀ h : Nat, h < 32 → (iI (h : Int) >>> (iI 0 &&& 31)) &&& iI 1 = iI ((h : Int) % 2) := by decide +kernel
theorem bit_1 : ∀ h : Nat, h < 32 → (iI (h : Int) >>> (iI 1 &&& 31)) &&& iI 1 = iI ((h : Int) / 2 % 2) := by decide +kernel
theorem bit_2 : ∀ h : Nat, h < 32 → (iI (h : Int) >>> (iI 2 &&& 31)) &&& iI 1 = iI ((h : Int) / 4 % 2) := by decide +kernel
theorem bit_3 : ∀ h : Nat, h < 32 → (iI (h : Int) >>> (iI 3 &&& 31)) &&& iI 1 = iI ((h : Int) / 8 % 2) := by decide +kernel
theorem bit_4 : ∀ h : Nat, h < 32 → (iI (h : Int) >>> (iI 4 &&& 31)) &&& iI 1 = iI ((h : Int) / 16 % 2) := by decide +kernel
theorem bit_or0 : ∀ h : Nat, h < 32 → ∀ m : Nat, m < 5 → (iI (h : Int) ||| (iI 1 <<< (iI (m : Int) &&& 31)) = iI (hOr h m) ∧ 0 < hOr h m ∧ hOr h m < 32) := by decide +kernel
theorem bit_clr0 : ∀ h : Nat, h < 32 → ∀ m : Nat, m < 5 → (iI (h : Int) &&& ((iI 1 <<< (iI (m : Int) &&& 31)) ^^^ iI (-1)) = iI (hClr h m) ∧ 0 ≤ hClr h m ∧ hClr h m < 32) := by decide +kernel
theorem bit_or {h m : Int} (h0 : 0 ≤ h) (h1 : h < 32) (m0 : 0 ≤ m) (m1 : m ≤ 4) : iI h ||| (iI 1 <<< (iI m &&& 31)) = iI (hOr h m) ∧ 0 < hOr h m ∧ hOr h m < 32 := by
  have := bit_or0 h.toNat (by omega) m.toNat (by omega)
  rwa [Int.toNat_of_nonneg h0, Int.toNat_of_nonneg m0] at this
theorem bit_clr {h m : Int} (h0 : 0 ≤ h) (h1 : h < 32) (m0 : 0 ≤ m) (m1 : m ≤ 4) : iI h &&& ((iI 1 <<< (iI m &&& 31)) ^^^ iI (-1)) = iI (hClr h m) ∧ 0 ≤ hClr h m ∧ hClr h m < 32 := by
  have := bit_clr0 h.toNat (by omega) m.toNat (by omega)
  rwa [Int.toNat_of_nonneg h0, Int.toNat_of_nonneg m0] at this
section RM4
variable {S : HdS} {u : MS} {n : Int}
/-- a link more -/
theorem RelM.link (h : RelM S u) (hw : wf S n) {f d : Int} (h0 : 0 ≤ f) (h1 : f < S.1 11 1) (hlt : ((S.2 f).length : Int) < 12) : RelM (slks S f (S.2 f ++ [d])) (pokeF (pokeF u 4 (12 * f + ((S.2 f).length : Int)) d) 5 f (((S.2 f).length : Int) + 1)) := by
  have eU : ∀ (k : Nat) (j : Int), 0 ≤ j → (pokeF (pokeF u 4 (12 * f + ((S.2 f).length : Int)) d) 5 f (((S.2 f).length : Int) + 1)).1 k j.toNat = if k = 5 ∧ j = f then iI (((S.2 f).length : Int) + 1) else if k = 4 ∧ j = 12 * f + ((S.2 f).length : Int) then iI d else u.1 k j.toNat := fun k j hj => by
    rw [pokeF_1 _ 5 k h0 hj, pokeF_1 _ 4 k (by omega) hj]
  have hnf := hw.nf
  unfold RelM
  rw [slks_1]
  refine ⟨h.x0, h.x1, h.x2, fun k hk j h2 h3 => ?_, fun k hk j h2 h3 => ?_, fun j h2 h3 => ?_, fun j h2 h3 => ?_, fun j h2 h3 r hr => ?_, fun j h2 h3 => ?_⟩
  · rw [eU k j h2, if_neg (by omega), if_neg (by omega)]
    exact h.dir hk h2 h3
  · rw [eU k j h2, if_neg (by omega), if_neg (by omega)]
    exact h.fil hk h2 h3
  · rw [eU 10 j h2, if_neg (by omega), if_neg (by omega)]
    exact h.coi h2 h3
  · rw [eU 5 j h2, slks_2]
    by_cases hj : j = f
    · rw [if_pos ⟨rfl, hj⟩, if_pos hj, List.length_append]
      rfl
    · rw [if_neg (by omega), if_neg (by omega), if_neg hj]
      exact h.len h2 h3
  · rw [slks_2] at hr ⊢
    rw [eU 4 _ (by omega), if_neg (by omega)]
    by_cases hj : j = f
    · subst hj
      rw [if_pos rfl] at hr ⊢
      rw [List.length_append] at hr
      have hr2 : r < (S.2 j).length ∨ r = (S.2 j).length := by simp at hr; omega
      rcases hr2 with hr2 | hr2
      · rw [if_neg (by omega), h.lnk h2 h3 hr2, List.getD_eq_getElem?_getD, List.getD_eq_getElem?_getD, List.getElem?_append_left hr2]
      · subst hr2
        rw [if_pos ⟨rfl, rfl⟩, List.getD_eq_getElem?_getD, List.getElem?_append_right (Nat.le_refl _)]
        simp
    · rw [if_neg hj] at hr ⊢
      have hl := hw.len h2 h3
      have hnd := hw.nd
      rw [if_neg (by omega)]
      exact h.lnk h2 h3 hr
  · rw [eU 6 j (by omega), eU 7 j (by omega), if_neg (by omega), if_neg (by omega), if_neg (by omega), if_neg (by omega)]
    exact h.new h2 h3
/-- the links of the file f behind its place a, one place down, up to the place k -/
def shU (u : MS) (f a k : Int) : MS := (va_up u.1 4 (fun i => if 12 * f + a ≤ (i : Int) ∧ (i : Int) < 12 * f + k then u.1 4 (i + 1) else u.1 4 i), u.2)
theorem shU_0 (u : MS) (f a : Int) : shU u f a a = u := by
  unfold shU
  refine Prod.ext ?_ rfl
  funext k
  show va_up u.1 4 (fun i => if 12 * f + a ≤ (i : Int) ∧ (i : Int) < 12 * f + a then u.1 4 (i + 1) else u.1 4 i) k = u.1 k
  by_cases hk : k = 4
  · subst hk
    rw [va_up_self]
    funext i
    rw [if_neg (by omega)]
  · exact va_up_ne _ _ hk
theorem shU_1 (u : MS) (f a k : Int) {x v : Int} (hx : x = 12 * f + k) (hp : 0 ≤ x) (ha : a ≤ k) (hv : u.1 4 (x + 1).toNat = iI v) : pokeF (shU u f a k) 4 x v = shU u f a (k + 1) := by
  unfold pokeF shU
  refine Prod.ext ?_ rfl
  funext q
  show va_up (va_up u.1 4 _) 4 (upd (va_up u.1 4 (fun i => if 12 * f + a ≤ (i : Int) ∧ (i : Int) < 12 * f + k then u.1 4 (i + 1) else u.1 4 i) 4) x.toNat (iI v)) q = va_up u.1 4 (fun i => if 12 * f + a ≤ (i : Int) ∧ (i : Int) < 12 * f + (k + 1) then u.1 4 (i + 1) else u.1 4 i) q
  by_cases hq : q = 4
  · subst hq
    rw [va_up_self, va_up_self, va_up_self]
    funext i
    show (if i = x.toNat then iI v else (if 12 * f + a ≤ (i : Int) ∧ (i : Int) < 12 * f + k then u.1 4 (i + 1) else u.1 4 i)) = (if 12 * f + a ≤ (i : Int) ∧ (i : Int) < 12 * f + (k + 1) then u.1 4 (i + 1) else u.1 4 i)
    by_cases hi : i = x.toNat
    · have e : i + 1 = (x + 1).toNat := by omega
      rw [if_pos hi, if_pos (by omega), e, hv]
    · rw [if_neg hi]
      by_cases hb : 12 * f + a ≤ (i : Int) ∧ (i : Int) < 12 * f + k
      · rw [if_pos hb, if_pos (by omega)]
      · rw [if_neg hb, if_neg (by omega)]
  · rw [va_up_ne _ _ hq, va_up_ne _ _ hq, va_up_ne _ _ hq]
theorem shU_4 (u : MS) (f a k : Int) {j : Int} (hj : 0 ≤ j) : (shU u f a k).1 4 j.toNat = if 12 * f + a ≤ j ∧ j < 12 * f + k then u.1 4 (j + 1).toNat else u.1 4 j.toNat := by
  show va_up u.1 4 (fun i => if 12 * f + a ≤ (i : Int) ∧ (i : Int) < 12 * f + k then u.1 4 (i + 1) else u.1 4 i) 4 j.toNat = _
  rw [va_up_self]
  show (if 12 * f + a ≤ (j.toNat : Int) ∧ (j.toNat : Int) < 12 * f + k then u.1 4 (j.toNat + 1) else u.1 4 j.toNat) = _
  rw [Int.toNat_of_nonneg hj, show j.toNat + 1 = (j + 1).toNat by omega]
theorem shU_o (u : MS) (f a k : Int) {q : Nat} (hq : q ≠ 4) : (shU u f a k).1 q = u.1 q := va_up_ne _ _ hq
theorem RelM.unlink (h : RelM S u) (hw : wf S n) {f : Int} {a : Nat} (h0 : 0 ≤ f) (h1 : f < S.1 11 1) (ha : a < (S.2 f).length) : RelM (slks S f ((S.2 f).eraseIdx a)) (shU (pokeF u 5 f (((S.2 f).length : Int) - 1)) f a (((S.2 f).length : Int) - 1)) := by
  have hnf := hw.nf
  have hnd := hw.nd
  have hle : ((S.2 f).eraseIdx a).length = (S.2 f).length - 1 := List.length_eraseIdx_of_lt ha
  have eU : ∀ (k : Nat) (j : Int), k ≠ 4 → 0 ≤ j → (shU (pokeF u 5 f (((S.2 f).length : Int) - 1)) f a (((S.2 f).length : Int) - 1)).1 k j.toNat = if k = 5 ∧ j = f then iI (((S.2 f).length : Int) - 1) else u.1 k j.toNat := fun k j hk hj => by
    rw [shU_o _ _ _ _ hk, pokeF_1 _ 5 k h0 hj]
  unfold RelM
  rw [slks_1]
  refine ⟨h.x0, h.x1, h.x2, fun k hk j h2 h3 => ?_, fun k hk j h2 h3 => ?_, fun j h2 h3 => ?_, fun j h2 h3 => ?_, fun j h2 h3 r hr => ?_, fun j h2 h3 => ?_⟩
  · rw [eU k j (by omega) h2, if_neg (by omega)]
    exact h.dir hk h2 h3
  · rw [eU k j (by omega) h2, if_neg (by omega)]
    exact h.fil hk h2 h3
  · rw [eU 10 j (by omega) h2, if_neg (by omega)]
    exact h.coi h2 h3
  · rw [eU 5 j (by omega) h2, slks_2]
    by_cases hj : j = f
    · rw [if_pos ⟨rfl, hj⟩, if_pos hj, hle]
      congr 1
      omega
    · rw [if_neg (by omega), if_neg hj]
      exact h.len h2 h3
  · rw [slks_2] at hr ⊢
    have hl := hw.len h2 h3
    have hl2 := hw.len h0 h1
    have e5 : ∀ i : Int, 0 ≤ i → (pokeF u 5 f (((S.2 f).length : Int) - 1)).1 4 i.toNat = u.1 4 i.toNat := fun i hi => by rw [pokeF_1 _ 5 4 h0 hi, if_neg (by omega)]
    rw [shU_4 _ _ _ _ (by omega), e5 _ (by omega), e5 _ (by omega)]
    by_cases hj : j = f
    · subst hj
      rw [if_pos rfl] at hr ⊢
      rw [hle] at hr
      by_cases hra : r < a
      · rw [if_neg (by omega), h.lnk h2 h3 (by omega), List.getD_eq_getElem?_getD, List.getD_eq_getElem?_getD, List.getElem?_eraseIdx_of_lt hra]
      · rw [if_pos (by omega), show 12 * j + (r : Int) + 1 = 12 * j + ((r + 1 : Nat) : Int) by omega, h.lnk h2 h3 (show r + 1 < (S.2 j).length by omega), List.getD_eq_getElem?_getD, List.getD_eq_getElem?_getD, List.getElem?_eraseIdx_of_ge (by omega)]
    · rw [if_neg hj] at hr ⊢
      rw [if_neg (by omega)]
      exact h.lnk h2 h3 hr
  · rw [eU 6 j (by omega) (by omega), eU 7 j (by omega) (by omega), if_neg (by omega), if_neg (by omega)]
    exact h.new h2 h3
/-- the erased one, by its place -/
theorem erase_at : ∀ {l : List Int}, l.Nodup → ∀ {a : Nat}, a < l.length → ∀ {d : Int}, l.getD a 0 = d → l.erase d = l.eraseIdx a := by
  intro l
  induction l with
  | nil => intro _ a ha; exact absurd ha (Nat.not_lt_zero a)
  | cons x l ih =>
    intro hn a ha d hd
    obtain ⟨h1, h2⟩ := List.nodup_cons.mp hn
    cases a with
    | zero =>
      have hx : x = d := by simpa using hd
      subst hx
      rw [List.erase_cons_head, List.eraseIdx_cons_zero]
    | succ a =>
      have hd2 : l.getD a 0 = d := by simpa using hd
      have hl : a < l.length := by simpa using ha
      have hm : d ∈ l := by
        rw [← hd2, List.getD_eq_getElem?_getD, List.getElem?_eq_getElem hl]
        exact List.getElem_mem hl
      have hne : x ≠ d := fun e => h1 (e ▸ hm)
      rw [List.eraseIdx_cons_succ, List.erase_cons_tail (by simpa using hne), ih h2 hl hd2]
end RM4
theorem getD_mem {l : List Int} {x d : Int} (h0 : 0 ≤ x) (h1 : x < (l.length : Int)) (h : l.getD x.toNat 0 = d) : d ∈ l := by
  have hl : x.toNat < l.length := by omega
  rw [← h, List.getD_eq_getElem?_getD, List.getElem?_eq_getElem hl]
  exact List.getElem_mem hl
theorem wf.lenlt {S : HdS} {n : Int} (h : wf S n) {f : Int} (h1 : 0 ≤ f) (h2 : f < S.1 11 1) {d : Int} (d0 : 0 ≤ d) (d1 : d < S.1 11 0) (hd : d ∉ S.2 f) : ((S.2 f).length : Int) < 12 := by
  have hnd := h.nd
  have h3 := nod_len (S.1 11 0).toNat (d :: S.2 f) (List.nodup_cons.mpr ⟨hd, h.nod h1 h2⟩) (fun e he => by
    rcases List.mem_cons.mp he with q | q
    · omega
    · have := h.lks h1 h2 e q; omega)
  simp only [List.length_cons] at h3
  omega
theorem relN_0 (S : HdS) (m : Int) : relN S m 0 = S := by
  unfold relN
  refine Prod.ext ?_ rfl
  funext k i
  show (if k = 7 ∧ 0 ≤ i ∧ i < 0 then hClr (S.1 7 i) m else if k = 6 ∧ 0 ≤ i ∧ i < 0 ∧ hClr (S.1 7 i) m = 0 then 0 else S.1 k i) = S.1 k i
  rw [if_neg (by omega), if_neg (by omega)]
theorem relN_7 (S : HdS) (m : Int) (j : Int) : (relN S m j).1 7 j = S.1 7 j := by
  show (if 7 = 7 ∧ 0 ≤ j ∧ j < j then hClr (S.1 7 j) m else if 7 = 6 ∧ 0 ≤ j ∧ j < j ∧ hClr (S.1 7 j) m = 0 then 0 else S.1 7 j) = S.1 7 j
  rw [if_neg (by omega), if_neg (by omega)]
theorem relN_6 (S : HdS) (m : Int) (j : Int) : (relN S m j).1 6 j = S.1 6 j := by
  show (if 6 = 7 ∧ 0 ≤ j ∧ j < j then hClr (S.1 7 j) m else if 6 = 6 ∧ 0 ≤ j ∧ j < j ∧ hClr (S.1 7 j) m = 0 then 0 else S.1 6 j) = S.1 6 j
  rw [if_neg (by omega), if_neg (by omega)]
theorem relN_succ (S : HdS) (m : Int) (j : Nat) {v : Int} (hv : v = if hClr (S.1 7 j) m = 0 then 0 else S.1 6 j) : sset (sset (relN S m j) 7 j (hClr (S.1 7 j) m)) 6 j v = relN S m ((j + 1 : Nat) : Int) := by
  subst hv
  refine Prod.ext ?_ rfl
  funext k i
  rw [sset_1, sset_1]
  show _ = (if k = 7 ∧ 0 ≤ i ∧ i < ((j + 1 : Nat) : Int) then hClr (S.1 7 i) m else if k = 6 ∧ 0 ≤ i ∧ i < ((j + 1 : Nat) : Int) ∧ hClr (S.1 7 i) m = 0 then 0 else S.1 k i)
  have e : (relN S m j).1 k i = (if k = 7 ∧ 0 ≤ i ∧ i < (j : Int) then hClr (S.1 7 i) m else if k = 6 ∧ 0 ≤ i ∧ i < (j : Int) ∧ hClr (S.1 7 i) m = 0 then 0 else S.1 k i) := rfl
  rw [e]
  by_cases h6 : k = 6
  · subst h6
    by_cases hi : i = (j : Int)
    · subst hi
      rw [if_pos ⟨rfl, rfl⟩]
      by_cases hz : hClr (S.1 7 (j : Int)) m = 0
      · rw [if_pos hz, if_neg (by omega), if_pos ⟨rfl, by omega, by omega, hz⟩]
      · rw [if_neg hz, if_neg (by omega), if_neg (fun q => hz q.2.2.2)]
    · rw [if_neg (show ¬ ((6 : Nat) = 6 ∧ i = (j : Int)) by omega), if_neg (show ¬ ((6 : Nat) = 7 ∧ i = (j : Int)) by omega), if_neg (show ¬ ((6 : Nat) = 7 ∧ 0 ≤ i ∧ i < (j : Int)) by omega), if_neg (show ¬ ((6 : Nat) = 7 ∧ 0 ≤ i ∧ i < ((j + 1 : Nat) : Int)) by omega)]
      by_cases hb : 0 ≤ i ∧ i < (j : Int) ∧ hClr (S.1 7 i) m = 0
      · rw [if_pos ⟨rfl, hb⟩, if_pos ⟨rfl, hb.1, by omega, hb.2.2⟩]
      · rw [if_neg (fun q => hb q.2), if_neg (fun q => hb ⟨q.2.1, by omega, q.2.2.2⟩)]
  · rw [if_neg (by omega)]
    by_cases h7 : k = 7
    · subst h7
      by_cases hi : i = (j : Int)
      · subst hi
        rw [if_pos ⟨rfl, rfl⟩, if_pos ⟨rfl, by omega, by omega⟩]
      · rw [if_neg (by omega)]
        by_cases hb : 0 ≤ i ∧ i < (j : Int)
        · rw [if_pos ⟨rfl, hb⟩, if_pos ⟨rfl, hb.1, by omega⟩]
        · rw [if_neg (fun q => hb q.2), if_neg (by omega), if_neg (by omega), if_neg (by omega)]
    · rw [if_neg (by omega), if_neg (by omega), if_neg (by omega), if_neg (by omega), if_neg (by omega)]
