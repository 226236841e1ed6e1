/-! bits of the holders -/
theorem bit_0 : ∀ h : Nat, h < 32 → (iI (h : Int) >>> (iI 0 &&& 31)) &&& iI 1 = iI ((h : Int) % 2) := by decide +kernel
theorem bit_1 : ∀ h : Nat, h < 32 → (iI (h : Int) >>> (iI 1 &&& 31)) &&& iI 1 = iI ((h : Int) / 2 % 2) := by decide +kernel
theorem bit_2 : ∀ h : Nat, h < 32 → (iI (h : Int) >>> (iI 2 &&& 31)) &&& iI 1 = iI ((h : Int) / 4 % 2) := by decide +kernel
theorem bit_3 : ∀ h : Nat, h < 32 → (iI (h : Int) >>> (iI 3 &&& 31)) &&& iI 1 = iI ((h : Int) / 8 % 2) := by decide +kernel
theorem bit_4 : ∀ h : Nat, h < 32 → (iI (h : Int) >>> (iI 4 &&& 31)) &&& iI 1 = iI ((h : Int) / 16 % 2) := by decide +kernel
theorem bit_or0 : ∀ h : Nat, h < 32 → ∀ m : Nat, m < 5 → (iI (h : Int) ||| (iI 1 <<< (iI (m : Int) &&& 31)) = iI (hOr h m) ∧ 0 < hOr h m ∧ hOr h m < 32) := by decide +kernel
theorem bit_clr0 : ∀ h : Nat, h < 32 → ∀ m : Nat, m < 5 → (iI (h : Int) &&& ((iI 1 <<< (iI (m : Int) &&& 31)) ^^^ iI (-1)) = iI (hClr h m) ∧ 0 ≤ hClr h m ∧ hClr h m < 32) := by decide +kernel
theorem bit_or {h m : Int} (h0 : 0 ≤ h) (h1 : h < 32) (m0 : 0 ≤ m) (m1 : m ≤ 4) : iI h ||| (iI 1 <<< (iI m &&& 31)) = iI (hOr h m) ∧ 0 < hOr h m ∧ hOr h m < 32 := by
  have := bit_or0 h.toNat (by omega) m.toNat (by omega)
  rwa [Int.toNat_of_nonneg h0, Int.toNat_of_nonneg m0] at this
theorem bit_clr {h m : Int} (h0 : 0 ≤ h) (h1 : h < 32) (m0 : 0 ≤ m) (m1 : m ≤ 4) : iI h &&& ((iI 1 <<< (iI m &&& 31)) ^^^ iI (-1)) = iI (hClr h m) ∧ 0 ≤ hClr h m ∧ hClr h m < 32 := by
  have := bit_clr0 h.toNat (by omega) m.toNat (by omega)
  rwa [Int.toNat_of_nonneg h0, Int.toNat_of_nonneg m0] at this
section RM4
/-- the erased one, by its place -/
theorem erase_at : ∀ {l : List Int}, l.Nodup → ∀ {a : Nat}, a < l.length → ∀ {d : Int}, l.getD a 0 = d → l.erase d = l.eraseIdx a := by
  intro l
  induction l with
  | nil => intro _ a ha; exact absurd ha (Nat.not_lt_zero a)
  | cons x l ih =>
    intro hn a ha d hd
    obtain ⟨h1, h2⟩ := List.nodup_cons.mp hn
    cases a with
    | zero =>
      have hx : x = d := by simpa using hd
      subst hx
      rw [List.erase_cons_head, List.eraseIdx_cons_zero]
    | succ a =>
      have hd2 : l.getD a 0 = d := by simpa using hd
      have hl : a < l.length := by simpa using ha
      have hm : d ∈ l := by
        rw [← hd2, List.getD_eq_getElem?_getD, List.getElem?_eq_getElem hl]
        exact List.getElem_mem hl
      have hne : x ≠ d := fun e => h1 (e ▸ hm)
      rw [List.eraseIdx_cons_succ, List.erase_cons_tail (by simpa using hne), ih h2 hl hd2]
end RM4
theorem getD_mem {l : List Int} {x d : Int} (h0 : 0 ≤ x) (h1 : x < (l.length : Int)) (h : l.getD x.toNat 0 = d) : d ∈ l := by
  have hl : x.toNat < l.length := by omega
  rw [← h, List.getD_eq_getElem?_getD, List.getElem?_eq_getElem hl]
  exact List.getElem_mem hl
theorem wf.lenlt {S : HdS} {n : Int} (h : wf S n) {f : Int} (h1 : 0 ≤ f) (h2 : f < S.1 11 1) {d : Int} (d0 : 0 ≤ d) (d1 : d < S.1 11 0) (hd : d ∉ S.2 f) : ((S.2 f).length : Int) < 12 := by
  have hnd := h.nd
  have h3 := nod_len (S.1 11 0).toNat (d :: S.2 f) (List.nodup_cons.mpr ⟨hd, h.nod h1 h2⟩) (fun e he => by
    rcases List.mem_cons.mp he with q | q
    · omega
    · have := h.lks h1 h2 e q; omega)
  simp only [List.length_cons] at h3
  omega
theorem relN_0 (S : HdS) (m : Int) : relN S m 0 = S := by
  unfold relN
  refine Prod.ext ?_ rfl
  funext k i
  show (if k = 7 ∧ 0 ≤ i ∧ i < 0 then hClr (S.1 7 i) m else if k = 6 ∧ 0 ≤ i ∧ i < 0 ∧ hClr (S.1 7 i) m = 0 then 0 else S.1 k i) = S.1 k i
  rw [if_neg (by omega), if_neg (by omega)]
theorem relN_7 (S : HdS) (m : Int) (j : Int) : (relN S m j).1 7 j = S.1 7 j := by
  show (if 7 = 7 ∧ 0 ≤ j ∧ j < j then hClr (S.1 7 j) m else if 7 = 6 ∧ 0 ≤ j ∧ j < j ∧ hClr (S.1 7 j) m = 0 then 0 else S.1 7 j) = S.1 7 j
  rw [if_neg (by omega), if_neg (by omega)]
theorem relN_6 (S : HdS) (m : Int) (j : Int) : (relN S m j).1 6 j = S.1 6 j := by
  show (if 6 = 7 ∧ 0 ≤ j ∧ j < j then hClr (S.1 7 j) m else if 6 = 6 ∧ 0 ≤ j ∧ j < j ∧ hClr (S.1 7 j) m = 0 then 0 else S.1 6 j) = S.1 6 j
  rw [if_neg (by omega), if_neg (by omega)]
theorem relN_succ (S : HdS) (m : Int) (j : Nat) {v : Int} (hv : v = if hClr (S.1 7 j) m = 0 then 0 else S.1 6 j) : sset (sset (relN S m j) 7 j (hClr (S.1 7 j) m)) 6 j v = relN S m ((j + 1 : Nat) : Int) := by
  subst hv
  refine Prod.ext ?_ rfl
  funext k i
  rw [sset_1, sset_1]
  show _ = (if k = 7 ∧ 0 ≤ i ∧ i < ((j + 1 : Nat) : Int) then hClr (S.1 7 i) m else if k = 6 ∧ 0 ≤ i ∧ i < ((j + 1 : Nat) : Int) ∧ hClr (S.1 7 i) m = 0 then 0 else S.1 k i)
  have e : (relN S m j).1 k i = (if k = 7 ∧ 0 ≤ i ∧ i < (j : Int) then hClr (S.1 7 i) m else if k = 6 ∧ 0 ≤ i ∧ i < (j : Int) ∧ hClr (S.1 7 i) m = 0 then 0 else S.1 k i) := rfl
  rw [e]
  by_cases h6 : k = 6
  · subst h6
    by_cases hi : i = (j : Int)
    · subst hi
      rw [if_pos ⟨rfl, rfl⟩]
      by_cases hz : hClr (S.1 7 (j : Int)) m = 0
      · rw [if_pos hz, if_neg (by omega), if_pos ⟨rfl, by omega, by omega, hz⟩]
      · rw [if_neg hz, if_neg (by omega), if_neg (fun q => hz q.2.2.2)]
    · rw [if_neg (show ¬ ((6 : Nat) = 6 ∧ i = (j : Int)) by omega), if_neg (show ¬ ((6 : Nat) = 7 ∧ i = (j : Int)) by omega), if_neg (show ¬ ((6 : Nat) = 7 ∧ 0 ≤ i ∧ i < (j : Int)) by omega), if_neg (show ¬ ((6 : Nat) = 7 ∧ 0 ≤ i ∧ i < ((j + 1 : Nat) : Int)) by omega)]
      by_cases hb : 0 ≤ i ∧ i < (j : Int) ∧ hClr (S.1 7 i) m = 0
      · rw [if_pos ⟨rfl, hb⟩, if_pos ⟨rfl, hb.1, by omega, hb.2.2⟩]
      · rw [if_neg (fun q => hb q.2), if_neg (fun q => hb ⟨q.2.1, by omega, q.2.2.2⟩)]
  · rw [if_neg (by omega)]
    by_cases h7 : k = 7
    · subst h7
      by_cases hi : i = (j : Int)
      · subst hi
        rw [if_pos ⟨rfl, rfl⟩, if_pos ⟨rfl, by omega, by omega⟩]
      · rw [if_neg (by omega)]
        by_cases hb : 0 ≤ i ∧ i < (j : Int)
        · rw [if_pos ⟨rfl, hb⟩, if_pos ⟨rfl, hb.1, by omega⟩]
        · rw [if_neg (fun q => hb q.2), if_neg (by omega), if_neg (by omega), if_neg (by omega)]
    · rw [if_neg (by omega), if_neg (by omega), if_neg (by omega), if_neg (by omega), if_neg (by omega)]
