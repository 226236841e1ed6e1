theorem elsOk_set {ws : va_W} {cap k a : Nat} {arr : Nat → Option Nat} {x y : va_E} (h : elsOk ws cap arr) (hk : ws[k]? = some (a, x)) (hx : ∀ (ci : Nat) (fs : List Value), x = .inr (ci, fs) → ci = 0) : elsOk (ws.set k (a, y)) cap arr := fun i hi v hv => by
  obtain ⟨kb, ci, fs, h1, h2, h3⟩ := h i hi v hv
  refine ⟨kb, ci, fs, ?_, h2, h3⟩
  rw [List.getElem?_set_ne (fun e => ?_)]
  · exact h1
  · subst e
    rw [hk] at h1
    have := hx ci fs (by cases h1; rfl)
    omega
theorem elsOk_app {ws w2 : va_W} {cap : Nat} {arr : Nat → Option Nat} (h : elsOk ws cap arr) : elsOk (ws ++ w2) cap arr := fun i hi v hv => by
  obtain ⟨kb, ci, fs, h1, h2, h3⟩ := h i hi v hv
  exact ⟨kb, ci, fs, app_at h1, h2, h3⟩
theorem ne_cells {A : Nat → Prop} {ws : va_W} {k j a b : Nat} {x y : va_E} (hD : va_D A ws) (hk : ws[k]? = some (a, x)) (hj : ws[j]? = some (b, y)) (h : x ≠ y) : a ≠ b := fun e => by
  subst e
  have := hD.1 k j _ _ hk hj rfl
  subst this
  rw [hk] at hj
  exact h (by cases hj; rfl)
theorem set_last (ws : va_W) (x y : Nat × va_E) : (ws ++ [x]).set ws.length y = ws ++ [y] := by
  rw [List.set_append_right _ _ (Nat.le_refl _), Nat.sub_self]
  rfl
theorem aE.dz {D : va_G} {cO : ClassId} {d mi : Nat} {A : Nat → Prop} {s : State} {H : Heap} (h : aE D cO d mi A s H) : ¬ A d := by
  obtain ⟨f, cell, h1⟩ := h.2.2.2.1
  exact h1.2.2.2.2.2.2
theorem shr_1 {z : Int} (h0 : 0 ≤ z) (h1 : z ≤ 2147483647) : iI z >>> (iI 1 &&& 31) = iI (z / 2) := by
  have k := pk_shrN (n := z.toNat) (by omega) (iI 1 &&& 31) 1 (by decide)
  have e1 : nI z.toNat = iI z := by
    show Int32.ofNat z.toNat = _
    rw [iI_nat, Int.toNat_of_nonneg h0]
  have e2 : nI (z.toNat / 2 ^ 1) = iI (z / 2) := by
    show Int32.ofNat (z.toNat / 2 ^ 1) = _
    rw [iI_nat]
    congr 1
    omega
  rw [e1, e2] at k
  exact k
/-- a row of its own, longer than the one before, that holds the same -/
def grewTo (cO : ClassId) (ws w9 : va_W) (k l0 : Nat) (mo : Int32) (n : Int) (cap : Nat) (arr : Nat → Option Nat) (q : Nat) : Prop :=
  w9[k]? = some (l0, .inr (0, [.int mo, .ref q, .int (iI n)])) ∧ (∃ (jq capn : Nat) (arr' : Nat → Option Nat), w9[jq]? = some (q, aCell cO capn arr') ∧ cap < capn ∧ 2 ≤ capn ∧ capn ≤ 600 ∧ ∀ i : Nat, i < capn → arr' i = if i < cap then arr i else none) ∧ keepA l0 l0 ws w9 ∧ ∀ (j : Nat) (x : Nat × va_E), ws[j]? = some x → x.1 ≠ q
theorem up_app {xs : List Nat} {cap : Nat} {arr : Nat → Option Nat} {b : Nat} (h : ∀ i : Nat, i < cap → arr i = xs[i]?) : ∀ i : Nat, i < cap → va_up arr xs.length (some b) i = (xs ++ [b])[i]? := fun i hi => by
  by_cases e : i = xs.length
  · subst e
    rw [va_up_self]
    simp
  · rw [va_up_ne _ _ e, h i hi]
    by_cases h2 : i < xs.length
    · rw [List.getElem?_append_left h2]
    · rw [List.getElem?_eq_none (by omega), List.getElem?_eq_none (by simp; omega)]
theorem keepA.setF {l0 e0 k q : Nat} {w1 w2 : va_W} {x y : va_E} (h : keepA l0 e0 w1 w2) (hk : w2[k]? = some (q, x)) (hq : ∀ (j : Nat) (z : Nat × va_E), w1[j]? = some z → z.1 ≠ q) : keepA l0 e0 w1 (w2.set k (q, y)) := fun j z hz n1 n2 => set_off hk (h j z hz n1 n2) (hq j z hz)
theorem keepA.mono {l0 e0 : Nat} {w1 w2 : va_W} (h : keepA l0 l0 w1 w2) : keepA l0 e0 w1 w2 := fun j z hz n1 _ => h j z hz n1 n1
theorem cpy_all (arr : Nat → Option Nat) (cap : Nat) (i : Nat) : va_cpy arr (fun _ => none) 0 0 cap i = if i < cap then arr i else none := by
  unfold va_cpy
  by_cases h : i < cap
  · rw [if_pos ⟨Nat.zero_le _, by omega⟩, if_pos h]
    congr 1
    omega
  · rw [if_neg (by omega), if_neg h]
theorem up_grow {xs : List Nat} {cap capn : Nat} {arr arrn : Nat → Option Nat} {b : Nat} (h : ∀ i : Nat, i < cap → arr i = xs[i]?) (hx : xs.length = cap) (h2 : ∀ i : Nat, i < capn → arrn i = if i < cap then arr i else none) : ∀ i : Nat, i < capn → va_up arrn xs.length (some b) i = (xs ++ [b])[i]? := up_app (fun i hi => by
  rw [h2 i hi]
  by_cases hc : i < cap
  · rw [if_pos hc, h i hc]
  · rw [if_neg hc, List.getElem?_eq_none (by omega)])
theorem rm_mid {xs : List Nat} {cap r : Nat} {arr : Nat → Option Nat} (h : ∀ i : Nat, i < cap → arr i = xs[i]?) (hr : r + 1 < xs.length) (hc : xs.length ≤ cap) : ∀ i : Nat, i < cap → va_up (va_cpy arr arr (r + 1) r (xs.length - 1 - r)) (xs.length - 1) none i = (xs.eraseIdx r)[i]? := fun i hi => by
  by_cases e : i = xs.length - 1
  · subst e
    rw [va_up_self, List.getElem?_eq_none]
    rw [List.length_eraseIdx_of_lt (by omega)]
    exact Nat.le_refl _
  · rw [va_up_ne _ _ e]
    unfold va_cpy
    by_cases h2 : r ≤ i ∧ i < r + (xs.length - 1 - r)
    · rw [if_pos h2, h _ (by omega), List.getElem?_eraseIdx_of_ge h2.1]
      congr 1
      omega
    · rw [if_neg h2, h i hi]
      by_cases h3 : i < r
      · rw [List.getElem?_eraseIdx_of_lt h3]
      · rw [List.getElem?_eq_none (by omega), List.getElem?_eq_none]
        rw [List.length_eraseIdx_of_lt (by omega)]
        omega
theorem rm_end {xs : List Nat} {cap r : Nat} {arr : Nat → Option Nat} (h : ∀ i : Nat, i < cap → arr i = xs[i]?) (hr : r + 1 = xs.length) : ∀ i : Nat, i < cap → va_up arr (xs.length - 1) none i = (xs.eraseIdx r)[i]? := fun i hi => by
  by_cases e : i = xs.length - 1
  · subst e
    rw [va_up_self, List.getElem?_eq_none]
    rw [List.length_eraseIdx_of_lt (by omega)]
    exact Nat.le_refl _
  · rw [va_up_ne _ _ e, h i hi]
    by_cases h3 : i < r
    · rw [List.getElem?_eraseIdx_of_lt h3]
    · rw [List.getElem?_eq_none (by omega), List.getElem?_eq_none]
      rw [List.length_eraseIdx_of_lt (by omega)]
      omega
