/-! P26: WHAT THE LAW'S OWN CHECKS REST ON -/
theorem iI_rem {a b : Int} (h0 : 0 ≤ a) (h1 : a ≤ 2147483647) (h2 : 0 < b) (h3 : b ≤ 2147483647) : iI a - iI a / iI b * iI b = iI (a % b) := by
  rw [iI_div h0 h1 h2 h3, iI_mul, iI_sub]
  have e := Int.emod_def a b
  rw [e, Int.mul_comm b]
theorem bt_test {x : Int32} {d : Int} (h0 : 0 ≤ d) (h1 : d < 32) : ((x >>> (iI d &&& 31)) &&& iI 1) = 0 ↔ bt x d.toNat = false := by
  have e : iI d = nI d.toNat := by
    have e1 : nI d.toNat = iI (d.toNat : Int) := iI_nat _
    rw [e1, Int.toNat_of_nonneg h0]
  rw [e]
  have h2 : d.toNat < 32 := by omega
  have b1 : ∀ i, i < 32 → bt (iI 1) i = decide (i = 0) := by decide +kernel
  constructor
  · intro h
    have h3 : bt ((x >>> (nI d.toNat &&& 31)) &&& iI 1) 0 = bt 0 0 := by rw [h]
    rw [b_and, b_sshr _ h2 _ (by omega), if_pos (by omega), b1 0 (by omega), b_0] at h3
    simpa using h3
  · intro h
    apply b_ext
    intro i hi
    rw [b_and, b1 i hi, b_0]
    by_cases hz : i = 0
    · subst hz
      rw [b_sshr _ h2 _ (by omega), if_pos (by omega), Nat.add_zero, h]
      rfl
    · simp [hz]
theorem bt_one {d : Int} (h0 : 0 ≤ d) (h1 : d < 32) {i : Nat} (hi : i < 32) : bt (iI 1 <<< (iI d &&& 31)) i = decide (i = d.toNat) := by
  have e : iI d = nI d.toNat := by
    have e1 : nI d.toNat = iI (d.toNat : Int) := iI_nat _
    rw [e1, Int.toNat_of_nonneg h0]
  rw [e]
  have h2 : d.toNat < 32 := by omega
  have b1 : ∀ i, i < 32 → bt (iI 1) i = decide (i = 0) := by decide +kernel
  rw [b_shl _ h2 _ hi, b1 _ (by omega)]
  by_cases hz : i = d.toNat
  · simp [hz]
  · by_cases hl : d.toNat ≤ i
    · have : ¬ i - d.toNat = 0 := by omega
      simp [hz, hl, this]
    · simp [hz, hl]
theorem bt_set {x : Int32} {d : Int} (h0 : 0 ≤ d) (h1 : d < 32) : bt (x ||| (iI 1 <<< (iI d &&& 31))) d.toNat = true := by
  rw [b_or, bt_one h0 h1 (by omega)]
  simp
theorem bt_or {x y : Int32} {i : Nat} (h : bt x i = true) : bt (x ||| y) i = true := by rw [b_or, h]; rfl
theorem bt_clr {x : Int32} {d h : Int} (h0 : 0 ≤ d) (h1 : d < 32) (k0 : 0 ≤ h) (k1 : h < 32) (hn : d ≠ h) (hx : bt x d.toNat = true) : bt (x &&& ((iI 1 <<< (iI h &&& 31)) ^^^ iI (-1))) d.toNat = true := by
  have e : ¬ d.toNat = h.toNat := by omega
  have m1 : ∀ i, i < 32 → bt (iI (-1)) i = true := by decide +kernel
  rw [b_and, b_xor, bt_one k0 k1 (by omega), m1 _ (by omega), hx]
  simp [e]
section P26
variable {S S' : HdS} {n : Int}
def sumN (S : HdS) : Nat → Int
  | 0 => 0
  | k + 1 => sumN S k + S.1 3 k
theorem way_root (h : wf S n) : ∀ (k : Nat) (d : Int), 0 ≤ d → d < k → d < S.1 11 0 → (0 : Int) ∈ wayS S d := by
  intro k
  induction k with
  | zero => intro d h0 h1 _; omega
  | succ k ih =>
    intro d h0 h1 h2
    rw [wayS_step h h0 h2]
    by_cases hd : d = 0
    · subst hd
      exact List.mem_cons_self
    · have hp := h.par (d := d) (by omega) h2
      exact List.mem_cons_of_mem _ (ih _ hp.1 (by omega) (by omega))
theorem way_self (h : wf S n) {d : Int} (h0 : 0 ≤ d) (h1 : d < S.1 11 0) : d ∈ wayS S d := by
  rw [wayS_step h h0 h1]
  exact List.mem_cons_self
theorem usgN_root (h : wf S n) : ∀ k : Nat, (k : Int) ≤ S.1 11 1 → usgN S 0 k = sumN S k := by
  intro k
  induction k with
  | zero => intro _; rfl
  | succ k ih =>
    intro hk
    rw [usgN_step, ih (by omega)]
    show _ = sumN S k + S.1 3 (k : Int)
    by_cases hl : S.2 (k : Int) = []
    · rw [if_neg (fun z => z.1 hl), h.siz0 (f := (k : Int)) (by omega) (by omega) hl]
    · have hh := h.home (f := (k : Int)) (by omega) (by omega) hl
      rw [if_pos ⟨hl, way_root h ((homeS S (k : Int)).toNat + 1) _ hh.1 (by omega) hh.2⟩]
theorem usgN_le (h : wf S n) (e : Int) : ∀ k : Nat, (k : Int) ≤ S.1 11 1 → usgN S e k ≤ sumN S k := by
  intro k
  induction k with
  | zero => intro _; exact Int.le_refl _
  | succ k ih =>
    intro hk
    have h1 := ih (by omega)
    have h2 := h.siz (f := (k : Int)) (by omega) (by omega)
    rw [usgN_step]
    show _ ≤ sumN S k + S.1 3 (k : Int)
    split <;> omega
theorem usg_root (h : wf S n) : usg S 0 = sumN S (S.1 11 1).toNat := usgN_root h _ (by have := h.nf; omega)
theorem usg_le (h : wf S n) (e : Int) : usg S e ≤ usg S 0 := by
  rw [usg_root h]
  exact usgN_le h e _ (by have := h.nf; omega)
theorem sumN_in (h : wf S n) : ∀ k : Nat, (k : Int) ≤ S.1 11 1 → 0 ≤ sumN S k ∧ sumN S k ≤ 1000 * k := by
  intro k
  induction k with
  | zero => intro _; exact ⟨Int.le_refl _, Int.le_refl _⟩
  | succ k ih =>
    intro hk
    have h1 := ih (by omega)
    have h2 := h.siz (f := (k : Int)) (by omega) (by omega)
    have e : sumN S (k + 1) = sumN S k + S.1 3 (k : Int) := rfl
    rw [e]
    omega
/-- gone, by home and by tier -/
theorem home_tier (h : wf S n) {f : Int} (h0 : 0 ≤ f) (h1 : f < S.1 11 1) : (homeS S f < 0 ∧ tierS S f < 0) ∨ (0 ≤ homeS S f ∧ 0 ≤ tierS S f) := by
  by_cases hl : S.2 f = []
  · left
    rw [home_nil hl, tier_gone hl]
    omega
  · right
    exact ⟨(h.home h0 h1 hl).1, tier_here hl⟩
theorem home_in (h : wf S n) {f : Int} (h0 : 0 ≤ f) (h1 : f < S.1 11 1) : -1 ≤ homeS S f ∧ homeS S f < 12 ∧ (0 ≤ homeS S f → S.2 f ≠ []) := by
  have hnd := h.nd
  by_cases hl : S.2 f = []
  · rw [home_nil hl]
    exact ⟨by omega, by omega, fun z => by omega⟩
  · have := h.home h0 h1 hl
    exact ⟨by omega, by omega, fun _ => hl⟩
/-- no quota below d is in the way of z -/
def freeTo (S : HdS) (z d : Int) : Prop := ∀ e : Int, 0 ≤ e → e < d → S.1 1 e < 0 ∨ usg S e + z ≤ S.1 1 e
noncomputable def freeV (S : HdS) (z d : Int) : Int := iteC (freeTo S z d) 1 0
theorem freeV_0 (S : HdS) (z : Int) : freeV S z 0 = 1 := iteC_pos (fun e h0 h1 => by omega)
theorem freeV_in (S : HdS) (z d : Int) : freeV S z d = 0 ∨ freeV S z d = 1 := by
  by_cases h : freeTo S z d
  · exact Or.inr (iteC_pos h)
  · exact Or.inl (iteC_neg h)
theorem freeV_iff {z d : Int} (h : ¬ freeV S z d = 0) : freeTo S z d := Classical.byContradiction fun q => h (iteC_neg q)
theorem freeV_z {z d : Int} (h : freeV S z d = 0) : freeV S z (d + 1) = 0 := by
  refine iteC_neg fun q => ?_
  have h1 : freeTo S z d := fun e h0 h1 => q e h0 (by omega)
  have h2 : freeV S z d = 1 := iteC_pos h1
  omega
theorem freeV_y {z d : Int} (h : ¬ freeV S z d = 0) (hq : S.1 1 d < 0 ∨ usg S d + z ≤ S.1 1 d) : freeV S z (d + 1) = 1 := by
  refine iteC_pos fun e h0 h1 => ?_
  by_cases he : e = d
  · rw [he]; exact hq
  · exact freeV_iff h e h0 (by omega)
theorem freeV_n {z d : Int} (hd : 0 ≤ d) (hq : ¬ S.1 1 d < 0) (hq2 : S.1 1 d < usg S d + z) : freeV S z (d + 1) = 0 := by
  refine iteC_neg fun q => ?_
  have := q d hd (by omega)
  omega
theorem grow_free (h : wf S n) {p d z : Int} (hf : freeTo S z (S.1 11 0)) (hd0 : 0 ≤ d) (hd1 : d < S.1 11 0) (hc : 0 < S.1 10 p) : canGrow S p d z := by
  refine ⟨hc, fun e he => ?_⟩
  have hb := h.wayB (d := d) (by omega) hd1 e he
  have hq := h.quo hb.1 hb.2
  have := hf e hb.1 hb.2
  omega
/-! what the calls answer, where nothing is refused -/
theorem sv_addDirectory {p q : Int} (p0 : 0 ≤ p) (p1 : p < S.1 11 0) (q0 : -1 ≤ q) (q1 : q ≤ 100000) (hn : ¬ S.1 11 0 = 12) : sp_addDirectory S p q = (0, S.1 11 0, s_addDir S p q) := by
  unfold sp_addDirectory
  rw [iteC_neg (fun z => z ⟨p0, p1⟩), iteC_neg (fun z => z ⟨q0, q1⟩), iteC_neg hn]
theorem sv_setQuota {d q : Int} (d0 : 0 ≤ d) (d1 : d < S.1 11 0) (q0 : -1 ≤ q) (q1 : q ≤ 100000) : sp_setQuota S d q = (0, S.1 1 d, sset S 1 d q) := by
  unfold sp_setQuota
  rw [iteC_neg (fun z => z ⟨d0, d1⟩), iteC_neg (fun z => z ⟨q0, q1⟩)]
theorem sv_make {p d z : Int} (p0 : 0 ≤ p) (p1 : p < 4) (d0 : 0 ≤ d) (d1 : d < S.1 11 0) (z0 : 1 ≤ z) (z1 : z ≤ 1000) (hn : S.1 11 1 < 30) (hg : canGrow S p d z) : sp_make S p d z = (0, S.1 11 1, s_make S p d z) := by
  unfold sp_make
  rw [iteC_neg (fun y => y.elim (fun y => y ⟨p0, p1⟩) (fun y => y ⟨d0, d1⟩)), iteC_neg (fun y => y ⟨z0, z1⟩), iteC_neg (fun y => y.elim (fun y => by omega) (fun y => y hg))]
theorem sv_link {f d : Int} (f0 : 0 ≤ f) (f1 : f < S.1 11 1) (d0 : 0 ≤ d) (d1 : d < S.1 11 0) (hne : S.2 f ≠ []) (hd : d ∉ S.2 f) : sp_link S f d = (0, ((S.2 f).length : Int) + 1, slks S f (S.2 f ++ [d])) := by
  unfold sp_link
  rw [iteC_neg (fun y => y.elim (fun y => y ⟨f0, f1⟩) (fun y => y ⟨d0, d1⟩)), iteC_neg (fun y => y.elim hne hd)]
theorem sv_unlink {f d : Int} (f0 : 0 ≤ f) (f1 : f < S.1 11 1) (d0 : 0 ≤ d) (d1 : d < S.1 11 0) (hd : d ∈ S.2 f) : sp_unlink S f d = (0, ((S.2 f).length : Int) - 1, s_unlink S f d) := by
  unfold sp_unlink
  rw [iteC_neg (fun y => y.elim (fun y => y ⟨f0, f1⟩) (fun y => y ⟨d0, d1⟩)), iteC_neg (fun y => y hd)]
theorem sv_write {f z : Int} (f0 : 0 ≤ f) (f1 : f < S.1 11 1) (z0 : 1 ≤ z) (z1 : z ≤ 1000) (hne : S.2 f ≠ []) (ht : ¬ tierS S f = 2) (hz : z ≤ S.1 3 f) : sp_write S f z = (0, keepT S f, s_write S f z) := by
  unfold sp_write
  rw [iteC_neg (fun y => y ⟨f0, f1⟩), iteC_neg (fun y => y ⟨z0, z1⟩), iteC_neg (fun y => y.elim hne ht), iteC_neg (fun y => by omega)]
theorem sv_read {f : Int} (f0 : 0 ≤ f) (f1 : f < S.1 11 1) (hne : S.2 f ≠ []) (ht : tierS S f < 2) : sp_read S f = (0, 0, sset S 8 f (S.1 11 2)) := by
  unfold sp_read
  rw [iteC_neg (fun y => y ⟨f0, f1⟩), iteC_neg hne, iteC_pos ht]
theorem sv_hold {m f : Int} (m0 : 0 ≤ m) (m1 : m ≤ 4) (f0 : 0 ≤ f) (f1 : f < S.1 11 1) (hne : S.2 f ≠ []) : sp_hold S m f = (0, hCnt (hOr (S.1 7 f) m), sset S 7 f (hOr (S.1 7 f) m)) := by
  unfold sp_hold
  rw [iteC_neg (fun y => y.elim (fun y => y ⟨m0, m1⟩) (fun y => y ⟨f0, f1⟩)), iteC_neg hne]
theorem sv_release {m : Int} (m0 : 0 ≤ m) (m1 : m ≤ 4) : sp_release S m = (0, dropN S m (S.1 11 1).toNat, relN S m (S.1 11 1)) := by
  unfold sp_release
  rw [iteC_neg (fun y => y ⟨m0, m1⟩)]
theorem sv_fund {p c : Int} (p0 : 0 ≤ p) (p1 : p < 4) (c0 : 1 ≤ c) (c1 : c ≤ 10000) (hm : S.1 10 p + c ≤ 1000000) : sp_fund S p c = (0, S.1 10 p + c, sset S 10 p (S.1 10 p + c)) := by
  unfold sp_fund
  rw [iteC_neg (fun y => y ⟨p0, p1⟩), iteC_neg (fun y => y ⟨c0, c1⟩), iteC_neg (fun y => by omega)]
theorem sv_pass {k : Int} (k0 : 1 ≤ k) (k1 : k ≤ 100) (hd : S.1 11 2 + k ≤ 10000) : sp_pass S k = (0, (passN S k.toNat).2, (passN S k.toNat).1) := by
  unfold sp_pass
  rw [iteC_neg (fun y => y ⟨k0, k1⟩), iteC_neg (fun y => by omega)]
/-! the coins of all departments -/
def coinsS (S : HdS) : Int := S.1 10 0 + S.1 10 1 + S.1 10 2 + S.1 10 3
theorem coins_in (h : wf S n) : 0 ≤ coinsS S ∧ coinsS S ≤ 4000000 := by
  have h0 := h.coi (d := 0) (by omega) (by omega)
  have h1 := h.coi (d := 1) (by omega) (by omega)
  have h2 := h.coi (d := 2) (by omega) (by omega)
  have h3 := h.coi (d := 3) (by omega) (by omega)
  unfold coinsS
  omega
theorem coins_dayS (S : HdS) : coinsS (dayS S) + paidN S 4 = coinsS S := by
  have e : ∀ i : Int, (dayS S).1 10 i = (payN S 4).1 10 i := fun i => dueN_off (payN S 4) (S.1 11 1) (by omega) (by omega) (Or.inl (by omega))
  have e2 : ∀ i : Int, 0 ≤ i → i < 4 → (payN S 4).1 10 i = S.1 10 i - payS S i := fun i h0 h1 => by rw [payN_1, if_pos ⟨rfl, h0, h1⟩]
  have e3 : paidN S 4 = 0 + payS S ((0 : Nat) : Int) + payS S ((1 : Nat) : Int) + payS S ((2 : Nat) : Int) + payS S ((3 : Nat) : Int) := rfl
  unfold coinsS
  rw [e, e, e, e, e2 0 (by omega) (by omega), e2 1 (by omega) (by omega), e2 2 (by omega) (by omega), e2 3 (by omega) (by omega), e3]
  show _ = _
  have f0 : payS S ((0 : Nat) : Int) = payS S 0 := rfl
  have f1 : payS S ((1 : Nat) : Int) = payS S 1 := rfl
  have f2 : payS S ((2 : Nat) : Int) = payS S 2 := rfl
  have f3 : payS S ((3 : Nat) : Int) = payS S 3 := rfl
  rw [f0, f1, f2, f3]
  omega
theorem coins_passN (S : HdS) : ∀ k : Nat, coinsS (passN S k).1 + (passN S k).2 = coinsS S := by
  intro k
  induction k with
  | zero => show coinsS S + 0 = coinsS S; omega
  | succ k ih =>
    have h := coins_dayS (passN S k).1
    show coinsS (dayS (passN S k).1) + ((passN S k).2 + paidN (passN S k).1 4) = coinsS S
    omega
theorem dayS_off (S : HdS) {k : Nat} {i : Int} (h8 : k ≠ 8) (h9 : k ≠ 9) (h10 : k ≠ 10) (h2 : k ≠ 11 ∨ i ≠ 2) : (dayS S).1 k i = S.1 k i := by
  have e : (dayS S).1 k i = (payN S 4).1 k i := dueN_off (payN S 4) (S.1 11 1) h8 h9 h2
  rw [e, payN_o S 4 h10]
theorem passN_off (S : HdS) {k : Nat} {i : Int} (h8 : k ≠ 8) (h9 : k ≠ 9) (h10 : k ≠ 10) (h2 : k ≠ 11 ∨ i ≠ 2) : ∀ j : Nat, (passN S j).1.1 k i = S.1 k i := by
  intro j
  induction j with
  | zero => rfl
  | succ j ih =>
    show (dayS (passN S j).1).1 k i = S.1 k i
    rw [dayS_off _ h8 h9 h10 h2, ih]
theorem passN_2 (S : HdS) : ∀ j : Nat, (passN S j).1.2 = S.2 := by
  intro j
  induction j with
  | zero => rfl
  | succ j ih =>
    show (passN S j).1.2 = S.2
    exact ih
/-! the holders' bits -/
theorem hold_cnt0 : ∀ h : Nat, h < 32 → ∀ m : Nat, m < 5 → 0 < hCnt (hOr (h : Int) m) ∧ hCnt (hOr (h : Int) m) ≤ 5 ∧ (iI (hOr (h : Int) m) >>> (iI (m : Int) &&& 31)) &&& iI 1 = iI 1 := by decide +kernel
theorem hold_cnt {h m : Int} (h0 : 0 ≤ h) (h1 : h < 32) (m0 : 0 ≤ m) (m1 : m ≤ 4) : 0 < hCnt (hOr h m) ∧ hCnt (hOr h m) ≤ 5 ∧ (iI (hOr h m) >>> (iI m &&& 31)) &&& iI 1 = iI 1 := by
  have := hold_cnt0 h.toNat (by omega) m.toNat (by omega)
  rwa [Int.toNat_of_nonneg h0, Int.toNat_of_nonneg m0] at this
theorem rel_bit0 : ∀ h : Nat, h < 32 → ∀ m : Nat, m < 5 → (iI (hClr (h : Int) m) >>> (iI (m : Int) &&& 31)) &&& iI 1 = iI 0 := by decide +kernel
theorem rel_bit {h m : Int} (h0 : 0 ≤ h) (h1 : h < 32) (m0 : 0 ≤ m) (m1 : m ≤ 4) : (iI (hClr h m) >>> (iI m &&& 31)) &&& iI 1 = iI 0 := by
  have := rel_bit0 h.toNat (by omega) m.toNat (by omega)
  rwa [Int.toNat_of_nonneg h0, Int.toNat_of_nonneg m0] at this
theorem drop_in (h : wf S n) (m : Int) : ∀ k : Nat, (k : Int) ≤ S.1 11 1 → 0 ≤ dropN S m k ∧ dropN S m k ≤ 512000 * k := by
  intro k
  induction k with
  | zero => intro _; exact ⟨Int.le_refl _, Int.le_refl _⟩
  | succ k ih =>
    intro hk
    have h1 := ih (by omega)
    have h2 := h.kep (f := (k : Int)) (by omega) (by omega)
    have h3 := h.num
    have e : dropN S m (k + 1) = dropN S m k + (if hClr (S.1 7 (k : Int)) m = 0 then S.1 6 (k : Int) else 0) := rfl
    rw [e]
    split <;> omega
theorem rel_7 (S : HdS) (m : Int) {j f : Int} (h0 : 0 ≤ f) (h1 : f < j) : (relN S m j).1 7 f = hClr (S.1 7 f) m := by
  show (if 7 = 7 ∧ 0 ≤ f ∧ f < j then hClr (S.1 7 f) m else if 7 = 6 ∧ 0 ≤ f ∧ f < j ∧ hClr (S.1 7 f) m = 0 then 0 else S.1 7 f) = _
  rw [if_pos ⟨rfl, h0, h1⟩]
theorem rel_6 (S : HdS) (m : Int) {j f : Int} (h0 : 0 ≤ f) (h1 : f < j) (h2 : hClr (S.1 7 f) m = 0) : (relN S m j).1 6 f = 0 := by
  show (if 6 = 7 ∧ 0 ≤ f ∧ f < j then hClr (S.1 7 f) m else if 6 = 6 ∧ 0 ≤ f ∧ f < j ∧ hClr (S.1 7 f) m = 0 then 0 else S.1 6 f) = _
  rw [if_neg (by omega), if_pos ⟨rfl, h0, h1, h2⟩]
/-! what stays so from event to event: fn: the links that the law keeps as bits -/
def JF (S : HdS) (fn : Nat → Int32) (f : Int) : Prop := (S.1 7 f = 0 → S.1 6 f = 0) ∧ (S.2 f ≠ [] → 1 ≤ S.1 3 f) ∧ ∀ d ∈ S.2 f, bt (fn f.toNat) d.toNat = true
def JJ (S : HdS) (fn : Nat → Int32) (n : Int) : Prop := wf S n ∧ S.1 11 2 ≤ 40 * n ∧ ∀ f : Int, 0 ≤ f → f < S.1 11 1 → JF S fn f
theorem JJ_up {fn : Nat → Int32} (h : JJ S fn n) (hn : n < 512) : JJ S fn (n + 1) := ⟨wf_up h.1 hn, by have := h.2.1; omega, h.2.2⟩
theorem JJ_of {fn fn' : Nat → Int32} {n' f : Int} (h : JJ S fn n) (hw : wf S' n') (hn : n ≤ n') (e11 : ∀ i : Int, S'.1 11 i = S.1 11 i) (ho : ∀ f' : Int, 0 ≤ f' → f' < S.1 11 1 → f' ≠ f → S'.1 7 f' = S.1 7 f' ∧ S'.1 6 f' = S.1 6 f' ∧ S'.1 3 f' = S.1 3 f' ∧ S'.2 f' = S.2 f' ∧ fn' f'.toNat = fn f'.toNat) (hf : 0 ≤ f → f < S.1 11 1 → JF S' fn' f) : JJ S' fn' n' := by
  refine ⟨hw, by rw [e11]; have := h.2.1; omega, fun f' h0 h1 => ?_⟩
  rw [e11] at h1
  by_cases hq : f' = f
  · subst hq
    exact hf h0 h1
  · obtain ⟨a, b, c, d, e⟩ := ho f' h0 h1 hq
    have h9 := h.2.2 f' h0 h1
    unfold JF
    rw [a, b, c, d, e]
    exact h9
theorem upd_off {fn : Nat → Int32} {f f' : Int} {x : Int32} (h0 : 0 ≤ f) (h1 : 0 ≤ f') (hn : f' ≠ f) : upd fn f.toNat x f'.toNat = fn f'.toNat := by
  unfold upd
  rw [if_neg (by omega)]
theorem upd_at (fn : Nat → Int32) (k : Nat) (x : Int32) : upd fn k x k = x := by
  unfold upd
  rw [if_pos rfl]
theorem wf_q0 (h : wf S n) {d q : Int} (hq : -1 ≤ q ∧ q ≤ 100000) : wf (sset S 1 d q) n := by
  refine ⟨h.num, h.nd, h.nf, h.day, h.p0, fun x h1 h2 => h.par h1 h2, fun x h1 h2 => ?_, fun x h1 h2 => h.coi h1 h2, fun f h1 h2 => h.f h1 h2⟩
  rw [sset_1]
  split
  · exact hq
  · exact h.quo h1 h2
theorem wf_c0 (h : wf S n) {p v : Int} (hv : 0 ≤ v ∧ v ≤ 1000000) : wf (sset S 10 p v) n := by
  refine ⟨h.num, h.nd, h.nf, h.day, h.p0, fun x h1 h2 => h.par h1 h2, fun x h1 h2 => h.quo h1 h2, fun x h1 h2 => ?_, fun f h1 h2 => h.f h1 h2⟩
  rw [sset_1]
  split
  · exact hv
  · exact h.coi h1 h2
theorem JJ_quota {fn : Nat → Int32} (h : JJ S fn n) {d q : Int} (hq : -1 ≤ q ∧ q ≤ 100000) : JJ (sset S 1 d q) fn n := ⟨wf_q0 h.1 hq, h.2.1, h.2.2⟩
theorem JJ_coin {fn : Nat → Int32} (h : JJ S fn n) {p v : Int} (hv : 0 ≤ v ∧ v ≤ 1000000) : JJ (sset S 10 p v) fn n := ⟨wf_c0 h.1 hv, h.2.1, h.2.2⟩
theorem quota_back (S : HdS) (d q : Int) : sset (sset S 1 d q) 1 d (S.1 1 d) = S := by
  refine Prod.ext ?_ rfl
  funext k i
  rw [sset_1]
  split
  · next h => rw [h.1, h.2]
  · next h => rw [sset_1, if_neg h]
theorem JJ_addDir {fn : Nat → Int32} (h : JJ S fn n) (hn : n < 512) {p q : Int} (hp0 : 0 ≤ p) (hp1 : p < S.1 11 0) (hq : -1 ≤ q ∧ q ≤ 100000) (hlt : S.1 11 0 < 12) : JJ (s_addDir S p q) fn (n + 1) := by
  have eo : ∀ (k : Nat) (j : Int), 2 ≤ k → (k ≠ 11 ∨ j ≠ 0) → (s_addDir S p q).1 k j = S.1 k j := fun k j a b => by
    unfold s_addDir
    rw [sset_1, if_neg (by omega), sset_1, if_neg (by omega), sset_1, if_neg (by omega)]
  refine ⟨wf_addDir h.1 hn hp0 hp1 hq hlt, by rw [eo 11 2 (by omega) (by omega)]; have := h.2.1; omega, fun f h0 h1 => ?_⟩
  rw [eo 11 1 (by omega) (by omega)] at h1
  have h9 := h.2.2 f h0 h1
  unfold JF
  rw [eo 7 f (by omega) (by omega), eo 6 f (by omega) (by omega), eo 3 f (by omega) (by omega)]
  exact h9
theorem JJ_make {fn : Nat → Int32} (h : JJ S fn n) (hn : n < 512) {p d z : Int} (hp0 : 0 ≤ p) (hp1 : p < 4) (hd0 : 0 ≤ d) (hd1 : d < S.1 11 0) (hz : 1 ≤ z ∧ z ≤ 1000) (hlt : S.1 11 1 < 30) : JJ (s_make S p d z) (upd fn (S.1 11 1).toNat (iI 1 <<< (iI d &&& 31))) (n + 1) := by
  have hnd := h.1.nd
  have hnf := h.1.nf
  have e1 : (s_make S p d z).1 11 1 = S.1 11 1 + 1 := by simp [s_make, slks_1, sset_1]
  have e2 : (s_make S p d z).1 11 2 = S.1 11 2 := by simp [s_make, slks_1, sset_1]
  have e3 : ∀ j : Int, (s_make S p d z).1 3 j = if j = S.1 11 1 then z else S.1 3 j := fun j => by simp [s_make, slks_1, sset_1]
  have e6 : ∀ j : Int, (s_make S p d z).1 6 j = if j = S.1 11 1 then 0 else S.1 6 j := fun j => by simp [s_make, slks_1, sset_1]
  have e7 : ∀ j : Int, (s_make S p d z).1 7 j = if j = S.1 11 1 then 0 else S.1 7 j := fun j => by simp [s_make, slks_1, sset_1]
  have eL : ∀ j : Int, (s_make S p d z).2 j = if j = S.1 11 1 then [d] else S.2 j := fun j => by
    unfold s_make
    rw [slks_2]
    rfl
  refine ⟨wf_make h.1 hn hp0 hp1 hd0 hd1 hz hlt, by rw [e2]; have := h.2.1; omega, fun f h0 h1 => ?_⟩
  rw [e1] at h1
  unfold JF
  rw [e7, e6, e3, eL]
  by_cases hf : f = S.1 11 1
  · subst hf
    rw [if_pos rfl, if_pos rfl, if_pos rfl, if_pos rfl]
    refine ⟨fun _ => rfl, fun _ => hz.1, fun x hx => ?_⟩
    rw [List.mem_singleton.mp hx, upd_at, bt_one hd0 (by omega) (by omega)]
    exact decide_eq_true rfl
  · rw [if_neg hf, if_neg hf, if_neg hf, if_neg hf, upd_off hnf.1 h0 hf]
    exact h.2.2 f h0 (by omega)
theorem JJ_linked {fn : Nat → Int32} (h : JJ S fn n) (hn : n < 512) {f : Int} (h0 : 0 ≤ f) (y : Int32) : JJ S (upd fn f.toNat (fn f.toNat ||| y)) (n + 1) := by
  refine JJ_of (f := f) h (wf_up h.1 hn) (by omega) (fun _ => rfl) (fun f' k0 k1 hf => ⟨rfl, rfl, rfl, rfl, upd_off h0 k0 hf⟩) (fun _ h1 => ?_)
  obtain ⟨a, b, c⟩ := h.2.2 f h0 h1
  refine ⟨a, b, fun d hd => ?_⟩
  rw [upd_at]
  exact bt_or (c d hd)
theorem JJ_link {fn : Nat → Int32} (h : JJ S fn n) (hn : n < 512) {f d : Int} (h0 : 0 ≤ f) (hd0 : 0 ≤ d) (hd1 : d < S.1 11 0) (hne : S.2 f ≠ []) (hnm : d ∉ S.2 f) : JJ (slks S f (S.2 f ++ [d])) (upd fn f.toNat (fn f.toNat ||| (iI 1 <<< (iI d &&& 31)))) (n + 1) := by
  have hnd := h.1.nd
  refine JJ_of (f := f) h (wf_link h.1 hn hd0 hd1 hne hnm) (by omega) (fun _ => rfl) (fun f' k0 k1 hf => ⟨rfl, rfl, rfl, slks_off hf, upd_off h0 k0 hf⟩) (fun _ h1 => ?_)
  obtain ⟨a, b, c⟩ := h.2.2 f h0 h1
  refine ⟨a, fun _ => b hne, fun x hx => ?_⟩
  rw [slks_at] at hx
  rw [upd_at]
  rcases List.mem_append.mp hx with q | q
  · exact bt_or (c x q)
  · rw [List.mem_singleton.mp q]
    exact bt_set hd0 (by omega)
theorem un_more {f d : Int} (hd : d ∈ S.2 f) (hl : 0 < ((S.2 f).length : Int) - 1) : (S.2 f).erase d ≠ [] := fun e => by
  have h1 := List.length_erase_of_mem hd
  rw [e] at h1
  simp only [List.length_nil] at h1
  omega
theorem un_gone {f d : Int} (hd : d ∈ S.2 f) (hl : ((S.2 f).length : Int) - 1 ≤ 0) : (S.2 f).erase d = [] := by
  have h1 := List.length_erase_of_mem hd
  have h2 : ((S.2 f).erase d).length = 0 := by omega
  exact List.length_eq_zero_iff.mp h2
theorem un_S (f d : Int) (he : (S.2 f).erase d ≠ []) : s_unlink S f d = slks S f ((S.2 f).erase d) := by
  unfold s_unlink
  rw [if_neg he]
theorem un_3 (f d : Int) (he : (S.2 f).erase d = []) : (s_unlink S f d).1 3 f = 0 := by
  unfold s_unlink
  rw [if_pos he, sset_off (by omega), sset_at]
theorem un_6 (f d : Int) (he : (S.2 f).erase d = []) : (s_unlink S f d).1 6 f = keepT S f := by
  unfold s_unlink
  rw [if_pos he, sset_off (by omega), sset_off (by omega), sset_at]
theorem un_2 (f d : Int) (he : (S.2 f).erase d = []) : (s_unlink S f d).2 f = [] := by
  unfold s_unlink
  rw [if_pos he]
  exact slks_at S f []
theorem un_7 (f d i : Int) : (s_unlink S f d).1 7 i = S.1 7 i := by
  unfold s_unlink
  split
  · rw [sset_off (by omega), sset_off (by omega), sset_off (by omega), slks_1]
  · rw [slks_1]
theorem un_11 (f d i : Int) : (s_unlink S f d).1 11 i = S.1 11 i := by
  unfold s_unlink
  split
  · rw [sset_off (by omega), sset_off (by omega), sset_off (by omega), slks_1]
  · rw [slks_1]
theorem un_o (f d : Int) {f' : Int} (hf : f' ≠ f) (k : Nat) : (s_unlink S f d).1 k f' = S.1 k f' ∧ (s_unlink S f d).2 f' = S.2 f' := by
  unfold s_unlink
  split
  · exact ⟨by rw [sset_ne hf, sset_ne hf, sset_ne hf, slks_1], slks_off hf⟩
  · exact ⟨rfl, slks_off hf⟩
theorem JJ_unlink {fn : Nat → Int32} (h : JJ S fn n) (hn : n < 512) {f d : Int} (h0 : 0 ≤ f) (hd0 : 0 ≤ d) (hd1 : d < S.1 11 0) : JJ (s_unlink S f d) (upd fn f.toNat (fn f.toNat &&& ((iI 1 <<< (iI d &&& 31)) ^^^ iI (-1)))) (n + 1) := by
  have hnd := h.1.nd
  refine JJ_of (f := f) h (wf_unlink h.1 hn) (by omega) (fun i => un_11 f d i) (fun f' k0 k1 hf => ⟨(un_o f d hf 7).1, (un_o f d hf 6).1, (un_o f d hf 3).1, (un_o f d hf 3).2, upd_off h0 k0 hf⟩) (fun _ h1 => ?_)
  obtain ⟨a, b, c⟩ := h.2.2 f h0 h1
  by_cases he : (S.2 f).erase d = []
  · unfold JF
    rw [un_7, un_6 f d he, un_2 f d he]
    refine ⟨fun q => ?_, fun q => absurd rfl q, fun x hx => absurd hx List.not_mem_nil⟩
    unfold keepT
    rw [if_pos q, a q]
    rfl
  · have hne : S.2 f ≠ [] := fun q => he (by rw [q]; rfl)
    unfold JF
    rw [un_S f d he, slks_at, upd_at]
    refine ⟨a, fun _ => b hne, fun x hx => ?_⟩
    have hm := List.mem_of_mem_erase hx
    have hb := h.1.lks h0 h1 x hm
    have hnx : x ≠ d := fun q => (h.1.nod h0 h1).not_mem_erase (q ▸ hx)
    exact bt_clr hb.1 (by omega) hd0 (by omega) hnx (c x hm)
theorem wr_6 (S : HdS) (f z : Int) : (s_write S f z).1 6 f = keepT S f := s_write_6 S f z
theorem wr_3 (S : HdS) (f z : Int) : (s_write S f z).1 3 f = z := by
  unfold s_write
  rw [sset_off (by omega), sset_at]
theorem wr_7 (S : HdS) (f z i : Int) : (s_write S f z).1 7 i = S.1 7 i := by
  unfold s_write
  rw [sset_off (by omega), sset_off (by omega), sset_off (by omega)]
theorem wr_11 (S : HdS) (f z i : Int) : (s_write S f z).1 11 i = S.1 11 i := by
  unfold s_write
  rw [sset_off (by omega), sset_off (by omega), sset_off (by omega)]
theorem JJ_write {fn : Nat → Int32} (h : JJ S fn n) (hn : n < 512) {f z : Int} (hz : 1 ≤ z ∧ z ≤ 1000) (hne : S.2 f ≠ []) (ht : tierS S f ≠ 2) : JJ (s_write S f z) fn (n + 1) := by
  have eo : ∀ (k : Nat) {f' : Int}, f' ≠ f → (s_write S f z).1 k f' = S.1 k f' := fun k f' hf => by unfold s_write; rw [sset_ne hf, sset_ne hf, sset_ne hf]
  refine JJ_of (f := f) h (wf_write h.1 hn hz hne ht) (by omega) (fun i => wr_11 S f z i) (fun f' k0 k1 hf => ⟨eo 7 hf, eo 6 hf, eo 3 hf, rfl, rfl⟩) (fun h0 h1 => ?_)
  obtain ⟨a, b, c⟩ := h.2.2 f h0 h1
  unfold JF
  rw [wr_7, wr_6, wr_3]
  refine ⟨fun q => ?_, fun _ => hz.1, c⟩
  unfold keepT
  rw [if_pos q, a q]
  rfl
theorem JJ_hold {fn : Nat → Int32} (h : JJ S fn n) (hn : n < 512) {f v : Int} (hv : 0 < v ∧ v < 32) : JJ (sset S 7 f v) fn (n + 1) := by
  refine JJ_of (f := f) h (wf_hold h.1 hn ⟨by omega, hv.2⟩) (by omega) (fun i => sset_off (by omega)) (fun f' k0 k1 hf => ⟨sset_ne hf 7, sset_ne hf 6, sset_ne hf 3, rfl, rfl⟩) (fun h0 h1 => ?_)
  obtain ⟨a, b, c⟩ := h.2.2 f h0 h1
  unfold JF
  rw [sset_at, sset_off (by omega)]
  exact ⟨fun q => by omega, b, c⟩
theorem JJ_rel {fn : Nat → Int32} (h : JJ S fn n) (hn : n < 512) {m : Int} (m0 : 0 ≤ m) (m1 : m ≤ 4) : JJ (relN S m (S.1 11 1)) fn (n + 1) := by
  have e11 : ∀ i : Int, (relN S m (S.1 11 1)).1 11 i = S.1 11 i := fun i => relN_off S m _ (by omega) (by omega) i
  refine ⟨wf_rel h.1 hn m0 m1, by rw [e11]; have := h.2.1; omega, fun f h0 h1 => ?_⟩
  rw [e11] at h1
  obtain ⟨a, b, c⟩ := h.2.2 f h0 h1
  unfold JF
  rw [rel_7 S m h0 h1, relN_off S m _ (k := 3) (by omega) (by omega) f]
  exact ⟨fun q => rel_6 S m h0 h1 q, b, c⟩
theorem JJ_used {fn : Nat → Int32} (h : JJ S fn n) (hn : n < 512) {f : Int} (hne : S.2 f ≠ []) (ht : tierS S f ≠ 2) : JJ (sset S 8 f (S.1 11 2)) fn (n + 1) :=
  JJ_of (f := -1) h (wf_used h.1 hn hne ht) (by omega) (fun i => sset_off (by omega)) (fun f' k0 k1 hf => ⟨sset_off (by omega), sset_off (by omega), sset_off (by omega), rfl, rfl⟩) (fun h0 _ => by omega)
theorem JJ_pass {fn : Nat → Int32} (h : JJ S fn n) (hn : n < 200) {k : Int} (k0 : 1 ≤ k) (k1 : k ≤ 40) : JJ (passN S k.toNat).1 fn (n + 1) := by
  have hd := h.2.1
  have hnn := h.1.num
  obtain ⟨a, b⟩ := passN_wf h.1 k.toNat (by omega)
  refine ⟨wf_up a (by omega), by rw [b]; omega, fun f h0 h1 => ?_⟩
  rw [passN_off S (by omega) (by omega) (by omega) (Or.inr (by omega))] at h1
  have h9 := h.2.2 f h0 h1
  unfold JF
  rw [passN_off S (by omega) (by omega) (by omega) (Or.inl (by omega)), passN_off S (by omega) (by omega) (by omega) (Or.inl (by omega)), passN_off S (by omega) (by omega) (by omega) (Or.inl (by omega)), passN_2]
  exact h9
theorem mk_usg (h : wf S n) {p d z : Int} (hd0 : 0 ≤ d) (hd1 : d < S.1 11 0) : usg (s_make S p d z) d = usg S d + z := by
  rw [← usg_make h p d z, addU_at, if_pos (way_self h hd0 hd1)]
theorem mk_tier (S : HdS) (p d z : Int) : tierS (s_make S p d z) (S.1 11 1) = 0 := by
  have e2 : (s_make S p d z).1 11 2 = S.1 11 2 := by simp [s_make, slks_1, sset_1]
  have e8 : (s_make S p d z).1 8 (S.1 11 1) = S.1 11 2 := by simp [s_make, slks_1, sset_1]
  have eL : (s_make S p d z).2 (S.1 11 1) = [d] := by
    unfold s_make
    rw [slks_2]
    exact if_pos rfl
  unfold tierS
  rw [e2, e8, eL, if_neg (by simp), if_pos (by omega)]
theorem mk_11 (S : HdS) (p d z : Int) : (s_make S p d z).1 11 1 = S.1 11 1 + 1 ∧ (s_make S p d z).1 11 0 = S.1 11 0 := by simp [s_make, slks_1, sset_1]
theorem ad_11 (S : HdS) (p q : Int) : (s_addDir S p q).1 11 0 = S.1 11 0 + 1 := by simp [s_addDir, sset_1]
theorem ad_usg (h : wf S n) (p q : Int) : usg (s_addDir S p q) (S.1 11 0) = 0 := by rw [usg_addDir h, usg_new0 h]
theorem ln_home {f d : Int} (hne : S.2 f ≠ []) : homeS (slks S f (S.2 f ++ [d])) f = homeS S f := by
  unfold homeS
  rw [slks_at]
  cases hs : S.2 f with
  | nil => exact absurd hs hne
  | cons a l => rfl
end P26
