/-! THE STATE AS NUMBERS: S.1 k i by the reference's arrays (0 parent, 1 quota, 2 department, 3 size, 6 kept, 7 holders, 8 used, 9 back, 10 coins), S.1 11 _: 0 directories, 1 files, 2 day; S.2 f: the links of the file f, in their order -/
abbrev HdS : Type := (Nat → Int → Int) × (Int → List Int)
def sset (S : HdS) (k : Nat) (i v : Int) : HdS := (fun k' i' => if k' = k ∧ i' = i then v else S.1 k' i', S.2)
def slks (S : HdS) (f : Int) (ls : List Int) : HdS := (S.1, fun f' => if f' = f then ls else S.2 f')
theorem sset_1 (S : HdS) (k : Nat) (i v : Int) (k' : Nat) (i' : Int) : (sset S k i v).1 k' i' = if k' = k ∧ i' = i then v else S.1 k' i' := rfl
theorem sset_2 (S : HdS) (k : Nat) (i v : Int) : (sset S k i v).2 = S.2 := rfl
theorem slks_1 (S : HdS) (f : Int) (ls : List Int) : (slks S f ls).1 = S.1 := rfl
theorem slks_2 (S : HdS) (f : Int) (ls : List Int) (f' : Int) : (slks S f ls).2 f' = if f' = f then ls else S.2 f' := rfl
def tierS (S : HdS) (f : Int) : Int := if S.2 f = [] then -1 else if S.1 11 2 - S.1 8 f < 30 then 0 else if S.1 11 2 - S.1 8 f < 90 then 1 else 2
def homeS (S : HdS) (f : Int) : Int := (S.2 f).headD (-1)
def wayN (S : HdS) : Nat → Int → List Int
  | 0, _ => []
  | n + 1, d => if d = -1 then [] else d :: wayN S n (S.1 0 d)
def wayS (S : HdS) (d : Int) : List Int := wayN S 13 d
def usgN (S : HdS) (e : Int) : Nat → Int
  | 0 => 0
  | n + 1 => usgN S e n + (if S.2 n ≠ [] ∧ e ∈ wayS S (homeS S n) then S.1 3 n else 0)
def usg (S : HdS) (e : Int) : Int := usgN S e (S.1 11 1).toNat
def growOk (S : HdS) (at_ by_ : Int) : Prop := ∀ e ∈ wayS S at_, S.1 1 e = -1 ∨ usg S e + by_ ≤ S.1 1 e
def canGrow (S : HdS) (p d by_ : Int) : Prop := 0 < S.1 10 p ∧ growOk S d by_
def bilT (S : HdS) (n : Int) : Int := S.1 6 n + (if S.2 n = [] then 0 else (3 - tierS S n) * S.1 3 n)
def bilN (S : HdS) (p : Int) : Nat → Int
  | 0 => 0
  | n + 1 => bilN S p n + (if S.1 2 n = p then bilT S n else 0)
def bil (S : HdS) (p : Int) : Int := (bilN S p (S.1 11 1).toNat + 99) / 100
def payS (S : HdS) (p : Int) : Int := if bil S p < S.1 10 p then bil S p else S.1 10 p
def paidN (S : HdS) : Nat → Int
  | 0 => 0
  | n + 1 => paidN S n + payS S n
/-- departments below j have paid -/
def payN (S : HdS) (j : Int) : HdS := (fun k i => if k = 10 ∧ 0 ≤ i ∧ i < j then S.1 10 i - payS S i else S.1 k i, S.2)
/-- the day is the next one; the files below j that are due are back -/
def dueN (S : HdS) (j : Int) : HdS := (fun k i => if k = 11 ∧ i = 2 then S.1 11 2 + 1 else if k = 8 ∧ 0 ≤ i ∧ i < j ∧ S.1 9 i = S.1 11 2 + 1 then S.1 11 2 + 1 else if k = 9 ∧ 0 ≤ i ∧ i < j ∧ S.1 9 i = S.1 11 2 + 1 then -1 else S.1 k i, S.2)
def dayS (S : HdS) : HdS := dueN (payN S 4) (S.1 11 1)
def passN (S : HdS) : Nat → HdS × Int
  | 0 => (S, 0)
  | n + 1 => (dayS (passN S n).1, (passN S n).2 + paidN (passN S n).1 4)
/-- holders as bits -/
def hOr (h m : Int) : Int := if (h / (2 ^ m.toNat : Int)) % 2 = 1 then h else h + 2 ^ m.toNat
def hClr (h m : Int) : Int := if (h / (2 ^ m.toNat : Int)) % 2 = 1 then h - 2 ^ m.toNat else h
def hCnt (h : Int) : Int := h % 2 + h / 2 % 2 + h / 4 % 2 + h / 8 % 2 + h / 16 % 2
/-- the files below j are released from the matter m -/
def relN (S : HdS) (m j : Int) : HdS := (fun k i => if k = 7 ∧ 0 ≤ i ∧ i < j then hClr (S.1 7 i) m else if k = 6 ∧ 0 ≤ i ∧ i < j ∧ hClr (S.1 7 i) m = 0 then 0 else S.1 k i, S.2)
def dropN (S : HdS) (m : Int) : Nat → Int
  | 0 => 0
  | n + 1 => dropN S m n + (if hClr (S.1 7 n) m = 0 then S.1 6 n else 0)
def wfF (S : HdS) (n f : Int) : Prop := (0 ≤ S.1 2 f ∧ S.1 2 f < 4) ∧ (0 ≤ S.1 3 f ∧ S.1 3 f ≤ 1000) ∧ (0 ≤ S.1 6 f ∧ S.1 6 f ≤ 1000 * n) ∧ (0 ≤ S.1 7 f ∧ S.1 7 f < 32) ∧ (0 ≤ S.1 8 f ∧ S.1 8 f ≤ S.1 11 2) ∧
  (S.1 9 f = -1 ∨ (S.1 11 2 < S.1 9 f ∧ S.1 9 f ≤ S.1 11 2 + 2 ∧ 90 ≤ S.1 11 2 - S.1 8 f ∧ S.2 f ≠ [])) ∧ (S.2 f = [] → S.1 3 f = 0) ∧ (∀ d ∈ S.2 f, 0 ≤ d ∧ d < S.1 11 0) ∧ (S.2 f).Nodup
def wf (S : HdS) (n : Int) : Prop := (0 ≤ n ∧ n ≤ 512) ∧ (1 ≤ S.1 11 0 ∧ S.1 11 0 ≤ 12) ∧ (0 ≤ S.1 11 1 ∧ S.1 11 1 ≤ 30) ∧ (0 ≤ S.1 11 2 ∧ S.1 11 2 ≤ 10000) ∧ S.1 0 0 = -1 ∧ (∀ d, 1 ≤ d → d < S.1 11 0 → 0 ≤ S.1 0 d ∧ S.1 0 d < d) ∧ (∀ d, 0 ≤ d → d < S.1 11 0 → -1 ≤ S.1 1 d ∧ S.1 1 d ≤ 100000) ∧ (∀ p, 0 ≤ p → p < 4 → 0 ≤ S.1 10 p ∧ S.1 10 p ≤ 1000000) ∧ (∀ f, 0 ≤ f → f < S.1 11 1 → wfF S n f)
section Wf
variable {S : HdS} {n : Int}
theorem wf.num (h : wf S n) : 0 ≤ n ∧ n ≤ 512 := h.1
theorem wf.nd (h : wf S n) : 1 ≤ S.1 11 0 ∧ S.1 11 0 ≤ 12 := h.2.1
theorem wf.nf (h : wf S n) : 0 ≤ S.1 11 1 ∧ S.1 11 1 ≤ 30 := h.2.2.1
theorem wf.day (h : wf S n) : 0 ≤ S.1 11 2 ∧ S.1 11 2 ≤ 10000 := h.2.2.2.1
theorem wf.p0 (h : wf S n) : S.1 0 0 = -1 := h.2.2.2.2.1
theorem wf.par (h : wf S n) {d : Int} (h1 : 1 ≤ d) (h2 : d < S.1 11 0) : 0 ≤ S.1 0 d ∧ S.1 0 d < d := h.2.2.2.2.2.1 d h1 h2
theorem wf.par' (h : wf S n) {d : Int} (h1 : 0 ≤ d) (h2 : d < S.1 11 0) : -1 ≤ S.1 0 d ∧ S.1 0 d < d := by
  by_cases h0 : d = 0
  · subst h0; rw [h.p0]; omega
  · have := h.par (by omega) h2; omega
theorem wf.quo (h : wf S n) {d : Int} (h1 : 0 ≤ d) (h2 : d < S.1 11 0) : -1 ≤ S.1 1 d ∧ S.1 1 d ≤ 100000 := h.2.2.2.2.2.2.1 d h1 h2
theorem wf.coi (h : wf S n) {d : Int} (h1 : 0 ≤ d) (h2 : d < 4) : 0 ≤ S.1 10 d ∧ S.1 10 d ≤ 1000000 := h.2.2.2.2.2.2.2.1 d h1 h2
theorem wf.f (h : wf S n) {f : Int} (h1 : 0 ≤ f) (h2 : f < S.1 11 1) : wfF S n f := h.2.2.2.2.2.2.2.2 f h1 h2
theorem wf.dep (h : wf S n) {f : Int} (h1 : 0 ≤ f) (h2 : f < S.1 11 1) : 0 ≤ S.1 2 f ∧ S.1 2 f < 4 := (h.f h1 h2).1
theorem wf.siz (h : wf S n) {f : Int} (h1 : 0 ≤ f) (h2 : f < S.1 11 1) : 0 ≤ S.1 3 f ∧ S.1 3 f ≤ 1000 := (h.f h1 h2).2.1
theorem wf.kep (h : wf S n) {f : Int} (h1 : 0 ≤ f) (h2 : f < S.1 11 1) : 0 ≤ S.1 6 f ∧ S.1 6 f ≤ 1000 * n := (h.f h1 h2).2.2.1
theorem wf.hol (h : wf S n) {f : Int} (h1 : 0 ≤ f) (h2 : f < S.1 11 1) : 0 ≤ S.1 7 f ∧ S.1 7 f < 32 := (h.f h1 h2).2.2.2.1
theorem wf.usd (h : wf S n) {f : Int} (h1 : 0 ≤ f) (h2 : f < S.1 11 1) : 0 ≤ S.1 8 f ∧ S.1 8 f ≤ S.1 11 2 := (h.f h1 h2).2.2.2.2.1
theorem wf.bac (h : wf S n) {f : Int} (h1 : 0 ≤ f) (h2 : f < S.1 11 1) : S.1 9 f = -1 ∨ (S.1 11 2 < S.1 9 f ∧ S.1 9 f ≤ S.1 11 2 + 2 ∧ 90 ≤ S.1 11 2 - S.1 8 f ∧ S.2 f ≠ []) := (h.f h1 h2).2.2.2.2.2.1
theorem wf.siz0 (h : wf S n) {f : Int} (h1 : 0 ≤ f) (h2 : f < S.1 11 1) (h3 : S.2 f = []) : S.1 3 f = 0 := (h.f h1 h2).2.2.2.2.2.2.1 h3
theorem wf.lks (h : wf S n) {f : Int} (h1 : 0 ≤ f) (h2 : f < S.1 11 1) : ∀ d ∈ S.2 f, 0 ≤ d ∧ d < S.1 11 0 := (h.f h1 h2).2.2.2.2.2.2.2.1
theorem wf.nod (h : wf S n) {f : Int} (h1 : 0 ≤ f) (h2 : f < S.1 11 1) : (S.2 f).Nodup := (h.f h1 h2).2.2.2.2.2.2.2.2
/-- a list of numbers below n, each once, is no longer than n -/
theorem nod_len : ∀ (n : Nat) (l : List Int), l.Nodup → (∀ d ∈ l, 0 ≤ d ∧ d < n) → l.length ≤ n := by
  intro n
  induction n with
  | zero =>
    intro l _ hb
    cases l with
    | nil => exact Nat.le_refl _
    | cons a l => have := hb a List.mem_cons_self; omega
  | succ n ih =>
    intro l hn hb
    by_cases hm : (n : Int) ∈ l
    · have h1 : (l.erase (n : Int)).length = l.length - 1 := List.length_erase_of_mem hm
      have h2 : (l.erase (n : Int)).length ≤ n := ih _ (hn.erase _) (fun d hd => by
        have h3 := hb d (List.mem_of_mem_erase hd)
        have h4 : d ≠ (n : Int) := fun e => by
          subst e
          exact hn.not_mem_erase hd
        omega)
      omega
    · have h2 := ih l hn (fun d hd => by
        have h3 := hb d hd
        have h4 : d ≠ (n : Int) := fun e => hm (e ▸ hd)
        omega)
      omega
theorem wf.len (h : wf S n) {f : Int} (h1 : 0 ≤ f) (h2 : f < S.1 11 1) : ((S.2 f).length : Int) ≤ S.1 11 0 := by
  have h3 := nod_len (S.1 11 0).toNat (S.2 f) (h.nod h1 h2) (fun d hd => by have := h.lks h1 h2 d hd; omega)
  have := h.nd
  omega
theorem wf.home (h : wf S n) {f : Int} (h1 : 0 ≤ f) (h2 : f < S.1 11 1) (h3 : S.2 f ≠ []) : 0 ≤ homeS S f ∧ homeS S f < S.1 11 0 := by
  unfold homeS
  have hl := h.lks h1 h2
  cases hs : S.2 f with
  | nil => exact absurd hs h3
  | cons a l => rw [hs] at hl; exact hl a List.mem_cons_self
theorem home_nil {f : Int} (h : S.2 f = []) : homeS S f = -1 := by unfold homeS; rw [h]; rfl
/-- ways -/
theorem wayN_neg (k : Nat) : wayN S k (-1) = [] := by cases k <;> simp [wayN]
theorem wayN_st (h : wf S n) : ∀ (a b : Nat) (d : Int), -1 ≤ d → d < S.1 11 0 → d < a → d < b → wayN S a d = wayN S b d := by
  intro a
  induction a with
  | zero => intro b d h1 h2 h3 h4; rw [show d = -1 by omega, wayN_neg, wayN_neg]
  | succ a ih =>
    intro b d h1 h2 h3 h4
    by_cases hd : d = -1
    · rw [hd, wayN_neg, wayN_neg]
    · cases b with
      | zero => omega
      | succ b =>
        simp only [wayN, if_neg hd]
        have hp := h.par' (d := d) (by omega) h2
        rw [ih b (S.1 0 d) hp.1 (by omega) (by omega) (by omega)]
theorem wayS_neg : wayS S (-1) = [] := wayN_neg 13
theorem wayS_step (h : wf S n) {d : Int} (h1 : 0 ≤ d) (h2 : d < S.1 11 0) : wayS S d = d :: wayS S (S.1 0 d) := by
  have hnd := h.nd
  have hp := h.par' h1 h2
  unfold wayS
  show (if d = -1 then [] else d :: wayN S 12 (S.1 0 d)) = _
  rw [if_neg (by omega), wayN_st h 12 13 (S.1 0 d) hp.1 (by omega) (by omega) (by omega)]
theorem wayS_in (h : wf S n) : ∀ (k : Nat) (d : Int), -1 ≤ d → d < k → d < S.1 11 0 → ∀ e ∈ wayS S d, 0 ≤ e ∧ e < S.1 11 0 := by
  intro k
  induction k with
  | zero => intro d h1 h2 h3 e he; rw [show d = -1 by omega, wayS_neg] at he; cases he
  | succ k ih =>
    intro d h1 h2 h3 e he
    by_cases hd : d = -1
    · rw [hd, wayS_neg] at he; cases he
    · rw [wayS_step h (by omega) h3] at he
      have hp := h.par' (d := d) (by omega) h3
      rcases List.mem_cons.mp he with rfl | he
      · omega
      · exact ih _ hp.1 (by omega) (by omega) e he
theorem wf.wayB (h : wf S n) {d : Int} (h1 : -1 ≤ d) (h3 : d < S.1 11 0) : ∀ e ∈ wayS S d, 0 ≤ e ∧ e < S.1 11 0 := wayS_in h (d.toNat + 1) d h1 (by omega) h3
theorem growOk_step (h : wf S n) {d by_ : Int} (h1 : 0 ≤ d) (h2 : d < S.1 11 0) : growOk S d by_ ↔ (S.1 1 d = -1 ∨ usg S d + by_ ≤ S.1 1 d) ∧ growOk S (S.1 0 d) by_ := by
  unfold growOk
  rw [wayS_step h h1 h2, List.forall_mem_cons]
/-- bounds of the sums -/
theorem usgN_in (h : wf S n) (e : Int) : ∀ k : Nat, (k : Int) ≤ S.1 11 1 → 0 ≤ usgN S e k ∧ usgN S e k ≤ 1000 * k := by
  intro k
  induction k with
  | zero => intro _; simp [usgN]
  | succ k ih =>
    intro hk
    have h1 := ih (by omega)
    have h2 := h.siz (f := (k : Int)) (by omega) (by omega)
    unfold usgN
    split <;> omega
theorem usg_in (h : wf S n) (e : Int) : 0 ≤ usg S e ∧ usg S e ≤ 30000 := by
  have h1 := h.nf
  have h2 := usgN_in h e (S.1 11 1).toNat (by omega)
  unfold usg
  omega
theorem tier_in (f : Int) : -1 ≤ tierS S f ∧ tierS S f ≤ 2 := by unfold tierS; split; omega; split; omega; split <;> omega
theorem tier_gone {f : Int} (h : S.2 f = []) : tierS S f = -1 := by unfold tierS; rw [if_pos h]
theorem tier_here {f : Int} (h : S.2 f ≠ []) : 0 ≤ tierS S f := by unfold tierS; rw [if_neg h]; split; omega; split <;> omega
theorem bilT_in (h : wf S n) {f : Int} (h1 : 0 ≤ f) (h2 : f < S.1 11 1) : 0 ≤ bilT S f ∧ bilT S f ≤ 515000 := by
  have a := h.kep h1 h2
  have b := h.siz h1 h2
  have c := h.num
  unfold bilT
  split
  · omega
  · next hx =>
    have d := tier_in (S := S) f
    have e := tier_here hx
    have : tierS S f = 0 ∨ tierS S f = 1 ∨ tierS S f = 2 := by omega
    rcases this with q | q | q <;> rw [q] <;> omega
theorem bilN_in (h : wf S n) (p : Int) : ∀ k : Nat, (k : Int) ≤ S.1 11 1 → 0 ≤ bilN S p k ∧ bilN S p k ≤ 515000 * k := by
  intro k
  induction k with
  | zero => intro _; simp [bilN]
  | succ k ih =>
    intro hk
    have h1 := ih (by omega)
    have h2 := bilT_in h (f := (k : Int)) (by omega) (by omega)
    unfold bilN
    split <;> omega
theorem bil_in (h : wf S n) (p : Int) : 0 ≤ bil S p ∧ bil S p ≤ 154501 := by
  have h1 := h.nf
  have h2 := bilN_in h p (S.1 11 1).toNat (by omega)
  unfold bil
  omega
theorem payS_in (h : wf S n) {p : Int} (h1 : 0 ≤ p) (h2 : p < 4) : 0 ≤ payS S p ∧ payS S p ≤ S.1 10 p := by
  have a := bil_in h p
  have b := h.coi h1 h2
  unfold payS
  split <;> omega
end Wf
