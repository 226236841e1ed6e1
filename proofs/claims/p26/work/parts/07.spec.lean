/-! WHAT EACH CALL ANSWERS, of the state S: (which exception: 0 for none; the answer; the state then) -/
noncomputable def iteC {α : Type} (P : Prop) (a b : α) : α := @ite α P (Classical.propDecidable P) a b
theorem iteC_pos {α : Type} {P : Prop} {a b : α} (h : P) : iteC P a b = a := @if_pos P (Classical.propDecidable P) h α a b
theorem iteC_neg {α : Type} {P : Prop} {a b : α} (h : ¬ P) : iteC P a b = b := @if_neg P (Classical.propDecidable P) h α a b
abbrev SR : Type := Int × Int × HdS
def s_addDir (S : HdS) (p q : Int) : HdS := sset (sset (sset S 0 (S.1 11 0) p) 1 (S.1 11 0) q) 11 0 (S.1 11 0 + 1)
noncomputable def sp_addDirectory (S : HdS) (p q : Int) : SR := iteC (¬ (0 ≤ p ∧ p < S.1 11 0)) (1, 0, S) (iteC (¬ (-1 ≤ q ∧ q ≤ 100000)) (2, 0, S) (iteC (S.1 11 0 = 12) (3, 0, S) (0, S.1 11 0, s_addDir S p q)))
noncomputable def sp_setQuota (S : HdS) (d q : Int) : SR := iteC (¬ (0 ≤ d ∧ d < S.1 11 0)) (1, 0, S) (iteC (¬ (-1 ≤ q ∧ q ≤ 100000)) (2, 0, S) (0, S.1 1 d, sset S 1 d q))
def s_make (S : HdS) (p d z : Int) : HdS := slks (sset (sset (sset (sset (sset (sset (sset S 2 (S.1 11 1) p) 3 (S.1 11 1) z) 6 (S.1 11 1) 0) 7 (S.1 11 1) 0) 8 (S.1 11 1) (S.1 11 2)) 9 (S.1 11 1) (-1)) 11 1 (S.1 11 1 + 1)) (S.1 11 1) [d]
noncomputable def sp_make (S : HdS) (p d z : Int) : SR := iteC (¬ (0 ≤ p ∧ p < 4) ∨ ¬ (0 ≤ d ∧ d < S.1 11 0)) (1, 0, S) (iteC (¬ (1 ≤ z ∧ z ≤ 1000)) (2, 0, S) (iteC (S.1 11 1 = 30 ∨ ¬ canGrow S p d z) (3, 0, S) (0, S.1 11 1, s_make S p d z)))
noncomputable def sp_link (S : HdS) (f d : Int) : SR := iteC (¬ (0 ≤ f ∧ f < S.1 11 1) ∨ ¬ (0 ≤ d ∧ d < S.1 11 0)) (1, 0, S) (iteC (S.2 f = [] ∨ d ∈ S.2 f) (2, 0, S) (0, ((S.2 f).length : Int) + 1, slks S f (S.2 f ++ [d])))
def keepT (S : HdS) (f : Int) : Int := S.1 6 f + (if S.1 7 f = 0 then 0 else S.1 3 f)
def s_unlink (S : HdS) (f d : Int) : HdS := if (S.2 f).erase d = [] then sset (sset (sset (slks S f []) 6 f (keepT S f)) 3 f 0) 9 f (-1) else slks S f ((S.2 f).erase d)
noncomputable def sp_unlink (S : HdS) (f d : Int) : SR := iteC (¬ (0 ≤ f ∧ f < S.1 11 1) ∨ ¬ (0 ≤ d ∧ d < S.1 11 0)) (1, 0, S) (iteC (d ∉ S.2 f) (2, 0, S) (0, ((S.2 f).length : Int) - 1, s_unlink S f d))
def s_write (S : HdS) (f z : Int) : HdS := sset (sset (sset S 6 f (keepT S f)) 3 f z) 8 f (S.1 11 2)
noncomputable def sp_write (S : HdS) (f z : Int) : SR := iteC (¬ (0 ≤ f ∧ f < S.1 11 1)) (1, 0, S) (iteC (¬ (1 ≤ z ∧ z ≤ 1000)) (2, 0, S) (iteC (S.2 f = [] ∨ tierS S f = 2) (3, 0, S) (iteC (S.1 3 f < z ∧ ¬ canGrow S (S.1 2 f) (homeS S f) (z - S.1 3 f)) (3, 0, S) (0, keepT S f, s_write S f z))))
def priceS (S : HdS) (f : Int) : Int := (S.1 3 f + 9) / 10
def s_bring (S : HdS) (f : Int) : HdS := sset (sset S 10 (S.1 2 f) (S.1 10 (S.1 2 f) - priceS S f)) 9 f (S.1 11 2 + 2)
noncomputable def sp_read (S : HdS) (f : Int) : SR := iteC (¬ (0 ≤ f ∧ f < S.1 11 1)) (1, 0, S) (iteC (S.2 f = []) (2, 0, S) (iteC (tierS S f < 2) (0, 0, sset S 8 f (S.1 11 2)) (iteC (S.1 9 f = -1) (iteC (S.1 10 (S.1 2 f) < priceS S f) (2, 0, S) (0, 2, s_bring S f)) (0, S.1 9 f - S.1 11 2, S))))
noncomputable def sp_hold (S : HdS) (m f : Int) : SR := iteC (¬ (0 ≤ m ∧ m ≤ 4) ∨ ¬ (0 ≤ f ∧ f < S.1 11 1)) (1, 0, S) (iteC (S.2 f = []) (2, 0, S) (0, hCnt (hOr (S.1 7 f) m), sset S 7 f (hOr (S.1 7 f) m)))
noncomputable def sp_release (S : HdS) (m : Int) : SR := iteC (¬ (0 ≤ m ∧ m ≤ 4)) (1, 0, S) (0, dropN S m (S.1 11 1).toNat, relN S m (S.1 11 1))
noncomputable def sp_fund (S : HdS) (p c : Int) : SR := iteC (¬ (0 ≤ p ∧ p < 4)) (1, 0, S) (iteC (¬ (1 ≤ c ∧ c ≤ 10000)) (2, 0, S) (iteC (1000000 < S.1 10 p + c) (3, 0, S) (0, S.1 10 p + c, sset S 10 p (S.1 10 p + c))))
noncomputable def sp_pass (S : HdS) (k : Int) : SR := iteC (¬ (1 ≤ k ∧ k ≤ 100)) (1, 0, S) (iteC (10000 < S.1 11 2 + k) (2, 0, S) (0, (passN S k.toNat).2, (passN S k.toNat).1))
noncomputable def sp_dir (S : HdS) (d : Int) (r : Int) : SR := iteC (¬ (0 ≤ d ∧ d < S.1 11 0)) (1, 0, S) (0, r, S)
noncomputable def sp_fil (S : HdS) (f : Int) (r : Int) : SR := iteC (¬ (0 ≤ f ∧ f < S.1 11 1)) (1, 0, S) (0, r, S)
noncomputable def sp_dpt (S : HdS) (p : Int) (r : Int) : SR := iteC (¬ (0 ≤ p ∧ p < 4)) (1, 0, S) (0, r, S)
