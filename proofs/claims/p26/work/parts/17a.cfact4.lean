/-! THE COUNT OF BITS, AND USAGES WHERE ONE FILE IS ANOTHER -/
def bcU (x y : Int32) : Int32 := (x.toUInt32 >>> (y.toUInt32 &&& Int32.toUInt32 31)).toInt32
def bc1 (x : Int32) : Int32 := x - (bcU x (iI 1) &&& iI 1431655765)
def bc2 (x : Int32) : Int32 := (x &&& iI 858993459) + (bcU x (iI 2) &&& iI 858993459)
def bc3 (x : Int32) : Int32 := (x + bcU x (iI 4)) &&& iI 252645135
def bc4 (x : Int32) : Int32 := x + bcU x (iI 8)
def bc5 (x : Int32) : Int32 := x + bcU x (iI 16)
theorem bc_all : ∀ h : Nat, h < 32 → bc5 (bc4 (bc3 (bc2 (bc1 (iI (h : Int)))))) &&& iI 63 = iI (hCnt (h : Int)) := by decide +kernel
theorem bc_all2 {h : Int} (h0 : 0 ≤ h) (h1 : h < 32) : bc5 (bc4 (bc3 (bc2 (bc1 (iI h))))) &&& iI 63 = iI (hCnt h) := by
  have := bc_all h.toNat (by omega)
  rwa [Int.toNat_of_nonneg h0] at this
def usgP (S : HdS) (e f : Int) : Int := if S.2 f ≠ [] ∧ e ∈ wayS S (homeS S f) then S.1 3 f else 0
theorem usgP_eq {S S' : HdS} {e f : Int} (h0 : S'.1 0 = S.1 0) (h2 : S'.2 f = S.2 f) (h3 : S'.1 3 f = S.1 3 f) : usgP S' e f = usgP S e f := by
  have e5 : homeS S' f = homeS S f := by unfold homeS; rw [h2]
  have e4 : wayS S' (homeS S' f) = wayS S (homeS S f) := by
    rw [e5]
    exact wayN_cong h0 13 _
  unfold usgP
  rw [h2, h3, e4]
theorem usgP_home {S : HdS} {e f : Int} (h : S.2 f ≠ []) : usgP S e f = if e ∈ wayS S (homeS S f) then S.1 3 f else 0 := by
  unfold usgP
  by_cases q : e ∈ wayS S (homeS S f)
  · rw [if_pos ⟨h, q⟩, if_pos q]
  · rw [if_neg (fun z => q z.2), if_neg q]
theorem usgP_gone {S : HdS} {e f : Int} (h : S.2 f = []) : usgP S e f = 0 := by
  unfold usgP
  rw [if_neg (fun z => z.1 h)]
theorem usgN_one {S S' : HdS} {f : Int} (h0 : S'.1 0 = S.1 0) (h2 : ∀ f' : Int, 0 ≤ f' → f' < S.1 11 1 → f' ≠ f → S'.2 f' = S.2 f' ∧ S'.1 3 f' = S.1 3 f') (e : Int) (hf0 : 0 ≤ f) : ∀ k : Nat, (k : Int) ≤ S.1 11 1 → usgN S' e k = usgN S e k + (if f < k then usgP S' e f - usgP S e f else 0) := by
  intro k
  induction k with
  | zero => intro _; rw [if_neg (by omega)]; rfl
  | succ k ih =>
    intro hk
    have hi := ih (by omega)
    have e1 : usgN S' e (k + 1) = usgN S' e k + usgP S' e (k : Int) := rfl
    have e2 : usgN S e (k + 1) = usgN S e k + usgP S e (k : Int) := rfl
    rw [e1, e2, hi]
    by_cases q : (k : Int) = f
    · rw [if_neg (by omega), if_pos (by omega), q]
      omega
    · obtain ⟨a, b⟩ := h2 k (by omega) (by omega) q
      rw [usgP_eq h0 a b]
      by_cases r : f < (k : Int)
      · rw [if_pos r, if_pos (by omega)]; omega
      · rw [if_neg r, if_neg (by omega)]; omega
theorem usg_one {S S' : HdS} {f : Int} (h0 : S'.1 0 = S.1 0) (hf0 : 0 ≤ f) (hf1 : f < S.1 11 1) (h2 : ∀ f' : Int, 0 ≤ f' → f' < S.1 11 1 → f' ≠ f → S'.2 f' = S.2 f' ∧ S'.1 3 f' = S.1 3 f') (h11 : S'.1 11 1 = S.1 11 1) (e : Int) : usg S' e = usg S e + (usgP S' e f - usgP S e f) := by
  unfold usg
  rw [h11, usgN_one h0 h2 e hf0 _ (by omega), if_pos (by omega)]
theorem addU_at (S : HdS) (U : Int → Int) (d z e : Int) : addU S U d z e = if e ∈ wayS S d then U e + z else U e := rfl
theorem slks_off {S : HdS} {f f' : Int} {ls : List Int} (h : f' ≠ f) : (slks S f ls).2 f' = S.2 f' := by rw [slks_2, if_neg h]
theorem slks_at (S : HdS) (f : Int) (ls : List Int) : (slks S f ls).2 f = ls := by rw [slks_2, if_pos rfl]
theorem sset_ne {S : HdS} {k : Nat} {i i' v : Int} (h : i' ≠ i) (k' : Nat) : (sset S k i v).1 k' i' = S.1 k' i' := by rw [sset_1, if_neg (fun q => h q.2)]
theorem way_0 {S S' : HdS} (h : S'.1 0 = S.1 0) (d : Int) : wayS S' d = wayS S d := wayN_cong h 13 d
theorem home_neg {S : HdS} {f : Int} (hl : ∀ d ∈ S.2 f, 0 ≤ d) (h : homeS S f = -1) : S.2 f = [] := Classical.byContradiction fun q => by
  have := hl _ (home_mem q)
  omega
theorem usg_write {S : HdS} {f z : Int} (h0 : 0 ≤ f) (h1 : f < S.1 11 1) (hne : S.2 f ≠ []) : addU S (usg S) (homeS S f) (z - S.1 3 f) = usg (s_write S f z) := by
  have eP : (s_write S f z).1 0 = S.1 0 := funext fun i => by unfold s_write; rw [sset_off (by omega), sset_off (by omega), sset_off (by omega)]
  have e3 : (s_write S f z).1 3 f = z := by unfold s_write; rw [sset_off (by omega), sset_at]
  funext e
  rw [usg_one (S' := s_write S f z) (f := f) eP h0 h1 (fun f' _ _ hq => ⟨rfl, by unfold s_write; rw [sset_ne hq, sset_ne hq, sset_ne hq]⟩) (by unfold s_write; rw [sset_off (by omega), sset_off (by omega), sset_off (by omega)]) e, usgP_home hne, usgP_home (S := s_write S f z) (show S.2 f ≠ [] from hne), e3, addU_at]
  have eW : wayS (s_write S f z) (homeS (s_write S f z) f) = wayS S (homeS S f) := way_0 eP _
  rw [eW]
  split <;> omega
theorem usg_unlinkG {S : HdS} {f d : Int} (h0 : 0 ≤ f) (h1 : f < S.1 11 1) (hne : S.2 f ≠ []) (he : (S.2 f).erase d = []) : addU S (usg S) (homeS S f) (-(S.1 3 f)) = usg (s_unlink S f d) := by
  have es : s_unlink S f d = sset (sset (sset (slks S f []) 6 f (keepT S f)) 3 f 0) 9 f (-1) := by unfold s_unlink; rw [if_pos he]
  have eg : (s_unlink S f d).2 f = [] := by rw [es]; exact slks_at S f []
  funext e
  rw [usg_one (S' := s_unlink S f d) (f := f) (by rw [es]; exact funext fun i => by rw [sset_off (by omega), sset_off (by omega), sset_off (by omega), slks_1]) h0 h1 (fun f' _ _ hq => by rw [es]; exact ⟨slks_off hq, by rw [sset_ne hq, sset_ne hq, sset_ne hq, slks_1]⟩) (by rw [es, sset_off (by omega), sset_off (by omega), sset_off (by omega), slks_1]) e, usgP_home hne, usgP_gone eg, addU_at]
  split <;> omega
theorem usg_unlinkM {S : HdS} {f d : Int} (h0 : 0 ≤ f) (h1 : f < S.1 11 1) (hne : S.2 f ≠ []) (he : (S.2 f).erase d ≠ []) : addU S (addU S (usg S) (homeS S f) (-(S.1 3 f))) (homeS (slks S f ((S.2 f).erase d)) f) (S.1 3 f) = usg (slks S f ((S.2 f).erase d)) := by
  have eg : (slks S f ((S.2 f).erase d)).2 f ≠ [] := by rw [slks_at]; exact he
  funext e
  rw [usg_one (S := S) (S' := slks S f ((S.2 f).erase d)) (f := f) rfl h0 h1 (fun f' _ _ hq => ⟨slks_off hq, rfl⟩) rfl e, usgP_home hne, usgP_home eg, slks_1, addU_at, addU_at, way_0 (S := S) (S' := slks S f ((S.2 f).erase d)) rfl]
  split <;> split <;> omega
theorem s_write_6 (S : HdS) (f z : Int) : (s_write S f z).1 6 f = keepT S f := by unfold s_write; rw [sset_off (by omega), sset_off (by omega), sset_at]
/-- a file that is gone comes back never -/
theorem RelC.bac {S : HdS} {w : CW} {g : Nat → Int → Nat} {T : Nat → Nat × Int} {U : Int → Int} (h : RelC S w g T U) (hn : 0 ≤ S.1 11 1) {f v : Int} (hg : S.2 f = []) : RelC (sset S 9 f v) w g T U := by
  refine h.upd hn rfl rfl (sset_off (by omega)) (sset_off (by omega)) (fun _ _ _ => sset_off (by omega)) (fun _ _ _ => sset_off (by omega)) (by rw [sset_off (by omega)]; exact h.day) (fun _ _ _ _ => rfl) (fun _ _ _ => rfl) (fun d' k0 k1 => by rw [sset_off (by omega)]; exact (h.d k0 k1).2.2.1) (fun d' k0 k1 => (h.d k0 k1).2.2.2) (fun f' k0 k1 => ?_) (fun q k0 k1 => by rw [sset_off (by omega)]; exact (h.p k0 k1).2.1)
  rw [sset_off (k' := 3) (by omega), sset_off (k' := 7) (by omega), sset_off (k' := 6) (by omega)]
  obtain ⟨a1, a2, a3, a4, a5, a6, a7⟩ := h.f k0 k1
  refine ⟨a3, a4, a5, a6, fun hne => ?_⟩
  have hne : S.2 f' ≠ [] := hne
  have hq : f' ≠ f := fun e => hne (e ▸ hg)
  rw [a7 hne]
  unfold uoS
  rw [sset_ne hq, sset_ne hq]
/-- the world but for the usages -/
def but23 (w w2 : CW) : Prop := w2.1 = w.1 ∧ w2.2.2 = w.2.2 ∧ ∀ id a, id ≠ 23 → w2.2.1 id a = w.2.1 id a
theorem but23.rf (w : CW) : but23 w w := ⟨rfl, rfl, fun _ _ _ => rfl⟩
theorem but23.put {w w2 : CW} (h : but23 w w2) (a : Nat) (v : Int) : but23 w (wF w2 23 a v) := ⟨h.1, h.2.1, fun id a' hn => by rw [wF_off hn]; exact h.2.2 id a' hn⟩
