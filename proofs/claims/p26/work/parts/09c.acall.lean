section ACalls
variable {p : Program} {l : Launch} {e : Env} {R : Room} {s : State} {m : MethodId} {args : Array Value} {below : List Frame} {meth : Method} {c : Code} {H : Heap} {locs : List Loc} {cells slots : Nat} {Q : State → Prop}
variable {cc : ByteArray} {pc : Nat} {ls : Array Slot} {rest st0 : List Value} {D : va_G} {cO : ClassId} {dz mi mc ms : Nat} {A : Nat → Prop} {ws : va_W} {a : Array Value}
theorem a_preV {b k ci : Nat} {fs : List Value} {r : vw_C} {As : List Value} (hA : ∀ q, s.heap.size ≤ q → A q) (hE : aE D cO dz mi A s s.heap) (hP : va_P D vwCl ws H) (hS : va_S A s.heap H locs) (hk : ws[k]? = some (b, .inr (ci, fs))) (hc : vwCl[ci]? = some r) : PreV s H r.1 b (va_Pc (.ref b :: As) (aPre D cO dz mi A ws)) As :=
  ⟨a_blind, va_recv hE.1 hP hc hk, fun U hU hW => ⟨rfl, fun q hq => hA q (by rw [hU] at hq; exact Nat.le_trans hS.1 hq), by rw [hU]; exact hP, hE.call hS hU hW⟩⟩
theorem a_preS {As : List Value} (hA : ∀ q, s.heap.size ≤ q → A q) (hE : aE D cO dz mi A s s.heap) (hP : va_P D vwCl ws H) (hS : va_S A s.heap H locs) : PreS s H (va_Pc As (aPre D cO dz mi A ws)) As :=
  ⟨a_blind, fun U hU hW => ⟨rfl, fun q hq => hA q (by rw [hU] at hq; exact Nat.le_trans hS.1 hq), by rw [hU]; exact hP, hE.call hS hU hW⟩⟩
theorem a_callI {post : Int32 → va_W → Prop} (hS : va_S A s.heap H locs) (hr : va_Run p l e R s m args below meth c H locs cells slots mc ms (F0 m pc ls st0) rest (va_Qi post (aB D A) A a) A)
    (kk : ∀ (r : Int32) (ws' : va_W) (H1 : Heap) (locs1 : List Loc), post r ws' → va_P D vwCl ws' H1 → va_D A ws' → va_S A s.heap H1 locs1 → W p l e R s m args below meth c H1 locs1 (cells + mc) (slots + ms) Q (F0 m (pc + 3) ls (.int r :: rest))) : W p l e R s m args below meth c H locs cells slots Q (F0 m pc ls st0) :=
  va_calli hr hS (fun _ _ h => h) (fun _ h => h) (fun r u t H1 locs1 ht _ hp hB _ _ hS1 => kk r u H1 locs1 hp (by rw [← ht]; exact hB.1) hB.2 hS1)
theorem a_callV {post : va_W → Prop} (hS : va_S A s.heap H locs) (hr : va_Run p l e R s m args below meth c H locs cells slots mc ms (F0 m pc ls st0) rest (va_Qv post (aB D A) A a) A)
    (kk : ∀ (ws' : va_W) (H1 : Heap) (locs1 : List Loc), post ws' → va_P D vwCl ws' H1 → va_D A ws' → va_S A s.heap H1 locs1 → W p l e R s m args below meth c H1 locs1 (cells + mc) (slots + ms) Q (F0 m (pc + 3) ls rest)) : W p l e R s m args below meth c H locs cells slots Q (F0 m pc ls st0) :=
  va_callv hr hS (fun _ _ h => h) (fun _ h => h) (fun u t H1 locs1 ht _ hp hB _ _ hS1 => kk u H1 locs1 hp (by rw [← ht]; exact hB.1) hB.2 hS1)
theorem a_callQ {post : Option Nat → va_W → Prop} (hS : va_S A s.heap H locs) (hr : va_Run p l e R s m args below meth c H locs cells slots mc ms (F0 m pc ls st0) rest (va_Qq post (aB D A) A a) A)
    (kk : ∀ (r : Option Nat) (ws' : va_W) (H1 : Heap) (locs1 : List Loc), post r ws' → va_P D vwCl ws' H1 → va_D A ws' → va_S A s.heap H1 locs1 → W p l e R s m args below meth c H1 locs1 (cells + mc) (slots + ms) Q (F0 m (pc + 3) ls (va_rf r :: rest))) : W p l e R s m args below meth c H locs cells slots Q (F0 m pc ls st0) :=
  va_callq hr hS (fun _ _ h => h) (fun _ h => h) (fun r u t H1 locs1 ht _ hp hB _ _ hS1 => kk r u H1 locs1 hp (by rw [← ht]; exact hB.1) hB.2 hS1)
/-- what isn't the list's own stays -/
def keepA (l e : Nat) (ws ws' : va_W) : Prop := ∀ (j : Nat) (x : Nat × va_E), ws[j]? = some x → x.1 ≠ l → x.1 ≠ e → ws'[j]? = some x
theorem keepA.rf {l0 e0 : Nat} {w1 : va_W} : keepA l0 e0 w1 w1 := fun _ _ h _ _ => h
theorem keepA.set {l0 e0 k : Nat} {w1 w2 : va_W} {x y : Nat × va_E} (h : keepA l0 e0 w1 w2) (hk : w2[k]? = some x) (hx : x.1 = l0 ∨ x.1 = e0) : keepA l0 e0 w1 (w2.set k y) := fun j z hz n1 n2 => set_off hk (h j z hz n1 n2) (by rcases hx with q | q <;> rw [q] <;> assumption)
theorem keepA.app {l0 e0 : Nat} {w1 w2 w3 : va_W} (h : keepA l0 e0 w1 w2) : keepA l0 e0 w1 (w2 ++ w3) := fun j z hz n1 n2 => by
  have q := h j z hz n1 n2
  rw [List.getElem?_append_left (List.getElem?_eq_some_iff.mp q).1]
  exact q
end ACalls
