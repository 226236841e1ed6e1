/-! THE LISTS, BY THE WORLD OF THE SYSTEM'S CELLS -/
section CLift
variable {l : Launch} {y : MethodName} {wl : List Cond} {rm : Room} {D : va_G} {cO : ClassId} {dz mi mc ms : Nat} {A : Nat → Prop} {av : List Value} {w : CW}
theorem cI_lift {post' : va_W → Int32 → va_W → Prop} {post : Int32 → CW → Prop} (h : ∀ ws, ¬ A dz → va_D A ws → cRep cO dz ws w → aI l y wl rm D cO dz mi A av ws (post' ws) mc ms) (k : ∀ (ws : va_W) (r : Int32) (ws' : va_W), ¬ A dz → va_D A ws → cRep cO dz ws w → post' ws r ws' → ∃ w', cRep cO dz ws' w' ∧ post r w') : cI l y wl rm D cO dz mi A av w post mc ms := by
  intro p e ha hcs hk s m args below hfr happ hP hK
  obtain ⟨hav, hA, ⟨ws, hPw, hDw, hRw⟩, hE, hX⟩ := hP
  obtain ⟨n, o, h1, h2, h3, ⟨⟨r, u, ho, hp, hB⟩, hF⟩, hL⟩ := h ws hE.dz hDw hRw p e ha hcs hk s m args below hfr happ ⟨hav, hA, hPw, hE⟩ hK
  obtain ⟨w', hR', hp'⟩ := k ws r u hE.dz hDw hRw hp
  exact ⟨n, o, h1, h2, h3, ⟨⟨r, w', ho, hp', u, hB.1, hB.2, hR'⟩, hF⟩, hL⟩
theorem cQ_lift {post' : va_W → Option Nat → va_W → Prop} {post : Option Nat → CW → Prop} (h : ∀ ws, ¬ A dz → va_D A ws → cRep cO dz ws w → aRf l y wl rm D cO dz mi A av ws (post' ws) mc ms) (k : ∀ (ws : va_W) (r : Option Nat) (ws' : va_W), ¬ A dz → va_D A ws → cRep cO dz ws w → post' ws r ws' → ∃ w', cRep cO dz ws' w' ∧ post r w') : cQ l y wl rm D cO dz mi A av w post mc ms := by
  intro p e ha hcs hk s m args below hfr happ hP hK
  obtain ⟨hav, hA, ⟨ws, hPw, hDw, hRw⟩, hE, hX⟩ := hP
  obtain ⟨n, o, h1, h2, h3, ⟨⟨r, u, ho, hp, hB⟩, hF⟩, hL⟩ := h ws hE.dz hDw hRw p e ha hcs hk s m args below hfr happ ⟨hav, hA, hPw, hE⟩ hK
  obtain ⟨w', hR', hp'⟩ := k ws r u hE.dz hDw hRw hp
  exact ⟨n, o, h1, h2, h3, ⟨⟨r, w', ho, hp', u, hB.1, hB.2, hR'⟩, hF⟩, hL⟩
/-- a list's cells, taken apart -/
theorem cRep.lsOf {ws : va_W} {l0 : Nat} (h : cRep cO dz ws w) (h5 : w.1 l0 = 5) : ∃ (k e0 : Nat) (mo : Int), ws[k]? = some (l0, .inr (0, [.int (iI mo), .ref e0, .int (iI ((w.2.2.2 l0).length : Int))])) ∧
    ((w.2.2.2 l0 = [] ∧ e0 = dz) ∨ (e0 ≠ dz ∧ ∃ (j cap : Nat) (arr : Nat → Option Nat), ws[j]? = some (e0, aCell cO cap arr) ∧ (w.2.2.2 l0).length ≤ cap ∧ (2 ≤ cap ∧ cap ≤ 600) ∧ (∀ i : Nat, i < cap → arr i = (w.2.2.2 l0)[i]?) ∧ elsOk ws cap arr)) ∧
    (∀ (xs : List Nat) (ws' : va_W) (e' : Nat), (∀ b ∈ xs, 1 ≤ w.1 b ∧ w.1 b ≤ 3) → lsAt cO dz ws' l0 xs e' → (∀ (j : Nat) (x : Nat × va_E), ws[j]? = some x → x.1 ≠ l0 → (e0 ≠ dz → x.1 ≠ e0) → ws'[j]? = some x) → (e' = e0 ∨ ∀ (j : Nat) (x : Nat × va_E), ws[j]? = some x → x.1 ≠ e') → cRep cO dz ws' (wL w l0 xs)) := by
  obtain ⟨h5a, hE, hO, ed, hL, hI, hZ⟩ := h
  obtain ⟨k, m, hk, hr⟩ := hL l0 h5
  refine ⟨k, ed l0, m.toInt, by rw [iI_of]; exact hk, ?_, fun xs ws' e' hx hls hkeep he => cRep.list h5a hE hO hL hI hZ h5 hx (fun j x h1 h2 h3 => ⟨j, hkeep j x h1 h2 h3⟩) hls he⟩
  rcases hr with hr | ⟨hne, j, cap, arr, hj, q1, q2, q3, q4⟩
  · exact Or.inl hr
  · refine Or.inr ⟨hne, j, cap, arr, hj, q1, ⟨q2, q3⟩, q4, fun i hi b hb => ?_⟩
    rw [q4 i hi] at hb
    have hm := List.mem_of_getElem? hb
    have hk3 := hE l0 h5 b hm
    obtain ⟨kb, hkb⟩ := hO b hk3.1 (by omega)
    exact ⟨kb, w.1 b, _, hkb, hk3.1, hk3.2⟩
end CLift
theorem L_size (l : Launch) (D : va_G) (cO : ClassId) (dz mi : Nat) {A : Nat → Prop} (w : CW) (l0 : Nat) (h5 : w.1 l0 = 5) : cI l yJx4a65c_size_8abf5 wsJx4a65c_size_8abf5 { frames := 0, cells := 0, slots := 0, locals := 0 } D cO dz mi A [.ref l0] w (fun r w9 => w = w9 ∧ r = iI ((w.2.2.2 l0).length : Int)) 0 0 := by
  refine cI_lift (post' := fun ws r ws' => ws = ws' ∧ r = iI ((w.2.2.2 l0).length : Int)) (fun ws hz hD hR => ?_) (fun ws r ws' hz hD hR hp => ⟨w, by rw [← hp.1]; exact hR, rfl, hp.2⟩)
  obtain ⟨k, e0, mo, hk, -, -⟩ := hR.lsOf h5
  exact a_size l D cO dz mi ws hD k l0 e0 mo ((w.2.2.2 l0).length : Int) hk
theorem L_isEmpty (l : Launch) (D : va_G) (cO : ClassId) (dz mi : Nat) {A : Nat → Prop} (w : CW) (l0 : Nat) (h5 : w.1 l0 = 5) (hn : (w.2.2.2 l0).length ≤ 300) : cI l yJx4a65c_isEmpty_aae02 wsJx4a65c_isEmpty_aae02 { frames := 0, cells := 0, slots := 0, locals := 0 } D cO dz mi A [.ref l0] w (fun r w9 => w = w9 ∧ (w.2.2.2 l0 = [] ∧ r = iI 1 ∨ w.2.2.2 l0 ≠ [] ∧ r = iI 0)) 0 0 := by
  refine cI_lift (post' := fun ws r ws' => ws = ws' ∧ (((w.2.2.2 l0).length : Int) = 0 ∧ r = iI 1 ∨ ¬ ((w.2.2.2 l0).length : Int) = 0 ∧ r = iI 0)) (fun ws hz hD hR => ?_) (fun ws r ws' hz hD hR hp => ⟨w, by rw [← hp.1]; exact hR, rfl, ?_⟩)
  · obtain ⟨k, e0, mo, hk, -, -⟩ := hR.lsOf h5
    exact a_isEmpty l D cO dz mi ws hD k l0 e0 mo ((w.2.2.2 l0).length : Int) hk ⟨by omega, by omega⟩
  · rcases hp.2 with ⟨q, r1⟩ | ⟨q, r1⟩
    · exact Or.inl ⟨List.eq_nil_of_length_eq_zero (by omega), r1⟩
    · exact Or.inr ⟨fun z => q (by rw [z]; rfl), r1⟩
theorem L_get (l : Launch) (D : va_G) (cO : ClassId) (dz mi : Nat) {A : Nat → Prop} (w : CW) (l0 : Nat) (h5 : w.1 l0 = 5) (hn : (w.2.2.2 l0).length ≤ 300) (i : Int) (h0 : 0 ≤ i) (h1 : i < (w.2.2.2 l0).length) : cQ l yJx4a65c_get_915e3 wsJx4a65c_get_915e3 { frames := 2, cells := 0, slots := 0, locals := 43 } D cO dz mi A [.ref l0, .int (iI i)] w (fun r w9 => w = w9 ∧ r = (w.2.2.2 l0)[i.toNat]?) 0 0 := by
  refine cQ_lift (post' := fun ws r ws' => ws = ws' ∧ r = (w.2.2.2 l0)[i.toNat]?) (fun ws hz hD hR => ?_) (fun ws r ws' hz hD hR hp => ⟨w, by rw [← hp.1]; exact hR, rfl, hp.2⟩)
  obtain ⟨k, e0, mo, hk, hr, -⟩ := hR.lsOf h5
  rcases hr with ⟨hx, -⟩ | ⟨hne, j, cap, arr, hj, q1, q2, q3, -⟩
  · rw [hx] at h1
    exact absurd h1 (by show ¬ i < ((0 : Nat) : Int); omega)
  · have h9 := a_get l D cO dz mi ws hD k l0 e0 mo ((w.2.2.2 l0).length : Int) hk j cap arr hj q2 i h0 h1 (by omega) (by omega)
    rw [q3 i.toNat (by omega)] at h9
    exact h9
theorem L_add (l : Launch) (D : va_G) (cO : ClassId) (dz mi : Nat) {A : Nat → Prop} (w : CW) (l0 b : Nat) (h5 : w.1 l0 = 5) (hb1 : 1 ≤ w.1 b) (hb3 : w.1 b ≤ 3) (hn : (w.2.2.2 l0).length ≤ 300) : cI l yJx4a65c_add_9ea2d wsJx4a65c_add_9ea2d { frames := 6, cells := 1, slots := 1000, locals := 170 } D cO dz mi A [.ref l0, .ref b] w (fun r w9 => wL w l0 (w.2.2.2 l0 ++ [b]) = w9 ∧ r = iI 1) 1 1000 := by
  refine cI_lift (post' := fun ws r ws' => r = iI 1 ∧ cRep cO dz ws' (wL w l0 (w.2.2.2 l0 ++ [b]))) (fun ws hz hD hR => ?_) (fun ws r ws' hz hD hR hp => ⟨_, hp.2, rfl, hp.1⟩)
  obtain ⟨k, e0, mo, hk, hr, hset⟩ := hR.lsOf h5
  obtain ⟨kb, hkb⟩ := hR.2.2.1 b hb1 (by omega)
  have hxs : ∀ x ∈ w.2.2.2 l0 ++ [b], 1 ≤ w.1 x ∧ w.1 x ≤ 3 := fun x hx => by
    rcases List.mem_append.mp hx with h | h
    · exact hR.2.1 l0 h5 x h
    · rw [List.mem_singleton.mp h]; exact ⟨hb1, hb3⟩
  have up : ∀ {rm : Room} {mc ms : Nat} {post1 post2 : Int32 → va_W → Prop}, aI l yJx4a65c_add_9ea2d wsJx4a65c_add_9ea2d rm D cO dz mi A [.ref l0, .ref b] ws post1 mc ms → rm.frames ≤ 6 → rm.locals ≤ 170 → rm.cells ≤ 1 → rm.slots ≤ 1000 → mc ≤ 1 → ms ≤ 1000 → (∀ r ws', post1 r ws' → post2 r ws') → aI l yJx4a65c_add_9ea2d wsJx4a65c_add_9ea2d { frames := 6, cells := 1, slots := 1000, locals := 170 } D cO dz mi A [.ref l0, .ref b] ws post2 1 1000 := by
    intro rm mc ms post1 post2 h f1 f2 f3 f4 f5 f6 hpp
    have h9 := met_room (rm' := { frames := 6, cells := 1, slots := 1000, locals := 170 }) h f1 f2 f3 f4 f5 f6
    intro p e ha hcs hk s m args below hfr happ hP hK
    obtain ⟨n, o, k1, k2, k3, ⟨⟨r, u, ho, hp, hB⟩, hF⟩, hL⟩ := h9 p e ha hcs hk s m args below hfr happ hP hK
    exact ⟨n, o, k1, k2, k3, ⟨⟨r, u, ho, hpp r u hp, hB⟩, hF⟩, hL⟩
  rcases hr with ⟨hx, he⟩ | ⟨hne, j, cap, arr, hj, q1, q2, q3, q4⟩
  · subst he
    refine up (a_addD l D cO e0 mi ws hD (w.2.2.2 l0) k l0 mo hk (by rw [hx]; rfl) b kb (w.1 b) _ hkb hb1 hb3) (by decide) (by decide) (by decide) (by decide) (by decide) (by decide) (fun r ws' hp => ⟨hp.1, ?_⟩)
    obtain ⟨-, e1, hls, hkp, he⟩ := hp
    exact hset _ ws' e1 hxs hls (fun j x h1 h2 h3 => hkp j x h1 h2 (fun z => hz (z ▸ hD.2 j x h1))) he
  · by_cases hfull : (w.2.2.2 l0).length < cap
    · refine up (a_addR l D cO dz mi ws hD (w.2.2.2 l0) k l0 e0 mo hk hne j cap arr hj q2 q3 b kb (w.1 b) _ hkb hb1 hb3 hfull) (by decide) (by decide) (by decide) (by decide) (by decide) (by decide) (fun r ws' hp => ⟨hp.1, ?_⟩)
      obtain ⟨-, e1, hls, hkp, he⟩ := hp
      exact hset _ ws' e1 hxs hls (fun j x h1 h2 h3 => hkp j x h1 h2 (h3 hne)) he
    · refine up (a_addF l D cO dz mi ws hD (w.2.2.2 l0) k l0 e0 mo hk hne j cap arr hj q2 q3 b kb (w.1 b) _ hkb hb1 hb3 q4 (by omega) (by omega)) (by decide) (by decide) (by decide) (by decide) (by decide) (by decide) (fun r ws' hp => ⟨hp.1, ?_⟩)
      obtain ⟨-, e1, hls, hkp, he⟩ := hp
      exact hset _ ws' e1 hxs hls (fun j x h1 h2 h3 => hkp j x h1 h2 (h3 hne)) he
theorem L_remove (l : Launch) (D : va_G) (cO : ClassId) (dz mi : Nat) {A : Nat → Prop} (w : CW) (l0 : Nat) (h5 : w.1 l0 = 5) (hn : (w.2.2.2 l0).length ≤ 300) (r0 : Nat) (hr0 : r0 < (w.2.2.2 l0).length) : cQ l yJx4a65c_remove_915e3 wsJx4a65c_remove_915e3 { frames := 2, cells := 0, slots := 0, locals := 83 } D cO dz mi A [.ref l0, .int (iI (r0 : Int))] w (fun r w9 => wL w l0 ((w.2.2.2 l0).eraseIdx r0) = w9 ∧ r = (w.2.2.2 l0)[r0]?) 0 0 := by
  refine cQ_lift (post' := fun ws r ws' => r = (w.2.2.2 l0)[r0]? ∧ cRep cO dz ws' (wL w l0 ((w.2.2.2 l0).eraseIdx r0))) (fun ws hz hD hR => ?_) (fun ws r ws' hz hD hR hp => ⟨_, hp.2, rfl, hp.1⟩)
  obtain ⟨k, e0, mo, hk, hr, hset⟩ := hR.lsOf h5
  rcases hr with ⟨hx, -⟩ | ⟨hne, j, cap, arr, hj, q1, q2, q3, q4⟩
  · rw [hx] at hr0
    exact absurd hr0 (Nat.not_lt_zero r0)
  · have h9 := a_remove l D cO dz mi ws hD (w.2.2.2 l0) k l0 e0 mo hk hne j cap arr hj q2 q3 q4 r0 hr0 q1
    intro p e ha hcs hk9 s m args below hfr happ hP hK
    obtain ⟨n, o, k1, k2, k3, ⟨⟨r, u, ho, hp, hB⟩, hF⟩, hL⟩ := h9 p e ha hcs hk9 s m args below hfr happ hP hK
    exact ⟨n, o, k1, k2, k3, ⟨⟨r, u, ho, ⟨hp.1, hset _ u e0 (fun x hx => hR.2.1 l0 h5 x (List.mem_of_mem_eraseIdx hx)) hp.2.1 (fun j x h1 h2 h3 => hp.2.2 j x h1 h2 (h3 hne)) (Or.inl rfl)⟩, hB⟩, hF⟩, hL⟩
