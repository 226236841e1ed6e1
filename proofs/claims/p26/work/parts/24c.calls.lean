/-! THE CALLS, WHERE NOTHING IS REFUSED: from a state to a state -/
/-- the server at a0 is in the state S -/
def ST (S : HdS) (w : CW) (a0 : Nat) : Prop := ∃ (g : Nat → Int → Nat) (T : Nat → Nat × Int), g 0 0 = a0 ∧ RelC S w g T (usg S)
theorem ST.k0 {S : HdS} {w : CW} {a0 : Nat} (h : ST S w a0) : w.1 a0 = 4 := by
  obtain ⟨g, T, rfl, hR⟩ := h
  exact hR.k0
theorem cI_no {l : Launch} {y : MethodName} {wl : List Cond} {rm : Room} {D : va_G} {cO : ClassId} {dz mi mc ms : Nat} {A : Nat → Prop} {av : List Value} {w : CW} {post post' : Int32 → CW → Prop} {pX : String → Prop} (h : cIX l y wl rm D cO dz mi A av w post pX mc ms) (hp : ∀ r w9, post r w9 → post' r w9) (hx : ∀ E, ¬ pX E) : cI l y wl rm D cO dz mi A av w post' mc ms := by
  intro p e ha hcs hk s m args below hfr happ hP hK
  obtain ⟨n, o, h1, h2, h3, hq⟩ := h p e ha hcs hk s m args below hfr happ hP hK
  refine ⟨n, o, h1, h2, h3, ?_⟩
  rcases hq with ⟨⟨⟨r, u, ho, hp9, hB⟩, hF⟩, hL⟩ | ⟨q, ho, E, ce, L, ⟨u, hu, ⟨hE, hB⟩, hF⟩, hrest⟩
  · exact ⟨⟨⟨r, u, ho, hp r u hp9, hB⟩, hF⟩, hL⟩
  · exact absurd hE (hx E)
theorem cI_as {l : Launch} {y : MethodName} {wl : List Cond} {rm : Room} {D : va_G} {cO : ClassId} {dz mi mc ms : Nat} {A : Nat → Prop} {av : List Value} {w : CW} {post post' : Int32 → CW → Prop} (h : cI l y wl rm D cO dz mi A av w post mc ms) (hp : ∀ r w9, post r w9 → post' r w9) : cI l y wl rm D cO dz mi A av w post' mc ms := by
  intro p e ha hcs hk s m args below hfr happ hP hK
  obtain ⟨n, o, h1, h2, h3, ⟨⟨r, u, ho, hp9, hB⟩, hF⟩, hL⟩ := h p e ha hcs hk s m args below hfr happ hP hK
  exact ⟨n, o, h1, h2, h3, ⟨⟨r, u, ho, hp r u hp9, hB⟩, hF⟩, hL⟩
theorem cI_mut {l : Launch} {y : MethodName} {wl : List Cond} {rm : Room} {D : va_G} {cO : ClassId} {dz mi mc ms : Nat} {A : Nat → Prop} {av : List Value} {w : CW} {a0 : Nat} {q : SR} {v : Int} {S' : HdS} {tb : Int → String} (hq : q = (0, v, S')) (h : cIX l y wl rm D cO dz mi A av w (fun r w9 => spC a0 q r w9) (spE tb q) mc ms) : cI l y wl rm D cO dz mi A av w (fun r w9 => r = iI v ∧ ST S' w9 a0) mc ms := by
  subst hq
  exact cI_no h (fun r w9 hp => ⟨hp.2.1, hp.2.2⟩) (fun E hx => hx.1 rfl)

theorem n_size (l : Launch) (D : va_G) (cO : ClassId) (dz mi : Nat) {A : Nat → Prop} {S : HdS} {w : CW} {a0 : Nat} {n : Int} (hw : wf S n) (hR : ST S w a0) (hst : l.stackTraces = false) {i v : Int} (h0 : 0 ≤ i) (h1 : i < S.1 11 1) (hv : S.1 3 i = v) : cI l yX3_size wsX3_size { frames := 7, cells := 1, slots := 6, locals := 111 } D cO dz mi A [.ref a0, .int (iI i)] w (fun r w9 => r = iI v ∧ ST S w9 a0) 1 6 := by
  obtain ⟨g, T, rfl, hR⟩ := hR
  subst hv
  have hnd := hw.nd
  have hnf := hw.nf
  exact cI_no (c_size l D cO dz mi hw hR hst i ⟨by omega, by omega⟩) (fun r w9 hp => by obtain ⟨rfl, -, rfl⟩ := hp; exact ⟨rfl, g, T, rfl, hR⟩) (fun E hx => hx.2 ⟨h0, h1⟩)
theorem n_kept (l : Launch) (D : va_G) (cO : ClassId) (dz mi : Nat) {A : Nat → Prop} {S : HdS} {w : CW} {a0 : Nat} {n : Int} (hw : wf S n) (hR : ST S w a0) (hst : l.stackTraces = false) {i v : Int} (h0 : 0 ≤ i) (h1 : i < S.1 11 1) (hv : S.1 6 i = v) : cI l yX3_kept wsX3_kept { frames := 7, cells := 1, slots := 6, locals := 111 } D cO dz mi A [.ref a0, .int (iI i)] w (fun r w9 => r = iI v ∧ ST S w9 a0) 1 6 := by
  obtain ⟨g, T, rfl, hR⟩ := hR
  subst hv
  have hnd := hw.nd
  have hnf := hw.nf
  exact cI_no (c_kept l D cO dz mi hw hR hst i ⟨by omega, by omega⟩) (fun r w9 hp => by obtain ⟨rfl, -, rfl⟩ := hp; exact ⟨rfl, g, T, rfl, hR⟩) (fun E hx => hx.2 ⟨h0, h1⟩)
theorem n_holders (l : Launch) (D : va_G) (cO : ClassId) (dz mi : Nat) {A : Nat → Prop} {S : HdS} {w : CW} {a0 : Nat} {n : Int} (hw : wf S n) (hR : ST S w a0) (hst : l.stackTraces = false) {i v : Int} (h0 : 0 ≤ i) (h1 : i < S.1 11 1) (hv : S.1 7 i = v) : cI l yX3_holders wsX3_holders { frames := 7, cells := 1, slots := 6, locals := 111 } D cO dz mi A [.ref a0, .int (iI i)] w (fun r w9 => r = iI v ∧ ST S w9 a0) 1 6 := by
  obtain ⟨g, T, rfl, hR⟩ := hR
  subst hv
  have hnd := hw.nd
  have hnf := hw.nf
  exact cI_no (c_holders l D cO dz mi hw hR hst i ⟨by omega, by omega⟩) (fun r w9 hp => by obtain ⟨rfl, -, rfl⟩ := hp; exact ⟨rfl, g, T, rfl, hR⟩) (fun E hx => hx.2 ⟨h0, h1⟩)
theorem n_tier (l : Launch) (D : va_G) (cO : ClassId) (dz mi : Nat) {A : Nat → Prop} {S : HdS} {w : CW} {a0 : Nat} {n : Int} (hw : wf S n) (hR : ST S w a0) (hst : l.stackTraces = false) {i v : Int} (h0 : 0 ≤ i) (h1 : i < S.1 11 1) (hv : tierS S i = v) : cI l yX3_tier wsX3_tier { frames := 7, cells := 1, slots := 6, locals := 111 } D cO dz mi A [.ref a0, .int (iI i)] w (fun r w9 => r = iI v ∧ ST S w9 a0) 1 6 := by
  obtain ⟨g, T, rfl, hR⟩ := hR
  subst hv
  have hnd := hw.nd
  have hnf := hw.nf
  exact cI_no (c_tier l D cO dz mi hw hR hst i ⟨by omega, by omega⟩) (fun r w9 hp => by obtain ⟨rfl, -, rfl⟩ := hp; exact ⟨rfl, g, T, rfl, hR⟩) (fun E hx => hx.2 ⟨h0, h1⟩)
theorem n_home (l : Launch) (D : va_G) (cO : ClassId) (dz mi : Nat) {A : Nat → Prop} {S : HdS} {w : CW} {a0 : Nat} {n : Int} (hw : wf S n) (hR : ST S w a0) (hst : l.stackTraces = false) {i v : Int} (h0 : 0 ≤ i) (h1 : i < S.1 11 1) (hv : homeS S i = v) : cI l yX3_home wsX3_home { frames := 7, cells := 1, slots := 6, locals := 111 } D cO dz mi A [.ref a0, .int (iI i)] w (fun r w9 => r = iI v ∧ ST S w9 a0) 1 6 := by
  obtain ⟨g, T, rfl, hR⟩ := hR
  subst hv
  have hnd := hw.nd
  have hnf := hw.nf
  exact cI_no (c_home l D cO dz mi hw hR hst i ⟨by omega, by omega⟩) (fun r w9 hp => by obtain ⟨rfl, -, rfl⟩ := hp; exact ⟨rfl, g, T, rfl, hR⟩) (fun E hx => hx.2 ⟨h0, h1⟩)
theorem n_usage (l : Launch) (D : va_G) (cO : ClassId) (dz mi : Nat) {A : Nat → Prop} {S : HdS} {w : CW} {a0 : Nat} {n : Int} (hw : wf S n) (hR : ST S w a0) (hst : l.stackTraces = false) {i v : Int} (h0 : 0 ≤ i) (h1 : i < S.1 11 0) (hv : usg S i = v) : cI l yX3_usage wsX3_usage { frames := 7, cells := 1, slots := 6, locals := 111 } D cO dz mi A [.ref a0, .int (iI i)] w (fun r w9 => r = iI v ∧ ST S w9 a0) 1 6 := by
  obtain ⟨g, T, rfl, hR⟩ := hR
  subst hv
  have hnd := hw.nd
  have hnf := hw.nf
  exact cI_no (c_usage l D cO dz mi hw hR hst i ⟨by omega, by omega⟩) (fun r w9 hp => by obtain ⟨rfl, -, rfl⟩ := hp; exact ⟨rfl, g, T, rfl, hR⟩) (fun E hx => hx.2 ⟨h0, h1⟩)
theorem n_usageByWalking (l : Launch) (D : va_G) (cO : ClassId) (dz mi : Nat) {A : Nat → Prop} {S : HdS} {w : CW} {a0 : Nat} {n : Int} (hw : wf S n) (hR : ST S w a0) (hst : l.stackTraces = false) {i v : Int} (h0 : 0 ≤ i) (h1 : i < S.1 11 0) (hv : usg S i = v) : cI l yX3_usageByWalking wsX3_usageByWalking { frames := 7, cells := 1, slots := 6, locals := 111 } D cO dz mi A [.ref a0, .int (iI i)] w (fun r w9 => r = iI v ∧ ST S w9 a0) 1 6 := by
  obtain ⟨g, T, rfl, hR⟩ := hR
  subst hv
  have hnd := hw.nd
  have hnf := hw.nf
  exact cI_no (c_usageByWalking l D cO dz mi hw hR hst i ⟨by omega, by omega⟩) (fun r w9 hp => by obtain ⟨rfl, -, rfl⟩ := hp; exact ⟨rfl, g, T, rfl, hR⟩) (fun E hx => hx.2 ⟨h0, h1⟩)
theorem n_coins (l : Launch) (D : va_G) (cO : ClassId) (dz mi : Nat) {A : Nat → Prop} {S : HdS} {w : CW} {a0 : Nat} {n : Int} (hw : wf S n) (hR : ST S w a0) (hst : l.stackTraces = false) {i v : Int} (h0 : 0 ≤ i) (h1 : i < 4) (hv : S.1 10 i = v) : cI l yX3_coins wsX3_coins { frames := 7, cells := 1, slots := 6, locals := 111 } D cO dz mi A [.ref a0, .int (iI i)] w (fun r w9 => r = iI v ∧ ST S w9 a0) 1 6 := by
  obtain ⟨g, T, rfl, hR⟩ := hR
  subst hv
  have hnd := hw.nd
  have hnf := hw.nf
  exact cI_no (c_coins l D cO dz mi hw hR hst i ⟨by omega, by omega⟩) (fun r w9 hp => by obtain ⟨rfl, -, rfl⟩ := hp; exact ⟨rfl, g, T, rfl, hR⟩) (fun E hx => hx.2 ⟨h0, h1⟩)
theorem n_bill (l : Launch) (D : va_G) (cO : ClassId) (dz mi : Nat) {A : Nat → Prop} {S : HdS} {w : CW} {a0 : Nat} {n : Int} (hw : wf S n) (hR : ST S w a0) (hst : l.stackTraces = false) {i v : Int} (h0 : 0 ≤ i) (h1 : i < 4) (hv : bil S i = v) : cI l yX3_bill wsX3_bill { frames := 7, cells := 1, slots := 6, locals := 111 } D cO dz mi A [.ref a0, .int (iI i)] w (fun r w9 => r = iI v ∧ ST S w9 a0) 1 6 := by
  obtain ⟨g, T, rfl, hR⟩ := hR
  subst hv
  have hnd := hw.nd
  have hnf := hw.nf
  exact cI_no (c_bill l D cO dz mi hw hR hst i ⟨by omega, by omega⟩) (fun r w9 hp => by obtain ⟨rfl, -, rfl⟩ := hp; exact ⟨rfl, g, T, rfl, hR⟩) (fun E hx => hx.2 ⟨h0, h1⟩)
theorem n_directories (l : Launch) (D : va_G) (cO : ClassId) (dz mi : Nat) {A : Nat → Prop} {S : HdS} {w : CW} {a0 : Nat} {n : Int} (hw : wf S n) (hR : ST S w a0) : cI l yX3_directories wsX3_directories { frames := 1, cells := 0, slots := 0, locals := 20 } D cO dz mi A [.ref a0] w (fun r w9 => r = iI (S.1 11 0) ∧ ST S w9 a0) 0 0 := by
  obtain ⟨g, T, rfl, hR⟩ := hR
  exact cI_as (c_directories l D cO dz mi hw hR) (fun r w9 hp => by obtain ⟨rfl, rfl⟩ := hp; exact ⟨rfl, g, T, rfl, hR⟩)
theorem n_files (l : Launch) (D : va_G) (cO : ClassId) (dz mi : Nat) {A : Nat → Prop} {S : HdS} {w : CW} {a0 : Nat} {n : Int} (hw : wf S n) (hR : ST S w a0) : cI l yX3_files wsX3_files { frames := 1, cells := 0, slots := 0, locals := 20 } D cO dz mi A [.ref a0] w (fun r w9 => r = iI (S.1 11 1) ∧ ST S w9 a0) 0 0 := by
  obtain ⟨g, T, rfl, hR⟩ := hR
  exact cI_as (c_files l D cO dz mi hw hR) (fun r w9 hp => by obtain ⟨rfl, rfl⟩ := hp; exact ⟨rfl, g, T, rfl, hR⟩)
theorem n_setQuota (l : Launch) (D : va_G) (cO : ClassId) (dz mi : Nat) {A : Nat → Prop} {S : HdS} {w : CW} {a0 : Nat} {n : Int} (hw : wf S n) (hR : ST S w a0) (hst : l.stackTraces = false) (d q : Int) (rd : inQ d) (rq : inQ q) {v : Int} {S' : HdS} (hq : sp_setQuota S d q = (0, v, S')) : cI l yX3_setQuota wsX3_setQuota { frames := 7, cells := 3, slots := 18, locals := 112 } D cO dz mi A [.ref a0, .int (iI d), .int (iI q)] w (fun r w9 => r = iI v ∧ ST S' w9 a0) 3 18 := by
  obtain ⟨g, T, rfl, hR⟩ := hR
  exact cI_mut hq (c_setQuota l D cO dz mi hw hR hst d q rd rq)
theorem n_fund (l : Launch) (D : va_G) (cO : ClassId) (dz mi : Nat) {A : Nat → Prop} {S : HdS} {w : CW} {a0 : Nat} {n : Int} (hw : wf S n) (hR : ST S w a0) (hst : l.stackTraces = false) (q c : Int) (rq : inQ q) (rc : inQ c) {v : Int} {S' : HdS} (hq : sp_fund S q c = (0, v, S')) : cI l yX3_fund wsX3_fund { frames := 7, cells := 3, slots := 18, locals := 112 } D cO dz mi A [.ref a0, .int (iI q), .int (iI c)] w (fun r w9 => r = iI v ∧ ST S' w9 a0) 3 18 := by
  obtain ⟨g, T, rfl, hR⟩ := hR
  exact cI_mut hq (c_fund l D cO dz mi hw hR hst q c rq rc)
theorem n_read (l : Launch) (D : va_G) (cO : ClassId) (dz mi : Nat) {A : Nat → Prop} {S : HdS} {w : CW} {a0 : Nat} {n : Int} (hw : wf S n) (hR : ST S w a0) (hst : l.stackTraces = false) (f : Int) (rf : inQ f) {v : Int} {S' : HdS} (hq : sp_read S f = (0, v, S')) : cI l yX3_read wsX3_read { frames := 7, cells := 3, slots := 18, locals := 112 } D cO dz mi A [.ref a0, .int (iI f)] w (fun r w9 => r = iI v ∧ ST S' w9 a0) 3 18 := by
  obtain ⟨g, T, rfl, hR⟩ := hR
  exact cI_mut hq (c_read l D cO dz mi hw hR hst f rf)
theorem n_release (l : Launch) (D : va_G) (cO : ClassId) (dz mi : Nat) {A : Nat → Prop} {S : HdS} {w : CW} {a0 : Nat} {n : Int} (hw : wf S n) (hR : ST S w a0) (hst : l.stackTraces = false) (m : Int) (rm : inQ m) {v : Int} {S' : HdS} (hq : sp_release S m = (0, v, S')) : cI l yX3_release wsX3_release { frames := 7, cells := 1, slots := 6, locals := 110 } D cO dz mi A [.ref a0, .int (iI m)] w (fun r w9 => r = iI v ∧ ST S' w9 a0) 1 6 := by
  obtain ⟨g, T, rfl, hR⟩ := hR
  exact cI_mut hq (c_release l D cO dz mi hw hR hst m rm)
theorem n_link (l : Launch) (D : va_G) (cO : ClassId) (dz mi : Nat) {A : Nat → Prop} {S : HdS} {w : CW} {a0 : Nat} {n : Int} (hw : wf S n) (hR : ST S w a0) (hst : l.stackTraces = false) (f d : Int) (rf : inQ f) (rd : inQ d) {v : Int} {S' : HdS} (hq : sp_link S f d = (0, v, S')) : cI l yX3_link wsX3_link { frames := 7, cells := 5, slots := 1024, locals := 191 } D cO dz mi A [.ref a0, .int (iI f), .int (iI d)] w (fun r w9 => r = iI v ∧ ST S' w9 a0) 5 1024 := by
  obtain ⟨g, T, rfl, hR⟩ := hR
  exact cI_mut hq (c_link l D cO dz mi hw hR hst f d rf rd)
theorem n_pass (l : Launch) (D : va_G) (cO : ClassId) (dz mi : Nat) {A : Nat → Prop} {S : HdS} {w : CW} {a0 : Nat} {n : Int} (hw : wf S n) (hR : ST S w a0) (hst : l.stackTraces = false) (k : Int) (rk : inQ k) {v : Int} {S' : HdS} (hq : sp_pass S k = (0, v, S')) : cI l yX3_pass wsX3_pass { frames := 7, cells := 2, slots := 12, locals := 131 } D cO dz mi A [.ref a0, .int (iI k)] w (fun r w9 => r = iI v ∧ ST S' w9 a0) 2 12 := by
  obtain ⟨g, T, rfl, hR⟩ := hR
  exact cI_mut hq (c_pass l D cO dz mi hw hR hst k rk)
theorem n_hold (l : Launch) (D : va_G) (cO : ClassId) (dz mi : Nat) {A : Nat → Prop} {S : HdS} {w : CW} {a0 : Nat} {n : Int} (hw : wf S n) (hR : ST S w a0) (hst : l.stackTraces = false) (m f : Int) (rm : inQ m) (rf : inQ f) {v : Int} {S' : HdS} (hq : sp_hold S m f = (0, v, S')) : cI l yX3_hold wsX3_hold { frames := 7, cells := 3, slots := 18, locals := 111 } D cO dz mi A [.ref a0, .int (iI m), .int (iI f)] w (fun r w9 => r = iI v ∧ ST S' w9 a0) 3 18 := by
  obtain ⟨g, T, rfl, hR⟩ := hR
  exact cI_mut hq (c_hold l D cO dz mi hw hR hst m f rm rf)
theorem n_unlink (l : Launch) (D : va_G) (cO : ClassId) (dz mi : Nat) {A : Nat → Prop} {S : HdS} {w : CW} {a0 : Nat} {n : Int} (hw : wf S n) (hR : ST S w a0) (hst : l.stackTraces = false) (f d : Int) (rf : inQ f) (rd : inQ d) {v : Int} {S' : HdS} (hq : sp_unlink S f d = (0, v, S')) : cI l yX3_unlink wsX3_unlink { frames := 7, cells := 3, slots := 18, locals := 128 } D cO dz mi A [.ref a0, .int (iI f), .int (iI d)] w (fun r w9 => r = iI v ∧ ST S' w9 a0) 3 18 := by
  obtain ⟨g, T, rfl, hR⟩ := hR
  exact cI_mut hq (c_unlink l D cO dz mi hw hR hst f d rf rd)
theorem n_write (l : Launch) (D : va_G) (cO : ClassId) (dz mi : Nat) {A : Nat → Prop} {S : HdS} {w : CW} {a0 : Nat} {n : Int} (hw : wf S n) (hR : ST S w a0) (hst : l.stackTraces = false) (f z : Int) (rf : inQ f) (rz : inQ z) {v : Int} {S' : HdS} (hq : sp_write S f z = (0, v, S')) : cI l yX3_write wsX3_write { frames := 7, cells := 4, slots := 24, locals := 112 } D cO dz mi A [.ref a0, .int (iI f), .int (iI z)] w (fun r w9 => r = iI v ∧ ST S' w9 a0) 4 24 := by
  obtain ⟨g, T, rfl, hR⟩ := hR
  exact cI_mut hq (c_write l D cO dz mi hw hR hst f z rf rz)
theorem n_addDirectory (l : Launch) (D : va_G) (cO : ClassId) (dz mi : Nat) {A : Nat → Prop} {S : HdS} {w : CW} {a0 : Nat} {n : Int} (hw : wf S n) (hR : ST S w a0) (hst : l.stackTraces = false) (p q : Int) (rp : inQ p) (rq : inQ q) {v : Int} {S' : HdS} (hq : sp_addDirectory S p q = (0, v, S')) : cI l yX3_addDirectory wsX3_addDirectory { frames := 7, cells := 5, slots := 1028, locals := 191 } D cO dz mi A [.ref a0, .int (iI p), .int (iI q)] w (fun r w9 => r = iI v ∧ ST S' w9 a0) 5 1028 := by
  obtain ⟨g, T, rfl, hR⟩ := hR
  exact cI_mut hq (c_addDirectory l D cO dz mi hw hR hst p q rp rq)
theorem n_make (l : Launch) (D : va_G) (cO : ClassId) (dz mi : Nat) {A : Nat → Prop} {S : HdS} {w : CW} {a0 : Nat} {n : Int} (hw : wf S n) (hR : ST S w a0) (hst : l.stackTraces = false) (p d z : Int) (rp : inQ p) (rd : inQ d) (rz : inQ z) {v : Int} {S' : HdS} (hq : sp_make S p d z = (0, v, S')) : cI l yX3_make wsX3_make { frames := 7, cells := 9, slots := 3033, locals := 191 } D cO dz mi A [.ref a0, .int (iI p), .int (iI d), .int (iI z)] w (fun r w9 => r = iI v ∧ ST S' w9 a0) 9 3033 := by
  obtain ⟨g, T, rfl, hR⟩ := hR
  exact cI_mut hq (c_make l D cO dz mi hw hR hst p d z rp rd rz)
