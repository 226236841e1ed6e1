/-! THE LAW'S START -/
def cw0 : CW := (fun _ => 0, fun _ _ => 0, fun _ _ => none, fun _ => [])
theorem cH_0 (D : va_G) (cO : ClassId) (dz : Nat) (A : Nat → Prop) (H : Heap) : cH D cO dz A cw0 H :=
  ⟨[], fun k q h => by simp at h, ⟨fun i j p q h => by simp at h, fun k q h => by simp at h⟩, fun _ => Nat.zero_le _, fun l h => absurd (show (0 : Nat) = 5 from h) (by decide), fun a h => absurd (show 1 ≤ (0 : Nat) from h) (by decide), fun _ => 0, fun a h => absurd (show (0 : Nat) = 5 from h) (by decide), fun a b h => absurd (show (0 : Nat) = 5 from h) (by decide), fun a h => absurd (show (0 : Nat) = 5 from h) (by decide)⟩
theorem K_one {D : va_G} {s : State} {cA : ClassId} {ty : FieldType} (hD : ∀ (k : Nat) (q : vw_C), vwCl[k]? = some q → u_Kn s q.1 q.2.1 q.2.2 (D.1 k) (D.2 k)) (h : ArrOfT s cA ty ∧ va_RA s cA ty) : va_K D vwCl [(cA, ty)] s := ⟨hD, fun k q hk => by
  have hz : k < 1 := (List.getElem?_eq_some_iff.mp hk).1
  have hk0 : k = 0 := by omega
  subst hk0
  cases hk
  exact h⟩
set_option maxRecDepth 100000 in
set_option maxHeartbeats 4000000 in
theorem law_env {p : Program} {s : State} {m : MethodId} {meth : Method} {c : Code} {b L : Nat} {xs : Nat → Int32} (C0 : lw_At p s m meth c b L xs) : ∃ (D : va_G) (cO : ClassId) (dz mi : Nat) (kI : ClassId), aE D cO dz mi (fun q => s.heap.size ≤ q) s s.heap ∧ xE (fun q => s.heap.size ≤ q) s s.heap ∧ va_K D vwCl [(kI, .int)] s := by
  obtain ⟨hx, hb, hr, hml, hown, hts0, hX, hbl, hlocks, hgv⟩ := C0
  have hts : ∀ w ∈ wsL_law, w.before #[Value.ref b] s = true := fun w h => hts0 w (wsL_law_in w h)
  have hg := flat_of_before _ hgv
  have hA : ∀ a : Nat, a < s.heap.size → ¬ (fun q : Nat => s.heap.size ≤ q) a := fun a h => Nat.not_le.mpr h
  obtain ⟨c0, i0, k0⟩ := u_known (C := RJx4a65c) (T := TJx4a65c) (N := 3) (n := 3) hts0 inJx4a65c (hts (.instantiable RJx4a65c 3) (by decide +kernel))
  obtain ⟨c1, i1, k1⟩ := u_known (C := RX0) (T := TX0) (N := 2) (n := 2) hts0 inX0 (hts (.instantiable RX0 2) (by decide +kernel))
  obtain ⟨c2, i2, k2⟩ := u_known (C := RX1) (T := TX1) (N := 4) (n := 4) hts0 inX1 (hts (.instantiable RX1 4) (by decide +kernel))
  obtain ⟨c3, i3, k3⟩ := u_known (C := RX2) (T := TX2) (N := 6) (n := 6) hts0 inX2 (hts (.instantiable RX2 6) (by decide +kernel))
  obtain ⟨c4, i4, k4⟩ := u_known (C := RX3) (T := TX3) (N := 4) (n := 4) hts0 inX3 (hts (.instantiable RX3 4) (by decide +kernel))
  obtain ⟨D, hD⟩ : ∃ D : va_G, ∀ (k : Nat) (q : vw_C), vwCl[k]? = some q → u_Kn s q.1 q.2.1 q.2.2 (D.1 k) (D.2 k) := by
    refine ⟨(fun k => match k with | 0 => c0 | 1 => c1 | 2 => c2 | 3 => c3 | _ => c4, fun k => match k with | 0 => i0 | 1 => i1 | 2 => i2 | 3 => i3 | _ => i4), ?_⟩
    intro k q hq
    match k, hq with
    | 0, hq => cases hq; exact k0
    | 1, hq => cases hq; exact k1
    | 2, hq => cases hq; exact k2
    | 3, hq => cases hq; exact k3
    | 4, hq => cases hq; exact k4
    | k + 5, hq => simp [vwCl] at hq
  have hAO : va_AO "java/lang/Object" s := va_AO.of (hts0 (.arrayOver (.object "java/lang/Object")) (by decide +kernel))
  obtain ⟨comp, cO, kO, f1, -, f3, f4, f5⟩ := Cond.arrayOver_spec hAO
  have hKO : va_K D vwCl [(cO, .object "java/lang/Object")] s := K_one hD ⟨fun N z => ⟨(fun k h => by cases h), kO, f3, comp, f4⟩, kO, comp, f3, f4, f1, f5⟩
  obtain ⟨kI, kk1, comp1, g1, g2, g3⟩ := Cond.arrayClass_spec (hts (.arrayClass .int) (by decide +kernel))
  have hKI : va_K D vwCl [(kI, .int)] s := K_one hD ⟨fun N z => ⟨(fun k h => by cases h), kk1, g2, comp1, g3⟩, g1⟩
  have harr : (Cond.arrayOf (.static "java/util/ArrayList" "DEFAULTCAPACITY_EMPTY_ELEMENTDATA" "[Ljava/lang/Object;") (.object "java/lang/Object")).before #[Value.ref b] s = true := hg _ (by decide +kernel)
  have hle : (Cond.eq (.length (.static "java/util/ArrayList" "DEFAULTCAPACITY_EMPTY_ELEMENTDATA" "[Ljava/lang/Object;")) (.int 0)).before #[Value.ref b] s = true := hg _ (by decide +kernel)
  obtain ⟨dz, hdz, hT⟩ := va_Tof (N := 0) (f := fun _ => .null) (A := fun q => s.heap.size ≤ q) (by decide) harr (va_eqt hle) (fun j hj => absurd hj (Nat.not_lt_zero j)) hA
  have hZ : va_Z "java/util/ArrayList" "DEFAULTCAPACITY_EMPTY_ELEMENTDATA" "[Ljava/lang/Object;" (.ref dz) (fun q => s.heap.size ≤ q) s s.heap := va_Zof (hts0 (.laysStatic "java/util/ArrayList" "DEFAULTCAPACITY_EMPTY_ELEMENTDATA" "[Ljava/lang/Object;") (by decide +kernel)) (hts0 (.initialized "java/util/ArrayList") (by decide +kernel)) hdz hA
  have hmi0 : (Cond.isRef (.mirror "[Ljava/lang/Object;")).before #[Value.ref b] s = true := hg _ (by decide +kernel)
  obtain ⟨mi, hmi⟩ := va_Mi.of hmi0
  have hdc : va_Dc s := va_Dc.of (hts0 (.declares ⟨"java/lang/Object", "getClass", "()Ljava/lang/Class;"⟩) (by decide +kernel))
  have hca : ∀ w ∈ ([.castable RX0 "java/lang/Object", .castable RX1 "java/lang/Object", .castable RX2 "java/lang/Object"] : List Cond), w ∈ lw_tbl := by decide +kernel
  have hu0 : (Cond.isRef (.static Bundle.tN "UNASSIGNED_STACK" Bundle.steD)).before #[Value.ref b] s = true := hg _ (by decide +kernel)
  have hu1 : (Cond.isRef (.static Bundle.tN "SUPPRESSED_SENTINEL" Bundle.listD)).before #[Value.ref b] s = true := hg _ (by decide +kernel)
  have hz0 : vx_Zq Bundle.tN "UNASSIGNED_STACK" Bundle.steD (fun q => s.heap.size ≤ q) s s.heap := vx_Zqof (hts0 (.laysStatic Bundle.tN "UNASSIGNED_STACK" Bundle.steD) (by decide +kernel)) (hts0 (.initialized Bundle.tN) (by decide +kernel)) hu0 hA
  have hz1 : vx_Zq Bundle.tN "SUPPRESSED_SENTINEL" Bundle.listD (fun q => s.heap.size ≤ q) s s.heap := vx_Zqof (hts0 (.laysStatic Bundle.tN "SUPPRESSED_SENTINEL" Bundle.listD) (by decide +kernel)) (hts0 (.initialized Bundle.tN) (by decide +kernel)) hu1 hA
  have hxb : ∀ w ∈ xB, w ∈ lw_tbl := by decide +kernel
  have hxt : ∀ x ∈ xT, Cond.stringRef RX3 x.1 x.2 ∈ lw_tbl := by decide +kernel
  refine ⟨D, cO, dz, mi, kI, ⟨hKO, hAO, hZ, ⟨_, hT⟩, hmi, hdc, va_Nw.of rfl (hts0 _ (hca _ (by simp))), va_Nw.of rfl (hts0 _ (hca _ (by simp))), va_Nw.of rfl (hts0 _ (hca _ (by simp)))⟩, ⟨hz0, hz1, fun w hw => va_Nw.of (xB_tab w hw) (hts0 w (hxb w hw)), fun x hx => ?_⟩, hKI⟩
  have hs := hts0 _ (hxt x hx)
  have hcur : s.vm.findClass RX3 = some (D.1 4) := (hD 4 _ rfl).2.1
  obtain ⟨q1, q2, q3, a, q4, q5, q6, q7, q8, q9⟩ := Cond.stringRef_spec hcur hs
  exact ⟨a, vk_R.of hs q9⟩

set_option maxRecDepth 100000 in
set_option maxHeartbeats 4000000 in
theorem whole_start {p : Program} {e : Env} {s : State} {m : MethodId} {below : List Frame} {meth : Method} {c : Code} (l : Launch) (hflags : l.flags = flags0) {b L : Nat} {xs : Nat → Int32} (hL : L ≤ 260) (C0 : lw_At p s m meth c b L xs) : W p l e room_1 s m #[Value.ref b] below meth c s.heap [] 0 0 (lw_Z below #[Value.ref b] s) (entryFrame m ([Value.ref b] : List Value).toArray 7) := by
  obtain ⟨D, cO, dz, mi, kI, hE, hXE, hI⟩ := law_env C0
  obtain ⟨hx, hb, hr, hml, hown, hts0, hX, hbl, hlocks, hgv⟩ := id C0
  have hts : ∀ w ∈ wsL_law, w.before #[Value.ref b] s = true := fun w h => hts0 w (wsL_law_in w h)
  have hown : s.vm.findClass RL = some m.cls := hown
  have hst : l.stackTraces = false := by unfold Launch.stackTraces; rw [hflags]; decide +kernel
  have hNest : va_Nw (.methodLinkNest RX3 33 yX0_init RX3) s := va_Nw.of rfl (hts0 _ (by decide +kernel))
  have hA : ∀ q : Nat, s.heap.size ≤ q → (fun q : Nat => s.heap.size ≤ q) q := fun _ h => h
  have hS : va_S (fun q : Nat => s.heap.size ≤ q) s.heap s.heap [] := va_S.rf
  have hl := lv_entry ([.ref b]) (n := 7) (Nat.le_of_ble_eq_true rfl)
  rw [lg_entry_eq]
  generalize (lg_sl ([.ref b]) ++ List.replicate (7 - (lg_sl ([.ref b])).length) Slot.unset).toArray = ls at hl ⊢
  have hl : lv_has ls 7 [(0, .ref b)] := hl
  have hC : cH D cO dz (fun q : Nat => s.heap.size ≤ q) cw0 s.heap := cH_0 _ _ _ _ _
  refine c_new (C := RX3) (T := TX3) (N := 4) (ci := 4) hx hb hts inlX3 tyX3 tyX3_ok hown (hts (.classLink RL 10 RX3) (by decide +kernel)) (hts (.instantiable RX3 4) (by decide +kernel)) (hts (.initialized RX3) (by decide +kernel)) hA hE hC hS (by decide) (by decide) rfl [.null, .null, .null, .int (iI 0)] df_4 (fun q => cn_4 _ q) (Nat.le_of_ble_eq_true rfl) (Nat.le_of_ble_eq_true rfl) dL_law_0 (fun a0 H ha0 hC hS => ?_)
  refine lv_dup hx hb dL_law_3 rfl ?_
  refine va_callv (va_runI (g := F0 m 4 ls [.ref a0, .ref a0]) (As := []) (rest := [.ref a0]) ⟨hx, hb, hml, hown, hts⟩ (c_serverInit l D cO dz mi (A := fun q : Nat => s.heap.size ≤ q) (wMk cw0 a0 4) a0 (by rw [wMk_K, if_pos rfl]) (by rw [wMk_F, if_pos rfl])) (cwI 0 hts gL_law_X3_init rfl rfl rfl (hts (.initialized RX3) (by decide +kernel)) (hts (.methodLink RL 84 yX3_init) (by decide +kernel)) (hts (.instanceMethod yX3_init) (by decide +kernel)) rfl (by decide +kernel) ⟨Nat.le_of_ble_eq_true rfl, Nat.le_of_ble_eq_true rfl⟩) ⟨fun a U g mk q => ⟨q.1, ⟨q.2.1.1, q.2.1.2.1, q.2.1.2.2.1.calling g mk a, q.2.1.2.2.2.calling g mk a⟩, va_Nw.same rfl (rfl : U.vm = (U.calling g mk a).vm) q.2.2⟩, fun U hU hW => ⟨rfl, ⟨fun q hq => Nat.le_trans hS.1 (by rw [← hU]; exact hq), by rw [hU]; exact hC, hE.call hS hU hW, hXE.call hS hU hW⟩, va_Nw.warmM hW hNest⟩⟩ rfl rfl hl.1 rfl (lv_room (Nat.le_of_ble_eq_true rfl)) dL_law_4 ⟨Nat.le_of_ble_eq_true rfl, Nat.le_of_ble_eq_true rfl⟩) hS (fun _ _ h => h) (fun _ h => h) (fun w1 t H locs ht _ hp hB _ _ hS => ?_)
  obtain ⟨g, T, hg0, hR⟩ := hp
  have hC : cH D cO dz (fun q : Nat => s.heap.size ≤ q) w1 H := by rw [← ht]; exact hB
  obtain ⟨ws, hPw, hDw, hRw⟩ := hC
  refine lv_astore_n (lv' := [(1, .ref a0), (0, .ref b)]) hx hb dL_law_7 rfl hl (by decide) rfl (fun ls hl => ?_)
  refine lv_bipush (v := iI 30) hx hb dL_law_8 (by decide) ?_
  refine va_newa (atype := .int) (ty := .int) (N' := 30) (a0 := (30, .inl (fun _ => 0))) hx hb (hts (.arrayClass .int) (by decide +kernel)) rfl hI hPw hDw hS hA (fun cA => rfl) (by decide) (by decide) (by decide) (Nat.le_of_ble_eq_true rfl) (Nat.le_of_ble_eq_true rfl) dL_law_10 (fun lk cA H2 hK2 hP3 hD3 hS => ?_)
  have e9 : cA = kI := Option.some.inj ((show s.vm.findClass _ = some cA from (hK2.2 1 _ rfl).2).symm.trans (show s.vm.findClass _ = some kI from (hK2.2 0 _ rfl).2))
  subst e9
  have hfo := fresh_of hD3
  have hPw2 : va_P D vwCl ws H2 := fun k q hq => hP3 k q (app_at hq)
  have hO2 : va_P D vwCl [(lk, iC cA (fun _ => 0))] H2 := fun k q hq => by
    obtain ⟨rfl, rfl⟩ := iC_of hq
    exact hP3 ws.length _ (app_last _ _)
  have hlk : s.heap.size ≤ lk := hD3.2 ws.length _ (app_last _ _)
  have hCf : cH D cO dz (lA s.heap.size lk) w1 H2 := ⟨ws, hPw2, ⟨hDw.1, fun k q hq => ⟨hDw.2 k q hq, hfo k q hq⟩⟩, hRw⟩
  have hFr : ∀ q, dFr (lA s.heap.size lk) lk q → s.heap.size ≤ q := fun q z => z.elim (fun y => y.1) (fun y => by rw [y]; exact hlk)
  have hEn : DE D cO dz mi (lA s.heap.size lk) cA lk s := ⟨fun q h1 h2 => ⟨h1, h2⟩, hE.narrow hFr, hXE.narrow hFr, fun z => z.2 rfl, hI⟩
  have hW : dW D cO dz (lA s.heap.size lk) cA lk w1 (fun _ => 0) H2 := ⟨hCf, hO2⟩
  have hS : va_S (dFr (lA s.heap.size lk) lk) s.heap H2 locs := ⟨hS.1, fun q h1 h2 => hS.2.1 q h1 (fun z => Nat.not_le.mpr h1 z), fun q hq => by
    by_cases hz : q.base = lk
    · exact Or.inr hz
    · exact Or.inl ⟨hS.2.2 q hq, hz⟩⟩
  have hR : ST stS0 w1 a0 := ⟨g, T, hg0, hR⟩
  have hJ : JJ stS0 (fun _ => 0) 0 := ⟨wf_0, by rw [st_t]; omega, fun f h0 h1 => by rw [st_f] at h1; omega⟩
  have hw := hJ.1
  refine lv_astore_n (lv' := [(2, .ref lk), (1, .ref a0), (0, .ref b)]) hx hb dL_law_12 rfl hl (by decide) rfl (fun ls hl => ?_)
  refine lv_aload_n hx hb dL_law_13 rfl (lv_at hl 1 rfl) ?_
  refine lv_iconst (v := iI 0) hx hb dL_law_14 rfl ?_
  refine d_call (As := [.int (iI 0)]) (rest := []) ⟨hx, hb, hml, hown, hts⟩ (n_usage l D cO dz mi hw hR hst (by omega) (by rw [st_d]; omega) (show usg stS0 0 = 0 by rw [st_u])) (cwV 1 hts gL_law_X3_usage rfl rfl rfl (by decide +kernel) ⟨Nat.le_of_ble_eq_true rfl, Nat.le_of_ble_eq_true rfl⟩) hEn hW hS hR.k0 rfl hl.1 rfl (Nat.le_of_ble_eq_true rfl) ⟨Nat.le_of_ble_eq_true rfl, Nat.le_of_ble_eq_true rfl⟩ dL_law_15 (fun w H locs hR hW hS => ?_)
  refine h_if_ne (tgt := 25) hx hb (by omega) dL_law_18 (by decide) (fun c9 => by exfalso; omega) (fun _ => ?_)
  refine lv_iconst (v := iI 1) hx hb dL_law_21 rfl ?_
  refine lv_goto (tgt := 26) hx hb dL_law_22 (by decide) ?_
  refine lv_istore_n (lv' := [(3, .int (iI 1)), (2, .ref lk), (1, .ref a0), (0, .ref b)]) hx hb dL_law_26 rfl hl (by decide) rfl (fun ls hl => ?_)
  refine lv_iconst (v := iI 0) hx hb dL_law_27 rfl ?_
  refine lv_istore (lv' := [(4, .int (iI 0)), (3, .int (iI 1)), (2, .ref lk), (1, .ref a0), (0, .ref b)]) hx hb dL_law_28 hl (by decide) rfl (fun ls hl => ?_)
  exact law_events (mi := mi) ⟨hx, hb, hml, hown, hts, hX, hbl, hL, hEn, hlk, hst⟩ hr hlocks 60 0 stS0 (fun _ => 0) w H locs _ _ ls (by omega) (by omega) (Nat.le_of_ble_eq_true rfl) (Nat.le_of_ble_eq_true rfl) hJ hR hW hS (lv_sub hl [0, 1, 4, 3, 2] rfl)
