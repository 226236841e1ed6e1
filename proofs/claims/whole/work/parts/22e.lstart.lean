/-! THE LAW'S START -/
def cw0 : CW := (fun _ => 0, fun _ _ => 0, fun _ _ => none, fun _ => [])
theorem cH_0 (D : va_G) (cO : ClassId) (dz : Nat) (A : Nat → Prop) (H : Heap) : cH D cO dz A cw0 H :=
  ⟨[], fun k q h => by simp at h, ⟨fun i j p q h => by simp at h, fun k q h => by simp at h⟩, fun _ => Nat.zero_le _, fun l h => absurd (show (0 : Nat) = 5 from h) (by decide), fun a h => absurd (show 1 ≤ (0 : Nat) from h) (by decide), fun _ => 0, fun a h => absurd (show (0 : Nat) = 5 from h) (by decide), fun a b h => absurd (show (0 : Nat) = 5 from h) (by decide), fun a h => absurd (show (0 : Nat) = 5 from h) (by decide)⟩
theorem K_one {D : va_G} {s : State} {cA : ClassId} {ty : FieldType} (hD : ∀ (k : Nat) (q : vw_C), vwCl[k]? = some q → u_Kn s q.1 q.2.1 q.2.2 (D.1 k) (D.2 k)) (h : ArrOfT s cA ty ∧ va_RA s cA ty) : va_K D vwCl [(cA, ty)] s := ⟨hD, fun k q hk => by
  have hz : k < 1 := (List.getElem?_eq_some_iff.mp hk).1
  have hk0 : k = 0 := by omega
  subst hk0
  cases hk
  exact h⟩
set_option maxRecDepth 100000 in
set_option maxHeartbeats 4000000 in
theorem law_env {p : Program} {s : State} {m : MethodId} {meth : Method} {c : Code} {b L : Nat} {xs : Nat → Int32} (C0 : lw_At p s m meth c b L xs) : ∃ (D : va_G) (cO : ClassId) (dz mi : Nat) (kI kJ : ClassId), LEnv D cO dz mi kI kJ s := by
  obtain ⟨hx, hb, hr, hml, hown, hts0, hX, hbl, hlocks, hgv⟩ := C0
  have hts : ∀ w ∈ wsL_law, w.before #[Value.ref b] s = true := fun w h => hts0 w (wsL_law_in w h)
  have hg := flat_of_before _ hgv
  have hA : ∀ a : Nat, a < s.heap.size → ¬ (fun q : Nat => s.heap.size ≤ q) a := fun a h => Nat.not_le.mpr h
  obtain ⟨c0, i0, k0⟩ := u_known (C := RJx4a65c) (T := TJx4a65c) (N := 3) (n := 3) hts0 inJx4a65c (hts (.instantiable RJx4a65c 3) (by decide +kernel))
  obtain ⟨c1, i1, k1⟩ := u_known (C := RX0) (T := TX0) (N := 2) (n := 2) hts0 inX0 (hts (.instantiable RX0 2) (by decide +kernel))
  obtain ⟨c2, i2, k2⟩ := u_known (C := RX1) (T := TX1) (N := 4) (n := 4) hts0 inX1 (hts (.instantiable RX1 4) (by decide +kernel))
  obtain ⟨c3, i3, k3⟩ := u_known (C := RX2) (T := TX2) (N := 6) (n := 6) hts0 inX2 (hts (.instantiable RX2 6) (by decide +kernel))
  obtain ⟨c4, i4, k4⟩ := u_known (C := RX3) (T := TX3) (N := 4) (n := 4) hts0 inX3 (hts (.instantiable RX3 4) (by decide +kernel))
  obtain ⟨c5, i5, k5⟩ := u_known (C := RX4) (T := TX4) (N := 15) (n := 15) hts0 inX4 (hts (.instantiable RX4 15) (by decide +kernel))
  obtain ⟨D, hD⟩ : ∃ D : va_G, ∀ (k : Nat) (q : vw_C), vwCl[k]? = some q → u_Kn s q.1 q.2.1 q.2.2 (D.1 k) (D.2 k) := by
    refine ⟨(fun k => match k with | 0 => c0 | 1 => c1 | 2 => c2 | 3 => c3 | 4 => c4 | _ => c5, fun k => match k with | 0 => i0 | 1 => i1 | 2 => i2 | 3 => i3 | 4 => i4 | _ => i5), ?_⟩
    intro k q hq
    match k, hq with
    | 0, hq => cases hq; exact k0
    | 1, hq => cases hq; exact k1
    | 2, hq => cases hq; exact k2
    | 3, hq => cases hq; exact k3
    | 4, hq => cases hq; exact k4
    | 5, hq => cases hq; exact k5
    | k + 6, hq => simp [vwCl] at hq
  have hAO : va_AO "java/lang/Object" s := va_AO.of (hts0 (.arrayOver (.object "java/lang/Object")) (by decide +kernel))
  obtain ⟨comp, cO, kO, f1, -, f3, f4, f5⟩ := Cond.arrayOver_spec hAO
  have hKO : va_K D vwCl [(cO, .object "java/lang/Object")] s := K_one hD ⟨fun N z => ⟨(fun k h => by cases h), kO, f3, comp, f4⟩, kO, comp, f3, f4, f1, f5⟩
  obtain ⟨kI, kk1, comp1, g1, g2, g3⟩ := Cond.arrayClass_spec (hts (.arrayClass .int) (by decide +kernel))
  have hKI : va_K D vwCl [(kI, .int)] s := K_one hD ⟨fun N z => ⟨(fun k h => by cases h), kk1, g2, comp1, g3⟩, g1⟩
  obtain ⟨kJ, kk2, comp2, h1, h2, h3⟩ := Cond.arrayClass_spec (hts (.arrayClass .long) (by decide +kernel))
  have hKJ : va_K D vwCl [(kJ, .long)] s := K_one hD ⟨fun N z => ⟨(fun k h => by cases h), kk2, h2, comp2, h3⟩, h1⟩
  have harr : (Cond.arrayOf (.static "java/util/ArrayList" "DEFAULTCAPACITY_EMPTY_ELEMENTDATA" "[Ljava/lang/Object;") (.object "java/lang/Object")).before #[Value.ref b] s = true := hg _ (by decide +kernel)
  have hle : (Cond.eq (.length (.static "java/util/ArrayList" "DEFAULTCAPACITY_EMPTY_ELEMENTDATA" "[Ljava/lang/Object;")) (.int 0)).before #[Value.ref b] s = true := hg _ (by decide +kernel)
  obtain ⟨dz, hdz, hT⟩ := va_Tof (N := 0) (f := fun _ => .null) (A := fun q => s.heap.size ≤ q) (by decide) harr (va_eqt hle) (fun j hj => absurd hj (Nat.not_lt_zero j)) hA
  have hZ : va_Z "java/util/ArrayList" "DEFAULTCAPACITY_EMPTY_ELEMENTDATA" "[Ljava/lang/Object;" (.ref dz) (fun q => s.heap.size ≤ q) s s.heap := va_Zof (hts0 (.laysStatic "java/util/ArrayList" "DEFAULTCAPACITY_EMPTY_ELEMENTDATA" "[Ljava/lang/Object;") (by decide +kernel)) (hts0 (.initialized "java/util/ArrayList") (by decide +kernel)) hdz hA
  have hmi0 : (Cond.isRef (.mirror "[Ljava/lang/Object;")).before #[Value.ref b] s = true := hg _ (by decide +kernel)
  obtain ⟨mi, hmi⟩ := va_Mi.of hmi0
  have hdc : va_Dc s := va_Dc.of (hts0 (.declares ⟨"java/lang/Object", "getClass", "()Ljava/lang/Class;"⟩) (by decide +kernel))
  have hca : ∀ w ∈ ([.castable RX0 "java/lang/Object", .castable RX1 "java/lang/Object", .castable RX2 "java/lang/Object"] : List Cond), w ∈ lw_tbl := by decide +kernel
  have hu0 : (Cond.isRef (.static Bundle.tN "UNASSIGNED_STACK" Bundle.steD)).before #[Value.ref b] s = true := hg _ (by decide +kernel)
  have hu1 : (Cond.isRef (.static Bundle.tN "SUPPRESSED_SENTINEL" Bundle.listD)).before #[Value.ref b] s = true := hg _ (by decide +kernel)
  have hz0 : vx_Zq Bundle.tN "UNASSIGNED_STACK" Bundle.steD (fun q => s.heap.size ≤ q) s s.heap := vx_Zqof (hts0 (.laysStatic Bundle.tN "UNASSIGNED_STACK" Bundle.steD) (by decide +kernel)) (hts0 (.initialized Bundle.tN) (by decide +kernel)) hu0 hA
  have hz1 : vx_Zq Bundle.tN "SUPPRESSED_SENTINEL" Bundle.listD (fun q => s.heap.size ≤ q) s s.heap := vx_Zqof (hts0 (.laysStatic Bundle.tN "SUPPRESSED_SENTINEL" Bundle.listD) (by decide +kernel)) (hts0 (.initialized Bundle.tN) (by decide +kernel)) hu1 hA
  have hxb : ∀ w ∈ xB, w ∈ lw_tbl := by decide +kernel
  have hxt : ∀ x ∈ xT, Cond.stringRef RX3 x.1 x.2 ∈ lw_tbl := by decide +kernel
  have hn0 : (Cond.not (.castable xIAE xIOB)).before #[Value.ref b] s = true := hg _ (by decide +kernel)
  have hn1 : (Cond.not (.castable xISE xIOB)).before #[Value.ref b] s = true := hg _ (by decide +kernel)
  have hn2 : (Cond.not (.castable xISE xIAE)).before #[Value.ref b] s = true := hg _ (by decide +kernel)
  refine ⟨D, cO, dz, mi, kI, kJ, ⟨hKO, hAO, hZ, ⟨_, hT⟩, hmi, hdc, va_Nw.of rfl (hts0 _ (hca _ (by simp))), va_Nw.of rfl (hts0 _ (hca _ (by simp))), va_Nw.of rfl (hts0 _ (hca _ (by simp)))⟩, ⟨hz0, hz1, fun w hw => va_Nw.of (xB_tab w hw) (hts0 w (hxb w hw)), fun x hx => ?_⟩, hKI, hKJ, va_Nc.of hn0, va_Nc.of hn1, va_Nc.of hn2⟩
  have hs := hts0 _ (hxt x hx)
  have hcur : s.vm.findClass RX3 = some (D.1 4) := (hD 4 _ rfl).2.1
  obtain ⟨q1, q2, q3, a, q4, q5, q6, q7, q8, q9⟩ := Cond.stringRef_spec hcur hs
  exact ⟨a, vk_R.of hs q9⟩

set_option maxRecDepth 100000 in
set_option maxHeartbeats 4000000 in
theorem whole_start {p : Program} {e : Env} {s : State} {m : MethodId} {below : List Frame} {meth : Method} {c : Code} (l : Launch) (hflags : l.flags = flags0) {b L : Nat} {xs : Nat → Int32} (hL : L ≤ 2048) (C0 : lw_At p s m meth c b L xs) : W p l e room_1 s m #[Value.ref b] below meth c s.heap [] 0 0 (lw_Z below #[Value.ref b] s) (entryFrame m ([Value.ref b] : List Value).toArray 7) := by
  obtain ⟨D, cO, dz, mi, kI, kJ, hEn⟩ := law_env C0
  obtain ⟨hx, hb, hr, hml, hown, hts0, hX, hbl, hlocks, hgv⟩ := id C0
  have hts : ∀ w ∈ wsL_law, w.before #[Value.ref b] s = true := fun w h => hts0 w (wsL_law_in w h)
  have hown : s.vm.findClass RL = some m.cls := hown
  have hst : l.stackTraces = false := by unfold Launch.stackTraces; rw [hflags]; decide +kernel
  have hNest : va_Nw (.methodLinkNest RX3 33 yX0_init RX3) s := va_Nw.of rfl (hts0 _ (by decide +kernel))
  obtain ⟨hE, hXE, hI, hJ, hN⟩ := id hEn
  have hA : ∀ q : Nat, s.heap.size ≤ q → (fun q : Nat => s.heap.size ≤ q) q := fun _ h => h
  have hS : va_S (fun q : Nat => s.heap.size ≤ q) s.heap s.heap [] := va_S.rf
  have hl := lv_entry ([.ref b]) (n := 7) (Nat.le_of_ble_eq_true rfl)
  rw [lg_entry_eq]
  generalize (lg_sl ([.ref b]) ++ List.replicate (7 - (lg_sl ([.ref b])).length) Slot.unset).toArray = ls at hl ⊢
  have hl : lv_has ls 7 [(0, .ref b)] := hl
  have hC : cH D cO dz (fun q : Nat => s.heap.size ≤ q) cw0 s.heap := cH_0 _ _ _ _ _
  refine c_new (C := RX3) (T := TX3) (N := 4) (ci := 4) hx hb hts inlX3 tyX3 tyX3_ok hown (hts (.classLink RL 8 RX3) (by decide +kernel)) (hts (.instantiable RX3 4) (by decide +kernel)) (hts (.initialized RX3) (by decide +kernel)) hA hE hC hS (by decide) (by decide) rfl [.null, .null, .null, .int (iI 0)] df_4 (fun q => cn_4 _ q) (Nat.le_of_ble_eq_true rfl) (Nat.le_of_ble_eq_true rfl) dL_law_0 (fun a0 H ha0 hC hS => ?_)
  refine lv_dup hx hb dL_law_3 rfl ?_
  refine va_callv (va_runI (g := F0 m 4 ls [.ref a0, .ref a0]) (As := []) (rest := [.ref a0]) ⟨hx, hb, hml, hown, hts⟩ (c_serverInit l D cO dz mi (A := fun q : Nat => s.heap.size ≤ q) (wMk cw0 a0 4) a0 (by rw [wMk_K, if_pos rfl]) (by rw [wMk_F, if_pos rfl])) (cwI 0 hts gL_law_X3_init rfl rfl rfl (hts (.initialized RX3) (by decide +kernel)) (hts (.methodLink RL 78 yX3_init) (by decide +kernel)) (hts (.instanceMethod yX3_init) (by decide +kernel)) rfl (by decide +kernel) ⟨Nat.le_of_ble_eq_true rfl, Nat.le_of_ble_eq_true rfl⟩) ⟨fun a U g mk q => ⟨q.1, ⟨q.2.1.1, q.2.1.2.1, q.2.1.2.2.1.calling g mk a, q.2.1.2.2.2.calling g mk a⟩, va_Nw.same rfl (rfl : U.vm = (U.calling g mk a).vm) q.2.2⟩, fun U hU hW => ⟨rfl, ⟨fun q hq => Nat.le_trans hS.1 (by rw [← hU]; exact hq), by rw [hU]; exact hC, hE.call hS hU hW, hXE.call hS hU hW⟩, va_Nw.warmM hW hNest⟩⟩ rfl rfl hl.1 rfl (lv_room (Nat.le_of_ble_eq_true rfl)) dL_law_4 ⟨Nat.le_of_ble_eq_true rfl, Nat.le_of_ble_eq_true rfl⟩) hS (fun _ _ h => h) (fun _ h => h) (fun w1 t H locs ht _ hp hB _ _ hS => ?_)
  obtain ⟨g, T, hg0, hR⟩ := hp
  have hC : cH D cO dz (fun q : Nat => s.heap.size ≤ q) w1 H := by rw [← ht]; exact hB
  obtain ⟨ws, hPw, hDw, hRw⟩ := hC
  refine lv_astore_n (lv' := [(1, .ref a0), (0, .ref b)]) hx hb dL_law_7 rfl hl (by decide) rfl (fun ls hl => ?_)
  refine va_new (C := RX4) (T := TX4) (N := 15) (ci := 5) (fs := mF0) hx hb hts inlX4 tyX4 tyX4_ok hown (hts (.classLink RL 79 RX4) (by decide +kernel)) (hts (.instantiable RX4 15) (by decide +kernel)) (hts (.initialized RX4) (by decide +kernel)) hI hPw hDw hS hA rfl df_5 (Nat.le_of_ble_eq_true rfl) (Nat.le_of_ble_eq_true rfl) dL_law_8 (fun am H hP2 hD2 hS => ?_)
  have hfr := fresh_of hD2
  have hPws : va_P D vwCl ws H := fun k q hk => hP2 k q (app_at hk)
  have hPm : va_P D vwCl [(am, .inr (5, mF0))] H := fun k q hk => by
    have hz : k < 1 := (List.getElem?_eq_some_iff.mp hk).1
    have hk0 : k = 0 := by omega
    subst hk0
    cases hk
    exact hP2 ws.length _ (app_last _ _)
  have ham : s.heap.size ≤ am := hD2.2 ws.length _ (app_last _ _)
  have hB2 : ∀ q : Nat, (H.size ≤ q ∨ q = am) → s.heap.size ≤ q := fun q h => h.elim (fun z => Nat.le_trans hS.1 z) (fun z => by rw [z]; exact ham)
  refine lv_dup hx hb dL_law_11 rfl ?_
  refine va_callv (va_runI (g := F0 m 12 ls [.ref am, .ref am]) (As := []) (rest := [.ref am]) ⟨hx, hb, hml, hown, hts⟩ (c_modelInit l D kI (A := fun q : Nat => H.size ≤ q ∨ q = am) am) (cwI 0 hts gL_law_X4_init rfl rfl rfl (hts (.initialized RX4) (by decide +kernel)) (hts (.methodLink RL 81 yX4_init) (by decide +kernel)) (hts (.instanceMethod yX4_init) (by decide +kernel)) rfl (by decide +kernel) ⟨Nat.le_of_ble_eq_true rfl, Nat.le_of_ble_eq_true rfl⟩) ⟨fun a U g mk q => ⟨q.1, q.2.1, q.2.2.1, q.2.2.2.1, va_K.moved (u := U) (U := U.calling g mk a) (Vm.Alike.refl U.vm) q.2.2.2.2⟩, fun U hU hW => ⟨rfl, fun q hq => Or.inl (by rw [← hU]; exact hq), Or.inr rfl, by rw [hU]; exact hPm, va_K.moved hW.alike hI⟩⟩ rfl rfl hl.1 rfl (lv_room (Nat.le_of_ble_eq_true rfl)) dL_law_12 ⟨Nat.le_of_ble_eq_true rfl, Nat.le_of_ble_eq_true rfl⟩) hS (fun q _ h => hB2 q h) hB2 (fun x t H1 locs1 ht _ hp hB _ hk hS => ?_)
  obtain ⟨hadm, hRM⟩ := hp
  have hM1 : va_P D vwCl (wM x.1 kI x.2) H1 := by rw [← ht]; exact hB.1
  have hDM := hB.2
  have hPw1 : va_P D vwCl ws H1 := hPws.kept fun k q hq => hk q.1 (hPws k q hq).lt (fun z => z.elim (fun y => Nat.not_le.mpr (hPws k q hq).lt y) (fun y => hfr k q hq y))
  have hap : ∀ (k : Nat) (q : Nat × va_E), ws[k]? = some q → ∀ j, j < 12 → q.1 ≠ x.1 j := fun k q hq j hj e => by
    obtain ⟨j9, y9, hj9⟩ := wM_ad x.1 kI x.2 hj
    have h9 := hDM.2 j9 _ hj9
    rw [← e] at h9
    exact h9.elim (fun y => Nat.not_le.mpr (hPws k q hq).lt y) (fun y => hfr k q hq y)
  have hadN : ∀ j, j < 12 → s.heap.size ≤ x.1 j := fun j hj => by
    obtain ⟨j9, y9, hj9⟩ := wM_ad x.1 kI x.2 hj
    exact hB2 _ (hDM.2 j9 _ hj9)
  have hPc := hPw1.app hM1
  have hDc : va_D (fun q : Nat => s.heap.size ≤ q) (ws ++ wM x.1 kI x.2) := va_D.app hDw (hDM.weaken fun k q _ h => hB2 _ h) (fun i j p q hp hq e => by
    obtain ⟨j9, k1, k2⟩ := wM_of hq
    exact hap i p hp j9 k1 (by rw [e, k2]))
  refine lv_astore_n (lv' := [(2, .ref am), (1, .ref a0), (0, .ref b)]) hx hb dL_law_15 rfl hl (by decide) rfl (fun ls hl => ?_)
  refine lv_iconst (v := iI 1) hx hb dL_law_16 rfl ?_
  refine va_newa (atype := .long) (ty := .long) (N' := 1) (a0 := (1, .inr (.inl (fun _ => 0)))) hx hb (hts (.arrayClass .long) (by decide +kernel)) rfl hJ hPc hDc hS hA (fun cA => rfl) (by decide) (by decide) (by decide) (Nat.le_of_ble_eq_true rfl) (Nat.le_of_ble_eq_true rfl) dL_law_17 (fun ob cA H2 hK2 hP3 hD3 hS => ?_)
  have e9 : cA = kJ := Option.some.inj ((show s.vm.findClass _ = some cA from (hK2.2 1 _ rfl).2).symm.trans (show s.vm.findClass _ = some kJ from (hK2.2 0 _ rfl).2))
  subst e9
  have hfo := fresh_of hD3
  have hPw2 : va_P D vwCl ws H2 := fun k q hq => hP3 k q (app_at (app_at hq))
  have hM2 : va_P D vwCl (wM x.1 kI x.2) H2 := fun k q hq => hP3 (ws.length + k) q (app_at (by rw [List.getElem?_append_right (Nat.le_add_right _ _), Nat.add_sub_cancel_left]; exact hq))
  have hO2 : va_P D vwCl [(ob, oC cA (fun _ => 0))] H2 := fun k q hq => by
    have e8 := oC_of hq
    have hz : k < 1 := (List.getElem?_eq_some_iff.mp hq).1
    subst e8
    exact hP3 (ws ++ wM x.1 kI x.2).length _ (app_last _ _)
  have hob : s.heap.size ≤ ob := hD3.2 (ws ++ wM x.1 kI x.2).length _ (app_last _ _)
  have hne : ∀ j, j < 12 → x.1 j ≠ ob := fun j hj => by
    obtain ⟨j9, y9, hj9⟩ := wM_ad x.1 kI x.2 hj
    exact hfo (ws.length + j9) _ (by rw [List.getElem?_append_right (Nat.le_add_right _ _), Nat.add_sub_cancel_left]; exact hj9)
  have hCf : cH D cO dz (lA s.heap.size x.1 ob) w1 H2 := ⟨ws, hPw2, ⟨hDw.1, fun k q hq => ⟨hDw.2 k q hq, hap k q hq, hfo k q (app_at hq)⟩⟩, hRw⟩
  have hFx : LFix D kI s.heap.size x.1 ob := ⟨hadN, hob, hne, x.2, hDM.1, fun k q hq => wM_of hq⟩
  refine lv_astore_n (lv' := [(3, .ref ob), (2, .ref am), (1, .ref a0), (0, .ref b)]) hx hb dL_law_19 rfl hl (by decide) rfl (fun ls hl => ?_)
  refine lv_iconst (v := iI 0) hx hb dL_law_20 rfl ?_
  refine lv_istore (lv' := [(4, .int (iI 0)), (3, .ref ob), (2, .ref am), (1, .ref a0), (0, .ref b)]) hx hb dL_law_21 hl (by decide) rfl (fun ls hl => ?_)
  refine va_forget (fun z hz => hS.2.2 z hz) ?_
  have hinv : LInv D cO dz kI cA s x.1 ob a0 ((0 : Nat) : Int) H2 := ⟨stS0, w1, g, T, x.2, fun _ => 0, wf_0, hR, hg0, hRM, ⟨hCf, hM2, hO2⟩, ⟨hS.1, hS.2.1, fun _ h => absurd h List.not_mem_nil⟩⟩
  subst hadm
  exact law_loop (mi := mi) ⟨hx, hb, hml, hown, hts, hX, hbl, hL, hEn, hFx, hst⟩ hr hlocks (L + 6) 0 0 H2 _ _ ls (by omega) (by omega) (by omega) (Nat.le_of_ble_eq_true rfl) (Nat.le_of_ble_eq_true rfl) hinv (lv_sub hl [4, 3, 2, 1, 0] rfl)
