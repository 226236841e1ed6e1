set_option maxRecDepth 100000 in
set_option maxHeartbeats 4000000 in
theorem c_serverInit (l : Launch) (D : va_G) (cO : ClassId) (dz mi : Nat) {A : Nat → Prop} (w : CW) (b : Nat) (hk : w.1 b = 4) (hf : w.2.1 43 b = 0) : Met l yX3_init wsX3_init { frames := 7, cells := 17, slots := 5033, locals := 191 } (va_Pc [.ref b] (fun U => cPre D cO dz mi A w U ∧ va_Nw (.methodLinkNest RX3 33 yX0_init RX3) U)) (va_Qv (fun w9 => ∃ (g : Nat → Int → Nat) (T : Nat → Nat × Int), g 0 0 = b ∧ RelC stS0 w9 g T (usg stS0)) (cBh D cO dz A) A) 17 5033 A := by
  refine Met.ofW (cc := cX3_init) (maxL := 2) (ret := none) (by decide) rfl ?_
  intro pp ee ss mm args below meth cc s₁ B hml hv
  obtain ⟨rfl, ⟨hA, hC, hE, hX⟩, hN⟩ := hv
  have hl := lv_entry ([.ref b]) (n := 2) (Nat.le_of_ble_eq_true rfl)
  rw [lg_entry_eq]
  have hx := B.exec
  have hb := B.bytes
  have hown : ss.vm.findClass RX3 = some mm.cls := findClass_of_methodNamed B.named
  have hts := atoms_spec (ws := wsX3_init) B.pre
  have hini : meth.name = "<init>" := (name_of_methodNamed B.named B.method).1
  have hS : va_S A ss.heap ss.heap [] := va_S.rf
  generalize (lg_sl ([.ref b]) ++ List.replicate (2 - (lg_sl ([.ref b])).length) Slot.unset).toArray = ls at hl ⊢
  have hl : lv_has ls 2 [(0, .ref b)] := hl
  have hin_X3 : ∀ w ∈ wsX30, w ∈ wsX3_init := by decide +kernel
  have hin_X1 : ∀ w ∈ wsX10, w ∈ wsX3_init := by decide +kernel
  have hin_X0 : ∀ w ∈ wsX00, w ∈ wsX3_init := by decide +kernel
  have hin_L : ∀ w ∈ wsJx4a65c0, w ∈ wsX3_init := by decide +kernel
  refine lv_aload_n hx hb dX3_init_0 rfl (lv_at hl 0 rfl) ?_
  refine W.objInit hx hb hown (hts (.methodLink RX3 1 objectInit) (by decide +kernel)) (hts (.instanceMethod objectInit) (by decide +kernel)) (hts (.code objectInit ⟨#[0xb1]⟩ 1 none) (by decide +kernel)) rfl (by rw [hml]; exact hl.1) rfl dX3_init_1 (Nat.le_of_ble_eq_true rfl) (Nat.le_of_ble_eq_true rfl) ?_
  show W _ _ _ _ _ _ _ _ _ _ _ _ _ _ _ (F0 mm 4 ls [])
  refine lv_aload_n hx hb dX3_init_4 rfl (lv_at hl 0 rfl) ?_
  refine c_newList (ik := 7) (ic := 9) hx hb hml hl.1 hts hin_L gX3_init_Jx4a65c_init_da8c8 hown (hts (.classLink RX3 7 RJx4a65c) (by decide +kernel)) (hts (.instantiable RJx4a65c 3) (by decide +kernel)) (hts (.initialized RJx4a65c) (by decide +kernel)) (hts (.methodLink RX3 9 yJx4a65c_init_da8c8) (by decide +kernel)) (hts (.instanceMethod yJx4a65c_init_da8c8) (by decide +kernel)) hA hE hC hS (Nat.le_of_ble_eq_true rfl) (Nat.le_of_ble_eq_true rfl) (Nat.le_of_ble_eq_true rfl) (Nat.le_of_ble_eq_true rfl) (Nat.le_of_ble_eq_true rfl) dX3_init_5 dX3_init_8 dX3_init_9 (fun q1 H locs hq1 hC hS => ?_)
  have hk_q1 : (wMk w q1 5).1 b = 4 := by rw [wMk_K, if_neg (fun e => by rw [← e] at hq1; have h9 := hk; rw [show w.1 b = 4 from h9] at hq1; omega)]; exact hk
  refine c_putG (C := RX3) (T := TX3) (N := 4) hx hb hts hin_X3 tyX3 tyX3_ok nmX3 hown hE hC hS hk_q1 (by decide) (by decide) rfl 0 (by decide) (hts (.fieldLink RX3 10 "HoldServer" "directories" "Ljava/util/ArrayList;") (by decide +kernel)) rfl (Or.inr ⟨rfl, hini, rfl⟩) (ty := .object "java/util/ArrayList") (v := va_rf (some q1)) (by decide +kernel) (rf_fits _ _).1 (rf_fits _ _).2 (wR (wMk w q1 5) 40 b (some q1)) rfl rfl (fun _ h9 q9 => cFs_offR _ _ _ _ h9 q9) (Nat.le_of_ble_eq_true rfl) (cs_40 _ _ _) dX3_init_12 (fun H locs hC hS => ?_)
  refine lv_aload_n hx hb dX3_init_15 rfl (lv_at hl 0 rfl) ?_
  refine c_newList (ik := 7) (ic := 9) hx hb hml hl.1 hts hin_L gX3_init_Jx4a65c_init_da8c8 hown (hts (.classLink RX3 7 RJx4a65c) (by decide +kernel)) (hts (.instantiable RJx4a65c 3) (by decide +kernel)) (hts (.initialized RJx4a65c) (by decide +kernel)) (hts (.methodLink RX3 9 yJx4a65c_init_da8c8) (by decide +kernel)) (hts (.instanceMethod yJx4a65c_init_da8c8) (by decide +kernel)) hA hE hC hS (Nat.le_of_ble_eq_true rfl) (Nat.le_of_ble_eq_true rfl) (Nat.le_of_ble_eq_true rfl) (Nat.le_of_ble_eq_true rfl) (Nat.le_of_ble_eq_true rfl) dX3_init_16 dX3_init_19 dX3_init_20 (fun q2 H locs hq2 hC hS => ?_)
  have hk_q2 : (wMk (wR (wMk w q1 5) 40 b (some q1)) q2 5).1 b = 4 := by rw [wMk_K, if_neg (fun e => by rw [← e] at hq2; have h9 := hk_q1; rw [show (wR (wMk w q1 5) 40 b (some q1)).1 b = 4 from h9] at hq2; omega)]; exact hk_q1
  refine c_putG (C := RX3) (T := TX3) (N := 4) hx hb hts hin_X3 tyX3 tyX3_ok nmX3 hown hE hC hS hk_q2 (by decide) (by decide) rfl 1 (by decide) (hts (.fieldLink RX3 16 "HoldServer" "files" "Ljava/util/ArrayList;") (by decide +kernel)) rfl (Or.inr ⟨rfl, hini, rfl⟩) (ty := .object "java/util/ArrayList") (v := va_rf (some q2)) (by decide +kernel) (rf_fits _ _).1 (rf_fits _ _).2 (wR (wMk (wR (wMk w q1 5) 40 b (some q1)) q2 5) 41 b (some q2)) rfl rfl (fun _ h9 q9 => cFs_offR _ _ _ _ h9 q9) (Nat.le_of_ble_eq_true rfl) (cs_41 _ _ _) dX3_init_23 (fun H locs hC hS => ?_)
  refine lv_aload_n hx hb dX3_init_26 rfl (lv_at hl 0 rfl) ?_
  refine c_newList (ik := 7) (ic := 9) hx hb hml hl.1 hts hin_L gX3_init_Jx4a65c_init_da8c8 hown (hts (.classLink RX3 7 RJx4a65c) (by decide +kernel)) (hts (.instantiable RJx4a65c 3) (by decide +kernel)) (hts (.initialized RJx4a65c) (by decide +kernel)) (hts (.methodLink RX3 9 yJx4a65c_init_da8c8) (by decide +kernel)) (hts (.instanceMethod yJx4a65c_init_da8c8) (by decide +kernel)) hA hE hC hS (Nat.le_of_ble_eq_true rfl) (Nat.le_of_ble_eq_true rfl) (Nat.le_of_ble_eq_true rfl) (Nat.le_of_ble_eq_true rfl) (Nat.le_of_ble_eq_true rfl) dX3_init_27 dX3_init_30 dX3_init_31 (fun q3 H locs hq3 hC hS => ?_)
  have hk_q3 : (wMk (wR (wMk (wR (wMk w q1 5) 40 b (some q1)) q2 5) 41 b (some q2)) q3 5).1 b = 4 := by rw [wMk_K, if_neg (fun e => by rw [← e] at hq3; have h9 := hk_q2; rw [show (wR (wMk (wR (wMk w q1 5) 40 b (some q1)) q2 5) 41 b (some q2)).1 b = 4 from h9] at hq3; omega)]; exact hk_q2
  refine c_putG (C := RX3) (T := TX3) (N := 4) hx hb hts hin_X3 tyX3 tyX3_ok nmX3 hown hE hC hS hk_q3 (by decide) (by decide) rfl 2 (by decide) (hts (.fieldLink RX3 19 "HoldServer" "departments" "Ljava/util/ArrayList;") (by decide +kernel)) rfl (Or.inr ⟨rfl, hini, rfl⟩) (ty := .object "java/util/ArrayList") (v := va_rf (some q3)) (by decide +kernel) (rf_fits _ _).1 (rf_fits _ _).2 (wR (wMk (wR (wMk (wR (wMk w q1 5) 40 b (some q1)) q2 5) 41 b (some q2)) q3 5) 42 b (some q3)) rfl rfl (fun _ h9 q9 => cFs_offR _ _ _ _ h9 q9) (Nat.le_of_ble_eq_true rfl) (cs_42 _ _ _) dX3_init_34 (fun H locs hC hS => ?_)
  refine lv_aload_n hx hb dX3_init_37 rfl (lv_at hl 0 rfl) ?_
  have hb1 : b ≠ q1 := fun e => by rw [← e, hk] at hq1; omega
  have hkq1 : (wR (wMk (wR (wMk (wR (wMk w q1 5) 40 b (some q1)) q2 5) 41 b (some q2)) q3 5) 42 b (some q3)).1 q1 = 5 := by
    obtain ⟨f3, f4⟩ := mk_free (by omega) hq3
    obtain ⟨f5, f6⟩ := mk_free (by omega) f4
    obtain ⟨f1, f2⟩ := mk_free (by omega) hq2
    show (wMk (wMk (wMk w q1 5) q2 5) q3 5).1 q1 = 5
    rw [wMk_K, if_neg (Ne.symm f5), wMk_K, if_neg (Ne.symm f1), wMk_K, if_pos rfl]
  have hgd : (wR (wMk (wR (wMk (wR (wMk w q1 5) 40 b (some q1)) q2 5) 41 b (some q2)) q3 5) 42 b (some q3)).2.2.1 40 b = some q1 := by
    have hb2 : b ≠ q2 := fun e => by have h8 : (wMk w q1 5).1 b = 0 := (by rw [e]; exact hq2); have h7 : (wMk w q1 5).1 b = 4 := hk_q1; omega
    have hb3 : b ≠ q3 := fun e => by have h8 : (wMk (wMk w q1 5) q2 5).1 b = 0 := (by rw [e]; exact hq3); have h7 : (wMk (wMk w q1 5) q2 5).1 b = 4 := hk_q2; omega
    rw [wR_R, if_neg (by omega), wMk_R, if_neg hb3, wR_R, if_neg (by omega), wMk_R, if_neg hb2, wR_R, if_pos ⟨rfl, rfl⟩]
  refine c_get (C := RX3) (T := TX3) (N := 4) hx hb hts hin_X3 hown hE hC hk_q3 (by decide) (by decide) rfl 0 (by decide) (hts (.fieldLink RX3 10 "HoldServer" "directories" "Ljava/util/ArrayList;") (by decide +kernel)) rfl (v := .ref q1) (congrArg (fun z => some (va_rf z)) hgd) dX3_init_38 ?_
  refine c_new (C := RX1) (T := TX1) (N := 4) (ci := 2) hx hb hts hin_X1 tyX1 tyX1_ok hown (hts (.classLink RX3 22 RX1) (by decide +kernel)) (hts (.instantiable RX1 4) (by decide +kernel)) (hts (.initialized RX1) (by decide +kernel)) hA hE hC hS (by decide) (by decide) rfl [.int (iI 0), .null, .int (iI 0), .int (iI 0)] df_2 (fun q => cn_2 _ q) (Nat.le_of_ble_eq_true rfl) (Nat.le_of_ble_eq_true rfl) dX3_init_41 (fun qd H hqd hC hS => ?_)
  refine lv_dup hx hb dX3_init_44 rfl ?_
  refine lv_iconst (v := iI 0) hx hb dX3_init_45 rfl ?_
  refine lv_null hx hb dX3_init_46 ?_
  refine lv_iconst (v := iI (-1)) hx hb dX3_init_47 rfl ?_
  refine c_callV hS (va_runI (As := [.int (iI 0), .null, .int (iI (-1))]) (rest := [.ref qd, .ref q1]) ⟨hx, hb, hml, hown, hts⟩ (c_dirInit l D cO dz mi (wMk (wR (wMk (wR (wMk (wR (wMk w q1 5) 40 b (some q1)) q2 5) 41 b (some q2)) q3 5) 42 b (some q3)) qd 2) qd (by rw [wMk_K, if_pos rfl]) 0 (-1) none) (cwI 3 hts gX3_init_X1_init rfl rfl rfl (hts (.initialized RX1) (by decide +kernel)) (hts (.methodLink RX3 24 yX1_init) (by decide +kernel)) (hts (.instanceMethod yX1_init) (by decide +kernel)) rfl (by decide +kernel) ⟨Nat.le_of_ble_eq_true rfl, Nat.le_of_ble_eq_true rfl⟩) (c_preS hA hE hX hC hS) rfl rfl hl.1 rfl (lv_room (Nat.le_of_ble_eq_true rfl)) dX3_init_48 ⟨Nat.le_of_ble_eq_true rfl, Nat.le_of_ble_eq_true rfl⟩) (fun w9 H locs hpost hC hS => ?_)
  have hqd1 : q1 ≠ qd := fun e => by rw [← e, hkq1] at hqd; omega
  have hk9 : w9.1 q1 = 5 := by rw [← hpost]; show (wMk (wR (wMk (wR (wMk (wR (wMk w q1 5) 40 b (some q1)) q2 5) 41 b (some q2)) q3 5) 42 b (some q3)) qd 2).1 q1 = 5; rw [wMk_K, if_neg hqd1]; exact hkq1
  have hkd9 : w9.1 qd = 2 := by rw [← hpost]; show (wMk (wR (wMk (wR (wMk (wR (wMk w q1 5) 40 b (some q1)) q2 5) 41 b (some q2)) q3 5) 42 b (some q3)) qd 2).1 qd = 2; rw [wMk_K, if_pos rfl]
  have hl9 : w9.2.2.2 q1 = [] := by
    obtain ⟨f3, f4⟩ := mk_free (by omega) hq3
    obtain ⟨f5, f6⟩ := mk_free (by omega) f4
    obtain ⟨f1, f2⟩ := mk_free (by omega) hq2
    rw [← hpost]
    show (wMk (wMk (wMk (wMk w q1 5) q2 5) q3 5) qd 2).2.2.2 q1 = []
    rw [wMk_L, if_neg hqd1, wMk_L, if_neg (Ne.symm f5), wMk_L, if_neg (Ne.symm f1), wMk_L, if_pos rfl]
  refine c_callI hS (va_runV (As := [.ref qd]) (rest := []) ⟨hx, hb, hml, hown, hts⟩ (L_add l D cO dz mi w9 q1 qd hk9 (by rw [hkd9]; decide) (by rw [hkd9]; decide) (by rw [hl9]; decide)) (cwV 1 hts gX3_init_Jx4a65c_add_9ea2d rfl rfl rfl (by decide +kernel) ⟨Nat.le_of_ble_eq_true rfl, Nat.le_of_ble_eq_true rfl⟩) (c_preL hA hE hX hC hS hk9) rfl rfl hl.1 rfl (lv_room (Nat.le_of_ble_eq_true rfl)) dX3_init_51 ⟨Nat.le_of_ble_eq_true rfl, Nat.le_of_ble_eq_true rfl⟩) (fun r9 w9a H locs hpost2 hC hS => ?_)
  obtain ⟨rfl, rfl⟩ := hpost2
  refine lv_pop hx hb dX3_init_54 rfl ?_
  have hI0 := RelI.base (qd := qd) hk hf hq1 hq2 hq3 hqd
  have hI : RelI 0 (wL w9 q1 (w9.2.2.2 q1 ++ [qd])) (stG b q1 q2 q3 qd) (stT b q1 q2 q3) := by rw [hl9, ← hpost]; exact hI0
  obtain ⟨g, T, hgb, hI⟩ : ∃ (g : Nat → Int → Nat) (T : Nat → Nat × Int), g 0 0 = b ∧ RelI 0 (wL w9 q1 (w9.2.2.2 q1 ++ [qd])) g T := ⟨_, _, rfl, hI⟩
  generalize wL w9 q1 (w9.2.2.2 q1 ++ [qd]) = w0 at hC hI
  refine lv_iconst (v := iI 0) hx hb dX3_init_55 rfl ?_
  refine lv_istore_n (lv' := [(1, .int (iI 0)), (0, .ref b)]) hx hb dX3_init_56 rfl hl (by decide) rfl (fun ls hl => ?_)
  refine lv_iload_n hx hb dX3_init_57 rfl (lv_at hl 0 rfl) ?_
  refine lv_iconst (v := iI 4) hx hb dX3_init_58 rfl ?_
  refine h_icmp_ge (tgt := 83) hx hb (by omega) (by omega) dX3_init_59 (by decide) (fun c9 => by exfalso; omega) (fun c9 => ?_)
  have hkb : w0.1 b = 4 := by rw [← hgb]; exact (hI.1 0 0 (rI_lo (by omega))).2
  have hk3 : w0.1 (g 3 0) = 5 := (hI.1 3 0 (rI_lo (by omega))).2
  have hg3 : w0.2.2.1 42 b = some (g 3 0) := by rw [← hgb]; exact hI.2.1.2.2.1
  refine lv_aload_n hx hb dX3_init_62 rfl (lv_at hl 1 rfl) ?_
  refine c_get (C := RX3) (T := TX3) (N := 4) hx hb hts hin_X3 hown hE hC hkb (by decide) (by decide) rfl 2 (by decide) (hts (.fieldLink RX3 19 "HoldServer" "departments" "Ljava/util/ArrayList;") (by decide +kernel)) rfl (v := .ref (g 3 0)) (congrArg (fun z => some (va_rf z)) hg3) dX3_init_63 ?_
  refine c_new (C := RX0) (T := TX0) (N := 2) (ci := 1) hx hb hts hin_X0 tyX0 tyX0_ok hown (hts (.classLink RX3 31 RX0) (by decide +kernel)) (hts (.instantiable RX0 2) (by decide +kernel)) (hts (.initialized RX0) (by decide +kernel)) hA hE hC hS (by decide) (by decide) rfl [.null, .int (iI 0)] df_1 (fun q => cn_1 _ q) (Nat.le_of_ble_eq_true rfl) (Nat.le_of_ble_eq_true rfl) dX3_init_66 (fun q H hq hC hS => ?_)
  refine lv_dup hx hb dX3_init_69 rfl ?_
  have hkq : (wMk w0 q 1).1 q = 1 := by rw [wMk_K, if_pos rfl]
  refine c_callV hS (va_runIN (As := []) (rest := [.ref q, .ref (g 3 0)]) (host := RX3) ⟨hx, hb, hml, hown, hts⟩ (c_depInit l D cO dz mi (wMk w0 q 1) q hkq) ⟨va_cnB 0 hts gX3_init_X0_init_n33 rfl rfl rfl hN (hts (.initialized RX0) (by decide +kernel)) (by decide +kernel) ⟨Nat.le_of_ble_eq_true rfl, Nat.le_of_ble_eq_true rfl⟩, rfl, hts (.instanceMethod yX0_init) (by decide +kernel)⟩ (c_preS hA hE hX hC hS) rfl rfl hl.1 rfl (lv_room (Nat.le_of_ble_eq_true rfl)) dX3_init_70 ⟨Nat.le_of_ble_eq_true rfl, Nat.le_of_ble_eq_true rfl⟩) (fun w9 H locs hpost hC hS => ?_)
  obtain ⟨o, ho, hpost⟩ := hpost
  obtain ⟨hoq, ho⟩ := mk_free (by omega) ho
  have hnw := newDep_of w0 hoq
  rw [hpost] at hnw
  have hk39 : w9.1 (g 3 0) = 5 := by rw [hnw.1, if_neg (hI.nq hq (rI_lo (by omega))), if_neg (hI.nq ho (rI_lo (by omega)))]; exact hk3
  have hkq9 : w9.1 q = 1 := by rw [hnw.1, if_pos rfl]
  have hl39 : w9.2.2.2 (g 3 0) = (intsC 0).map (g 7) := by rw [hnw.2.2.2.1 _ (hI.nq hq (rI_lo (by omega))) (hI.nq ho (rI_lo (by omega)))]; exact hI.2.2.1.2.2
  refine c_callI hS (va_runV (As := [.ref q]) (rest := []) ⟨hx, hb, hml, hown, hts⟩ (L_add l D cO dz mi w9 (g 3 0) q hk39 (by rw [hkq9]; decide) (by rw [hkq9]; decide) (by rw [hl39, List.length_map, intsC_len]; omega)) (cwV 1 hts gX3_init_Jx4a65c_add_9ea2d rfl rfl rfl (by decide +kernel) ⟨Nat.le_of_ble_eq_true rfl, Nat.le_of_ble_eq_true rfl⟩) (c_preL hA hE hX hC hS hk39) rfl rfl hl.1 rfl (lv_room (Nat.le_of_ble_eq_true rfl)) dX3_init_73 ⟨Nat.le_of_ble_eq_true rfl, Nat.le_of_ble_eq_true rfl⟩) (fun r9 w9a H locs hpost2 hC hS => ?_)
  obtain ⟨rfl, rfl⟩ := hpost2
  refine lv_pop hx hb dX3_init_76 rfl ?_
  have hI2 := hI.dep hq ho hoq hnw
  obtain ⟨g2, T2, hgb2, hI2⟩ : ∃ (g2 : Nat → Int → Nat) (T2 : Nat → Nat × Int), g2 0 0 = b ∧ RelI (0 + 1) (wL w9 (g 3 0) (w9.2.2.2 (g 3 0) ++ [q])) g2 T2 := ⟨_, _, by rw [upG_off (by omega), upG_off (by omega)]; exact hgb, hI2⟩
  generalize wL w9 (g 3 0) (w9.2.2.2 (g 3 0) ++ [q]) = w1 at hC hI2
  clear hI hgb hnw hl39 hk39 hk3 hg3 hkb hpost
  refine lv_iinc (v := iI 1) (lv' := [(1, .int (iI 1)), (0, .ref b)]) hx hb dX3_init_77 hl (k := 0) rfl (by decide) (by decide) rfl (fun ls hl => ?_)
  refine lv_goto (tgt := 57) hx hb dX3_init_80 (by decide) ?_
  have hI := hI2
  have hgb := hgb2
  clear hI2 hgb2
  obtain ⟨g, T, hgb, hI⟩ : ∃ (g : Nat → Int → Nat) (T : Nat → Nat × Int), g 0 0 = b ∧ RelI 1 w1 g T := ⟨g2, T2, hgb, hI⟩
  refine lv_iload_n hx hb dX3_init_57 rfl (lv_at hl 0 rfl) ?_
  refine lv_iconst (v := iI 4) hx hb dX3_init_58 rfl ?_
  refine h_icmp_ge (tgt := 83) hx hb (by omega) (by omega) dX3_init_59 (by decide) (fun c9 => by exfalso; omega) (fun c9 => ?_)
  have hkb : w1.1 b = 4 := by rw [← hgb]; exact (hI.1 0 0 (rI_lo (by omega))).2
  have hk3 : w1.1 (g 3 0) = 5 := (hI.1 3 0 (rI_lo (by omega))).2
  have hg3 : w1.2.2.1 42 b = some (g 3 0) := by rw [← hgb]; exact hI.2.1.2.2.1
  refine lv_aload_n hx hb dX3_init_62 rfl (lv_at hl 1 rfl) ?_
  refine c_get (C := RX3) (T := TX3) (N := 4) hx hb hts hin_X3 hown hE hC hkb (by decide) (by decide) rfl 2 (by decide) (hts (.fieldLink RX3 19 "HoldServer" "departments" "Ljava/util/ArrayList;") (by decide +kernel)) rfl (v := .ref (g 3 0)) (congrArg (fun z => some (va_rf z)) hg3) dX3_init_63 ?_
  refine c_new (C := RX0) (T := TX0) (N := 2) (ci := 1) hx hb hts hin_X0 tyX0 tyX0_ok hown (hts (.classLink RX3 31 RX0) (by decide +kernel)) (hts (.instantiable RX0 2) (by decide +kernel)) (hts (.initialized RX0) (by decide +kernel)) hA hE hC hS (by decide) (by decide) rfl [.null, .int (iI 0)] df_1 (fun q => cn_1 _ q) (Nat.le_of_ble_eq_true rfl) (Nat.le_of_ble_eq_true rfl) dX3_init_66 (fun q H hq hC hS => ?_)
  refine lv_dup hx hb dX3_init_69 rfl ?_
  have hkq : (wMk w1 q 1).1 q = 1 := by rw [wMk_K, if_pos rfl]
  refine c_callV hS (va_runIN (As := []) (rest := [.ref q, .ref (g 3 0)]) (host := RX3) ⟨hx, hb, hml, hown, hts⟩ (c_depInit l D cO dz mi (wMk w1 q 1) q hkq) ⟨va_cnB 0 hts gX3_init_X0_init_n33 rfl rfl rfl hN (hts (.initialized RX0) (by decide +kernel)) (by decide +kernel) ⟨Nat.le_of_ble_eq_true rfl, Nat.le_of_ble_eq_true rfl⟩, rfl, hts (.instanceMethod yX0_init) (by decide +kernel)⟩ (c_preS hA hE hX hC hS) rfl rfl hl.1 rfl (lv_room (Nat.le_of_ble_eq_true rfl)) dX3_init_70 ⟨Nat.le_of_ble_eq_true rfl, Nat.le_of_ble_eq_true rfl⟩) (fun w9 H locs hpost hC hS => ?_)
  obtain ⟨o, ho, hpost⟩ := hpost
  obtain ⟨hoq, ho⟩ := mk_free (by omega) ho
  have hnw := newDep_of w1 hoq
  rw [hpost] at hnw
  have hk39 : w9.1 (g 3 0) = 5 := by rw [hnw.1, if_neg (hI.nq hq (rI_lo (by omega))), if_neg (hI.nq ho (rI_lo (by omega)))]; exact hk3
  have hkq9 : w9.1 q = 1 := by rw [hnw.1, if_pos rfl]
  have hl39 : w9.2.2.2 (g 3 0) = (intsC 1).map (g 7) := by rw [hnw.2.2.2.1 _ (hI.nq hq (rI_lo (by omega))) (hI.nq ho (rI_lo (by omega)))]; exact hI.2.2.1.2.2
  refine c_callI hS (va_runV (As := [.ref q]) (rest := []) ⟨hx, hb, hml, hown, hts⟩ (L_add l D cO dz mi w9 (g 3 0) q hk39 (by rw [hkq9]; decide) (by rw [hkq9]; decide) (by rw [hl39, List.length_map, intsC_len]; omega)) (cwV 1 hts gX3_init_Jx4a65c_add_9ea2d rfl rfl rfl (by decide +kernel) ⟨Nat.le_of_ble_eq_true rfl, Nat.le_of_ble_eq_true rfl⟩) (c_preL hA hE hX hC hS hk39) rfl rfl hl.1 rfl (lv_room (Nat.le_of_ble_eq_true rfl)) dX3_init_73 ⟨Nat.le_of_ble_eq_true rfl, Nat.le_of_ble_eq_true rfl⟩) (fun r9 w9a H locs hpost2 hC hS => ?_)
  obtain ⟨rfl, rfl⟩ := hpost2
  refine lv_pop hx hb dX3_init_76 rfl ?_
  have hI2 := hI.dep hq ho hoq hnw
  obtain ⟨g2, T2, hgb2, hI2⟩ : ∃ (g2 : Nat → Int → Nat) (T2 : Nat → Nat × Int), g2 0 0 = b ∧ RelI (1 + 1) (wL w9 (g 3 0) (w9.2.2.2 (g 3 0) ++ [q])) g2 T2 := ⟨_, _, by rw [upG_off (by omega), upG_off (by omega)]; exact hgb, hI2⟩
  generalize wL w9 (g 3 0) (w9.2.2.2 (g 3 0) ++ [q]) = w2 at hC hI2
  clear hI hgb hnw hl39 hk39 hk3 hg3 hkb hpost
  refine lv_iinc (v := iI 2) (lv' := [(1, .int (iI 2)), (0, .ref b)]) hx hb dX3_init_77 hl (k := 0) rfl (by decide) (by decide) rfl (fun ls hl => ?_)
  refine lv_goto (tgt := 57) hx hb dX3_init_80 (by decide) ?_
  have hI := hI2
  have hgb := hgb2
  clear hI2 hgb2
  obtain ⟨g, T, hgb, hI⟩ : ∃ (g : Nat → Int → Nat) (T : Nat → Nat × Int), g 0 0 = b ∧ RelI 2 w2 g T := ⟨g2, T2, hgb, hI⟩
  refine lv_iload_n hx hb dX3_init_57 rfl (lv_at hl 0 rfl) ?_
  refine lv_iconst (v := iI 4) hx hb dX3_init_58 rfl ?_
  refine h_icmp_ge (tgt := 83) hx hb (by omega) (by omega) dX3_init_59 (by decide) (fun c9 => by exfalso; omega) (fun c9 => ?_)
  have hkb : w2.1 b = 4 := by rw [← hgb]; exact (hI.1 0 0 (rI_lo (by omega))).2
  have hk3 : w2.1 (g 3 0) = 5 := (hI.1 3 0 (rI_lo (by omega))).2
  have hg3 : w2.2.2.1 42 b = some (g 3 0) := by rw [← hgb]; exact hI.2.1.2.2.1
  refine lv_aload_n hx hb dX3_init_62 rfl (lv_at hl 1 rfl) ?_
  refine c_get (C := RX3) (T := TX3) (N := 4) hx hb hts hin_X3 hown hE hC hkb (by decide) (by decide) rfl 2 (by decide) (hts (.fieldLink RX3 19 "HoldServer" "departments" "Ljava/util/ArrayList;") (by decide +kernel)) rfl (v := .ref (g 3 0)) (congrArg (fun z => some (va_rf z)) hg3) dX3_init_63 ?_
  refine c_new (C := RX0) (T := TX0) (N := 2) (ci := 1) hx hb hts hin_X0 tyX0 tyX0_ok hown (hts (.classLink RX3 31 RX0) (by decide +kernel)) (hts (.instantiable RX0 2) (by decide +kernel)) (hts (.initialized RX0) (by decide +kernel)) hA hE hC hS (by decide) (by decide) rfl [.null, .int (iI 0)] df_1 (fun q => cn_1 _ q) (Nat.le_of_ble_eq_true rfl) (Nat.le_of_ble_eq_true rfl) dX3_init_66 (fun q H hq hC hS => ?_)
  refine lv_dup hx hb dX3_init_69 rfl ?_
  have hkq : (wMk w2 q 1).1 q = 1 := by rw [wMk_K, if_pos rfl]
  refine c_callV hS (va_runIN (As := []) (rest := [.ref q, .ref (g 3 0)]) (host := RX3) ⟨hx, hb, hml, hown, hts⟩ (c_depInit l D cO dz mi (wMk w2 q 1) q hkq) ⟨va_cnB 0 hts gX3_init_X0_init_n33 rfl rfl rfl hN (hts (.initialized RX0) (by decide +kernel)) (by decide +kernel) ⟨Nat.le_of_ble_eq_true rfl, Nat.le_of_ble_eq_true rfl⟩, rfl, hts (.instanceMethod yX0_init) (by decide +kernel)⟩ (c_preS hA hE hX hC hS) rfl rfl hl.1 rfl (lv_room (Nat.le_of_ble_eq_true rfl)) dX3_init_70 ⟨Nat.le_of_ble_eq_true rfl, Nat.le_of_ble_eq_true rfl⟩) (fun w9 H locs hpost hC hS => ?_)
  obtain ⟨o, ho, hpost⟩ := hpost
  obtain ⟨hoq, ho⟩ := mk_free (by omega) ho
  have hnw := newDep_of w2 hoq
  rw [hpost] at hnw
  have hk39 : w9.1 (g 3 0) = 5 := by rw [hnw.1, if_neg (hI.nq hq (rI_lo (by omega))), if_neg (hI.nq ho (rI_lo (by omega)))]; exact hk3
  have hkq9 : w9.1 q = 1 := by rw [hnw.1, if_pos rfl]
  have hl39 : w9.2.2.2 (g 3 0) = (intsC 2).map (g 7) := by rw [hnw.2.2.2.1 _ (hI.nq hq (rI_lo (by omega))) (hI.nq ho (rI_lo (by omega)))]; exact hI.2.2.1.2.2
  refine c_callI hS (va_runV (As := [.ref q]) (rest := []) ⟨hx, hb, hml, hown, hts⟩ (L_add l D cO dz mi w9 (g 3 0) q hk39 (by rw [hkq9]; decide) (by rw [hkq9]; decide) (by rw [hl39, List.length_map, intsC_len]; omega)) (cwV 1 hts gX3_init_Jx4a65c_add_9ea2d rfl rfl rfl (by decide +kernel) ⟨Nat.le_of_ble_eq_true rfl, Nat.le_of_ble_eq_true rfl⟩) (c_preL hA hE hX hC hS hk39) rfl rfl hl.1 rfl (lv_room (Nat.le_of_ble_eq_true rfl)) dX3_init_73 ⟨Nat.le_of_ble_eq_true rfl, Nat.le_of_ble_eq_true rfl⟩) (fun r9 w9a H locs hpost2 hC hS => ?_)
  obtain ⟨rfl, rfl⟩ := hpost2
  refine lv_pop hx hb dX3_init_76 rfl ?_
  have hI2 := hI.dep hq ho hoq hnw
  obtain ⟨g2, T2, hgb2, hI2⟩ : ∃ (g2 : Nat → Int → Nat) (T2 : Nat → Nat × Int), g2 0 0 = b ∧ RelI (2 + 1) (wL w9 (g 3 0) (w9.2.2.2 (g 3 0) ++ [q])) g2 T2 := ⟨_, _, by rw [upG_off (by omega), upG_off (by omega)]; exact hgb, hI2⟩
  generalize wL w9 (g 3 0) (w9.2.2.2 (g 3 0) ++ [q]) = w3 at hC hI2
  clear hI hgb hnw hl39 hk39 hk3 hg3 hkb hpost
  refine lv_iinc (v := iI 3) (lv' := [(1, .int (iI 3)), (0, .ref b)]) hx hb dX3_init_77 hl (k := 0) rfl (by decide) (by decide) rfl (fun ls hl => ?_)
  refine lv_goto (tgt := 57) hx hb dX3_init_80 (by decide) ?_
  have hI := hI2
  have hgb := hgb2
  clear hI2 hgb2
  obtain ⟨g, T, hgb, hI⟩ : ∃ (g : Nat → Int → Nat) (T : Nat → Nat × Int), g 0 0 = b ∧ RelI 3 w3 g T := ⟨g2, T2, hgb, hI⟩
  refine lv_iload_n hx hb dX3_init_57 rfl (lv_at hl 0 rfl) ?_
  refine lv_iconst (v := iI 4) hx hb dX3_init_58 rfl ?_
  refine h_icmp_ge (tgt := 83) hx hb (by omega) (by omega) dX3_init_59 (by decide) (fun c9 => by exfalso; omega) (fun c9 => ?_)
  have hkb : w3.1 b = 4 := by rw [← hgb]; exact (hI.1 0 0 (rI_lo (by omega))).2
  have hk3 : w3.1 (g 3 0) = 5 := (hI.1 3 0 (rI_lo (by omega))).2
  have hg3 : w3.2.2.1 42 b = some (g 3 0) := by rw [← hgb]; exact hI.2.1.2.2.1
  refine lv_aload_n hx hb dX3_init_62 rfl (lv_at hl 1 rfl) ?_
  refine c_get (C := RX3) (T := TX3) (N := 4) hx hb hts hin_X3 hown hE hC hkb (by decide) (by decide) rfl 2 (by decide) (hts (.fieldLink RX3 19 "HoldServer" "departments" "Ljava/util/ArrayList;") (by decide +kernel)) rfl (v := .ref (g 3 0)) (congrArg (fun z => some (va_rf z)) hg3) dX3_init_63 ?_
  refine c_new (C := RX0) (T := TX0) (N := 2) (ci := 1) hx hb hts hin_X0 tyX0 tyX0_ok hown (hts (.classLink RX3 31 RX0) (by decide +kernel)) (hts (.instantiable RX0 2) (by decide +kernel)) (hts (.initialized RX0) (by decide +kernel)) hA hE hC hS (by decide) (by decide) rfl [.null, .int (iI 0)] df_1 (fun q => cn_1 _ q) (Nat.le_of_ble_eq_true rfl) (Nat.le_of_ble_eq_true rfl) dX3_init_66 (fun q H hq hC hS => ?_)
  refine lv_dup hx hb dX3_init_69 rfl ?_
  have hkq : (wMk w3 q 1).1 q = 1 := by rw [wMk_K, if_pos rfl]
  refine c_callV hS (va_runIN (As := []) (rest := [.ref q, .ref (g 3 0)]) (host := RX3) ⟨hx, hb, hml, hown, hts⟩ (c_depInit l D cO dz mi (wMk w3 q 1) q hkq) ⟨va_cnB 0 hts gX3_init_X0_init_n33 rfl rfl rfl hN (hts (.initialized RX0) (by decide +kernel)) (by decide +kernel) ⟨Nat.le_of_ble_eq_true rfl, Nat.le_of_ble_eq_true rfl⟩, rfl, hts (.instanceMethod yX0_init) (by decide +kernel)⟩ (c_preS hA hE hX hC hS) rfl rfl hl.1 rfl (lv_room (Nat.le_of_ble_eq_true rfl)) dX3_init_70 ⟨Nat.le_of_ble_eq_true rfl, Nat.le_of_ble_eq_true rfl⟩) (fun w9 H locs hpost hC hS => ?_)
  obtain ⟨o, ho, hpost⟩ := hpost
  obtain ⟨hoq, ho⟩ := mk_free (by omega) ho
  have hnw := newDep_of w3 hoq
  rw [hpost] at hnw
  have hk39 : w9.1 (g 3 0) = 5 := by rw [hnw.1, if_neg (hI.nq hq (rI_lo (by omega))), if_neg (hI.nq ho (rI_lo (by omega)))]; exact hk3
  have hkq9 : w9.1 q = 1 := by rw [hnw.1, if_pos rfl]
  have hl39 : w9.2.2.2 (g 3 0) = (intsC 3).map (g 7) := by rw [hnw.2.2.2.1 _ (hI.nq hq (rI_lo (by omega))) (hI.nq ho (rI_lo (by omega)))]; exact hI.2.2.1.2.2
  refine c_callI hS (va_runV (As := [.ref q]) (rest := []) ⟨hx, hb, hml, hown, hts⟩ (L_add l D cO dz mi w9 (g 3 0) q hk39 (by rw [hkq9]; decide) (by rw [hkq9]; decide) (by rw [hl39, List.length_map, intsC_len]; omega)) (cwV 1 hts gX3_init_Jx4a65c_add_9ea2d rfl rfl rfl (by decide +kernel) ⟨Nat.le_of_ble_eq_true rfl, Nat.le_of_ble_eq_true rfl⟩) (c_preL hA hE hX hC hS hk39) rfl rfl hl.1 rfl (lv_room (Nat.le_of_ble_eq_true rfl)) dX3_init_73 ⟨Nat.le_of_ble_eq_true rfl, Nat.le_of_ble_eq_true rfl⟩) (fun r9 w9a H locs hpost2 hC hS => ?_)
  obtain ⟨rfl, rfl⟩ := hpost2
  refine lv_pop hx hb dX3_init_76 rfl ?_
  have hI2 := hI.dep hq ho hoq hnw
  obtain ⟨g2, T2, hgb2, hI2⟩ : ∃ (g2 : Nat → Int → Nat) (T2 : Nat → Nat × Int), g2 0 0 = b ∧ RelI (3 + 1) (wL w9 (g 3 0) (w9.2.2.2 (g 3 0) ++ [q])) g2 T2 := ⟨_, _, by rw [upG_off (by omega), upG_off (by omega)]; exact hgb, hI2⟩
  generalize wL w9 (g 3 0) (w9.2.2.2 (g 3 0) ++ [q]) = w4 at hC hI2
  clear hI hgb hnw hl39 hk39 hk3 hg3 hkb hpost
  refine lv_iinc (v := iI 4) (lv' := [(1, .int (iI 4)), (0, .ref b)]) hx hb dX3_init_77 hl (k := 0) rfl (by decide) (by decide) rfl (fun ls hl => ?_)
  refine lv_goto (tgt := 57) hx hb dX3_init_80 (by decide) ?_
  have hI := hI2
  have hgb := hgb2
  clear hI2 hgb2
  obtain ⟨g, T, hgb, hI⟩ : ∃ (g : Nat → Int → Nat) (T : Nat → Nat × Int), g 0 0 = b ∧ RelI 4 w4 g T := ⟨g2, T2, hgb, hI⟩
  refine lv_iload_n hx hb dX3_init_57 rfl (lv_at hl 0 rfl) ?_
  refine lv_iconst (v := iI 4) hx hb dX3_init_58 rfl ?_
  refine h_icmp_ge (tgt := 83) hx hb (by omega) (by omega) dX3_init_59 (by decide) (fun c9 => ?_) (fun c9 => by exfalso; omega)
  refine W.widen (k := 17) (n := 5033) (Nat.le_of_ble_eq_true rfl) (Nat.le_of_ble_eq_true rfl) ?_
  exact W.vret B.exec B.bytes B.returns (fun t ht hW => ⟨⟨_, rfl, ⟨g, T, hgb, hI.fin⟩, by show cH _ _ _ _ _ t.heap; rw [ht]; exact hC⟩, hS.F ht⟩) hS.2.2 dX3_init_83 B.notSynchronized
