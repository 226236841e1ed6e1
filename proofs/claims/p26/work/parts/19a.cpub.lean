set_option maxRecDepth 100000 in
set_option maxHeartbeats 4000000 in
theorem c_addDirectory (l : Launch) (D : va_G) (cO : ClassId) (dz mi : Nat) {A : Nat → Prop} {S : HdS} {w : CW} {g : Nat → Int → Nat} {T : Nat → Nat × Int} {n : Int} (hw : wf S n) (hR : RelC S w g T (usg S)) (hst : l.stackTraces = false) (p q : Int) (rd : inQ p) (rq : inQ q) : cIX l yX3_addDirectory wsX3_addDirectory { frames := 7, cells := 5, slots := 1028, locals := 191 } D cO dz mi A [.ref (g 0 0), .int (iI (p)), .int (iI (q))] w (fun r w9 => spC (g 0 0) (sp_addDirectory S p q) r w9) (spE tb1 (sp_addDirectory S p q)) 5 1028 := by
  refine cIX_of (cc := cX3_addDirectory) (maxL := 5) (ty := .int) (by decide) rfl (Nat.le_of_ble_eq_true rfl) ?_
  intro pp ee ss mm args below meth cc Q hx hb hml hown hts hA hC hE hX hS hto hlk hQ hret ls hl
  have hl : lv_has ls 5 [(0, .ref (g 0 0)), (1, .int (iI (p))), (2, .int (iI (q)))] := hl
  have hin_X3 : ∀ w ∈ wsX30, w ∈ wsX3_addDirectory := by decide +kernel
  have hin_X1 : ∀ w ∈ wsX10, w ∈ wsX3_addDirectory := by decide +kernel
  have hnd := hw.nd
  have hnf := hw.nf
  have hdy := hw.day
  have hnf0 := hnf.1
  refine lv_aload_n hx hb dX3_addDirectory_0 rfl (lv_at hl 0 rfl) ?_
  refine lv_iload_n hx hb dX3_addDirectory_1 rfl (lv_at hl 1 rfl) ?_
  refine c_callQX hS (vx_runV (As := [.int (iI (p))]) (rest := []) ⟨hx, hb, hml, hown, hts⟩ (c_dirNumbered l D cO dz mi hw hR hst p (by omega)) (cwV 1 hts gX3_addDirectory_X3_directoryNumbered rfl rfl rfl (by decide +kernel) ⟨Nat.le_of_ble_eq_true rfl, Nat.le_of_ble_eq_true rfl⟩) (c_preV hA hE hX hC hS hR.k0 (by decide) (by decide) rfl) rfl rfl hl.1 rfl (lv_room (Nat.le_of_ble_eq_true rfl)) dX3_addDirectory_2 ⟨Nat.le_of_ble_eq_true rfl, Nat.le_of_ble_eq_true rfl⟩) hQ (fun E hx9 => by obtain ⟨rfl, hx9⟩ := hx9; exact spE_of (k := 1) (by unfold sp_addDirectory; exact iteC_pos hx9) (by decide)) hto hlk (by omega) (by omega) (fun r9 w9 H locs hpost hC hS => ?_)
  obtain ⟨rfl, rfl, hn0_2, hn1_2⟩ := hpost
  refine lv_astore_n (lv' := [(3, .ref (g 4 p)), (0, .ref (g 0 0)), (1, .int (iI (p))), (2, .int (iI (q)))]) hx hb dX3_addDirectory_5 rfl hl (by decide) rfl (fun ls hl => ?_)
  refine lv_iconst (v := iI (-1)) hx hb dX3_addDirectory_6 rfl ?_
  refine lv_iload_n hx hb dX3_addDirectory_7 rfl (lv_at hl 3 rfl) ?_
  refine lv_ldc (v := iI 100000) hx hb hown (hts (.constant RX3 38 (iI 100000)) (by decide +kernel)) dX3_addDirectory_8 ?_
  refine c_callVX hS (vx_runS (As := [.int (iI (-1)), .int (iI (q)), .int (iI 100000)]) (rest := []) ⟨hx, hb, hml, hown, hts⟩ (c_requireBetween l D cO dz mi w hst ((-1)) (q) (100000) (by omega) (by omega) (by omega)) (va_cwS 3 hts gX3_addDirectory_X3_requireBetween rfl rfl rfl (by decide +kernel) ⟨Nat.le_of_ble_eq_true rfl, Nat.le_of_ble_eq_true rfl⟩) (c_preS hA hE hX hC hS) rfl rfl hl.1 rfl (lv_room (Nat.le_of_ble_eq_true rfl)) dX3_addDirectory_10 ⟨Nat.le_of_ble_eq_true rfl, Nat.le_of_ble_eq_true rfl⟩) hQ (fun E hx9 => by obtain ⟨rfl, hx9⟩ := hx9; exact spE_of (k := 2) (by unfold sp_addDirectory; rw [iteC_neg (fun z => z ⟨by omega, by omega⟩)]; exact iteC_pos hx9) (by decide)) hto hlk (by omega) (by omega) (fun w9 H locs hpost hC hS => ?_)
  obtain ⟨rfl, hb0_10, hb1_10⟩ := hpost
  refine lv_aload_n hx hb dX3_addDirectory_13 rfl (lv_at hl 1 rfl) ?_
  refine c_get (C := RX3) (T := TX3) (N := 4) hx hb hts hin_X3 hown hE hC hR.k0 (by decide) (by decide) rfl 0 (by decide) (hts (.fieldLink RX3 10 "HoldServer" "directories" "Ljava/util/ArrayList;") (by decide +kernel)) rfl (v := .ref (g 1 0)) (congrArg (fun z => some (va_rf z)) hR.dirs) dX3_addDirectory_14 ?_
  refine c_callI hS (va_runV (As := []) (rest := []) ⟨hx, hb, hml, hown, hts⟩ (R_size1 l D cO dz mi hR (by omega)) (cwV 0 hts gX3_addDirectory_Jx4a65c_size_8abf5 rfl rfl rfl (by decide +kernel) ⟨Nat.le_of_ble_eq_true rfl, Nat.le_of_ble_eq_true rfl⟩) (c_preL hA hE hX hC hS hR.k1) rfl rfl hl.1 rfl (lv_room (Nat.le_of_ble_eq_true rfl)) dX3_addDirectory_17 ⟨Nat.le_of_ble_eq_true rfl, Nat.le_of_ble_eq_true rfl⟩) (fun r9 w9 H locs hpost hC hS => ?_)
  obtain ⟨rfl, rfl⟩ := hpost
  refine lv_istore (lv' := [(4, .int (iI ((S.1 11 0)))), (3, .ref (g 4 p)), (0, .ref (g 0 0)), (1, .int (iI (p))), (2, .int (iI (q)))]) hx hb dX3_addDirectory_20 hl (by decide) rfl (fun ls hl => ?_)
  refine lv_iload hx hb dX3_addDirectory_22 (lv_at hl 0 rfl) ?_
  refine lv_bipush (v := iI 12) hx hb dX3_addDirectory_24 (by decide) ?_
  refine h_icmp_lt (tgt := 39) hx hb (by omega) (by omega) dX3_addDirectory_26 (by decide) (fun c_26 => ?_) (fun c_26 => ?_)
  · skip
    refine lv_aload_n hx hb dX3_addDirectory_39 rfl (lv_at hl 2 rfl) ?_
    refine c_get (C := RX3) (T := TX3) (N := 4) hx hb hts hin_X3 hown hE hC hR.k0 (by decide) (by decide) rfl 0 (by decide) (hts (.fieldLink RX3 10 "HoldServer" "directories" "Ljava/util/ArrayList;") (by decide +kernel)) rfl (v := .ref (g 1 0)) (congrArg (fun z => some (va_rf z)) hR.dirs) dX3_addDirectory_40 ?_
    refine c_new (C := RX1) (T := TX1) (N := 4) (ci := 2) hx hb hts hin_X1 tyX1 tyX1_ok hown (hts (.classLink RX3 22 RX1) (by decide +kernel)) (hts (.instantiable RX1 4) (by decide +kernel)) (hts (.initialized RX1) (by decide +kernel)) hA hE hC hS (by decide) (by decide) rfl [.int (iI 0), .null, .int (iI 0), .int (iI 0)] df_2 (fun q => cn_2 _ q) (Nat.le_of_ble_eq_true rfl) (Nat.le_of_ble_eq_true rfl) dX3_addDirectory_43 (fun q9 H hq9 hC hS => ?_)
    refine lv_dup hx hb dX3_addDirectory_46 rfl ?_
    refine lv_iload hx hb dX3_addDirectory_47 (lv_at hl 0 rfl) ?_
    refine lv_aload_n hx hb dX3_addDirectory_49 rfl (lv_at hl 1 rfl) ?_
    refine lv_iload_n hx hb dX3_addDirectory_50 rfl (lv_at hl 4 rfl) ?_
    have hk9 : (wMk w q9 2).1 q9 = 2 := by rw [wMk_K, if_pos rfl]
    refine c_callV hS (va_runI (As := [.int (iI ((S.1 11 0))), .ref (g 4 p), .int (iI (q))]) (rest := [.ref q9, .ref (g 1 0)]) ⟨hx, hb, hml, hown, hts⟩ (c_dirInit l D cO dz mi (wMk w q9 2) q9 hk9 (S.1 11 0) q (some (g 4 p))) (cwI 3 hts gX3_addDirectory_X1_init rfl rfl rfl (hts (.initialized RX1) (by decide +kernel)) (hts (.methodLink RX3 24 yX1_init) (by decide +kernel)) (hts (.instanceMethod yX1_init) (by decide +kernel)) rfl (by decide +kernel) ⟨Nat.le_of_ble_eq_true rfl, Nat.le_of_ble_eq_true rfl⟩) (c_preS hA hE hX hC hS) rfl rfl hl.1 rfl (lv_room (Nat.le_of_ble_eq_true rfl)) dX3_addDirectory_51 ⟨Nat.le_of_ble_eq_true rfl, Nat.le_of_ble_eq_true rfl⟩) (fun w9 H locs hpost hC hS => ?_)
    have hnw := newDir_of w q9 (S.1 11 0) (some (g 4 p)) q
    rw [hpost] at hnw
    have hR0 := hR
    have hR := hR0.keep (hnw.agree hq9)
    have hb9 : w9.1 q9 = 2 := by rw [hnw.1, if_pos rfl]
    refine c_callI hS (va_runV (As := [.ref q9]) (rest := []) ⟨hx, hb, hml, hown, hts⟩ (L_add l D cO dz mi w9 (g 1 0) q9 hR.k1 (by rw [hb9]; decide) (by rw [hb9]; decide) (by rw [hR.l1, List.length_map, intsC_len]; omega)) (cwV 1 hts gX3_addDirectory_Jx4a65c_add_9ea2d rfl rfl rfl (by decide +kernel) ⟨Nat.le_of_ble_eq_true rfl, Nat.le_of_ble_eq_true rfl⟩) (c_preL hA hE hX hC hS hR.k1) rfl rfl hl.1 rfl (lv_room (Nat.le_of_ble_eq_true rfl)) dX3_addDirectory_54 ⟨Nat.le_of_ble_eq_true rfl, Nat.le_of_ble_eq_true rfl⟩) (fun r9 w9a H locs hpost hC hS => ?_)
    obtain ⟨rfl, rfl⟩ := hpost
    refine lv_pop hx hb dX3_addDirectory_57 rfl ?_
    refine lv_iload hx hb dX3_addDirectory_58 (lv_at hl 0 rfl) ?_
    exact hret ((S.1 11 0)) ((wL w9 (g 1 0) (w9.2.2.2 (g 1 0) ++ [q9]))) _ _ _ _ _ _ dX3_addDirectory_60 rfl hC hS (by omega) (by omega) (spC_at (g := upG g 4 (S.1 11 0) q9) (T := upT T q9 4 (S.1 11 0)) (by unfold sp_addDirectory; rw [iteC_neg (fun z => z ⟨by omega, by omega⟩), iteC_neg (fun z => z ⟨by omega, by omega⟩), iteC_neg (by omega)]) (hR0.dirMade hw hn0_2 hn1_2 hq9 hnw) (by rw [upG_off (by omega)]))
  · skip
    exact x_throw (cls := xISE) (text := _) (is := 49) (ic := 51) hx hb hst (by first | exact Or.inl ⟨rfl, rfl, rfl⟩ | exact Or.inr (Or.inl ⟨rfl, rfl, rfl⟩) | exact Or.inr (Or.inr ⟨rfl, rfl, rfl⟩)) hown hts (by decide +kernel) xs_49 hX hC hS hQ (hl.1.trans hml.symm) dX3_addDirectory_29 dX3_addDirectory_32 dX3_addDirectory_33 dX3_addDirectory_35 dX3_addDirectory_38 hto (Nat.le_of_ble_eq_true rfl) (Nat.le_of_ble_eq_true rfl) (Nat.le_of_ble_eq_true rfl) (Nat.le_of_ble_eq_true rfl) hlk (spE_of (k := 3) (by unfold sp_addDirectory; rw [iteC_neg (fun z => z ⟨by omega, by omega⟩), iteC_neg (fun z => z ⟨by omega, by omega⟩)]; exact iteC_pos (by omega)) (by decide)) (by omega) (by omega)

set_option maxRecDepth 100000 in
set_option maxHeartbeats 4000000 in
theorem c_make (l : Launch) (D : va_G) (cO : ClassId) (dz mi : Nat) {A : Nat → Prop} {S : HdS} {w : CW} {g : Nat → Int → Nat} {T : Nat → Nat × Int} {n : Int} (hw : wf S n) (hR : RelC S w g T (usg S)) (hst : l.stackTraces = false) (p d z : Int) (rp : inQ p) (rd : inQ d) (rz : inQ z) : cIX l yX3_make wsX3_make { frames := 7, cells := 9, slots := 3033, locals := 191 } D cO dz mi A [.ref (g 0 0), .int (iI (p)), .int (iI (d)), .int (iI (z))] w (fun r w9 => spC (g 0 0) (sp_make S p d z) r w9) (spE tb1 (sp_make S p d z)) 9 3033 := by
  refine cIX_of (cc := cX3_make) (maxL := 8) (ty := .int) (by decide) rfl (Nat.le_of_ble_eq_true rfl) ?_
  intro pp ee ss mm args below meth cc Q hx hb hml hown hts hA hC hE hX hS hto hlk hQ hret ls hl
  have hl : lv_has ls 8 [(0, .ref (g 0 0)), (1, .int (iI (p))), (2, .int (iI (d))), (3, .int (iI (z)))] := hl
  have hin_X3 : ∀ w ∈ wsX30, w ∈ wsX3_make := by decide +kernel
  have hin_X2 : ∀ w ∈ wsX20, w ∈ wsX3_make := by decide +kernel
  have hin_X0 : ∀ w ∈ wsX00, w ∈ wsX3_make := by decide +kernel
  have hnd := hw.nd
  have hnf := hw.nf
  have hdy := hw.day
  have hnf0 := hnf.1
  refine lv_aload_n hx hb dX3_make_0 rfl (lv_at hl 0 rfl) ?_
  refine lv_iload_n hx hb dX3_make_1 rfl (lv_at hl 1 rfl) ?_
  refine c_callQX hS (vx_runV (As := [.int (iI (p))]) (rest := []) ⟨hx, hb, hml, hown, hts⟩ (c_depNumbered l D cO dz mi hw hR hst p (by omega)) (cwV 1 hts gX3_make_X3_departmentNumbered rfl rfl rfl (by decide +kernel) ⟨Nat.le_of_ble_eq_true rfl, Nat.le_of_ble_eq_true rfl⟩) (c_preV hA hE hX hC hS hR.k0 (by decide) (by decide) rfl) rfl rfl hl.1 rfl (lv_room (Nat.le_of_ble_eq_true rfl)) dX3_make_2 ⟨Nat.le_of_ble_eq_true rfl, Nat.le_of_ble_eq_true rfl⟩) hQ (fun E hx9 => by obtain ⟨rfl, hx9⟩ := hx9; exact spE_of (k := 1) (by unfold sp_make; exact iteC_pos (Or.inl hx9)) (by decide)) hto hlk (by omega) (by omega) (fun r9 w9 H locs hpost hC hS => ?_)
  obtain ⟨rfl, rfl, hn0_2, hn1_2⟩ := hpost
  refine lv_astore (lv' := [(4, .ref (g 7 p)), (0, .ref (g 0 0)), (1, .int (iI (p))), (2, .int (iI (d))), (3, .int (iI (z)))]) hx hb dX3_make_5 hl (by decide) rfl (fun ls hl => ?_)
  refine lv_aload_n hx hb dX3_make_7 rfl (lv_at hl 1 rfl) ?_
  refine lv_iload_n hx hb dX3_make_8 rfl (lv_at hl 3 rfl) ?_
  refine c_callQX hS (vx_runV (As := [.int (iI (d))]) (rest := []) ⟨hx, hb, hml, hown, hts⟩ (c_dirNumbered l D cO dz mi hw hR hst d (by omega)) (cwV 1 hts gX3_make_X3_directoryNumbered rfl rfl rfl (by decide +kernel) ⟨Nat.le_of_ble_eq_true rfl, Nat.le_of_ble_eq_true rfl⟩) (c_preV hA hE hX hC hS hR.k0 (by decide) (by decide) rfl) rfl rfl hl.1 rfl (lv_room (Nat.le_of_ble_eq_true rfl)) dX3_make_9 ⟨Nat.le_of_ble_eq_true rfl, Nat.le_of_ble_eq_true rfl⟩) hQ (fun E hx9 => by obtain ⟨rfl, hx9⟩ := hx9; exact spE_of (k := 1) (by unfold sp_make; exact iteC_pos (Or.inr hx9)) (by decide)) hto hlk (by omega) (by omega) (fun r9 w9 H locs hpost hC hS => ?_)
  obtain ⟨rfl, rfl, hn0_9, hn1_9⟩ := hpost
  refine lv_astore (lv' := [(5, .ref (g 4 d)), (4, .ref (g 7 p)), (0, .ref (g 0 0)), (1, .int (iI (p))), (2, .int (iI (d))), (3, .int (iI (z)))]) hx hb dX3_make_12 hl (by decide) rfl (fun ls hl => ?_)
  refine lv_iconst (v := iI 1) hx hb dX3_make_14 rfl ?_
  refine lv_iload_n hx hb dX3_make_15 rfl (lv_at hl 5 rfl) ?_
  refine lv_sipush (v := iI 1000) hx hb dX3_make_16 (by decide) ?_
  refine c_callVX hS (vx_runS (As := [.int (iI 1), .int (iI (z)), .int (iI 1000)]) (rest := []) ⟨hx, hb, hml, hown, hts⟩ (c_requireBetween l D cO dz mi w hst (1) (z) (1000) (by omega) (by omega) (by omega)) (va_cwS 3 hts gX3_make_X3_requireBetween rfl rfl rfl (by decide +kernel) ⟨Nat.le_of_ble_eq_true rfl, Nat.le_of_ble_eq_true rfl⟩) (c_preS hA hE hX hC hS) rfl rfl hl.1 rfl (lv_room (Nat.le_of_ble_eq_true rfl)) dX3_make_19 ⟨Nat.le_of_ble_eq_true rfl, Nat.le_of_ble_eq_true rfl⟩) hQ (fun E hx9 => by obtain ⟨rfl, hx9⟩ := hx9; exact spE_of (k := 2) (by unfold sp_make; rw [iteC_neg (by omega)]; exact iteC_pos hx9) (by decide)) hto hlk (by omega) (by omega) (fun w9 H locs hpost hC hS => ?_)
  obtain ⟨rfl, hb0_19, hb1_19⟩ := hpost
  refine lv_aload_n hx hb dX3_make_22 rfl (lv_at hl 2 rfl) ?_
  refine c_get (C := RX3) (T := TX3) (N := 4) hx hb hts hin_X3 hown hE hC hR.k0 (by decide) (by decide) rfl 1 (by decide) (hts (.fieldLink RX3 16 "HoldServer" "files" "Ljava/util/ArrayList;") (by decide +kernel)) rfl (v := .ref (g 2 0)) (congrArg (fun z => some (va_rf z)) hR.fils) dX3_make_23 ?_
  refine c_callI hS (va_runV (As := []) (rest := []) ⟨hx, hb, hml, hown, hts⟩ (R_size2 l D cO dz mi hR (by omega)) (cwV 0 hts gX3_make_Jx4a65c_size_8abf5 rfl rfl rfl (by decide +kernel) ⟨Nat.le_of_ble_eq_true rfl, Nat.le_of_ble_eq_true rfl⟩) (c_preL hA hE hX hC hS hR.k2) rfl rfl hl.1 rfl (lv_room (Nat.le_of_ble_eq_true rfl)) dX3_make_26 ⟨Nat.le_of_ble_eq_true rfl, Nat.le_of_ble_eq_true rfl⟩) (fun r9 w9 H locs hpost hC hS => ?_)
  obtain ⟨rfl, rfl⟩ := hpost
  refine lv_istore (lv' := [(6, .int (iI ((S.1 11 1)))), (5, .ref (g 4 d)), (4, .ref (g 7 p)), (0, .ref (g 0 0)), (1, .int (iI (p))), (2, .int (iI (d))), (3, .int (iI (z)))]) hx hb dX3_make_29 hl (by decide) rfl (fun ls hl => ?_)
  refine lv_iload hx hb dX3_make_31 (lv_at hl 0 rfl) ?_
  refine lv_bipush (v := iI 30) hx hb dX3_make_33 (by decide) ?_
  refine h_icmp_lt (tgt := 48) hx hb (by omega) (by omega) dX3_make_35 (by decide) (fun c_35 => ?_) (fun c_35 => ?_)
  · skip
    refine lv_aload hx hb dX3_make_48 (lv_at hl 2 rfl) ?_
    refine lv_aload hx hb dX3_make_50 (lv_at hl 1 rfl) ?_
    refine lv_iload_n hx hb dX3_make_52 rfl (lv_at hl 6 rfl) ?_
    refine c_callVX hS (vx_runS (As := [.ref (g 7 p), .ref (g 4 d), .int (iI (z))]) (rest := []) ⟨hx, hb, hml, hown, hts⟩ (c_requireGrowthPossible l D cO dz mi hw hR hst p hn0_2 hn1_2 d hn0_9 hn1_9 z (by omega)) (va_cwS 3 hts gX3_make_X3_requireGrowthPossible rfl rfl rfl (by decide +kernel) ⟨Nat.le_of_ble_eq_true rfl, Nat.le_of_ble_eq_true rfl⟩) (c_preS hA hE hX hC hS) rfl rfl hl.1 rfl (lv_room (Nat.le_of_ble_eq_true rfl)) dX3_make_53 ⟨Nat.le_of_ble_eq_true rfl, Nat.le_of_ble_eq_true rfl⟩) hQ (fun E hx9 => by obtain ⟨rfl, hx9⟩ := hx9; exact spE_of (k := 3) (by unfold sp_make; rw [iteC_neg (by omega), iteC_neg (fun z => z ⟨by omega, by omega⟩)]; exact iteC_pos (Or.inr hx9)) (by decide)) hto hlk (by omega) (by omega) (fun w9 H locs hpost hC hS => ?_)
    obtain ⟨rfl, hcg⟩ := hpost
    refine c_new (C := RX2) (T := TX2) (N := 6) (ci := 3) hx hb hts hin_X2 tyX2 tyX2_ok hown (hts (.classLink RX3 68 RX2) (by decide +kernel)) (hts (.instantiable RX2 6) (by decide +kernel)) (hts (.initialized RX2) (by decide +kernel)) hA hE hC hS (by decide) (by decide) rfl [.null, .null, .int (iI 0), .int (iI 0), .int (iI 0), .int (iI 0)] df_3 (fun q => cn_3 _ q) (Nat.le_of_ble_eq_true rfl) (Nat.le_of_ble_eq_true rfl) dX3_make_56 (fun q9 H hq9 hC hS => ?_)
    have hR0 := hR
    have hR := hR0.keep (agree_mk hq9 3)
    refine lv_dup hx hb dX3_make_59 rfl ?_
    refine lv_aload hx hb dX3_make_60 (lv_at hl 2 rfl) ?_
    refine lv_iload_n hx hb dX3_make_62 rfl (lv_at hl 6 rfl) ?_
    refine lv_aload_n hx hb dX3_make_63 rfl (lv_at hl 3 rfl) ?_
    refine c_get (C := RX3) (T := TX3) (N := 4) hx hb hts hin_X3 hown hE hC hR.k0 (by decide) (by decide) rfl 3 (by decide) (hts (.fieldLink RX3 70 "HoldServer" "day" "I") (by decide +kernel)) rfl (v := .int (iI ((S.1 11 2)))) (congrArg (fun z => some (Value.int (iI z))) hR.day) dX3_make_64 ?_
    have hk9 : (wMk w q9 3).1 q9 = 3 := by rw [wMk_K, if_pos rfl]
    refine c_callV hS (va_runI (As := [.ref (g 7 p), .int (iI (z)), .int (iI ((S.1 11 2)))]) (rest := [.ref q9]) ⟨hx, hb, hml, hown, hts⟩ (c_fileInit l D cO dz mi (wMk w q9 3) q9 hk9 (g 7 p) z (S.1 11 2)) (cwI 3 hts gX3_make_X2_init rfl rfl rfl (hts (.initialized RX2) (by decide +kernel)) (hts (.methodLink RX3 73 yX2_init) (by decide +kernel)) (hts (.instanceMethod yX2_init) (by decide +kernel)) rfl (by decide +kernel) ⟨Nat.le_of_ble_eq_true rfl, Nat.le_of_ble_eq_true rfl⟩) (c_preS hA hE hX hC hS) rfl rfl hl.1 rfl (lv_room (Nat.le_of_ble_eq_true rfl)) dX3_make_67 ⟨Nat.le_of_ble_eq_true rfl, Nat.le_of_ble_eq_true rfl⟩) (fun w8 H locs hpost hC hS => ?_)
    obtain ⟨q2, hq2a, hpost⟩ := hpost
    have hqq : q2 ≠ q9 := fun e => by rw [e, hk9] at hq2a; omega
    have hq2 : w.1 q2 = 0 := by rw [wMk_K, if_neg hqq] at hq2a; exact hq2a
    have hnw := newFile_of w hqq (ow := g 7 p) z (S.1 11 2)
    rw [hpost] at hnw
    have hkq : w8.1 q9 = 3 := by rw [hnw.1, if_pos rfl]
    have hb9 := hkq
    have hk2 : w8.1 q2 = 5 := by rw [hnw.1, if_neg hqq, if_pos rfl]
    have hR := hR0.keep (hnw.agree0 hq9 hq2)
    refine lv_astore (lv' := [(7, .ref q9), (6, .int (iI ((S.1 11 1)))), (5, .ref (g 4 d)), (4, .ref (g 7 p)), (0, .ref (g 0 0)), (1, .int (iI (p))), (2, .int (iI (d))), (3, .int (iI (z)))]) hx hb dX3_make_70 hl (by decide) rfl (fun ls hl => ?_)
    refine lv_aload hx hb dX3_make_72 (lv_at hl 0 rfl) ?_
    refine c_get (C := RX2) (T := TX2) (N := 6) hx hb hts hin_X2 hown hE hC hkq (by decide) (by decide) rfl 1 (by decide) (hts (.fieldLink RX3 76 "HoldServer$StoredFile" "links" "Ljava/util/ArrayList;") (by decide +kernel)) rfl (v := .ref q2) (congrArg (fun z => some (va_rf z)) hnw.2.2.2.2.2.2.1) dX3_make_74 ?_
    refine lv_aload hx hb dX3_make_77 (lv_at hl 2 rfl) ?_
    refine c_callI hS (va_runV (As := [.ref (g 4 d)]) (rest := []) ⟨hx, hb, hml, hown, hts⟩ (L_add l D cO dz mi w8 q2 (g 4 d) hk2 (by rw [hR.k4 hn0_9 hn1_9]; decide) (by rw [hR.k4 hn0_9 hn1_9]; decide) (by rw [hnw.2.2.2.2.1]; decide)) (cwV 1 hts gX3_make_Jx4a65c_add_9ea2d rfl rfl rfl (by decide +kernel) ⟨Nat.le_of_ble_eq_true rfl, Nat.le_of_ble_eq_true rfl⟩) (c_preL hA hE hX hC hS hk2) rfl rfl hl.1 rfl (lv_room (Nat.le_of_ble_eq_true rfl)) dX3_make_79 ⟨Nat.le_of_ble_eq_true rfl, Nat.le_of_ble_eq_true rfl⟩) (fun r9 w9a H locs hpost hC hS => ?_)
    obtain ⟨rfl, rfl⟩ := hpost
    have hR := hR0.keep (hnw.agree hq9 hq2 (w8.2.2.2 q2 ++ [g 4 d]))
    have hlq : w8.2.2.2 q2 ++ [g 4 d] = [g 4 d] := by rw [hnw.2.2.2.2.1]; rfl
    rw [hlq] at hR hC
    refine lv_pop hx hb dX3_make_82 rfl ?_
    refine lv_aload hx hb dX3_make_83 (lv_at hl 2 rfl) ?_
    refine lv_iload_n hx hb dX3_make_85 rfl (lv_at hl 7 rfl) ?_
    refine c_callV hS (va_runV (As := [.int (iI (z))]) (rest := []) ⟨hx, hb, hml, hown, hts⟩ (c_addUsageK l D cO dz mi hR hw rfl hnf0 d hn0_9 hn1_9 z) (cwV 1 hts gX3_make_X1_addUsage rfl rfl rfl (by decide +kernel) ⟨Nat.le_of_ble_eq_true rfl, Nat.le_of_ble_eq_true rfl⟩) (c_preV hA hE hX hC hS (hR.k4 (by first | omega | assumption) (by first | omega | assumption)) (by decide) (by decide) rfl) rfl rfl hl.1 rfl (lv_room (Nat.le_of_ble_eq_true rfl)) dX3_make_86 ⟨Nat.le_of_ble_eq_true rfl, Nat.le_of_ble_eq_true rfl⟩) (fun w9 H locs hpost hC hS => ?_)
    obtain ⟨hR, hbt⟩ := hpost
    have hb11 : w9.1 q9 = 3 := by rw [hbt.1]; exact hb9
    refine lv_aload hx hb dX3_make_89 (lv_at hl 3 rfl) ?_
    refine c_get (C := RX0) (T := TX0) (N := 2) hx hb hts hin_X0 hown hE hC (hR.k7 (by first | omega | assumption) (by first | omega | assumption)) (by decide) (by decide) rfl 0 (by decide) (hts (.fieldLink RX3 83 "HoldServer$Department" "ownFiles" "Ljava/util/ArrayList;") (by decide +kernel)) rfl (v := .ref (g 8 p)) (congrArg (fun z => some (va_rf z)) (hR.p (q := p) (by first | omega | assumption) (by first | omega | assumption)).1) dX3_make_91 ?_
    refine lv_aload hx hb dX3_make_94 (lv_at hl 0 rfl) ?_
    refine c_callI hS (va_runV (As := [.ref q9]) (rest := []) ⟨hx, hb, hml, hown, hts⟩ (L_add l D cO dz mi w9 (g 8 p) q9 (hR.k8 hn0_2 hn1_2) (by rw [hb11]; decide) (by rw [hb11]; decide) (by have := ownN_len S p (S.1 11 1).toNat; rw [(hR.p hn0_2 hn1_2).2.2, List.length_map]; omega)) (cwV 1 hts gX3_make_Jx4a65c_add_9ea2d rfl rfl rfl (by decide +kernel) ⟨Nat.le_of_ble_eq_true rfl, Nat.le_of_ble_eq_true rfl⟩) (c_preL hA hE hX hC hS (hR.k8 hn0_2 hn1_2)) rfl rfl hl.1 rfl (lv_room (Nat.le_of_ble_eq_true rfl)) dX3_make_96 ⟨Nat.le_of_ble_eq_true rfl, Nat.le_of_ble_eq_true rfl⟩) (fun r9 w9a H locs hpost hC hS => ?_)
    obtain ⟨rfl, rfl⟩ := hpost
    refine lv_pop hx hb dX3_make_99 rfl ?_
    refine lv_aload_n hx hb dX3_make_100 rfl (lv_at hl 4 rfl) ?_
    refine c_get (C := RX3) (T := TX3) (N := 4) hx hb hts hin_X3 hown hE hC hR.k0 (by decide) (by decide) rfl 1 (by decide) (hts (.fieldLink RX3 16 "HoldServer" "files" "Ljava/util/ArrayList;") (by decide +kernel)) rfl (v := .ref (g 2 0)) (congrArg (fun z => some (va_rf z)) hR.fils) dX3_make_101 ?_
    refine lv_aload hx hb dX3_make_104 (lv_at hl 0 rfl) ?_
    refine c_callI hS (va_runV (As := [.ref q9]) (rest := []) ⟨hx, hb, hml, hown, hts⟩ (L_add l D cO dz mi (wL w9 (g 8 p) (w9.2.2.2 (g 8 p) ++ [q9])) (g 2 0) q9 hR.k2 (by show 1 ≤ w9.1 q9; rw [hb11]; decide) (by show w9.1 q9 ≤ 3; rw [hb11]; decide) (by rw [wL_L, if_neg (hR.ne (Or.inl ⟨by omega, rfl⟩) (Or.inr (Or.inr (Or.inr ⟨Or.inr rfl, hn0_2, hn1_2⟩))) (Or.inl (by omega))), hR.l2, List.length_map, intsC_len]; omega)) (cwV 1 hts gX3_make_Jx4a65c_add_9ea2d rfl rfl rfl (by decide +kernel) ⟨Nat.le_of_ble_eq_true rfl, Nat.le_of_ble_eq_true rfl⟩) (c_preL hA hE hX hC hS hR.k2) rfl rfl hl.1 rfl (lv_room (Nat.le_of_ble_eq_true rfl)) dX3_make_106 ⟨Nat.le_of_ble_eq_true rfl, Nat.le_of_ble_eq_true rfl⟩) (fun r9 w9a H locs hpost hC hS => ?_)
    obtain ⟨rfl, rfl⟩ := hpost
    refine lv_pop hx hb dX3_make_109 rfl ?_
    refine lv_iload hx hb dX3_make_110 (lv_at hl 1 rfl) ?_
    exact hret ((S.1 11 1)) ((wL (wL w9 (g 8 p) (w9.2.2.2 (g 8 p) ++ [q9])) (g 2 0) ((wL w9 (g 8 p) (w9.2.2.2 (g 8 p) ++ [q9])).2.2.2 (g 2 0) ++ [q9]))) _ _ _ _ _ _ dX3_make_112 rfl hC hS (by omega) (by omega) (spC_at (g := upG (upG g 5 (S.1 11 1) q9) 6 (S.1 11 1) q2) (T := upT (upT T q9 5 (S.1 11 1)) q2 6 (S.1 11 1)) (by unfold sp_make; rw [iteC_neg (by omega), iteC_neg (fun z => z ⟨by omega, by omega⟩), iteC_neg (fun z9 => z9.elim (by omega) (fun z8 => z8 hcg))]) (hR0.fileMade hw hn0_9 hn1_9 hn0_2 hn1_2 hq9 hq2 hqq hnw hbt hR) (by rw [upG_off (by omega), upG_off (by omega)]))
  · skip
    exact x_throw (cls := xISE) (text := _) (is := 62) (ic := 51) hx hb hst (by first | exact Or.inl ⟨rfl, rfl, rfl⟩ | exact Or.inr (Or.inl ⟨rfl, rfl, rfl⟩) | exact Or.inr (Or.inr ⟨rfl, rfl, rfl⟩)) hown hts (by decide +kernel) xs_62 hX hC hS hQ (hl.1.trans hml.symm) dX3_make_38 dX3_make_41 dX3_make_42 dX3_make_44 dX3_make_47 hto (Nat.le_of_ble_eq_true rfl) (Nat.le_of_ble_eq_true rfl) (Nat.le_of_ble_eq_true rfl) (Nat.le_of_ble_eq_true rfl) hlk (spE_of (k := 3) (by unfold sp_make; rw [iteC_neg (by omega), iteC_neg (fun z => z ⟨by omega, by omega⟩)]; exact iteC_pos (Or.inl (by omega))) (by decide)) (by omega) (by omega)
