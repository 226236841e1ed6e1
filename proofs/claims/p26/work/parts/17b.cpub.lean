set_option maxRecDepth 100000 in
set_option maxHeartbeats 4000000 in
theorem c_bitCount (l : Launch) (D : va_G) (cO : ClassId) (dz mi : Nat) {A : Nat → Prop} (w : CW) (h : Int) (h0 : 0 ≤ h) (h1 : h < 32) : cI l yJ6_bitCount_0f7a4 wsJ6_bitCount_0f7a4 { frames := 0, cells := 0, slots := 0, locals := 0 } D cO dz mi A [.int (iI h)] w (fun r w9 => w = w9 ∧ r = iI (hCnt h)) 0 0 := by
  refine cI_of (cc := cJ6_bitCount_0f7a4) (maxL := 1) (ty := .int) (by decide) rfl (Nat.le_of_ble_eq_true rfl) ?_
  intro pp ee ss mm args below meth cc Q hx hb hml hown hts hA hC hE hX hS hret ls hl
  have hl : lv_has ls 1 [(0, .int (iI h))] := hl
  refine lv_iload_n hx hb dJ6_bitCount_0f7a4_0 rfl (lv_at hl 0 rfl) ?_
  refine lv_iload_n hx hb dJ6_bitCount_0f7a4_1 rfl (lv_at hl 0 rfl) ?_
  refine lv_iconst (v := iI 1) hx hb dJ6_bitCount_0f7a4_2 rfl ?_
  refine lv_iushr (v := bcU (iI h) (iI 1)) hx hb dJ6_bitCount_0f7a4_3 rfl ?_
  refine lv_ldcw (v := iI 1431655765) hx hb hown (hts (.constant RJ6 265 (iI 1431655765)) (by decide +kernel)) dJ6_bitCount_0f7a4_4 ?_
  refine lv_iand hx hb dJ6_bitCount_0f7a4_7 ?_
  refine lv_isub hx hb dJ6_bitCount_0f7a4_8 ?_
  refine lv_istore_n (lv' := [(0, .int (bc1 (iI h)))]) hx hb dJ6_bitCount_0f7a4_9 rfl hl (by decide) rfl (fun ls hl => ?_)
  refine lv_iload_n hx hb dJ6_bitCount_0f7a4_10 rfl (lv_at hl 0 rfl) ?_
  refine lv_ldcw (v := iI 858993459) hx hb hown (hts (.constant RJ6 266 (iI 858993459)) (by decide +kernel)) dJ6_bitCount_0f7a4_11 ?_
  refine lv_iand hx hb dJ6_bitCount_0f7a4_14 ?_
  refine lv_iload_n hx hb dJ6_bitCount_0f7a4_15 rfl (lv_at hl 0 rfl) ?_
  refine lv_iconst (v := iI 2) hx hb dJ6_bitCount_0f7a4_16 rfl ?_
  refine lv_iushr (v := bcU (bc1 (iI h)) (iI 2)) hx hb dJ6_bitCount_0f7a4_17 rfl ?_
  refine lv_ldcw (v := iI 858993459) hx hb hown (hts (.constant RJ6 266 (iI 858993459)) (by decide +kernel)) dJ6_bitCount_0f7a4_18 ?_
  refine lv_iand hx hb dJ6_bitCount_0f7a4_21 ?_
  refine lv_iadd hx hb dJ6_bitCount_0f7a4_22 ?_
  refine lv_istore_n (lv' := [(0, .int (bc2 (bc1 (iI h))))]) hx hb dJ6_bitCount_0f7a4_23 rfl hl (by decide) rfl (fun ls hl => ?_)
  refine lv_iload_n hx hb dJ6_bitCount_0f7a4_24 rfl (lv_at hl 0 rfl) ?_
  refine lv_iload_n hx hb dJ6_bitCount_0f7a4_25 rfl (lv_at hl 0 rfl) ?_
  refine lv_iconst (v := iI 4) hx hb dJ6_bitCount_0f7a4_26 rfl ?_
  refine lv_iushr (v := bcU (bc2 (bc1 (iI h))) (iI 4)) hx hb dJ6_bitCount_0f7a4_27 rfl ?_
  refine lv_iadd hx hb dJ6_bitCount_0f7a4_28 ?_
  refine lv_ldcw (v := iI 252645135) hx hb hown (hts (.constant RJ6 267 (iI 252645135)) (by decide +kernel)) dJ6_bitCount_0f7a4_29 ?_
  refine lv_iand hx hb dJ6_bitCount_0f7a4_32 ?_
  refine lv_istore_n (lv' := [(0, .int (bc3 (bc2 (bc1 (iI h)))))]) hx hb dJ6_bitCount_0f7a4_33 rfl hl (by decide) rfl (fun ls hl => ?_)
  refine lv_iload_n hx hb dJ6_bitCount_0f7a4_34 rfl (lv_at hl 0 rfl) ?_
  refine lv_iload_n hx hb dJ6_bitCount_0f7a4_35 rfl (lv_at hl 0 rfl) ?_
  refine lv_bipush (v := iI 8) hx hb dJ6_bitCount_0f7a4_36 (by decide) ?_
  refine lv_iushr (v := bcU (bc3 (bc2 (bc1 (iI h)))) (iI 8)) hx hb dJ6_bitCount_0f7a4_38 rfl ?_
  refine lv_iadd hx hb dJ6_bitCount_0f7a4_39 ?_
  refine lv_istore_n (lv' := [(0, .int (bc4 (bc3 (bc2 (bc1 (iI h))))))]) hx hb dJ6_bitCount_0f7a4_40 rfl hl (by decide) rfl (fun ls hl => ?_)
  refine lv_iload_n hx hb dJ6_bitCount_0f7a4_41 rfl (lv_at hl 0 rfl) ?_
  refine lv_iload_n hx hb dJ6_bitCount_0f7a4_42 rfl (lv_at hl 0 rfl) ?_
  refine lv_bipush (v := iI 16) hx hb dJ6_bitCount_0f7a4_43 (by decide) ?_
  refine lv_iushr (v := bcU (bc4 (bc3 (bc2 (bc1 (iI h))))) (iI 16)) hx hb dJ6_bitCount_0f7a4_45 rfl ?_
  refine lv_iadd hx hb dJ6_bitCount_0f7a4_46 ?_
  refine lv_istore_n (lv' := [(0, .int (bc5 (bc4 (bc3 (bc2 (bc1 (iI h)))))))]) hx hb dJ6_bitCount_0f7a4_47 rfl hl (by decide) rfl (fun ls hl => ?_)
  refine lv_iload_n hx hb dJ6_bitCount_0f7a4_48 rfl (lv_at hl 0 rfl) ?_
  refine lv_bipush (v := iI 63) hx hb dJ6_bitCount_0f7a4_49 (by decide) ?_
  refine lv_iand hx hb dJ6_bitCount_0f7a4_51 ?_
  refine h_top hx (y := iI (hCnt h)) (bc_all2 h0 h1) ?_
  exact hret (hCnt h) w _ _ _ _ _ _ dJ6_bitCount_0f7a4_52 rfl hC hS (by omega) (by omega) ⟨rfl, rfl⟩

set_option maxRecDepth 100000 in
set_option maxHeartbeats 4000000 in
theorem c_addUsageK (l : Launch) (D : va_G) (cO : ClassId) (dz mi : Nat) {A : Nat → Prop} {S : HdS} {w : CW} {g : Nat → Int → Nat} {T : Nat → Nat × Int} {U : Int → Int} (hR : RelC S w g T U) {S0 : HdS} {n : Int} (hw : wf S0 n) (hS1 : S.1 = S0.1) (hnf0 : 0 ≤ S.1 11 1) (d : Int) (h0 : 0 ≤ d) (h1 : d < S.1 11 0) (z : Int) : cV l yX1_addUsage wsX1_addUsage { frames := 0, cells := 0, slots := 0, locals := 0 } D cO dz mi A [.ref (g 4 d), .int (iI (z))] w (fun w9 => RelC S w9 g T (addU S0 U d z) ∧ but23 w w9) 0 0 := by
  refine cV_of (cc := cX1_addUsage) (maxL := 3)  (by decide) rfl (Nat.le_of_ble_eq_true rfl) ?_
  intro pp ee ss mm args below meth cc Q hx hb hml hown hts hA hC hE hX hS hini hret ls hl
  have hl : lv_has ls 3 [(0, .ref (g 4 d)), (1, .int (iI (z)))] := hl
  have hin_X1 : ∀ w ∈ wsX10, w ∈ wsX1_addUsage := by decide +kernel
  refine lv_aload_n hx hb dX1_addUsage_0 rfl (lv_at hl 0 rfl) ?_
  refine lv_astore_n (lv' := [(2, .ref (g 4 d)), (0, .ref (g 4 d)), (1, .int (iI (z)))]) hx hb dX1_addUsage_1 rfl hl (by decide) rfl (fun ls hl => ?_)
  have lp2 : ∀ (n9 : Nat) (x : Int) (U2 : Int → Int), x + 1 < (n9 : Int) → (-1 ≤ x) → (x < S.1 11 0) → (addU S0 U2 x z = addU S0 U d z) → ∀ (w2 : CW) (H : Heap) (locs : List Loc), (RelC S w2 g T U2) → (but23 w w2) → cH D cO dz A w2 H → va_S A ss.heap H locs → ∀ (ls : Array Slot), lv_has ls 3 [(0, .ref (g 4 d)), (1, .int (iI (z))), (2, va_rf (opA g x))] → W pp l ee { frames := 0, cells := 0, slots := 0, locals := 0 } ss mm args below meth cc H locs 0 0 Q (F0 mm 2 ls []) := by
    intro n9
    induction n9 with
    | zero => intro x U2 hms hx0 hx1 hx2 w2 H locs hR hBt hC hS ls hl; exfalso; omega
    | succ n9 ih9 =>
      intro x U2 hms hx0 hx1 hx2 w2 H locs hR hBt hC hS ls hl
      refine qr_aload_n hx hb dX1_addUsage_2 rfl (lv_at hl 2 rfl) ?_
      refine qr_ifnull (r := opA g x) (tgt := 24) hx hb dX1_addUsage_3 (by decide) (fun c_3 => ?_) (fun c_3 => ?_)
      · skip
        have c_3 := opA_nil c_3
        exact hret (w2) _ _ _ _ _ _ dX1_addUsage_24 hC hS (by omega) (by omega) ⟨(by rw [← hx2, c_3, addU_neg]; exact hR), hBt⟩
      · skip
        have c_3 := opA_not c_3
        have hl : lv_has ls 3 [(0, .ref (g 4 d)), (1, .int (iI (z))), (2, .ref (g 4 x))] := by rw [opA_is c_3] at hl; exact hl
        refine lv_aload_n hx hb dX1_addUsage_6 rfl (lv_at hl 2 rfl) ?_
        refine lv_dup hx hb dX1_addUsage_7 rfl ?_
        refine c_get (C := RX1) (T := TX1) (N := 4) hx hb hts hin_X1 hown hE hC (hR.k4 (by first | omega | assumption) (by first | omega | assumption)) (by decide) (by decide) rfl 3 (by decide) (hts (.fieldLink RX1 22 "HoldServer$Directory" "usage" "I") (by decide +kernel)) rfl (v := .int (iI ((U2 x)))) (congrArg (fun z => some (Value.int (iI z))) (hR.d (d := x) (by first | omega | assumption) (by first | omega | assumption)).2.2.2) dX1_addUsage_8 ?_
        refine lv_iload_n hx hb dX1_addUsage_11 rfl (lv_at hl 1 rfl) ?_
        refine h_iadd hx hb dX1_addUsage_12 ?_
        refine c_putI (C := RX1) (T := TX1) (N := 4) hx hb hts hin_X1 tyX1 tyX1_ok nmX1 hown hE hC hS (hR.k4 (by first | omega | assumption) (by first | omega | assumption)) (by decide) (by decide) rfl 3 (by decide) (hts (.fieldLink RX1 22 "HoldServer$Directory" "usage" "I") (by decide +kernel)) rfl rfl (by decide +kernel) (z := ((U2 x) + z)) 23 (Nat.le_of_ble_eq_true rfl) (cs_23 _ _ _) dX1_addUsage_13 (fun H locs hC hS => ?_)
        have hR := hR.use hnf0 (d := x) (v := ((U2 x) + z)) (by first | omega | assumption) (by first | omega | assumption)
        refine lv_aload_n hx hb dX1_addUsage_16 rfl (lv_at hl 2 rfl) ?_
        refine c_get (C := RX1) (T := TX1) (N := 4) hx hb hts hin_X1 hown hE hC (hR.k4 (by first | omega | assumption) (by first | omega | assumption)) (by decide) (by decide) rfl 1 (by decide) (hts (.fieldLink RX1 15 "HoldServer$Directory" "parent" "LHoldServer$Directory;") (by decide +kernel)) rfl (v := va_rf (opA g (S.1 0 x))) (congrArg (fun z => some (va_rf z)) (hR.d (d := x) (by first | omega | assumption) (by first | omega | assumption)).2.1) dX1_addUsage_17 ?_
        refine qr_astore_n (lv' := [(2, va_rf (opA g (S.1 0 x))), (0, .ref (g 4 d)), (1, .int (iI (z)))]) hx hb dX1_addUsage_20 rfl hl (by decide) rfl (fun ls hl => ?_)
        refine lv_goto (tgt := 2) hx hb dX1_addUsage_21 (by decide) ?_
        have hx3 : -1 ≤ S.1 0 x ∧ S.1 0 x < x := by rw [hS1]; exact hw.par' (by omega) (by rw [← hS1]; exact hx1)
        exact ih9 (S.1 0 x) _ (by omega) hx3.1 (by omega) (by rw [← hx2, hS1]; exact addU_step hw U2 (by omega) (by rw [← hS1]; exact hx1)) _ H locs hR (hBt.put _ _) hC hS ls (lv_sub hl [1, 2, 0] rfl)
  exact lp2 (d + 2).toNat d U (by omega) (by omega) h1 rfl _ _ _ hR (but23.rf w) hC hS ls (by rw [opA_is (by omega)]; exact (lv_sub hl [1, 2, 0] rfl))

set_option maxRecDepth 100000 in
set_option maxHeartbeats 4000000 in
theorem c_hold (l : Launch) (D : va_G) (cO : ClassId) (dz mi : Nat) {A : Nat → Prop} {S : HdS} {w : CW} {g : Nat → Int → Nat} {T : Nat → Nat × Int} {n : Int} (hw : wf S n) (hR : RelC S w g T (usg S)) (hst : l.stackTraces = false) (m f : Int) (rm : inQ m) (rf : inQ f) : cIX l yX3_hold wsX3_hold { frames := 7, cells := 3, slots := 18, locals := 111 } D cO dz mi A [.ref (g 0 0), .int (iI (m)), .int (iI (f))] w (fun r w9 => spC (g 0 0) (sp_hold S m f) r w9) (spE tb2 (sp_hold S m f)) 3 18 := by
  refine cIX_of (cc := cX3_hold) (maxL := 5) (ty := .int) (by decide) rfl (Nat.le_of_ble_eq_true rfl) ?_
  intro pp ee ss mm args below meth cc Q hx hb hml hown hts hA hC hE hX hS hto hlk hQ hret ls hl
  have hl : lv_has ls 5 [(0, .ref (g 0 0)), (1, .int (iI (m))), (2, .int (iI (f)))] := hl
  have hin_X3 : ∀ w ∈ wsX30, w ∈ wsX3_hold := by decide +kernel
  have hin_X2 : ∀ w ∈ wsX20, w ∈ wsX3_hold := by decide +kernel
  have hnd := hw.nd
  have hnf := hw.nf
  have hdy := hw.day
  have hnf0 := hnf.1
  refine lv_iload_n hx hb dX3_hold_0 rfl (lv_at hl 1 rfl) ?_
  refine c_callIX hS (vx_runS (As := [.int (iI (m))]) (rest := []) ⟨hx, hb, hml, hown, hts⟩ (c_bitOfMatter l D cO dz mi w hst m (by omega)) (va_cwS 1 hts gX3_hold_X3_bitOfMatter rfl rfl rfl (by decide +kernel) ⟨Nat.le_of_ble_eq_true rfl, Nat.le_of_ble_eq_true rfl⟩) (c_preS hA hE hX hC hS) rfl rfl hl.1 rfl (lv_room (Nat.le_of_ble_eq_true rfl)) dX3_hold_1 ⟨Nat.le_of_ble_eq_true rfl, Nat.le_of_ble_eq_true rfl⟩) hQ (fun E hx9 => by obtain ⟨rfl, hx9⟩ := hx9; exact spE_of (k := 1) (by unfold sp_hold; exact iteC_pos (Or.inl hx9)) (by decide)) hto hlk (by omega) (by omega) (fun r9 w9 H locs hpost hC hS => ?_)
  obtain ⟨rfl, hm0, hm1, rfl⟩ := hpost
  refine lv_istore_n (lv' := [(3, .int (iI (2 ^ m.toNat))), (0, .ref (g 0 0)), (1, .int (iI (m))), (2, .int (iI (f)))]) hx hb dX3_hold_4 rfl hl (by decide) rfl (fun ls hl => ?_)
  refine lv_aload_n hx hb dX3_hold_5 rfl (lv_at hl 1 rfl) ?_
  refine lv_iload_n hx hb dX3_hold_6 rfl (lv_at hl 3 rfl) ?_
  refine c_callQX hS (vx_runV (As := [.int (iI (f))]) (rest := []) ⟨hx, hb, hml, hown, hts⟩ (c_filNumbered l D cO dz mi hw hR hst f (by omega)) (cwV 1 hts gX3_hold_X3_fileNumbered rfl rfl rfl (by decide +kernel) ⟨Nat.le_of_ble_eq_true rfl, Nat.le_of_ble_eq_true rfl⟩) (c_preV hA hE hX hC hS hR.k0 (by decide) (by decide) rfl) rfl rfl hl.1 rfl (lv_room (Nat.le_of_ble_eq_true rfl)) dX3_hold_7 ⟨Nat.le_of_ble_eq_true rfl, Nat.le_of_ble_eq_true rfl⟩) hQ (fun E hx9 => by obtain ⟨rfl, hx9⟩ := hx9; exact spE_of (k := 1) (by unfold sp_hold; exact iteC_pos (Or.inr hx9)) (by decide)) hto hlk (by omega) (by omega) (fun r9 w9 H locs hpost hC hS => ?_)
  obtain ⟨rfl, rfl, hn0_7, hn1_7⟩ := hpost
  refine lv_astore (lv' := [(4, .ref (g 5 f)), (3, .int (iI (2 ^ m.toNat))), (0, .ref (g 0 0)), (1, .int (iI (m))), (2, .int (iI (f)))]) hx hb dX3_hold_10 hl (by decide) rfl (fun ls hl => ?_)
  refine lv_aload hx hb dX3_hold_12 (lv_at hl 0 rfl) ?_
  refine c_callVX hS (vx_runS (As := [.ref (g 5 f)]) (rest := []) ⟨hx, hb, hml, hown, hts⟩ (c_requireNotGone l D cO dz mi hw hR hst f (by omega) (by omega)) (va_cwS 1 hts gX3_hold_X3_requireNotGone rfl rfl rfl (by decide +kernel) ⟨Nat.le_of_ble_eq_true rfl, Nat.le_of_ble_eq_true rfl⟩) (c_preS hA hE hX hC hS) rfl rfl hl.1 rfl (lv_room (Nat.le_of_ble_eq_true rfl)) dX3_hold_14 ⟨Nat.le_of_ble_eq_true rfl, Nat.le_of_ble_eq_true rfl⟩) hQ (fun E hx9 => by obtain ⟨rfl, hx9⟩ := hx9; exact spE_of (k := 2) (by unfold sp_hold; rw [iteC_neg (by omega)]; exact iteC_pos hx9) (by decide)) hto hlk (by omega) (by omega) (fun w9 H locs hpost hC hS => ?_)
  obtain ⟨rfl, hne⟩ := hpost
  have hho := hw.hol hn0_7 hn1_7
  have hbo := bit_or2 (h := S.1 7 f) (m := m) hho.1 hho.2 hm0 hm1
  refine lv_aload hx hb dX3_hold_17 (lv_at hl 0 rfl) ?_
  refine lv_dup hx hb dX3_hold_19 rfl ?_
  refine c_get (C := RX2) (T := TX2) (N := 6) hx hb hts hin_X2 hown hE hC (hR.k5 (by first | omega | assumption) (by first | omega | assumption)) (by decide) (by decide) rfl 3 (by decide) (hts (.fieldLink RX3 141 "HoldServer$StoredFile" "holders" "I") (by decide +kernel)) rfl (v := .int (iI ((S.1 7 f)))) (congrArg (fun z => some (Value.int (iI z))) (hR.f (f := f) (by first | omega | assumption) (by first | omega | assumption)).2.2.2.2.1) dX3_hold_20 ?_
  refine lv_iload_n hx hb dX3_hold_23 rfl (lv_at hl 1 rfl) ?_
  refine lv_ior hx hb dX3_hold_24 ?_
  refine h_top hx hbo.1 ?_
  refine c_putI (C := RX2) (T := TX2) (N := 6) hx hb hts hin_X2 tyX2 tyX2_ok nmX2 hown hE hC hS (hR.k5 (by first | omega | assumption) (by first | omega | assumption)) (by decide) (by decide) rfl 3 (by decide) (hts (.fieldLink RX3 141 "HoldServer$StoredFile" "holders" "I") (by decide +kernel)) rfl rfl (by decide +kernel) (z := (hOr (S.1 7 f) m)) 33 (Nat.le_of_ble_eq_true rfl) (cs_33 _ _ _) dX3_hold_25 (fun H locs hC hS => ?_)
  have hR := hR.hol hnf0 (f := f) (v := (hOr (S.1 7 f) m)) (by first | omega | assumption) (by first | omega | assumption)
  refine lv_aload hx hb dX3_hold_28 (lv_at hl 0 rfl) ?_
  refine c_get (C := RX2) (T := TX2) (N := 6) hx hb hts hin_X2 hown hE hC (hR.k5 (by first | omega | assumption) (by first | omega | assumption)) (by decide) (by decide) rfl 3 (by decide) (hts (.fieldLink RX3 141 "HoldServer$StoredFile" "holders" "I") (by decide +kernel)) rfl (v := .int (iI ((hOr (S.1 7 f) m)))) (congrArg (fun z => some (Value.int (iI z))) ((hR.f (f := f) (by first | omega | assumption) (by first | omega | assumption)).2.2.2.2.1.trans (sset_at _ _ _ _))) dX3_hold_30 ?_
  refine c_callI hS (va_runS (As := [.int (iI ((hOr (S.1 7 f) m)))]) (rest := []) ⟨hx, hb, hml, hown, hts⟩ (c_bitCount l D cO dz mi (wF w 33 (g 5 f) (hOr (S.1 7 f) m)) (hOr (S.1 7 f) m) (by omega) (by omega)) (va_cwS 1 hts gX3_hold_J6_bitCount_0f7a4 rfl rfl rfl (by decide +kernel) ⟨Nat.le_of_ble_eq_true rfl, Nat.le_of_ble_eq_true rfl⟩) (c_preS hA hE hX hC hS) rfl rfl hl.1 rfl (lv_room (Nat.le_of_ble_eq_true rfl)) dX3_hold_33 ⟨Nat.le_of_ble_eq_true rfl, Nat.le_of_ble_eq_true rfl⟩) (fun r9 w9 H locs hpost hC hS => ?_)
  obtain ⟨rfl, rfl⟩ := hpost
  exact hret ((hCnt (hOr (S.1 7 f) m))) ((wF w 33 (g 5 f) (hOr (S.1 7 f) m))) _ _ _ _ _ _ dX3_hold_36 rfl hC hS (by omega) (by omega) (spC_of (g := g) (T := T) (by unfold sp_hold; rw [iteC_neg (by omega), iteC_neg hne]) (hR.usgEq (usg_off (by omega) (by omega) (by omega)).symm))

set_option maxRecDepth 100000 in
set_option maxHeartbeats 4000000 in
theorem c_removeLink (l : Launch) (D : va_G) (cO : ClassId) (dz mi : Nat) {A : Nat → Prop} {S : HdS} {w : CW} {g : Nat → Int → Nat} {T : Nat → Nat × Int} {U : Int → Int} (hR : RelC S w g T U) (f : Int) (h0 : 0 ≤ f) (h1 : f < S.1 11 1) (hnf0 : 0 ≤ S.1 11 1) (hln : (S.2 f).length ≤ 12) (hlk0 : ∀ d ∈ S.2 f, 0 ≤ d ∧ d < S.1 11 0) (hnod : (S.2 f).Nodup) (d : Int) (d0 : 0 ≤ d) (d1 : d < S.1 11 0) : cI l yX2_removeLinkTo wsX2_removeLinkTo { frames := 4, cells := 0, slots := 0, locals := 106 } D cO dz mi A [.ref (g 5 f), .ref (g 4 d)] w (fun r w9 => (d ∉ S.2 f ∧ w = w9 ∧ r = iI 0) ∨ (d ∈ S.2 f ∧ r = iI 1 ∧ RelC (slks S f ((S.2 f).erase d)) w9 g T U)) 0 0 := by
  refine cI_of (cc := cX2_removeLinkTo) (maxL := 3) (ty := .boolean) (by decide) rfl (Nat.le_of_ble_eq_true rfl) ?_
  intro pp ee ss mm args below meth cc Q hx hb hml hown hts hA hC hE hX hS hret ls hl
  have hl : lv_has ls 3 [(0, .ref (g 5 f)), (1, .ref (g 4 d))] := hl
  have hin_X2 : ∀ w ∈ wsX20, w ∈ wsX2_removeLinkTo := by decide +kernel
  refine lv_aload_n hx hb dX2_removeLinkTo_0 rfl (lv_at hl 0 rfl) ?_
  refine lv_aload_n hx hb dX2_removeLinkTo_1 rfl (lv_at hl 1 rfl) ?_
  refine c_callI hS (va_runV (As := [.ref (g 4 d)]) (rest := []) ⟨hx, hb, hml, hown, hts⟩ (c_placeOf l D cO dz mi hR f (by omega) (by omega) (by omega) hlk0 d (by omega) (by omega)) (cwV 1 hts gX2_removeLinkTo_X2_placeOfLinkTo rfl rfl rfl (by decide +kernel) ⟨Nat.le_of_ble_eq_true rfl, Nat.le_of_ble_eq_true rfl⟩) (c_preV hA hE hX hC hS (hR.k5 (by first | omega | assumption) (by first | omega | assumption)) (by decide) (by decide) rfl) rfl rfl hl.1 rfl (lv_room (Nat.le_of_ble_eq_true rfl)) dX2_removeLinkTo_2 ⟨Nat.le_of_ble_eq_true rfl, Nat.le_of_ble_eq_true rfl⟩) (fun r9 w9 H locs hpost hC hS => ?_)
  obtain ⟨rfl, ⟨hnm, rfl⟩ | ⟨a9, ha9, hg9, rfl⟩⟩ := hpost
  · skip
    refine lv_istore_n (lv' := [(2, .int (iI (-1))), (0, .ref (g 5 f)), (1, .ref (g 4 d))]) hx hb dX2_removeLinkTo_5 rfl hl (by decide) rfl (fun ls hl => ?_)
    refine lv_iload_n hx hb dX2_removeLinkTo_6 rfl (lv_at hl 0 rfl) ?_
    refine h_if_lt (tgt := 21) hx hb (by omega) dX2_removeLinkTo_7 (by decide) (fun c_7 => ?_) (fun c_7 => by exfalso; omega)
    refine lv_iconst (v := iI 0) hx hb dX2_removeLinkTo_21 rfl ?_
    exact hret (0) (w) _ _ _ _ _ _ dX2_removeLinkTo_22 (by decide) hC hS (by omega) (by omega) (Or.inl ⟨hnm, rfl, rfl⟩)
  · skip
    have hmm := getD_mem (x := (a9 : Int)) (by omega) (by omega) hg9
    refine lv_istore_n (lv' := [(2, .int (iI ((a9 : Int)))), (0, .ref (g 5 f)), (1, .ref (g 4 d))]) hx hb dX2_removeLinkTo_5 rfl hl (by decide) rfl (fun ls hl => ?_)
    refine lv_iload_n hx hb dX2_removeLinkTo_6 rfl (lv_at hl 0 rfl) ?_
    refine h_if_lt (tgt := 21) hx hb (by omega) dX2_removeLinkTo_7 (by decide) (fun c_7 => by exfalso; omega) (fun c_7 => ?_)
    refine lv_iload_n hx hb dX2_removeLinkTo_10 rfl (lv_at hl 0 rfl) ?_
    refine lv_aload_n hx hb dX2_removeLinkTo_11 rfl (lv_at hl 1 rfl) ?_
    refine c_get (C := RX2) (T := TX2) (N := 6) hx hb hts hin_X2 hown hE hC (hR.k5 (by first | omega | assumption) (by first | omega | assumption)) (by decide) (by decide) rfl 1 (by decide) (hts (.fieldLink RX2 12 "HoldServer$StoredFile" "links" "Ljava/util/ArrayList;") (by decide +kernel)) rfl (v := .ref (g 6 f)) (congrArg (fun z => some (va_rf z)) (hR.f (f := f) (by first | omega | assumption) (by first | omega | assumption)).2.1) dX2_removeLinkTo_12 ?_
    refine c_callI hS (va_runV (As := []) (rest := [.int (iI ((a9 : Int)))]) ⟨hx, hb, hml, hown, hts⟩ (R_size6 l D cO dz mi hR (f := f) h0 h1) (cwV 0 hts gX2_removeLinkTo_Jx4a65c_size_8abf5 rfl rfl rfl (by decide +kernel) ⟨Nat.le_of_ble_eq_true rfl, Nat.le_of_ble_eq_true rfl⟩) (c_preL hA hE hX hC hS (hR.k6 (by first | omega | assumption) (by first | omega | assumption))) rfl rfl hl.1 rfl (lv_room (Nat.le_of_ble_eq_true rfl)) dX2_removeLinkTo_15 ⟨Nat.le_of_ble_eq_true rfl, Nat.le_of_ble_eq_true rfl⟩) (fun r9 w9 H locs hpost hC hS => ?_)
    obtain ⟨rfl, rfl⟩ := hpost
    refine h_icmp_lt (tgt := 23) hx hb (by omega) (by omega) dX2_removeLinkTo_18 (by decide) (fun c_18 => ?_) (fun c_18 => by exfalso; omega)
    refine lv_aload_n hx hb dX2_removeLinkTo_23 rfl (lv_at hl 1 rfl) ?_
    refine c_get (C := RX2) (T := TX2) (N := 6) hx hb hts hin_X2 hown hE hC (hR.k5 (by first | omega | assumption) (by first | omega | assumption)) (by decide) (by decide) rfl 1 (by decide) (hts (.fieldLink RX2 12 "HoldServer$StoredFile" "links" "Ljava/util/ArrayList;") (by decide +kernel)) rfl (v := .ref (g 6 f)) (congrArg (fun z => some (va_rf z)) (hR.f (f := f) (by first | omega | assumption) (by first | omega | assumption)).2.1) dX2_removeLinkTo_24 ?_
    refine lv_iload_n hx hb dX2_removeLinkTo_27 rfl (lv_at hl 0 rfl) ?_
    refine c_callQ hS (va_runV (As := [.int (iI ((a9 : Int)))]) (rest := []) ⟨hx, hb, hml, hown, hts⟩ (R_rem6 l D cO dz mi hR (f := f) h0 h1 (by omega) a9 ha9) (cwV 1 hts gX2_removeLinkTo_Jx4a65c_remove_915e3 rfl rfl rfl (by decide +kernel) ⟨Nat.le_of_ble_eq_true rfl, Nat.le_of_ble_eq_true rfl⟩) (c_preL hA hE hX hC hS (hR.k6 (by first | omega | assumption) (by first | omega | assumption))) rfl rfl hl.1 rfl (lv_room (Nat.le_of_ble_eq_true rfl)) dX2_removeLinkTo_28 ⟨Nat.le_of_ble_eq_true rfl, Nat.le_of_ble_eq_true rfl⟩) (fun r9 w9 H locs hpost hC hS => ?_)
    obtain ⟨rfl, rfl⟩ := hpost
    have hR := hR.lks (f := f) (ls := (S.2 f).eraseIdx a9) hnf0 h0 h1 (List.ne_nil_of_mem hmm)
    rw [← erase_at hnod ha9 hg9] at hR hC
    refine lv_pop hx hb dX2_removeLinkTo_31 rfl ?_
    refine lv_iconst (v := iI 1) hx hb dX2_removeLinkTo_32 rfl ?_
    exact hret (1) ((wL w (g 6 f) (((S.2 f).erase d).map (g 4)))) _ _ _ _ _ _ dX2_removeLinkTo_33 (by decide) hC hS (by omega) (by omega) (Or.inr ⟨hmm, rfl, hR⟩)

set_option maxRecDepth 100000 in
set_option maxHeartbeats 4000000 in
theorem c_unlink (l : Launch) (D : va_G) (cO : ClassId) (dz mi : Nat) {A : Nat → Prop} {S : HdS} {w : CW} {g : Nat → Int → Nat} {T : Nat → Nat × Int} {n : Int} (hw : wf S n) (hR : RelC S w g T (usg S)) (hst : l.stackTraces = false) (f d : Int) (rf : inQ f) (rd : inQ d) : cIX l yX3_unlink wsX3_unlink { frames := 7, cells := 3, slots := 18, locals := 128 } D cO dz mi A [.ref (g 0 0), .int (iI (f)), .int (iI (d))] w (fun r w9 => spC (g 0 0) (sp_unlink S f d) r w9) (spE tb2 (sp_unlink S f d)) 3 18 := by
  refine cIX_of (cc := cX3_unlink) (maxL := 7) (ty := .int) (by decide) rfl (Nat.le_of_ble_eq_true rfl) ?_
  intro pp ee ss mm args below meth cc Q hx hb hml hown hts hA hC hE hX hS hto hlk hQ hret ls hl
  have hl : lv_has ls 7 [(0, .ref (g 0 0)), (1, .int (iI (f))), (2, .int (iI (d)))] := hl
  have hin_X2 : ∀ w ∈ wsX20, w ∈ wsX3_unlink := by decide +kernel
  have hnd := hw.nd
  have hnf := hw.nf
  have hdy := hw.day
  have hnf0 := hnf.1
  refine lv_aload_n hx hb dX3_unlink_0 rfl (lv_at hl 0 rfl) ?_
  refine lv_iload_n hx hb dX3_unlink_1 rfl (lv_at hl 1 rfl) ?_
  refine c_callQX hS (vx_runV (As := [.int (iI (f))]) (rest := []) ⟨hx, hb, hml, hown, hts⟩ (c_filNumbered l D cO dz mi hw hR hst f (by omega)) (cwV 1 hts gX3_unlink_X3_fileNumbered rfl rfl rfl (by decide +kernel) ⟨Nat.le_of_ble_eq_true rfl, Nat.le_of_ble_eq_true rfl⟩) (c_preV hA hE hX hC hS hR.k0 (by decide) (by decide) rfl) rfl rfl hl.1 rfl (lv_room (Nat.le_of_ble_eq_true rfl)) dX3_unlink_2 ⟨Nat.le_of_ble_eq_true rfl, Nat.le_of_ble_eq_true rfl⟩) hQ (fun E hx9 => by obtain ⟨rfl, hx9⟩ := hx9; exact spE_of (k := 1) (by unfold sp_unlink; exact iteC_pos (Or.inl hx9)) (by decide)) hto hlk (by omega) (by omega) (fun r9 w9 H locs hpost hC hS => ?_)
  obtain ⟨rfl, rfl, hn0_2, hn1_2⟩ := hpost
  refine lv_astore_n (lv' := [(3, .ref (g 5 f)), (0, .ref (g 0 0)), (1, .int (iI (f))), (2, .int (iI (d)))]) hx hb dX3_unlink_5 rfl hl (by decide) rfl (fun ls hl => ?_)
  refine lv_aload_n hx hb dX3_unlink_6 rfl (lv_at hl 1 rfl) ?_
  refine lv_iload_n hx hb dX3_unlink_7 rfl (lv_at hl 3 rfl) ?_
  refine c_callQX hS (vx_runV (As := [.int (iI (d))]) (rest := []) ⟨hx, hb, hml, hown, hts⟩ (c_dirNumbered l D cO dz mi hw hR hst d (by omega)) (cwV 1 hts gX3_unlink_X3_directoryNumbered rfl rfl rfl (by decide +kernel) ⟨Nat.le_of_ble_eq_true rfl, Nat.le_of_ble_eq_true rfl⟩) (c_preV hA hE hX hC hS hR.k0 (by decide) (by decide) rfl) rfl rfl hl.1 rfl (lv_room (Nat.le_of_ble_eq_true rfl)) dX3_unlink_8 ⟨Nat.le_of_ble_eq_true rfl, Nat.le_of_ble_eq_true rfl⟩) hQ (fun E hx9 => by obtain ⟨rfl, hx9⟩ := hx9; exact spE_of (k := 1) (by unfold sp_unlink; exact iteC_pos (Or.inr hx9)) (by decide)) hto hlk (by omega) (by omega) (fun r9 w9 H locs hpost hC hS => ?_)
  obtain ⟨rfl, rfl, hn0_8, hn1_8⟩ := hpost
  have h0 := hn0_2
  have h1 := hn1_2
  have d0 := hn0_8
  have d1 := hn1_8
  have hln := hw.len h0 h1
  have hlks := hw.lks h0 h1
  have hol := hw.hol h0 h1
  refine lv_astore (lv' := [(4, .ref (g 4 d)), (3, .ref (g 5 f)), (0, .ref (g 0 0)), (1, .int (iI (f))), (2, .int (iI (d)))]) hx hb dX3_unlink_11 hl (by decide) rfl (fun ls hl => ?_)
  refine lv_aload_n hx hb dX3_unlink_13 rfl (lv_at hl 1 rfl) ?_
  refine c_callQ hS (va_runV (As := []) (rest := []) ⟨hx, hb, hml, hown, hts⟩ (c_firstLink l D cO dz mi hR f (by omega) (by omega) (by omega) (hw.lks (by omega) (by omega))) (cwV 0 hts gX3_unlink_X2_firstLink rfl rfl rfl (by decide +kernel) ⟨Nat.le_of_ble_eq_true rfl, Nat.le_of_ble_eq_true rfl⟩) (c_preV hA hE hX hC hS (hR.k5 (by first | omega | assumption) (by first | omega | assumption)) (by decide) (by decide) rfl) rfl rfl hl.1 rfl (lv_room (Nat.le_of_ble_eq_true rfl)) dX3_unlink_14 ⟨Nat.le_of_ble_eq_true rfl, Nat.le_of_ble_eq_true rfl⟩) (fun r9 w9 H locs hpost hC hS => ?_)
  obtain ⟨rfl, rfl⟩ := hpost
  refine qr_astore (lv' := [(5, va_rf (opA g (homeS S f))), (4, .ref (g 4 d)), (3, .ref (g 5 f)), (0, .ref (g 0 0)), (1, .int (iI (f))), (2, .int (iI (d)))]) hx hb dX3_unlink_17 hl (by decide) rfl (fun ls hl => ?_)
  refine qr_aload hx hb dX3_unlink_19 (lv_at hl 0 rfl) ?_
  refine qr_ifnull (r := opA g (homeS S f)) (tgt := 33) hx hb dX3_unlink_21 (by decide) (fun c_21 => ?_) (fun c_21 => ?_)
  · skip
    have c_21 := opA_nil c_21
    have hnil := home_neg (fun x hx9 => (hlks x hx9).1) c_21
    have hnm : d ∉ S.2 f := by rw [hnil]; exact List.not_mem_nil
    exact x_throw (cls := xISE) (text := _) (is := 108) (ic := 51) hx hb hst (by first | exact Or.inl ⟨rfl, rfl, rfl⟩ | exact Or.inr (Or.inl ⟨rfl, rfl, rfl⟩) | exact Or.inr (Or.inr ⟨rfl, rfl, rfl⟩)) hown hts (by decide +kernel) xs_108 hX hC hS hQ (hl.1.trans hml.symm) dX3_unlink_33 dX3_unlink_36 dX3_unlink_37 dX3_unlink_39 dX3_unlink_42 hto (Nat.le_of_ble_eq_true rfl) (Nat.le_of_ble_eq_true rfl) (Nat.le_of_ble_eq_true rfl) (Nat.le_of_ble_eq_true rfl) hlk (spE_of (k := 2) (by unfold sp_unlink; rw [iteC_neg (by omega)]; exact iteC_pos hnm) (by decide)) (by omega) (by omega)
  · skip
    have c_21 := opA_not c_21
    have hl : lv_has ls 7 [(5, .ref (g 4 (homeS S f))), (4, .ref (g 4 d)), (3, .ref (g 5 f)), (0, .ref (g 0 0)), (1, .int (iI (f))), (2, .int (iI (d)))] := by rw [opA_is c_21] at hl; exact hl
    have hh2 : S.2 f ≠ [] := fun e => c_21 (home_nil e)
    have hh9 := hw.home h0 h1 hh2
    have hh0 := hh9.1
    have hh1 := hh9.2
    refine lv_aload_n hx hb dX3_unlink_24 rfl (lv_at hl 2 rfl) ?_
    refine lv_aload hx hb dX3_unlink_25 (lv_at hl 1 rfl) ?_
    refine c_callI hS (va_runV (As := [.ref (g 4 d)]) (rest := []) ⟨hx, hb, hml, hown, hts⟩ (c_removeLink l D cO dz mi hR f h0 h1 hnf0 (by omega) (hw.lks h0 h1) (hw.nod h0 h1) d d0 d1) (cwV 1 hts gX3_unlink_X2_removeLinkTo rfl rfl rfl (by decide +kernel) ⟨Nat.le_of_ble_eq_true rfl, Nat.le_of_ble_eq_true rfl⟩) (c_preV hA hE hX hC hS (hR.k5 (by first | omega | assumption) (by first | omega | assumption)) (by decide) (by decide) rfl) rfl rfl hl.1 rfl (lv_room (Nat.le_of_ble_eq_true rfl)) dX3_unlink_27 ⟨Nat.le_of_ble_eq_true rfl, Nat.le_of_ble_eq_true rfl⟩) (fun r9 w9 H locs hpost hC hS => ?_)
    obtain ⟨hnm, rfl, rfl⟩ | ⟨hmm, rfl, hR2⟩ := hpost
    · skip
      refine h_if_ne (tgt := 43) hx hb (by omega) dX3_unlink_30 (by decide) (fun c_30 => by exfalso; omega) (fun c_30 => ?_)
      exact x_throw (cls := xISE) (text := _) (is := 108) (ic := 51) hx hb hst (by first | exact Or.inl ⟨rfl, rfl, rfl⟩ | exact Or.inr (Or.inl ⟨rfl, rfl, rfl⟩) | exact Or.inr (Or.inr ⟨rfl, rfl, rfl⟩)) hown hts (by decide +kernel) xs_108 hX hC hS hQ (hl.1.trans hml.symm) dX3_unlink_33 dX3_unlink_36 dX3_unlink_37 dX3_unlink_39 dX3_unlink_42 hto (Nat.le_of_ble_eq_true rfl) (Nat.le_of_ble_eq_true rfl) (Nat.le_of_ble_eq_true rfl) (Nat.le_of_ble_eq_true rfl) hlk (spE_of (k := 2) (by unfold sp_unlink; rw [iteC_neg (by omega)]; exact iteC_pos hnm) (by decide)) (by omega) (by omega)
    · skip
      obtain ⟨S2, hS2⟩ : ∃ x, x = slks S f ((S.2 f).erase d) := ⟨_, rfl⟩
      rw [← hS2] at hR2
      have hR := hR2
      have e21 : S2.1 = S.1 := by rw [hS2]; rfl
      have e2f : S2.2 f = (S.2 f).erase d := by rw [hS2]; exact slks_at _ _ _
      have q21 : f < S2.1 11 1 := by rw [e21]; exact h1
      have q20 : homeS S f < S2.1 11 0 := by rw [e21]; exact hh1
      have q22 : d < S2.1 11 0 := by rw [e21]; exact d1
      have n21 : 0 ≤ S2.1 11 1 := by rw [e21]; exact hnf0
      have lk2 : ∀ x ∈ S2.2 f, 0 ≤ x ∧ x < S2.1 11 0 := fun x hx9 => by rw [e2f] at hx9; rw [e21]; exact hlks x (List.mem_of_mem_erase hx9)
      have le2 : ((S2.2 f).length : Int) = ((S.2 f).length : Int) - 1 := by have := List.length_pos_of_mem hmm; rw [e2f, List.length_erase_of_mem hmm]; omega
      refine h_if_ne (tgt := 43) hx hb (by omega) dX3_unlink_30 (by decide) (fun c_30 => ?_) (fun c_30 => by exfalso; omega)
      refine lv_aload hx hb dX3_unlink_43 (lv_at hl 0 rfl) ?_
      refine lv_aload_n hx hb dX3_unlink_45 rfl (lv_at hl 2 rfl) ?_
      refine c_get (C := RX2) (T := TX2) (N := 6) hx hb hts hin_X2 hown hE hC (hR.k5 (by first | omega | assumption) (by first | omega | assumption)) (by decide) (by decide) rfl 2 (by decide) (hts (.fieldLink RX3 110 "HoldServer$StoredFile" "size" "I") (by decide +kernel)) rfl (v := .int (iI ((S.1 3 f)))) (congrArg (fun z => some (Value.int (iI z))) ((hR.f (f := f) (by first | omega | assumption) (by first | omega | assumption)).2.2.2.1.trans (by rw [e21]))) dX3_unlink_46 ?_
      refine qr_ineg hx hb dX3_unlink_49 ?_
      refine c_callV hS (va_runV (As := [.int (iI ((-(S.1 3 f))))]) (rest := []) ⟨hx, hb, hml, hown, hts⟩ (c_addUsage l D cO dz mi hR hw e21 n21 (homeS S f) hh0 q20 (-(S.1 3 f))) (cwV 1 hts gX3_unlink_X1_addUsage rfl rfl rfl (by decide +kernel) ⟨Nat.le_of_ble_eq_true rfl, Nat.le_of_ble_eq_true rfl⟩) (c_preV hA hE hX hC hS (hR.k4 (by first | omega | assumption) (by first | omega | assumption)) (by decide) (by decide) rfl) rfl rfl hl.1 rfl (lv_room (Nat.le_of_ble_eq_true rfl)) dX3_unlink_50 ⟨Nat.le_of_ble_eq_true rfl, Nat.le_of_ble_eq_true rfl⟩) (fun w9 H locs hpost hC hS => ?_)
      have hR := hpost
      refine lv_aload_n hx hb dX3_unlink_53 rfl (lv_at hl 2 rfl) ?_
      refine c_callQ hS (va_runV (As := []) (rest := []) ⟨hx, hb, hml, hown, hts⟩ (c_firstLink l D cO dz mi hR f h0 q21 (by omega) lk2) (cwV 0 hts gX3_unlink_X2_firstLink rfl rfl rfl (by decide +kernel) ⟨Nat.le_of_ble_eq_true rfl, Nat.le_of_ble_eq_true rfl⟩) (c_preV hA hE hX hC hS (hR.k5 (by first | omega | assumption) (by first | omega | assumption)) (by decide) (by decide) rfl) rfl rfl hl.1 rfl (lv_room (Nat.le_of_ble_eq_true rfl)) dX3_unlink_54 ⟨Nat.le_of_ble_eq_true rfl, Nat.le_of_ble_eq_true rfl⟩) (fun r9 w9 H locs hpost hC hS => ?_)
      obtain ⟨rfl, rfl⟩ := hpost
      refine qr_astore (lv' := [(6, va_rf (opA g (homeS S2 f))), (5, .ref (g 4 (homeS S f))), (4, .ref (g 4 d)), (3, .ref (g 5 f)), (0, .ref (g 0 0)), (1, .int (iI (f))), (2, .int (iI (d)))]) hx hb dX3_unlink_57 hl (by decide) rfl (fun ls hl => ?_)
      refine qr_aload hx hb dX3_unlink_59 (lv_at hl 0 rfl) ?_
      refine qr_ifnonnull (r := opA g (homeS S2 f)) (tgt := 72) hx hb dX3_unlink_61 (by decide) (fun c_61 => ?_) (fun c_61 => ?_)
      · skip
        have c_61 := opA_nil c_61
        have e20 : (S.2 f).erase d = [] := by rw [← e2f]; exact home_neg (fun x hx9 => (lk2 x hx9).1) c_61
        refine lv_aload_n hx hb dX3_unlink_64 rfl (lv_at hl 3 rfl) ?_
        refine lv_iconst (v := iI 0) hx hb dX3_unlink_65 rfl ?_
        refine c_callV hS (va_runV (As := [.int (iI 0)]) (rest := []) ⟨hx, hb, hml, hown, hts⟩ (c_replaceSize l D cO dz mi hR f h0 q21 0 n21 (by rw [e21]; exact hol)) (cwV 1 hts gX3_unlink_X2_replaceSize rfl rfl rfl (by decide +kernel) ⟨Nat.le_of_ble_eq_true rfl, Nat.le_of_ble_eq_true rfl⟩) (c_preV hA hE hX hC hS (hR.k5 (by first | omega | assumption) (by first | omega | assumption)) (by decide) (by decide) rfl) rfl rfl hl.1 rfl (lv_room (Nat.le_of_ble_eq_true rfl)) dX3_unlink_66 ⟨Nat.le_of_ble_eq_true rfl, Nat.le_of_ble_eq_true rfl⟩) (fun w9 H locs hpost hC hS => ?_)
        have hR := hpost.bac (f := f) (v := -1) n21 (by show S2.2 f = []; rw [e2f]; exact e20)
        obtain ⟨S3, hS3⟩ : ∃ x, x = sset (sset (sset S2 6 f (keepT S2 f)) 3 f 0) 9 f (-1) := ⟨_, rfl⟩
        rw [← hS3] at hR
        have e3f : S3.2 f = S2.2 f := by rw [hS3]; rfl
        have q31 : f < S3.1 11 1 := by rw [hS3, sset_off (by omega), sset_off (by omega), sset_off (by omega)]; exact q21
        refine lv_goto (tgt := 81) hx hb dX3_unlink_69 (by decide) ?_
        refine lv_aload_n hx hb dX3_unlink_81 rfl (lv_at hl 3 rfl) ?_
        refine c_get (C := RX2) (T := TX2) (N := 6) hx hb hts hin_X2 hown hE hC (hR.k5 (by first | omega | assumption) (by first | omega | assumption)) (by decide) (by decide) rfl 1 (by decide) (hts (.fieldLink RX3 76 "HoldServer$StoredFile" "links" "Ljava/util/ArrayList;") (by decide +kernel)) rfl (v := .ref (g 6 f)) (congrArg (fun z => some (va_rf z)) (hR.f (f := f) (by first | omega | assumption) (by first | omega | assumption)).2.1) dX3_unlink_82 ?_
        refine c_callI hS (va_runV (As := []) (rest := []) ⟨hx, hb, hml, hown, hts⟩ (R_size6 l D cO dz mi hR (f := f) h0 q31) (cwV 0 hts gX3_unlink_Jx4a65c_size_8abf5 rfl rfl rfl (by decide +kernel) ⟨Nat.le_of_ble_eq_true rfl, Nat.le_of_ble_eq_true rfl⟩) (c_preL hA hE hX hC hS (hR.k6 (by first | omega | assumption) (by first | omega | assumption))) rfl rfl hl.1 rfl (lv_room (Nat.le_of_ble_eq_true rfl)) dX3_unlink_85 ⟨Nat.le_of_ble_eq_true rfl, Nat.le_of_ble_eq_true rfl⟩) (fun r9 w9 H locs hpost hC hS => ?_)
        obtain ⟨rfl, rfl⟩ := hpost
        have e9 : s_unlink S f d = S3 := by unfold s_unlink; rw [if_pos e20, hS3, hS2, e20]; rfl
        rw [usg_unlinkG h0 h1 hh2 e20, e9] at hR
        exact hret ((((S3).2 f).length : Int)) (w9) _ _ _ _ _ _ dX3_unlink_88 rfl hC hS (by omega) (by omega) (by rw [e3f, le2]; exact spC_of (g := g) (T := T) (by unfold sp_unlink; rw [iteC_neg (by omega), iteC_neg (fun z => z hmm), e9]) hR)
      · skip
        have c_61 := opA_not c_61
        have hl : lv_has ls 7 [(6, .ref (g 4 (homeS S2 f))), (5, .ref (g 4 (homeS S f))), (4, .ref (g 4 d)), (3, .ref (g 5 f)), (0, .ref (g 0 0)), (1, .int (iI (f))), (2, .int (iI (d)))] := by rw [opA_is c_61] at hl; exact hl
        have e20 : (S.2 f).erase d ≠ [] := fun e => c_61 (home_nil (by rw [e2f]; exact e))
        have hm9 := lk2 _ (home_mem (S := S2) (f := f) (by rw [e2f]; exact e20))
        have hm0 := hm9.1
        have hm1 := hm9.2
        refine lv_aload hx hb dX3_unlink_72 (lv_at hl 0 rfl) ?_
        refine lv_aload_n hx hb dX3_unlink_74 rfl (lv_at hl 3 rfl) ?_
        refine c_get (C := RX2) (T := TX2) (N := 6) hx hb hts hin_X2 hown hE hC (hR.k5 (by first | omega | assumption) (by first | omega | assumption)) (by decide) (by decide) rfl 2 (by decide) (hts (.fieldLink RX3 110 "HoldServer$StoredFile" "size" "I") (by decide +kernel)) rfl (v := .int (iI ((S.1 3 f)))) (congrArg (fun z => some (Value.int (iI z))) ((hR.f (f := f) (by first | omega | assumption) (by first | omega | assumption)).2.2.2.1.trans (by rw [e21]))) dX3_unlink_75 ?_
        refine c_callV hS (va_runV (As := [.int (iI ((S.1 3 f)))]) (rest := []) ⟨hx, hb, hml, hown, hts⟩ (c_addUsage l D cO dz mi hR hw e21 n21 (homeS S2 f) hm0 hm1 (S.1 3 f)) (cwV 1 hts gX3_unlink_X1_addUsage rfl rfl rfl (by decide +kernel) ⟨Nat.le_of_ble_eq_true rfl, Nat.le_of_ble_eq_true rfl⟩) (c_preV hA hE hX hC hS (hR.k4 (by first | omega | assumption) (by first | omega | assumption)) (by decide) (by decide) rfl) rfl rfl hl.1 rfl (lv_room (Nat.le_of_ble_eq_true rfl)) dX3_unlink_78 ⟨Nat.le_of_ble_eq_true rfl, Nat.le_of_ble_eq_true rfl⟩) (fun w9 H locs hpost hC hS => ?_)
        have hR := hpost
        refine lv_aload_n hx hb dX3_unlink_81 rfl (lv_at hl 3 rfl) ?_
        refine c_get (C := RX2) (T := TX2) (N := 6) hx hb hts hin_X2 hown hE hC (hR.k5 (by first | omega | assumption) (by first | omega | assumption)) (by decide) (by decide) rfl 1 (by decide) (hts (.fieldLink RX3 76 "HoldServer$StoredFile" "links" "Ljava/util/ArrayList;") (by decide +kernel)) rfl (v := .ref (g 6 f)) (congrArg (fun z => some (va_rf z)) (hR.f (f := f) (by first | omega | assumption) (by first | omega | assumption)).2.1) dX3_unlink_82 ?_
        refine c_callI hS (va_runV (As := []) (rest := []) ⟨hx, hb, hml, hown, hts⟩ (R_size6 l D cO dz mi hR (f := f) h0 q21) (cwV 0 hts gX3_unlink_Jx4a65c_size_8abf5 rfl rfl rfl (by decide +kernel) ⟨Nat.le_of_ble_eq_true rfl, Nat.le_of_ble_eq_true rfl⟩) (c_preL hA hE hX hC hS (hR.k6 (by first | omega | assumption) (by first | omega | assumption))) rfl rfl hl.1 rfl (lv_room (Nat.le_of_ble_eq_true rfl)) dX3_unlink_85 ⟨Nat.le_of_ble_eq_true rfl, Nat.le_of_ble_eq_true rfl⟩) (fun r9 w9 H locs hpost hC hS => ?_)
        obtain ⟨rfl, rfl⟩ := hpost
        have e9 : s_unlink S f d = S2 := by unfold s_unlink; rw [if_neg e20, hS2]
        rw [hS2, usg_unlinkM h0 h1 hh2 e20, ← hS2] at hR
        exact hret ((((S2).2 f).length : Int)) (w9) _ _ _ _ _ _ dX3_unlink_88 rfl hC hS (by omega) (by omega) (by rw [le2]; exact spC_of (g := g) (T := T) (by unfold sp_unlink; rw [iteC_neg (by omega), iteC_neg (fun z => z hmm), e9]) hR)

set_option maxRecDepth 100000 in
set_option maxHeartbeats 4000000 in
theorem c_write (l : Launch) (D : va_G) (cO : ClassId) (dz mi : Nat) {A : Nat → Prop} {S : HdS} {w : CW} {g : Nat → Int → Nat} {T : Nat → Nat × Int} {n : Int} (hw : wf S n) (hR : RelC S w g T (usg S)) (hst : l.stackTraces = false) (f z : Int) (rf : inQ f) (rd : inQ z) : cIX l yX3_write wsX3_write { frames := 7, cells := 4, slots := 24, locals := 112 } D cO dz mi A [.ref (g 0 0), .int (iI (f)), .int (iI (z))] w (fun r w9 => spC (g 0 0) (sp_write S f z) r w9) (spE tb1 (sp_write S f z)) 4 24 := by
  refine cIX_of (cc := cX3_write) (maxL := 6) (ty := .int) (by decide) rfl (Nat.le_of_ble_eq_true rfl) ?_
  intro pp ee ss mm args below meth cc Q hx hb hml hown hts hA hC hE hX hS hto hlk hQ hret ls hl
  have hl : lv_has ls 6 [(0, .ref (g 0 0)), (1, .int (iI (f))), (2, .int (iI (z)))] := hl
  have hin_X3 : ∀ w ∈ wsX30, w ∈ wsX3_write := by decide +kernel
  have hin_X2 : ∀ w ∈ wsX20, w ∈ wsX3_write := by decide +kernel
  have hnd := hw.nd
  have hnf := hw.nf
  have hdy := hw.day
  have hnf0 := hnf.1
  refine lv_aload_n hx hb dX3_write_0 rfl (lv_at hl 0 rfl) ?_
  refine lv_iload_n hx hb dX3_write_1 rfl (lv_at hl 1 rfl) ?_
  refine c_callQX hS (vx_runV (As := [.int (iI (f))]) (rest := []) ⟨hx, hb, hml, hown, hts⟩ (c_filNumbered l D cO dz mi hw hR hst f (by omega)) (cwV 1 hts gX3_write_X3_fileNumbered rfl rfl rfl (by decide +kernel) ⟨Nat.le_of_ble_eq_true rfl, Nat.le_of_ble_eq_true rfl⟩) (c_preV hA hE hX hC hS hR.k0 (by decide) (by decide) rfl) rfl rfl hl.1 rfl (lv_room (Nat.le_of_ble_eq_true rfl)) dX3_write_2 ⟨Nat.le_of_ble_eq_true rfl, Nat.le_of_ble_eq_true rfl⟩) hQ (fun E hx9 => by obtain ⟨rfl, hx9⟩ := hx9; exact spE_of (k := 1) (by unfold sp_write; exact iteC_pos hx9) (by decide)) hto hlk (by omega) (by omega) (fun r9 w9 H locs hpost hC hS => ?_)
  obtain ⟨rfl, rfl, hn0_2, hn1_2⟩ := hpost
  refine lv_astore_n (lv' := [(3, .ref (g 5 f)), (0, .ref (g 0 0)), (1, .int (iI (f))), (2, .int (iI (z)))]) hx hb dX3_write_5 rfl hl (by decide) rfl (fun ls hl => ?_)
  refine lv_iconst (v := iI 1) hx hb dX3_write_6 rfl ?_
  refine lv_iload_n hx hb dX3_write_7 rfl (lv_at hl 3 rfl) ?_
  refine lv_sipush (v := iI 1000) hx hb dX3_write_8 (by decide) ?_
  refine c_callVX hS (vx_runS (As := [.int (iI 1), .int (iI (z)), .int (iI 1000)]) (rest := []) ⟨hx, hb, hml, hown, hts⟩ (c_requireBetween l D cO dz mi w hst (1) (z) (1000) (by omega) (by omega) (by omega)) (va_cwS 3 hts gX3_write_X3_requireBetween rfl rfl rfl (by decide +kernel) ⟨Nat.le_of_ble_eq_true rfl, Nat.le_of_ble_eq_true rfl⟩) (c_preS hA hE hX hC hS) rfl rfl hl.1 rfl (lv_room (Nat.le_of_ble_eq_true rfl)) dX3_write_11 ⟨Nat.le_of_ble_eq_true rfl, Nat.le_of_ble_eq_true rfl⟩) hQ (fun E hx9 => by obtain ⟨rfl, hx9⟩ := hx9; exact spE_of (k := 2) (by unfold sp_write; rw [iteC_neg (fun z => z ⟨by omega, by omega⟩)]; exact iteC_pos hx9) (by decide)) hto hlk (by omega) (by omega) (fun w9 H locs hpost hC hS => ?_)
  obtain ⟨rfl, hb0_11, hb1_11⟩ := hpost
  have h0 := hn0_2
  have h1 := hn1_2
  have hln := hw.len h0 h1
  have hlks := hw.lks h0 h1
  have hol := hw.hol h0 h1
  have hsz := hw.siz h0 h1
  have hkp := hw.kep h0 h1
  have hnn := hw.num
  have hba := hw.bac h0 h1
  have hdp := hw.dep h0 h1
  have hdp0 := hdp.1
  have hdp1 := hdp.2
  have htr := tier_in (S := S) f
  have hkt : 0 ≤ keepT S f ∧ keepT S f ≤ 1000000 := by unfold keepT; split <;> omega
  refine lv_aload_n hx hb dX3_write_14 rfl (lv_at hl 0 rfl) ?_
  refine c_callQ hS (va_runV (As := []) (rest := []) ⟨hx, hb, hml, hown, hts⟩ (c_firstLink l D cO dz mi hR f (by omega) (by omega) (by omega) (hw.lks (by omega) (by omega))) (cwV 0 hts gX3_write_X2_firstLink rfl rfl rfl (by decide +kernel) ⟨Nat.le_of_ble_eq_true rfl, Nat.le_of_ble_eq_true rfl⟩) (c_preV hA hE hX hC hS (hR.k5 (by first | omega | assumption) (by first | omega | assumption)) (by decide) (by decide) rfl) rfl rfl hl.1 rfl (lv_room (Nat.le_of_ble_eq_true rfl)) dX3_write_15 ⟨Nat.le_of_ble_eq_true rfl, Nat.le_of_ble_eq_true rfl⟩) (fun r9 w9 H locs hpost hC hS => ?_)
  obtain ⟨rfl, rfl⟩ := hpost
  refine qr_astore (lv' := [(4, va_rf (opA g (homeS S f))), (3, .ref (g 5 f)), (0, .ref (g 0 0)), (1, .int (iI (f))), (2, .int (iI (z)))]) hx hb dX3_write_18 hl (by decide) rfl (fun ls hl => ?_)
  refine qr_aload hx hb dX3_write_20 (lv_at hl 0 rfl) ?_
  refine qr_ifnull (r := opA g (homeS S f)) (tgt := 37) hx hb dX3_write_22 (by decide) (fun c_22 => ?_) (fun c_22 => ?_)
  · skip
    have c_22 := opA_nil c_22
    have hnil := home_neg (fun x hx9 => (hlks x hx9).1) c_22
    exact x_throw (cls := xISE) (text := _) (is := 119) (ic := 51) hx hb hst (by first | exact Or.inl ⟨rfl, rfl, rfl⟩ | exact Or.inr (Or.inl ⟨rfl, rfl, rfl⟩) | exact Or.inr (Or.inr ⟨rfl, rfl, rfl⟩)) hown hts (by decide +kernel) xs_119 hX hC hS hQ (hl.1.trans hml.symm) dX3_write_37 dX3_write_40 dX3_write_41 dX3_write_43 dX3_write_46 hto (Nat.le_of_ble_eq_true rfl) (Nat.le_of_ble_eq_true rfl) (Nat.le_of_ble_eq_true rfl) (Nat.le_of_ble_eq_true rfl) hlk (spE_of (k := 3) (by unfold sp_write; rw [iteC_neg (fun z => z ⟨by omega, by omega⟩), iteC_neg (fun z => z ⟨by omega, by omega⟩)]; exact iteC_pos (Or.inl hnil)) (by decide)) (by omega) (by omega)
  · skip
    have c_22 := opA_not c_22
    have hl : lv_has ls 6 [(4, .ref (g 4 (homeS S f))), (3, .ref (g 5 f)), (0, .ref (g 0 0)), (1, .int (iI (f))), (2, .int (iI (z)))] := by rw [opA_is c_22] at hl; exact hl
    have hh2 : S.2 f ≠ [] := fun e => c_22 (home_nil e)
    have hh9 := hw.home h0 h1 hh2
    have hh0 := hh9.1
    have hh1 := hh9.2
    have htu := tier_uo hw h0 h1 hh2
    refine lv_aload_n hx hb dX3_write_25 rfl (lv_at hl 1 rfl) ?_
    refine lv_aload_n hx hb dX3_write_26 rfl (lv_at hl 2 rfl) ?_
    refine c_get (C := RX3) (T := TX3) (N := 4) hx hb hts hin_X3 hown hE hC hR.k0 (by decide) (by decide) rfl 3 (by decide) (hts (.fieldLink RX3 70 "HoldServer" "day" "I") (by decide +kernel)) rfl (v := .int (iI ((S.1 11 2)))) (congrArg (fun z => some (Value.int (iI z))) hR.day) dX3_write_27 ?_
    refine c_callI hS (va_runV (As := [.int (iI ((S.1 11 2)))]) (rest := []) ⟨hx, hb, hml, hown, hts⟩ (c_tierOn l D cO dz mi hw hR f (by omega) (by omega)) (cwV 1 hts gX3_write_X2_tierOn rfl rfl rfl (by decide +kernel) ⟨Nat.le_of_ble_eq_true rfl, Nat.le_of_ble_eq_true rfl⟩) (c_preV hA hE hX hC hS (hR.k5 (by first | omega | assumption) (by first | omega | assumption)) (by decide) (by decide) rfl) rfl rfl hl.1 rfl (lv_room (Nat.le_of_ble_eq_true rfl)) dX3_write_30 ⟨Nat.le_of_ble_eq_true rfl, Nat.le_of_ble_eq_true rfl⟩) (fun r9 w9 H locs hpost hC hS => ?_)
    obtain ⟨rfl, rfl⟩ := hpost
    refine lv_iconst (v := iI 2) hx hb dX3_write_33 rfl ?_
    refine h_icmp_ne (tgt := 47) hx hb (by omega) (by omega) dX3_write_34 (by decide) (fun c_34 => ?_) (fun c_34 => ?_)
    · skip
      have hb9 : S.1 9 f = -1 := by rcases hba with q | q; exact q; exfalso; apply c_34; rw [htu, if_pos]; left; unfold uoS; rw [if_neg (by omega)]; omega
      refine lv_iload_n hx hb dX3_write_47 rfl (lv_at hl 4 rfl) ?_
      refine lv_aload_n hx hb dX3_write_48 rfl (lv_at hl 1 rfl) ?_
      refine c_get (C := RX2) (T := TX2) (N := 6) hx hb hts hin_X2 hown hE hC (hR.k5 (by first | omega | assumption) (by first | omega | assumption)) (by decide) (by decide) rfl 2 (by decide) (hts (.fieldLink RX3 110 "HoldServer$StoredFile" "size" "I") (by decide +kernel)) rfl (v := .int (iI ((S.1 3 f)))) (congrArg (fun z => some (Value.int (iI z))) (hR.f (f := f) (by first | omega | assumption) (by first | omega | assumption)).2.2.2.1) dX3_write_49 ?_
      refine h_isub hx hb dX3_write_52 ?_
      refine lv_istore (lv' := [(5, .int (iI ((z - (S.1 3 f))))), (4, .ref (g 4 (homeS S f))), (3, .ref (g 5 f)), (0, .ref (g 0 0)), (1, .int (iI (f))), (2, .int (iI (z)))]) hx hb dX3_write_53 hl (by decide) rfl (fun ls hl => ?_)
      refine lv_iload hx hb dX3_write_55 (lv_at hl 0 rfl) ?_
      refine h_if_le (tgt := 71) hx hb (by omega) dX3_write_57 (by decide) (fun c_57 => ?_) (fun c_57 => ?_)
      · skip
        refine lv_aload hx hb dX3_write_71 (lv_at hl 1 rfl) ?_
        refine lv_iload hx hb dX3_write_73 (lv_at hl 0 rfl) ?_
        refine c_callV hS (va_runV (As := [.int (iI ((z - (S.1 3 f))))]) (rest := []) ⟨hx, hb, hml, hown, hts⟩ (c_addUsage l D cO dz mi hR hw rfl hnf0 (homeS S f) hh0 hh1 (z - S.1 3 f)) (cwV 1 hts gX3_write_X1_addUsage rfl rfl rfl (by decide +kernel) ⟨Nat.le_of_ble_eq_true rfl, Nat.le_of_ble_eq_true rfl⟩) (c_preV hA hE hX hC hS (hR.k4 (by first | omega | assumption) (by first | omega | assumption)) (by decide) (by decide) rfl) rfl rfl hl.1 rfl (lv_room (Nat.le_of_ble_eq_true rfl)) dX3_write_75 ⟨Nat.le_of_ble_eq_true rfl, Nat.le_of_ble_eq_true rfl⟩) (fun w9 H locs hpost hC hS => ?_)
        have hR := hpost
        refine lv_aload_n hx hb dX3_write_78 rfl (lv_at hl 2 rfl) ?_
        refine lv_iload_n hx hb dX3_write_79 rfl (lv_at hl 5 rfl) ?_
        refine c_callV hS (va_runV (As := [.int (iI (z))]) (rest := []) ⟨hx, hb, hml, hown, hts⟩ (c_replaceSize l D cO dz mi hR f h0 h1 z hnf0 hol) (cwV 1 hts gX3_write_X2_replaceSize rfl rfl rfl (by decide +kernel) ⟨Nat.le_of_ble_eq_true rfl, Nat.le_of_ble_eq_true rfl⟩) (c_preV hA hE hX hC hS (hR.k5 (by first | omega | assumption) (by first | omega | assumption)) (by decide) (by decide) rfl) rfl rfl hl.1 rfl (lv_room (Nat.le_of_ble_eq_true rfl)) dX3_write_80 ⟨Nat.le_of_ble_eq_true rfl, Nat.le_of_ble_eq_true rfl⟩) (fun w9 H locs hpost hC hS => ?_)
        have hR := hpost
        obtain ⟨S2, hS2⟩ : ∃ x, x = sset (sset S 6 f (keepT S f)) 3 f z := ⟨_, rfl⟩
        rw [← hS2] at hR
        have e2o : ∀ (k : Nat) (i : Int), k ≠ 3 → k ≠ 6 → S2.1 k i = S.1 k i := fun k i h3 h6 => by rw [hS2, sset_off h3, sset_off h6]
        have q21 : f < S2.1 11 1 := by rw [e2o 11 1 (by omega) (by omega)]; exact h1
        have n21 : 0 ≤ S2.1 11 1 := by rw [e2o 11 1 (by omega) (by omega)]; exact hnf0
        refine lv_aload_n hx hb dX3_write_83 rfl (lv_at hl 2 rfl) ?_
        refine lv_aload_n hx hb dX3_write_84 rfl (lv_at hl 3 rfl) ?_
        refine c_get (C := RX3) (T := TX3) (N := 4) hx hb hts hin_X3 hown hE hC hR.k0 (by decide) (by decide) rfl 3 (by decide) (hts (.fieldLink RX3 70 "HoldServer" "day" "I") (by decide +kernel)) rfl (v := .int (iI ((S.1 11 2)))) (congrArg (fun z => some (Value.int (iI z))) (hR.day.trans (e2o 11 2 (by omega) (by omega)))) dX3_write_85 ?_
        refine c_putI (C := RX2) (T := TX2) (N := 6) hx hb hts hin_X2 tyX2 tyX2_ok nmX2 hown hE hC hS (hR.k5 (by first | omega | assumption) (by first | omega | assumption)) (by decide) (by decide) rfl 5 (by decide) (hts (.fieldLink RX3 125 "HoldServer$StoredFile" "usedOn" "I") (by decide +kernel)) rfl rfl (by decide +kernel) (z := (S.1 11 2)) 35 (Nat.le_of_ble_eq_true rfl) (cs_35 _ _ _) dX3_write_88 (fun H locs hC hS => ?_)
        have hR := hR.uon n21 (f := f) (v := S.1 11 2) (x := S.1 11 2) (y := (sset S2 8 f (S.1 11 2)).1 9 f) h0 q21 (fun _ => by rw [sset_off (by omega), e2o 9 f (by omega) (by omega), if_pos hb9])
        rw [sset_same, hS2, usg_write h0 h1 hh2] at hR
        have hR : RelC (s_write S f z) _ g T (usg (s_write S f z)) := hR
        have q31 : f < (s_write S f z).1 11 1 := by unfold s_write; rw [sset_off (by omega), sset_off (by omega), sset_off (by omega)]; exact h1
        refine lv_aload_n hx hb dX3_write_91 rfl (lv_at hl 2 rfl) ?_
        refine c_get (C := RX2) (T := TX2) (N := 6) hx hb hts hin_X2 hown hE hC (hR.k5 (by first | omega | assumption) (by first | omega | assumption)) (by decide) (by decide) rfl 4 (by decide) (hts (.fieldLink RX3 128 "HoldServer$StoredFile" "kept" "I") (by decide +kernel)) rfl (v := .int (iI ((keepT S f)))) (congrArg (fun z => some (Value.int (iI z))) ((hR.f (f := f) (by first | omega | assumption) (by first | omega | assumption)).2.2.2.2.2.1.trans (s_write_6 S f z))) dX3_write_92 ?_
        exact hret ((keepT S f)) ((wF w9 35 (g 5 f) (S.1 11 2))) _ _ _ _ _ _ dX3_write_95 rfl hC hS (by omega) (by omega) (spC_of (g := g) (T := T) (by unfold sp_write; rw [iteC_neg (fun z => z ⟨by omega, by omega⟩), iteC_neg (fun z => z ⟨by omega, by omega⟩), iteC_neg (fun z9 => z9.elim hh2 c_34), iteC_neg (fun z9 => by first | omega | exact z9.2 hcg)]) hR)
      · skip
        refine lv_aload_n hx hb dX3_write_60 rfl (lv_at hl 2 rfl) ?_
        refine c_get (C := RX2) (T := TX2) (N := 6) hx hb hts hin_X2 hown hE hC (hR.k5 (by first | omega | assumption) (by first | omega | assumption)) (by decide) (by decide) rfl 0 (by decide) (hts (.fieldLink RX3 121 "HoldServer$StoredFile" "owner" "LHoldServer$Department;") (by decide +kernel)) rfl (v := .ref (g 7 (S.1 2 f))) (congrArg (fun z => some (va_rf z)) (hR.f (f := f) (by first | omega | assumption) (by first | omega | assumption)).1) dX3_write_61 ?_
        refine lv_aload hx hb dX3_write_64 (lv_at hl 1 rfl) ?_
        refine lv_iload hx hb dX3_write_66 (lv_at hl 0 rfl) ?_
        refine c_callVX hS (vx_runS (As := [.ref (g 7 (S.1 2 f)), .ref (g 4 (homeS S f)), .int (iI ((z - (S.1 3 f))))]) (rest := []) ⟨hx, hb, hml, hown, hts⟩ (c_requireGrowthPossible l D cO dz mi hw hR hst (S.1 2 f) hdp0 hdp1 (homeS S f) hh0 hh1 (z - S.1 3 f) (by omega)) (va_cwS 3 hts gX3_write_X3_requireGrowthPossible rfl rfl rfl (by decide +kernel) ⟨Nat.le_of_ble_eq_true rfl, Nat.le_of_ble_eq_true rfl⟩) (c_preS hA hE hX hC hS) rfl rfl hl.1 rfl (lv_room (Nat.le_of_ble_eq_true rfl)) dX3_write_68 ⟨Nat.le_of_ble_eq_true rfl, Nat.le_of_ble_eq_true rfl⟩) hQ (fun E hx9 => by obtain ⟨rfl, hx9⟩ := hx9; exact spE_of (k := 3) (by unfold sp_write; rw [iteC_neg (fun z => z ⟨by omega, by omega⟩), iteC_neg (fun z => z ⟨by omega, by omega⟩), iteC_neg (fun z9 => z9.elim hh2 c_34)]; exact iteC_pos ⟨by omega, hx9⟩) (by decide)) hto hlk (by omega) (by omega) (fun w9 H locs hpost hC hS => ?_)
        obtain ⟨rfl, hcg⟩ := hpost
        refine lv_aload hx hb dX3_write_71 (lv_at hl 1 rfl) ?_
        refine lv_iload hx hb dX3_write_73 (lv_at hl 0 rfl) ?_
        refine c_callV hS (va_runV (As := [.int (iI ((z - (S.1 3 f))))]) (rest := []) ⟨hx, hb, hml, hown, hts⟩ (c_addUsage l D cO dz mi hR hw rfl hnf0 (homeS S f) hh0 hh1 (z - S.1 3 f)) (cwV 1 hts gX3_write_X1_addUsage rfl rfl rfl (by decide +kernel) ⟨Nat.le_of_ble_eq_true rfl, Nat.le_of_ble_eq_true rfl⟩) (c_preV hA hE hX hC hS (hR.k4 (by first | omega | assumption) (by first | omega | assumption)) (by decide) (by decide) rfl) rfl rfl hl.1 rfl (lv_room (Nat.le_of_ble_eq_true rfl)) dX3_write_75 ⟨Nat.le_of_ble_eq_true rfl, Nat.le_of_ble_eq_true rfl⟩) (fun w9 H locs hpost hC hS => ?_)
        have hR := hpost
        refine lv_aload_n hx hb dX3_write_78 rfl (lv_at hl 2 rfl) ?_
        refine lv_iload_n hx hb dX3_write_79 rfl (lv_at hl 5 rfl) ?_
        refine c_callV hS (va_runV (As := [.int (iI (z))]) (rest := []) ⟨hx, hb, hml, hown, hts⟩ (c_replaceSize l D cO dz mi hR f h0 h1 z hnf0 hol) (cwV 1 hts gX3_write_X2_replaceSize rfl rfl rfl (by decide +kernel) ⟨Nat.le_of_ble_eq_true rfl, Nat.le_of_ble_eq_true rfl⟩) (c_preV hA hE hX hC hS (hR.k5 (by first | omega | assumption) (by first | omega | assumption)) (by decide) (by decide) rfl) rfl rfl hl.1 rfl (lv_room (Nat.le_of_ble_eq_true rfl)) dX3_write_80 ⟨Nat.le_of_ble_eq_true rfl, Nat.le_of_ble_eq_true rfl⟩) (fun w9 H locs hpost hC hS => ?_)
        have hR := hpost
        obtain ⟨S2, hS2⟩ : ∃ x, x = sset (sset S 6 f (keepT S f)) 3 f z := ⟨_, rfl⟩
        rw [← hS2] at hR
        have e2o : ∀ (k : Nat) (i : Int), k ≠ 3 → k ≠ 6 → S2.1 k i = S.1 k i := fun k i h3 h6 => by rw [hS2, sset_off h3, sset_off h6]
        have q21 : f < S2.1 11 1 := by rw [e2o 11 1 (by omega) (by omega)]; exact h1
        have n21 : 0 ≤ S2.1 11 1 := by rw [e2o 11 1 (by omega) (by omega)]; exact hnf0
        refine lv_aload_n hx hb dX3_write_83 rfl (lv_at hl 2 rfl) ?_
        refine lv_aload_n hx hb dX3_write_84 rfl (lv_at hl 3 rfl) ?_
        refine c_get (C := RX3) (T := TX3) (N := 4) hx hb hts hin_X3 hown hE hC hR.k0 (by decide) (by decide) rfl 3 (by decide) (hts (.fieldLink RX3 70 "HoldServer" "day" "I") (by decide +kernel)) rfl (v := .int (iI ((S.1 11 2)))) (congrArg (fun z => some (Value.int (iI z))) (hR.day.trans (e2o 11 2 (by omega) (by omega)))) dX3_write_85 ?_
        refine c_putI (C := RX2) (T := TX2) (N := 6) hx hb hts hin_X2 tyX2 tyX2_ok nmX2 hown hE hC hS (hR.k5 (by first | omega | assumption) (by first | omega | assumption)) (by decide) (by decide) rfl 5 (by decide) (hts (.fieldLink RX3 125 "HoldServer$StoredFile" "usedOn" "I") (by decide +kernel)) rfl rfl (by decide +kernel) (z := (S.1 11 2)) 35 (Nat.le_of_ble_eq_true rfl) (cs_35 _ _ _) dX3_write_88 (fun H locs hC hS => ?_)
        have hR := hR.uon n21 (f := f) (v := S.1 11 2) (x := S.1 11 2) (y := (sset S2 8 f (S.1 11 2)).1 9 f) h0 q21 (fun _ => by rw [sset_off (by omega), e2o 9 f (by omega) (by omega), if_pos hb9])
        rw [sset_same, hS2, usg_write h0 h1 hh2] at hR
        have hR : RelC (s_write S f z) _ g T (usg (s_write S f z)) := hR
        have q31 : f < (s_write S f z).1 11 1 := by unfold s_write; rw [sset_off (by omega), sset_off (by omega), sset_off (by omega)]; exact h1
        refine lv_aload_n hx hb dX3_write_91 rfl (lv_at hl 2 rfl) ?_
        refine c_get (C := RX2) (T := TX2) (N := 6) hx hb hts hin_X2 hown hE hC (hR.k5 (by first | omega | assumption) (by first | omega | assumption)) (by decide) (by decide) rfl 4 (by decide) (hts (.fieldLink RX3 128 "HoldServer$StoredFile" "kept" "I") (by decide +kernel)) rfl (v := .int (iI ((keepT S f)))) (congrArg (fun z => some (Value.int (iI z))) ((hR.f (f := f) (by first | omega | assumption) (by first | omega | assumption)).2.2.2.2.2.1.trans (s_write_6 S f z))) dX3_write_92 ?_
        exact hret ((keepT S f)) ((wF w9 35 (g 5 f) (S.1 11 2))) _ _ _ _ _ _ dX3_write_95 rfl hC hS (by omega) (by omega) (spC_of (g := g) (T := T) (by unfold sp_write; rw [iteC_neg (fun z => z ⟨by omega, by omega⟩), iteC_neg (fun z => z ⟨by omega, by omega⟩), iteC_neg (fun z9 => z9.elim hh2 c_34), iteC_neg (fun z9 => by first | omega | exact z9.2 hcg)]) hR)
    · skip
      exact x_throw (cls := xISE) (text := _) (is := 119) (ic := 51) hx hb hst (by first | exact Or.inl ⟨rfl, rfl, rfl⟩ | exact Or.inr (Or.inl ⟨rfl, rfl, rfl⟩) | exact Or.inr (Or.inr ⟨rfl, rfl, rfl⟩)) hown hts (by decide +kernel) xs_119 hX hC hS hQ (hl.1.trans hml.symm) dX3_write_37 dX3_write_40 dX3_write_41 dX3_write_43 dX3_write_46 hto (Nat.le_of_ble_eq_true rfl) (Nat.le_of_ble_eq_true rfl) (Nat.le_of_ble_eq_true rfl) (Nat.le_of_ble_eq_true rfl) hlk (spE_of (k := 3) (by unfold sp_write; rw [iteC_neg (fun z => z ⟨by omega, by omega⟩), iteC_neg (fun z => z ⟨by omega, by omega⟩)]; exact iteC_pos (Or.inr c_34)) (by decide)) (by omega) (by omega)
