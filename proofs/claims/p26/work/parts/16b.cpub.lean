set_option maxRecDepth 100000 in
set_option maxHeartbeats 4000000 in
theorem c_payBills (l : Launch) (D : va_G) (cO : ClassId) (dz mi : Nat) {A : Nat → Prop} {S : HdS} {w : CW} {g : Nat → Int → Nat} {T : Nat → Nat × Int} {n : Int} (hw : wf S n) (hR : RelC S w g T (usg S))  : cI l yX3_payBills wsX3_payBills { frames := 5, cells := 0, slots := 0, locals := 107 } D cO dz mi A [.ref (g 0 0)] w (fun r w9 => RelC (payN S 4) w9 g T (usg S) ∧ r = iI (paidN S 4)) 0 0 := by
  refine cI_of (cc := cX3_payBills) (maxL := 5) (ty := .int) (by decide) rfl (Nat.le_of_ble_eq_true rfl) ?_
  intro pp ee ss mm args below meth cc Q hx hb hml hown hts hA hC hE hX hS hret ls hl
  have hl : lv_has ls 5 [(0, .ref (g 0 0))] := hl
  have hin_X3 : ∀ w ∈ wsX30, w ∈ wsX3_payBills := by decide +kernel
  have hin_X0 : ∀ w ∈ wsX00, w ∈ wsX3_payBills := by decide +kernel
  have hnd := hw.nd
  have hnf := hw.nf
  have hdy := hw.day
  have hnf0 := hnf.1
  refine lv_iconst (v := iI 0) hx hb dX3_payBills_0 rfl ?_
  refine lv_istore_n (lv' := [(1, .int (iI 0)), (0, .ref (g 0 0))]) hx hb dX3_payBills_1 rfl hl (by decide) rfl (fun ls hl => ?_)
  refine lv_iconst (v := iI 0) hx hb dX3_payBills_2 rfl ?_
  refine lv_istore_n (lv' := [(2, .int (iI 0)), (1, .int (iI 0)), (0, .ref (g 0 0))]) hx hb dX3_payBills_3 rfl hl (by decide) rfl (fun ls hl => ?_)
  have lp4 : ∀ (n9 : Nat) (j : Nat), (5 : Int) - j < (n9 : Int) → ((j : Int) ≤ 4) → ∀ (w2 : CW) (H : Heap) (locs : List Loc), (RelC (payN S (j : Int)) w2 g T (usg S)) → cH D cO dz A w2 H → va_S A ss.heap H locs → ∀ (ls : Array Slot), lv_has ls 5 [(0, .ref (g 0 0)), (1, .int (iI (paidN S j))), (2, .int (iI ((j : Int))))] → W pp l ee { frames := 5, cells := 0, slots := 0, locals := 107 } ss mm args below meth cc H locs 0 0 Q (F0 mm 4 ls []) := by
    intro n9
    induction n9 with
    | zero => intro j hms hj w2 H locs hR hC hS ls hl; exfalso; omega
    | succ n9 ih9 =>
      intro j hms hj w2 H locs hR hC hS ls hl
      refine lv_iload_n hx hb dX3_payBills_4 rfl (lv_at hl 2 rfl) ?_
      refine lv_aload_n hx hb dX3_payBills_5 rfl (lv_at hl 0 rfl) ?_
      refine c_get (C := RX3) (T := TX3) (N := 4) hx hb hts hin_X3 hown hE hC hR.k0 (by decide) (by decide) rfl 2 (by decide) (hts (.fieldLink RX3 19 "HoldServer" "departments" "Ljava/util/ArrayList;") (by decide +kernel)) rfl (v := .ref (g 3 0)) (congrArg (fun z => some (va_rf z)) hR.deps) dX3_payBills_6 ?_
      refine c_callI hS (va_runV (As := []) (rest := [.int (iI ((j : Int)))]) ⟨hx, hb, hml, hown, hts⟩ (R_size3 l D cO dz mi hR) (cwV 0 hts gX3_payBills_Jx4a65c_size_8abf5 rfl rfl rfl (by decide +kernel) ⟨Nat.le_of_ble_eq_true rfl, Nat.le_of_ble_eq_true rfl⟩) (c_preL hA hE hX hC hS hR.k3) rfl rfl hl.1 rfl (lv_room (Nat.le_of_ble_eq_true rfl)) dX3_payBills_9 ⟨Nat.le_of_ble_eq_true rfl, Nat.le_of_ble_eq_true rfl⟩) (fun r9 w9 H locs hpost hC hS => ?_)
      obtain ⟨rfl, rfl⟩ := hpost
      refine h_icmp_ge (tgt := 66) hx hb (by omega) (by omega) dX3_payBills_12 (by decide) (fun c_12 => ?_) (fun c_12 => ?_)
      · skip
        have hj4 : j = 4 := by omega
        refine lv_iload_n hx hb dX3_payBills_66 rfl (lv_at hl 1 rfl) ?_
        exact hret (paidN S j) (w2) _ _ _ _ _ _ dX3_payBills_67 rfl hC hS (by omega) (by omega) ⟨(by rw [hj4] at hR; exact hR), by rw [hj4]⟩
      · skip
        refine lv_aload_n hx hb dX3_payBills_15 rfl (lv_at hl 0 rfl) ?_
        refine c_get (C := RX3) (T := TX3) (N := 4) hx hb hts hin_X3 hown hE hC hR.k0 (by decide) (by decide) rfl 2 (by decide) (hts (.fieldLink RX3 19 "HoldServer" "departments" "Ljava/util/ArrayList;") (by decide +kernel)) rfl (v := .ref (g 3 0)) (congrArg (fun z => some (va_rf z)) hR.deps) dX3_payBills_16 ?_
        refine lv_iload_n hx hb dX3_payBills_19 rfl (lv_at hl 2 rfl) ?_
        refine c_callQ hS (va_runV (As := [.int (iI ((j : Int)))]) (rest := []) ⟨hx, hb, hml, hown, hts⟩ (R_get3 l D cO dz mi hR (j : Int) (by omega) (by omega)) (cwV 1 hts gX3_payBills_Jx4a65c_get_915e3 rfl rfl rfl (by decide +kernel) ⟨Nat.le_of_ble_eq_true rfl, Nat.le_of_ble_eq_true rfl⟩) (c_preL hA hE hX hC hS hR.k3) rfl rfl hl.1 rfl (lv_room (Nat.le_of_ble_eq_true rfl)) dX3_payBills_20 ⟨Nat.le_of_ble_eq_true rfl, Nat.le_of_ble_eq_true rfl⟩) (fun r9 w9 H locs hpost hC hS => ?_)
        obtain ⟨rfl, rfl⟩ := hpost
        refine c_castT (r := (RX0, TX0, 2)) hx hb hown (hts (.classLink RX3 31 RX0) (by decide +kernel)) hE hC (hR.k7 (by first | omega | assumption) (by first | omega | assumption)) (by decide) (by decide) rfl dX3_payBills_23 ?_
        refine lv_astore_n (lv' := [(3, .ref (g 7 (j : Int))), (0, .ref (g 0 0)), (1, .int (iI (paidN S j))), (2, .int (iI ((j : Int))))]) hx hb dX3_payBills_26 rfl hl (by decide) rfl (fun ls hl => ?_)
        refine lv_aload_n hx hb dX3_payBills_27 rfl (lv_at hl 0 rfl) ?_
        refine lv_aload_n hx hb dX3_payBills_28 rfl (lv_at hl 1 rfl) ?_
        refine c_get (C := RX3) (T := TX3) (N := 4) hx hb hts hin_X3 hown hE hC hR.k0 (by decide) (by decide) rfl 3 (by decide) (hts (.fieldLink RX3 70 "HoldServer" "day" "I") (by decide +kernel)) rfl (v := .int (iI (((payN S (j : Int)).1 11 2)))) (congrArg (fun z => some (Value.int (iI z))) hR.day) dX3_payBills_29 ?_
        refine c_callI hS (va_runV (As := [.int (iI (((payN S (j : Int)).1 11 2)))]) (rest := []) ⟨hx, hb, hml, hown, hts⟩ (c_billOn l D cO dz mi (wf_payN hw (by omega)) hR (j : Int) (by omega) (by omega)) (cwV 1 hts gX3_payBills_X0_billOn rfl rfl rfl (by decide +kernel) ⟨Nat.le_of_ble_eq_true rfl, Nat.le_of_ble_eq_true rfl⟩) (c_preV hA hE hX hC hS (hR.k7 (by first | omega | assumption) (by first | omega | assumption)) (by decide) (by decide) rfl) rfl rfl hl.1 rfl (lv_room (Nat.le_of_ble_eq_true rfl)) dX3_payBills_32 ⟨Nat.le_of_ble_eq_true rfl, Nat.le_of_ble_eq_true rfl⟩) (fun r9 w9 H locs hpost hC hS => ?_)
        obtain ⟨rfl, rfl⟩ := hpost
        rw [bil_payN]
        refine lv_aload_n hx hb dX3_payBills_35 rfl (lv_at hl 0 rfl) ?_
        refine c_get (C := RX0) (T := TX0) (N := 2) hx hb hts hin_X0 hown hE hC (hR.k7 (by first | omega | assumption) (by first | omega | assumption)) (by decide) (by decide) rfl 1 (by decide) (hts (.fieldLink RX3 156 "HoldServer$Department" "coins" "I") (by decide +kernel)) rfl (v := .int (iI ((S.1 10 (j : Int))))) (congrArg (fun z => some (Value.int (iI z))) ((hR.p (q := (j : Int)) (by first | omega | assumption) (by first | omega | assumption)).2.1.trans (payN_ge S (Int.le_refl _)))) dX3_payBills_36 ?_
        refine va_mmin hx hb (hml.trans hl.1.symm) hown (hts (.methodLink RX3 211 Lib.Math.min.name) (by decide +kernel)) (hts (.static Lib.Math.min.name) (by decide +kernel)) (hts (.initialized "java/lang/Math") (by decide +kernel)) (hts (.code Lib.Math.min.name Lib.Math.min.code 2 (some .int)) (by decide +kernel)) (Nat.le_of_ble_eq_true rfl) (Nat.le_of_ble_eq_true rfl) (Nat.le_of_ble_eq_true rfl) (Nat.le_of_ble_eq_true rfl) dX3_payBills_39 ?_
        refine h_top hx (y := iI (payS S (j : Int))) (pay_min hw (by omega) (by omega)) ?_
        refine lv_istore (lv' := [(4, .int (iI ((payS S (j : Int))))), (3, .ref (g 7 (j : Int))), (0, .ref (g 0 0)), (1, .int (iI (paidN S j))), (2, .int (iI ((j : Int))))]) hx hb dX3_payBills_42 hl (by decide) rfl (fun ls hl => ?_)
        refine lv_aload_n hx hb dX3_payBills_44 rfl (lv_at hl 1 rfl) ?_
        refine lv_dup hx hb dX3_payBills_45 rfl ?_
        refine c_get (C := RX0) (T := TX0) (N := 2) hx hb hts hin_X0 hown hE hC (hR.k7 (by first | omega | assumption) (by first | omega | assumption)) (by decide) (by decide) rfl 1 (by decide) (hts (.fieldLink RX3 156 "HoldServer$Department" "coins" "I") (by decide +kernel)) rfl (v := .int (iI ((S.1 10 (j : Int))))) (congrArg (fun z => some (Value.int (iI z))) ((hR.p (q := (j : Int)) (by first | omega | assumption) (by first | omega | assumption)).2.1.trans (payN_ge S (Int.le_refl _)))) dX3_payBills_46 ?_
        refine lv_iload hx hb dX3_payBills_49 (lv_at hl 0 rfl) ?_
        refine h_isub hx hb dX3_payBills_51 ?_
        refine c_putI (C := RX0) (T := TX0) (N := 2) hx hb hts hin_X0 tyX0 tyX0_ok nmX0 hown hE hC hS (hR.k7 (by first | omega | assumption) (by first | omega | assumption)) (by decide) (by decide) rfl 1 (by decide) (hts (.fieldLink RX3 156 "HoldServer$Department" "coins" "I") (by decide +kernel)) rfl rfl (by decide +kernel) (z := ((S.1 10 (j : Int)) - (payS S (j : Int)))) 11 (Nat.le_of_ble_eq_true rfl) (cs_11 _ _ _) dX3_payBills_52 (fun H locs hC hS => ?_)
        have hR := hR.coin (by first | omega | assumption) (q := (j : Int)) (v := ((S.1 10 (j : Int)) - (payS S (j : Int)))) (by first | omega | assumption) (by first | omega | assumption)
        refine lv_iload_n hx hb dX3_payBills_55 rfl (lv_at hl 3 rfl) ?_
        refine lv_iload hx hb dX3_payBills_56 (lv_at hl 0 rfl) ?_
        refine h_iadd hx hb dX3_payBills_58 ?_
        refine lv_istore_n (lv' := [(1, .int (iI ((paidN S j + (payS S (j : Int)))))), (4, .int (iI ((payS S (j : Int))))), (3, .ref (g 7 (j : Int))), (0, .ref (g 0 0)), (2, .int (iI ((j : Int))))]) hx hb dX3_payBills_59 rfl hl (by decide) rfl (fun ls hl => ?_)
        refine lv_iinc (v := iI (((j : Int) + 1))) (lv' := [(2, .int (iI (((j : Int) + 1)))), (1, .int (iI ((paidN S j + (payS S (j : Int)))))), (4, .int (iI ((payS S (j : Int))))), (3, .ref (g 7 (j : Int))), (0, .ref (g 0 0))]) hx hb dX3_payBills_60 hl (k := 4) rfl (iI_add _ _) (by decide) rfl (fun ls hl => ?_)
        refine lv_goto (tgt := 4) hx hb dX3_payBills_63 (by decide) ?_
        rw [payN_succ S j rfl] at hR
        exact ih9 (j + 1) (by omega) (by omega) _ H locs hR hC hS ls (by rw [show paidN S (j + 1) = paidN S j + payS S (j : Int) from rfl, show ((j + 1 : Nat) : Int) = (j : Int) + 1 from by omega]; exact (lv_sub hl [4, 1, 0] rfl))
  exact lp4 6 0 (by omega) (by omega) _ _ _ (by rw [show ((0 : Nat) : Int) = 0 from rfl, payN_0]; exact hR) hC hS ls (lv_sub hl [2, 1, 0] rfl)

set_option maxRecDepth 100000 in
set_option maxHeartbeats 4000000 in
theorem c_pass (l : Launch) (D : va_G) (cO : ClassId) (dz mi : Nat) {A : Nat → Prop} {S : HdS} {w : CW} {g : Nat → Int → Nat} {T : Nat → Nat × Int} {n : Int} (hw : wf S n) (hR : RelC S w g T (usg S)) (hst : l.stackTraces = false) (k : Int) (rk : inQ k) : cIX l yX3_pass wsX3_pass { frames := 7, cells := 2, slots := 12, locals := 131 } D cO dz mi A [.ref (g 0 0), .int (iI (k))] w (fun r w9 => spC (g 0 0) (sp_pass S k) r w9) (spE tb3 (sp_pass S k)) 2 12 := by
  refine cIX_of (cc := cX3_pass) (maxL := 4) (ty := .int) (by decide) rfl (Nat.le_of_ble_eq_true rfl) ?_
  intro pp ee ss mm args below meth cc Q hx hb hml hown hts hA hC hE hX hS hto hlk hQ hret ls hl
  have hl : lv_has ls 4 [(0, .ref (g 0 0)), (1, .int (iI (k)))] := hl
  have hin_X3 : ∀ w ∈ wsX30, w ∈ wsX3_pass := by decide +kernel
  have hnd := hw.nd
  have hnf := hw.nf
  have hdy := hw.day
  have hnf0 := hnf.1
  refine lv_iconst (v := iI 1) hx hb dX3_pass_0 rfl ?_
  refine lv_iload_n hx hb dX3_pass_1 rfl (lv_at hl 1 rfl) ?_
  refine lv_bipush (v := iI 100) hx hb dX3_pass_2 (by decide) ?_
  refine c_callVX hS (vx_runS (As := [.int (iI 1), .int (iI (k)), .int (iI 100)]) (rest := []) ⟨hx, hb, hml, hown, hts⟩ (c_requireBetween l D cO dz mi w hst (1) (k) (100) (by omega) (by omega) (by omega)) (va_cwS 3 hts gX3_pass_X3_requireBetween rfl rfl rfl (by decide +kernel) ⟨Nat.le_of_ble_eq_true rfl, Nat.le_of_ble_eq_true rfl⟩) (c_preS hA hE hX hC hS) rfl rfl hl.1 rfl (lv_room (Nat.le_of_ble_eq_true rfl)) dX3_pass_4 ⟨Nat.le_of_ble_eq_true rfl, Nat.le_of_ble_eq_true rfl⟩) hQ (fun E hx9 => by obtain ⟨rfl, hx9⟩ := hx9; exact spE_of (k := 1) (by unfold sp_pass; exact iteC_pos hx9) (by decide)) hto hlk (by omega) (by omega) (fun w9 H locs hpost hC hS => ?_)
  obtain ⟨rfl, hb0_4, hb1_4⟩ := hpost
  refine lv_aload_n hx hb dX3_pass_7 rfl (lv_at hl 0 rfl) ?_
  refine c_get (C := RX3) (T := TX3) (N := 4) hx hb hts hin_X3 hown hE hC hR.k0 (by decide) (by decide) rfl 3 (by decide) (hts (.fieldLink RX3 70 "HoldServer" "day" "I") (by decide +kernel)) rfl (v := .int (iI ((S.1 11 2)))) (congrArg (fun z => some (Value.int (iI z))) hR.day) dX3_pass_8 ?_
  refine lv_iload_n hx hb dX3_pass_11 rfl (lv_at hl 1 rfl) ?_
  refine h_iadd hx hb dX3_pass_12 ?_
  refine lv_sipush (v := iI 10000) hx hb dX3_pass_13 (by decide) ?_
  refine h_icmp_le (tgt := 29) hx hb (by omega) (by omega) dX3_pass_16 (by decide) (fun c_16 => ?_) (fun c_16 => ?_)
  · skip
    refine lv_iconst (v := iI 0) hx hb dX3_pass_29 rfl ?_
    refine lv_istore_n (lv' := [(2, .int (iI 0)), (0, .ref (g 0 0)), (1, .int (iI (k)))]) hx hb dX3_pass_30 rfl hl (by decide) rfl (fun ls hl => ?_)
    refine lv_iconst (v := iI 0) hx hb dX3_pass_31 rfl ?_
    refine lv_istore_n (lv' := [(3, .int (iI 0)), (2, .int (iI 0)), (0, .ref (g 0 0)), (1, .int (iI (k)))]) hx hb dX3_pass_32 rfl hl (by decide) rfl (fun ls hl => ?_)
    have lp33 : ∀ (n9 : Nat) (j : Nat), k + 1 - j < (n9 : Int) → ((j : Int) ≤ k) → ∀ (w2 : CW) (H : Heap) (locs : List Loc), (RelC (passN S j).1 w2 g T (usg (passN S j).1)) → cH D cO dz A w2 H → va_S A ss.heap H locs → ∀ (ls : Array Slot), lv_has ls 4 [(0, .ref (g 0 0)), (1, .int (iI (k))), (2, .int (iI ((passN S j).2))), (3, .int (iI ((j : Int))))] → W pp l ee { frames := 7, cells := 2, slots := 12, locals := 131 } ss mm args below meth cc H locs (0 + 1) (0 + 6) Q (F0 mm 33 ls []) := by
      intro n9
      induction n9 with
      | zero => intro j hms hj w2 H locs hR hC hS ls hl; exfalso; omega
      | succ n9 ih9 =>
        intro j hms hj w2 H locs hR hC hS ls hl
        have hpw := passN_wf hw j (by omega)
        refine lv_iload_n hx hb dX3_pass_33 rfl (lv_at hl 3 rfl) ?_
        refine lv_iload_n hx hb dX3_pass_34 rfl (lv_at hl 1 rfl) ?_
        refine h_icmp_ge (tgt := 61) hx hb (by omega) (by omega) dX3_pass_35 (by decide) (fun c_35 => ?_) (fun c_35 => ?_)
        · skip
          refine lv_iload_n hx hb dX3_pass_61 rfl (lv_at hl 2 rfl) ?_
          have hjk : j = k.toNat := by omega
          exact hret ((passN S j).2) (w2) _ _ _ _ _ _ dX3_pass_62 rfl hC hS (by omega) (by omega) (by rw [hjk] at hR ⊢; exact spC_of (g := g) (T := T) (by unfold sp_pass; rw [iteC_neg (fun z => z ⟨by omega, by omega⟩), iteC_neg (by omega)]) hR)
        · skip
          refine lv_iload_n hx hb dX3_pass_38 rfl (lv_at hl 2 rfl) ?_
          refine lv_aload_n hx hb dX3_pass_39 rfl (lv_at hl 0 rfl) ?_
          refine c_callI hS (va_runV (As := []) (rest := [.int (iI ((passN S j).2))]) ⟨hx, hb, hml, hown, hts⟩ (c_payBills l D cO dz mi hpw.1 hR) (cwV 0 hts gX3_pass_X3_payBills rfl rfl rfl (by decide +kernel) ⟨Nat.le_of_ble_eq_true rfl, Nat.le_of_ble_eq_true rfl⟩) (c_preV hA hE hX hC hS hR.k0 (by decide) (by decide) rfl) rfl rfl hl.1 rfl (lv_room (Nat.le_of_ble_eq_true rfl)) dX3_pass_40 ⟨Nat.le_of_ble_eq_true rfl, Nat.le_of_ble_eq_true rfl⟩) (fun r9 w9 H locs hpost hC hS => ?_)
          obtain ⟨hR, rfl⟩ := hpost
          refine h_iadd hx hb dX3_pass_43 ?_
          refine lv_istore_n (lv' := [(2, .int (iI (((passN S j).2 + (paidN (passN S j).1 4))))), (0, .ref (g 0 0)), (1, .int (iI (k))), (3, .int (iI ((j : Int))))]) hx hb dX3_pass_44 rfl hl (by decide) rfl (fun ls hl => ?_)
          refine lv_aload_n hx hb dX3_pass_45 rfl (lv_at hl 1 rfl) ?_
          refine lv_dup hx hb dX3_pass_46 rfl ?_
          refine c_get (C := RX3) (T := TX3) (N := 4) hx hb hts hin_X3 hown hE hC hR.k0 (by decide) (by decide) rfl 3 (by decide) (hts (.fieldLink RX3 70 "HoldServer" "day" "I") (by decide +kernel)) rfl (v := .int (iI (((passN S j).1.1 11 2)))) (congrArg (fun z => some (Value.int (iI z))) hR.day) dX3_pass_47 ?_
          refine lv_iconst (v := iI 1) hx hb dX3_pass_50 rfl ?_
          refine h_iadd hx hb dX3_pass_51 ?_
          refine c_putI (C := RX3) (T := TX3) (N := 4) hx hb hts hin_X3 tyX3 tyX3_ok nmX3 hown hE hC hS hR.k0 (by decide) (by decide) rfl 3 (by decide) (hts (.fieldLink RX3 70 "HoldServer" "day" "I") (by decide +kernel)) rfl rfl (by decide +kernel) (z := (((passN S j).1.1 11 2) + 1)) 43 (Nat.le_of_ble_eq_true rfl) (cs_43 _ _ _) dX3_pass_52 (fun H locs hC hS => ?_)
          have hR := hR.nextDay hpw.1.nf.1 hpw.1.day.1
          refine lv_iinc (v := iI (((j : Int) + 1))) (lv' := [(3, .int (iI (((j : Int) + 1)))), (2, .int (iI (((passN S j).2 + (paidN (passN S j).1 4))))), (0, .ref (g 0 0)), (1, .int (iI (k)))]) hx hb dX3_pass_55 hl (k := 3) rfl (iI_add _ _) (by decide) rfl (fun ls hl => ?_)
          refine lv_goto (tgt := 33) hx hb dX3_pass_58 (by decide) ?_
          exact ih9 (j + 1) (by omega) (by omega) _ H locs hR hC hS ls (by show lv_has ls 4 [_, _, (2, .int (iI ((passN S j).2 + paidN (passN S j).1 4))), (3, .int (iI ((j + 1 : Nat) : Int)))]; rw [show ((j + 1 : Nat) : Int) = (j : Int) + 1 from by omega]; exact (lv_sub hl [2, 3, 1, 0] rfl))
    exact lp33 (k + 2).toNat 0 (by omega) (by omega) _ _ _ hR hC hS ls (lv_sub hl [2, 3, 1, 0] rfl)
  · skip
    exact x_throw (cls := xISE) (text := _) (is := 162) (ic := 51) hx hb hst (by first | exact Or.inl ⟨rfl, rfl, rfl⟩ | exact Or.inr (Or.inl ⟨rfl, rfl, rfl⟩) | exact Or.inr (Or.inr ⟨rfl, rfl, rfl⟩)) hown hts (by decide +kernel) xs_162 hX hC hS hQ (hl.1.trans hml.symm) dX3_pass_19 dX3_pass_22 dX3_pass_23 dX3_pass_25 dX3_pass_28 hto (Nat.le_of_ble_eq_true rfl) (Nat.le_of_ble_eq_true rfl) (Nat.le_of_ble_eq_true rfl) (Nat.le_of_ble_eq_true rfl) hlk (spE_of (k := 2) (by unfold sp_pass; rw [iteC_neg (fun z => z ⟨by omega, by omega⟩)]; exact iteC_pos (by omega)) (by decide)) (by omega) (by omega)
