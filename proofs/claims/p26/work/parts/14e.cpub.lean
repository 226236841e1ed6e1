set_option maxRecDepth 100000 in
set_option maxHeartbeats 4000000 in
theorem c_billOn (l : Launch) (D : va_G) (cO : ClassId) (dz mi : Nat) {A : Nat → Prop} {S : HdS} {w : CW} {g : Nat → Int → Nat} {T : Nat → Nat × Int} {U : Int → Int} {n : Int} (hw : wf S n) (hR : RelC S w g T U) (q : Int) (q0 : 0 ≤ q) (q1 : q < 4)  : cI l yX0_billOn wsX0_billOn { frames := 4, cells := 0, slots := 0, locals := 84 } D cO dz mi A [.ref (g 7 q), .int (iI ((S.1 11 2)))] w (fun r w9 => w = w9 ∧ r = iI (bil S q)) 0 0 := by
  refine cI_of (cc := cX0_billOn) (maxL := 4) (ty := .int) (by decide) rfl (Nat.le_of_ble_eq_true rfl) ?_
  intro pp ee ss mm args below meth cc Q hx hb hml hown hts hA hC hE hX hS hret ls hl
  have hl : lv_has ls 4 [(0, .ref (g 7 q)), (1, .int (iI ((S.1 11 2))))] := hl
  have hin_X0 : ∀ w ∈ wsX00, w ∈ wsX0_billOn := by decide +kernel
  have hnd := hw.nd
  have hnf := hw.nf
  have hdy := hw.day
  have hnf0 := hnf.1
  have hol := ownN_len S q (S.1 11 1).toNat
  refine lv_iconst (v := iI 0) hx hb dX0_billOn_0 rfl ?_
  refine lv_istore_n (lv' := [(2, .int (iI 0)), (0, .ref (g 7 q)), (1, .int (iI ((S.1 11 2))))]) hx hb dX0_billOn_1 rfl hl (by decide) rfl (fun ls hl => ?_)
  refine lv_iconst (v := iI 0) hx hb dX0_billOn_2 rfl ?_
  refine lv_istore_n (lv' := [(3, .int (iI 0)), (2, .int (iI 0)), (0, .ref (g 7 q)), (1, .int (iI ((S.1 11 2))))]) hx hb dX0_billOn_3 rfl hl (by decide) rfl (fun ls hl => ?_)
  have lp4 : ∀ (n9 : Nat) (j : Nat), ((ownN S q (S.1 11 1).toNat).length : Int) + 1 - j < (n9 : Int) → (j ≤ (ownN S q (S.1 11 1).toNat).length) → ∀ (H : Heap) (locs : List Loc), cH D cO dz A w H → va_S A ss.heap H locs → ∀ (ls : Array Slot), lv_has ls 4 [(0, .ref (g 7 q)), (1, .int (iI ((S.1 11 2)))), (2, .int (iI (bilL S (ownN S q (S.1 11 1).toNat) j))), (3, .int (iI ((j : Int))))] → W pp l ee { frames := 4, cells := 0, slots := 0, locals := 84 } ss mm args below meth cc H locs 0 0 Q (F0 mm 4 ls []) := by
    intro n9
    induction n9 with
    | zero => intro j hms hj H locs hC hS ls hl; exfalso; omega
    | succ n9 ih9 =>
      intro j hms hj H locs hC hS ls hl
      refine lv_iload_n hx hb dX0_billOn_4 rfl (lv_at hl 3 rfl) ?_
      refine lv_aload_n hx hb dX0_billOn_5 rfl (lv_at hl 0 rfl) ?_
      refine c_get (C := RX0) (T := TX0) (N := 2) hx hb hts hin_X0 hown hE hC (hR.k7 (by first | omega | assumption) (by first | omega | assumption)) (by decide) (by decide) rfl 0 (by decide) (hts (.fieldLink RX0 12 "HoldServer$Department" "ownFiles" "Ljava/util/ArrayList;") (by decide +kernel)) rfl (v := .ref (g 8 q)) (congrArg (fun z => some (va_rf z)) (hR.p (q := q) (by first | omega | assumption) (by first | omega | assumption)).1) dX0_billOn_6 ?_
      refine c_callI hS (va_runV (As := []) (rest := [.int (iI ((j : Int)))]) ⟨hx, hb, hml, hown, hts⟩ (R_size8 l D cO dz mi hR (q := q) q0 q1) (cwV 0 hts gX0_billOn_Jx4a65c_size_8abf5 rfl rfl rfl (by decide +kernel) ⟨Nat.le_of_ble_eq_true rfl, Nat.le_of_ble_eq_true rfl⟩) (c_preL hA hE hX hC hS (hR.k8 (by first | omega | assumption) (by first | omega | assumption))) rfl rfl hl.1 rfl (lv_room (Nat.le_of_ble_eq_true rfl)) dX0_billOn_9 ⟨Nat.le_of_ble_eq_true rfl, Nat.le_of_ble_eq_true rfl⟩) (fun r9 w9 H locs hpost hC hS => ?_)
      obtain ⟨rfl, rfl⟩ := hpost
      refine h_icmp_ge (tgt := 39) hx hb (by omega) (by omega) dX0_billOn_12 (by decide) (fun c_12 => ?_) (fun c_12 => ?_)
      · skip
        have hjn : j = (ownN S q (S.1 11 1).toNat).length := by omega
        have hbs := bilN_in hw q (S.1 11 1).toNat (by omega)
        have hbo := bilL_own S q (S.1 11 1).toNat
        rw [← hjn] at hbo
        refine lv_iload_n hx hb dX0_billOn_39 rfl (lv_at hl 2 rfl) ?_
        refine lv_bipush (v := iI 100) hx hb dX0_billOn_40 (by decide) ?_
        refine h_iadd hx hb dX0_billOn_42 ?_
        refine lv_iconst (v := iI 1) hx hb dX0_billOn_43 rfl ?_
        refine h_isub hx hb dX0_billOn_44 ?_
        refine lv_bipush (v := iI 100) hx hb dX0_billOn_45 (by decide) ?_
        refine h_idiv hx hb (by omega) (by omega) (by omega) (by omega) dX0_billOn_47 ?_
        exact hret ((((bilL S (ownN S q (S.1 11 1).toNat) j + 100) - 1) / 100)) (w) _ _ _ _ _ _ dX0_billOn_48 rfl hC hS (by omega) (by omega) ⟨rfl, by unfold bil; rw [← hbo]; congr 1; omega⟩
      · skip
        refine lv_iload_n hx hb dX0_billOn_15 rfl (lv_at hl 2 rfl) ?_
        refine lv_aload_n hx hb dX0_billOn_16 rfl (lv_at hl 0 rfl) ?_
        refine c_get (C := RX0) (T := TX0) (N := 2) hx hb hts hin_X0 hown hE hC (hR.k7 (by first | omega | assumption) (by first | omega | assumption)) (by decide) (by decide) rfl 0 (by decide) (hts (.fieldLink RX0 12 "HoldServer$Department" "ownFiles" "Ljava/util/ArrayList;") (by decide +kernel)) rfl (v := .ref (g 8 q)) (congrArg (fun z => some (va_rf z)) (hR.p (q := q) (by first | omega | assumption) (by first | omega | assumption)).1) dX0_billOn_17 ?_
        refine lv_iload_n hx hb dX0_billOn_20 rfl (lv_at hl 3 rfl) ?_
        refine c_callQ hS (va_runV (As := [.int (iI ((j : Int)))]) (rest := [.int (iI (bilL S (ownN S q (S.1 11 1).toNat) j))]) ⟨hx, hb, hml, hown, hts⟩ (R_get8 l D cO dz mi hR (by omega) (q := q) q0 q1 (j : Int) (by omega) (by omega)) (cwV 1 hts gX0_billOn_Jx4a65c_get_915e3 rfl rfl rfl (by decide +kernel) ⟨Nat.le_of_ble_eq_true rfl, Nat.le_of_ble_eq_true rfl⟩) (c_preL hA hE hX hC hS (hR.k8 (by first | omega | assumption) (by first | omega | assumption))) rfl rfl hl.1 rfl (lv_room (Nat.le_of_ble_eq_true rfl)) dX0_billOn_21 ⟨Nat.le_of_ble_eq_true rfl, Nat.le_of_ble_eq_true rfl⟩) (fun r9 w9 H locs hpost hC hS => ?_)
        obtain ⟨rfl, rfl⟩ := hpost
        rw [show ((j : Int)).toNat = j from rfl]
        have hd9m := own_getD (S := S) (q := q) (j := j) (by omega)
        obtain ⟨d9, hd9⟩ : ∃ x, x = (ownN S q (S.1 11 1).toNat).getD j 0 := ⟨_, rfl⟩
        rw [← hd9] at hd9m
        rw [← hd9]
        refine c_castT (r := (RX2, TX2, 6)) hx hb hown (hts (.classLink RX0 30 RX2) (by decide +kernel)) hE hC (hR.k5 (by first | omega | assumption) (by first | omega | assumption)) (by decide) (by decide) rfl dX0_billOn_24 ?_
        refine lv_iload_n hx hb dX0_billOn_27 rfl (lv_at hl 1 rfl) ?_
        refine c_callI hS (va_runV (As := [.int (iI ((S.1 11 2)))]) (rest := [.int (iI (bilL S (ownN S q (S.1 11 1).toNat) j))]) ⟨hx, hb, hml, hown, hts⟩ (c_billedOn l D cO dz mi hw hR d9 (by omega) (by omega)) (cwV 1 hts gX0_billOn_X2_billedOn rfl rfl rfl (by decide +kernel) ⟨Nat.le_of_ble_eq_true rfl, Nat.le_of_ble_eq_true rfl⟩) (c_preV hA hE hX hC hS (hR.k5 (by first | omega | assumption) (by first | omega | assumption)) (by decide) (by decide) rfl) rfl rfl hl.1 rfl (lv_room (Nat.le_of_ble_eq_true rfl)) dX0_billOn_28 ⟨Nat.le_of_ble_eq_true rfl, Nat.le_of_ble_eq_true rfl⟩) (fun r9 w9 H locs hpost hC hS => ?_)
        obtain ⟨rfl, rfl⟩ := hpost
        refine h_iadd hx hb dX0_billOn_31 ?_
        refine lv_istore_n (lv' := [(2, .int (iI ((bilL S (ownN S q (S.1 11 1).toNat) j + (bilT S d9))))), (0, .ref (g 7 q)), (1, .int (iI ((S.1 11 2)))), (3, .int (iI ((j : Int))))]) hx hb dX0_billOn_32 rfl hl (by decide) rfl (fun ls hl => ?_)
        refine lv_iinc (v := iI (((j : Int) + 1))) (lv' := [(3, .int (iI (((j : Int) + 1)))), (2, .int (iI ((bilL S (ownN S q (S.1 11 1).toNat) j + (bilT S d9))))), (0, .ref (g 7 q)), (1, .int (iI ((S.1 11 2))))]) hx hb dX0_billOn_33 hl (k := 3) rfl (iI_add _ _) (by decide) rfl (fun ls hl => ?_)
        refine lv_goto (tgt := 4) hx hb dX0_billOn_36 (by decide) ?_
        exact ih9 (j + 1) (by omega) (by omega) H locs hC hS ls (by show lv_has ls 4 [_, _, (2, .int (iI (bilL S (ownN S q (S.1 11 1).toNat) j + bilT S ((ownN S q (S.1 11 1).toNat).getD j 0)))), (3, .int (iI ((j + 1 : Nat) : Int)))]; rw [← hd9, show ((j + 1 : Nat) : Int) = (j : Int) + 1 from by omega]; exact (lv_sub hl [2, 3, 1, 0] rfl))
  exact lp4 ((ownN S q (S.1 11 1).toNat).length + 2) 0 (by omega) (by omega) _ _ hC hS ls (lv_sub hl [2, 3, 1, 0] rfl)

set_option maxRecDepth 100000 in
set_option maxHeartbeats 4000000 in
theorem c_bill (l : Launch) (D : va_G) (cO : ClassId) (dz mi : Nat) {A : Nat → Prop} {S : HdS} {w : CW} {g : Nat → Int → Nat} {T : Nat → Nat × Int} {U : Int → Int} {n : Int} (hw : wf S n) (hR : RelC S w g T U) (hst : l.stackTraces = false) (i : Int) (ri : inQ i) : cIX l yX3_bill wsX3_bill { frames := 7, cells := 1, slots := 6, locals := 111 } D cO dz mi A [.ref (g 0 0), .int (iI (i))] w (fun r w9 => w = w9 ∧ (0 ≤ i ∧ i < 4) ∧ r = iI (bil S i)) (fun E => E = xIOB ∧ ¬ (0 ≤ i ∧ i < 4)) 1 6 := by
  refine cIX_of (cc := cX3_bill) (maxL := 2) (ty := .int) (by decide) rfl (Nat.le_of_ble_eq_true rfl) ?_
  intro pp ee ss mm args below meth cc Q hx hb hml hown hts hA hC hE hX hS hto hlk hQ hret ls hl
  have hl : lv_has ls 2 [(0, .ref (g 0 0)), (1, .int (iI (i)))] := hl
  have hin_X3 : ∀ w ∈ wsX30, w ∈ wsX3_bill := by decide +kernel
  have hnd := hw.nd
  have hnf := hw.nf
  have hdy := hw.day
  have hnf0 := hnf.1
  refine lv_aload_n hx hb dX3_bill_0 rfl (lv_at hl 0 rfl) ?_
  refine lv_iload_n hx hb dX3_bill_1 rfl (lv_at hl 1 rfl) ?_
  refine c_callQX hS (vx_runV (As := [.int (iI (i))]) (rest := []) ⟨hx, hb, hml, hown, hts⟩ (c_depNumbered l D cO dz mi hw hR hst i (by omega)) (cwV 1 hts gX3_bill_X3_departmentNumbered rfl rfl rfl (by decide +kernel) ⟨Nat.le_of_ble_eq_true rfl, Nat.le_of_ble_eq_true rfl⟩) (c_preV hA hE hX hC hS hR.k0 (by decide) (by decide) rfl) rfl rfl hl.1 rfl (lv_room (Nat.le_of_ble_eq_true rfl)) dX3_bill_2 ⟨Nat.le_of_ble_eq_true rfl, Nat.le_of_ble_eq_true rfl⟩) hQ (fun E hx9 => hx9) hto hlk (by omega) (by omega) (fun r9 w9 H locs hpost hC hS => ?_)
  obtain ⟨rfl, rfl, hn0_2, hn1_2⟩ := hpost
  refine lv_aload_n hx hb dX3_bill_5 rfl (lv_at hl 0 rfl) ?_
  refine c_get (C := RX3) (T := TX3) (N := 4) hx hb hts hin_X3 hown hE hC hR.k0 (by decide) (by decide) rfl 3 (by decide) (hts (.fieldLink RX3 70 "HoldServer" "day" "I") (by decide +kernel)) rfl (v := .int (iI ((S.1 11 2)))) (congrArg (fun z => some (Value.int (iI z))) hR.day) dX3_bill_6 ?_
  refine c_callI hS (va_runV (As := [.int (iI ((S.1 11 2)))]) (rest := []) ⟨hx, hb, hml, hown, hts⟩ (c_billOn l D cO dz mi hw hR i (by omega) (by omega)) (cwV 1 hts gX3_bill_X0_billOn rfl rfl rfl (by decide +kernel) ⟨Nat.le_of_ble_eq_true rfl, Nat.le_of_ble_eq_true rfl⟩) (c_preV hA hE hX hC hS (hR.k7 (by first | omega | assumption) (by first | omega | assumption)) (by decide) (by decide) rfl) rfl rfl hl.1 rfl (lv_room (Nat.le_of_ble_eq_true rfl)) dX3_bill_9 ⟨Nat.le_of_ble_eq_true rfl, Nat.le_of_ble_eq_true rfl⟩) (fun r9 w9 H locs hpost hC hS => ?_)
  obtain ⟨rfl, rfl⟩ := hpost
  exact hret ((bil S i)) (w) _ _ _ _ _ _ dX3_bill_12 rfl hC hS (by omega) (by omega) ⟨rfl, ⟨by omega, by omega⟩, rfl⟩

set_option maxRecDepth 100000 in
set_option maxHeartbeats 4000000 in
theorem c_usageByWalking (l : Launch) (D : va_G) (cO : ClassId) (dz mi : Nat) {A : Nat → Prop} {S : HdS} {w : CW} {g : Nat → Int → Nat} {T : Nat → Nat × Int} {U : Int → Int} {n : Int} (hw : wf S n) (hR : RelC S w g T U) (hst : l.stackTraces = false) (d : Int) (rd : inQ d) : cIX l yX3_usageByWalking wsX3_usageByWalking { frames := 7, cells := 1, slots := 6, locals := 111 } D cO dz mi A [.ref (g 0 0), .int (iI (d))] w (fun r w9 => w = w9 ∧ (0 ≤ d ∧ d < S.1 11 0) ∧ r = iI (usg S d)) (fun E => E = xIOB ∧ ¬ (0 ≤ d ∧ d < S.1 11 0)) 1 6 := by
  refine cIX_of (cc := cX3_usageByWalking) (maxL := 7) (ty := .int) (by decide) rfl (Nat.le_of_ble_eq_true rfl) ?_
  intro pp ee ss mm args below meth cc Q hx hb hml hown hts hA hC hE hX hS hto hlk hQ hret ls hl
  have hl : lv_has ls 7 [(0, .ref (g 0 0)), (1, .int (iI (d)))] := hl
  have hin_X3 : ∀ w ∈ wsX30, w ∈ wsX3_usageByWalking := by decide +kernel
  have hin_X2 : ∀ w ∈ wsX20, w ∈ wsX3_usageByWalking := by decide +kernel
  have hnd := hw.nd
  have hnf := hw.nf
  have hdy := hw.day
  have hnf0 := hnf.1
  refine lv_aload_n hx hb dX3_usageByWalking_0 rfl (lv_at hl 0 rfl) ?_
  refine lv_iload_n hx hb dX3_usageByWalking_1 rfl (lv_at hl 1 rfl) ?_
  refine c_callQX hS (vx_runV (As := [.int (iI (d))]) (rest := []) ⟨hx, hb, hml, hown, hts⟩ (c_dirNumbered l D cO dz mi hw hR hst d (by omega)) (cwV 1 hts gX3_usageByWalking_X3_directoryNumbered rfl rfl rfl (by decide +kernel) ⟨Nat.le_of_ble_eq_true rfl, Nat.le_of_ble_eq_true rfl⟩) (c_preV hA hE hX hC hS hR.k0 (by decide) (by decide) rfl) rfl rfl hl.1 rfl (lv_room (Nat.le_of_ble_eq_true rfl)) dX3_usageByWalking_2 ⟨Nat.le_of_ble_eq_true rfl, Nat.le_of_ble_eq_true rfl⟩) hQ (fun E hx9 => hx9) hto hlk (by omega) (by omega) (fun r9 w9 H locs hpost hC hS => ?_)
  obtain ⟨rfl, rfl, hn0_2, hn1_2⟩ := hpost
  refine lv_astore_n (lv' := [(2, .ref (g 4 d)), (0, .ref (g 0 0)), (1, .int (iI (d)))]) hx hb dX3_usageByWalking_5 rfl hl (by decide) rfl (fun ls hl => ?_)
  refine lv_iconst (v := iI 0) hx hb dX3_usageByWalking_6 rfl ?_
  refine lv_istore_n (lv' := [(3, .int (iI 0)), (2, .ref (g 4 d)), (0, .ref (g 0 0)), (1, .int (iI (d)))]) hx hb dX3_usageByWalking_7 rfl hl (by decide) rfl (fun ls hl => ?_)
  refine lv_iconst (v := iI 0) hx hb dX3_usageByWalking_8 rfl ?_
  refine lv_istore (lv' := [(4, .int (iI 0)), (3, .int (iI 0)), (2, .ref (g 4 d)), (0, .ref (g 0 0)), (1, .int (iI (d)))]) hx hb dX3_usageByWalking_9 hl (by decide) rfl (fun ls hl => ?_)
  have lp11 : ∀ (n9 : Nat) (j : Nat), S.1 11 1 + 1 - j < (n9 : Int) → ((j : Int) ≤ S.1 11 1) → ∀ (H : Heap) (locs : List Loc), cH D cO dz A w H → va_S A ss.heap H locs → ∀ (ls : Array Slot), lv_has ls 7 [(0, .ref (g 0 0)), (1, .int (iI (d))), (2, .ref (g 4 d)), (3, .int (iI (usgN S d j))), (4, .int (iI ((j : Int))))] → W pp l ee { frames := 7, cells := 1, slots := 6, locals := 111 } ss mm args below meth cc H locs (0 + 1) (0 + 6) Q (F0 mm 11 ls []) := by
    intro n9
    induction n9 with
    | zero => intro j hms hj H locs hC hS ls hl; exfalso; omega
    | succ n9 ih9 =>
      intro j hms hj H locs hC hS ls hl
      refine lv_iload hx hb dX3_usageByWalking_11 (lv_at hl 4 rfl) ?_
      refine lv_aload_n hx hb dX3_usageByWalking_13 rfl (lv_at hl 0 rfl) ?_
      refine c_get (C := RX3) (T := TX3) (N := 4) hx hb hts hin_X3 hown hE hC hR.k0 (by decide) (by decide) rfl 1 (by decide) (hts (.fieldLink RX3 16 "HoldServer" "files" "Ljava/util/ArrayList;") (by decide +kernel)) rfl (v := .ref (g 2 0)) (congrArg (fun z => some (va_rf z)) hR.fils) dX3_usageByWalking_14 ?_
      refine c_callI hS (va_runV (As := []) (rest := [.int (iI ((j : Int)))]) ⟨hx, hb, hml, hown, hts⟩ (R_size2 l D cO dz mi hR (by omega)) (cwV 0 hts gX3_usageByWalking_Jx4a65c_size_8abf5 rfl rfl rfl (by decide +kernel) ⟨Nat.le_of_ble_eq_true rfl, Nat.le_of_ble_eq_true rfl⟩) (c_preL hA hE hX hC hS hR.k2) rfl rfl hl.1 rfl (lv_room (Nat.le_of_ble_eq_true rfl)) dX3_usageByWalking_17 ⟨Nat.le_of_ble_eq_true rfl, Nat.le_of_ble_eq_true rfl⟩) (fun r9 w9 H locs hpost hC hS => ?_)
      obtain ⟨rfl, rfl⟩ := hpost
      refine h_icmp_ge (tgt := 72) hx hb (by omega) (by omega) dX3_usageByWalking_20 (by decide) (fun c_20 => ?_) (fun c_20 => ?_)
      · skip
        refine lv_iload_n hx hb dX3_usageByWalking_72 rfl (lv_at hl 3 rfl) ?_
        exact hret (usgN S d j) (w) _ _ _ _ _ _ dX3_usageByWalking_73 rfl hC hS (by omega) (by omega) ⟨rfl, ⟨by omega, by omega⟩, by unfold usg; rw [show (S.1 11 1).toNat = j from by omega]⟩
      · skip
        refine lv_aload_n hx hb dX3_usageByWalking_23 rfl (lv_at hl 0 rfl) ?_
        refine c_get (C := RX3) (T := TX3) (N := 4) hx hb hts hin_X3 hown hE hC hR.k0 (by decide) (by decide) rfl 1 (by decide) (hts (.fieldLink RX3 16 "HoldServer" "files" "Ljava/util/ArrayList;") (by decide +kernel)) rfl (v := .ref (g 2 0)) (congrArg (fun z => some (va_rf z)) hR.fils) dX3_usageByWalking_24 ?_
        refine lv_iload hx hb dX3_usageByWalking_27 (lv_at hl 4 rfl) ?_
        refine c_callQ hS (va_runV (As := [.int (iI ((j : Int)))]) (rest := []) ⟨hx, hb, hml, hown, hts⟩ (R_get2 l D cO dz mi hR (by omega) (j : Int) (by omega) (by omega)) (cwV 1 hts gX3_usageByWalking_Jx4a65c_get_915e3 rfl rfl rfl (by decide +kernel) ⟨Nat.le_of_ble_eq_true rfl, Nat.le_of_ble_eq_true rfl⟩) (c_preL hA hE hX hC hS hR.k2) rfl rfl hl.1 rfl (lv_room (Nat.le_of_ble_eq_true rfl)) dX3_usageByWalking_29 ⟨Nat.le_of_ble_eq_true rfl, Nat.le_of_ble_eq_true rfl⟩) (fun r9 w9 H locs hpost hC hS => ?_)
        obtain ⟨rfl, rfl⟩ := hpost
        refine c_castT (r := (RX2, TX2, 6)) hx hb hown (hts (.classLink RX3 68 RX2) (by decide +kernel)) hE hC (hR.k5 (by first | omega | assumption) (by first | omega | assumption)) (by decide) (by decide) rfl dX3_usageByWalking_32 ?_
        refine lv_astore (lv' := [(5, .ref (g 5 (j : Int))), (0, .ref (g 0 0)), (1, .int (iI (d))), (2, .ref (g 4 d)), (3, .int (iI (usgN S d j))), (4, .int (iI ((j : Int))))]) hx hb dX3_usageByWalking_35 hl (by decide) rfl (fun ls hl => ?_)
        refine lv_aload hx hb dX3_usageByWalking_37 (lv_at hl 0 rfl) ?_
        have hln := hw.len (f := (j : Int)) (by omega) (by omega)
        refine c_callQ hS (va_runV (As := []) (rest := []) ⟨hx, hb, hml, hown, hts⟩ (c_firstLink l D cO dz mi hR (j : Int) (by omega) (by omega) (by omega) (hw.lks (by omega) (by omega))) (cwV 0 hts gX3_usageByWalking_X2_firstLink rfl rfl rfl (by decide +kernel) ⟨Nat.le_of_ble_eq_true rfl, Nat.le_of_ble_eq_true rfl⟩) (c_preV hA hE hX hC hS (hR.k5 (by first | omega | assumption) (by first | omega | assumption)) (by decide) (by decide) rfl) rfl rfl hl.1 rfl (lv_room (Nat.le_of_ble_eq_true rfl)) dX3_usageByWalking_39 ⟨Nat.le_of_ble_eq_true rfl, Nat.le_of_ble_eq_true rfl⟩) (fun r9 w9 H locs hpost hC hS => ?_)
        obtain ⟨rfl, rfl⟩ := hpost
        refine qr_astore (lv' := [(6, va_rf (opA g (homeS S (j : Int)))), (5, .ref (g 5 (j : Int))), (0, .ref (g 0 0)), (1, .int (iI (d))), (2, .ref (g 4 d)), (3, .int (iI (usgN S d j))), (4, .int (iI ((j : Int))))]) hx hb dX3_usageByWalking_42 hl (by decide) rfl (fun ls hl => ?_)
        refine qr_aload hx hb dX3_usageByWalking_44 (lv_at hl 0 rfl) ?_
        refine qr_ifnull (r := opA g (homeS S (j : Int))) (tgt := 66) hx hb dX3_usageByWalking_46 (by decide) (fun c_46 => ?_) (fun c_46 => ?_)
        · skip
          have c_46 := opA_nil c_46
          refine lv_iinc (v := iI (((j : Int) + 1))) (lv' := [(4, .int (iI (((j : Int) + 1)))), (6, va_rf (opA g (homeS S (j : Int)))), (5, .ref (g 5 (j : Int))), (0, .ref (g 0 0)), (1, .int (iI (d))), (2, .ref (g 4 d)), (3, .int (iI (usgN S d j)))]) hx hb dX3_usageByWalking_66 hl (k := 6) rfl (iI_add _ _) (by decide) rfl (fun ls hl => ?_)
          refine lv_goto (tgt := 11) hx hb dX3_usageByWalking_69 (by decide) ?_
          have e9 : usgN S d (j + 1) = usgN S d j := by rw [usgN_step]; rw [if_neg (fun q => by have := hw.home (f := (j : Int)) (by omega) (by omega) q.1; omega)]; omega
          exact ih9 (j + 1) (by omega) (by omega) H locs hC hS ls (by rw [e9, show ((j + 1 : Nat) : Int) = (j : Int) + 1 from by omega]; exact (lv_sub hl [3, 4, 5, 6, 0] rfl))
        · skip
          have c_46 := opA_not c_46
          have hl : lv_has ls 7 [(6, .ref (g 4 (homeS S (j : Int)))), (5, .ref (g 5 (j : Int))), (0, .ref (g 0 0)), (1, .int (iI (d))), (2, .ref (g 4 d)), (3, .int (iI (usgN S d j))), (4, .int (iI ((j : Int))))] := by rw [opA_is c_46] at hl; exact hl
          have hho := hw.home (f := (j : Int)) (by omega) (by omega) (fun e => c_46 (home_nil e))
          refine lv_aload hx hb dX3_usageByWalking_49 (lv_at hl 0 rfl) ?_
          refine lv_aload_n hx hb dX3_usageByWalking_51 rfl (lv_at hl 4 rfl) ?_
          refine c_callI hS (va_runV (As := [.ref (g 4 d)]) (rest := []) ⟨hx, hb, hml, hown, hts⟩ (c_hasOnItsWay l D cO dz mi hw hR (homeS S (j : Int)) (by omega) (by omega) d (by omega) (by omega)) (cwV 1 hts gX3_usageByWalking_X1_hasOnItsWay rfl rfl rfl (by decide +kernel) ⟨Nat.le_of_ble_eq_true rfl, Nat.le_of_ble_eq_true rfl⟩) (c_preV hA hE hX hC hS (hR.k4 (by first | omega | assumption) (by first | omega | assumption)) (by decide) (by decide) rfl) rfl rfl hl.1 rfl (lv_room (Nat.le_of_ble_eq_true rfl)) dX3_usageByWalking_52 ⟨Nat.le_of_ble_eq_true rfl, Nat.le_of_ble_eq_true rfl⟩) (fun r9 w9 H locs hpost hC hS => ?_)
          obtain ⟨rfl, ⟨how, rfl⟩ | ⟨how, rfl⟩⟩ := hpost
          · skip
            refine h_if_eq (tgt := 66) hx hb (by omega) dX3_usageByWalking_55 (by decide) (fun c_55 => by exfalso; omega) (fun c_55 => ?_)
            refine lv_iload_n hx hb dX3_usageByWalking_58 rfl (lv_at hl 5 rfl) ?_
            refine lv_aload hx hb dX3_usageByWalking_59 (lv_at hl 1 rfl) ?_
            refine c_get (C := RX2) (T := TX2) (N := 6) hx hb hts hin_X2 hown hE hC (hR.k5 (by first | omega | assumption) (by first | omega | assumption)) (by decide) (by decide) rfl 2 (by decide) (hts (.fieldLink RX3 110 "HoldServer$StoredFile" "size" "I") (by decide +kernel)) rfl (v := .int (iI ((S.1 3 (j : Int))))) (congrArg (fun z => some (Value.int (iI z))) (hR.f (f := (j : Int)) (by first | omega | assumption) (by first | omega | assumption)).2.2.2.1) dX3_usageByWalking_61 ?_
            refine h_iadd hx hb dX3_usageByWalking_64 ?_
            refine lv_istore_n (lv' := [(3, .int (iI ((usgN S d j + (S.1 3 (j : Int)))))), (6, .ref (g 4 (homeS S (j : Int)))), (5, .ref (g 5 (j : Int))), (0, .ref (g 0 0)), (1, .int (iI (d))), (2, .ref (g 4 d)), (4, .int (iI ((j : Int))))]) hx hb dX3_usageByWalking_65 rfl hl (by decide) rfl (fun ls hl => ?_)
            refine lv_iinc (v := iI (((j : Int) + 1))) (lv' := [(4, .int (iI (((j : Int) + 1)))), (3, .int (iI ((usgN S d j + (S.1 3 (j : Int)))))), (6, .ref (g 4 (homeS S (j : Int)))), (5, .ref (g 5 (j : Int))), (0, .ref (g 0 0)), (1, .int (iI (d))), (2, .ref (g 4 d))]) hx hb dX3_usageByWalking_66 hl (k := 6) rfl (iI_add _ _) (by decide) rfl (fun ls hl => ?_)
            refine lv_goto (tgt := 11) hx hb dX3_usageByWalking_69 (by decide) ?_
            have e9 : usgN S d (j + 1) = (usgN S d j + (S.1 3 (j : Int))) := by rw [usgN_step]; rw [if_pos ⟨fun e => c_46 (home_nil e), how⟩]
            exact ih9 (j + 1) (by omega) (by omega) H locs hC hS ls (by rw [e9, show ((j + 1 : Nat) : Int) = (j : Int) + 1 from by omega]; exact (lv_sub hl [4, 5, 6, 1, 0] rfl))
          · skip
            refine h_if_eq (tgt := 66) hx hb (by omega) dX3_usageByWalking_55 (by decide) (fun c_55 => ?_) (fun c_55 => by exfalso; omega)
            refine lv_iinc (v := iI (((j : Int) + 1))) (lv' := [(4, .int (iI (((j : Int) + 1)))), (6, .ref (g 4 (homeS S (j : Int)))), (5, .ref (g 5 (j : Int))), (0, .ref (g 0 0)), (1, .int (iI (d))), (2, .ref (g 4 d)), (3, .int (iI (usgN S d j)))]) hx hb dX3_usageByWalking_66 hl (k := 6) rfl (iI_add _ _) (by decide) rfl (fun ls hl => ?_)
            refine lv_goto (tgt := 11) hx hb dX3_usageByWalking_69 (by decide) ?_
            have e9 : usgN S d (j + 1) = usgN S d j := by rw [usgN_step]; rw [if_neg (fun q => how q.2)]; omega
            exact ih9 (j + 1) (by omega) (by omega) H locs hC hS ls (by rw [e9, show ((j + 1 : Nat) : Int) = (j : Int) + 1 from by omega]; exact (lv_sub hl [3, 4, 5, 6, 0] rfl))
  exact lp11 ((S.1 11 1).toNat + 2) 0 (by omega) (by omega) _ _ hC hS ls (lv_sub hl [3, 4, 2, 1, 0] rfl)
