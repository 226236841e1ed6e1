set_option maxRecDepth 100000 in
set_option maxHeartbeats 4000000 in
theorem c_bringing (l : Launch) (D : va_G) (cO : ClassId) (dz mi : Nat) {A : Nat → Prop} {S : HdS} {w : CW} {g : Nat → Int → Nat} {T : Nat → Nat × Int} {n : Int} (hw : wf S n) (hR : RelC S w g T (usg S)) (hst : l.stackTraces = false) (f : Int) (h0 : 0 ≤ f) (h1 : f < S.1 11 1) (hne : S.2 f ≠ []) : cVX l yX3_startBringingBack wsX3_startBringingBack { frames := 6, cells := 1, slots := 6, locals := 90 } D cO dz mi A [.ref (g 0 0), .ref (g 5 f)] w (fun w9 => ¬ S.1 10 (S.1 2 f) < priceS S f ∧ RelC (s_bring S f) w9 g T (usg S)) (fun E => E = xISE ∧ S.1 10 (S.1 2 f) < priceS S f) 1 6 := by
  refine cVX_of (cc := cX3_startBringingBack) (maxL := 3)  (by decide) rfl (Nat.le_of_ble_eq_true rfl) ?_
  intro pp ee ss mm args below meth cc Q hx hb hml hown hts hA hC hE hX hS hto hlk hQ hret ls hl
  have hl : lv_has ls 3 [(0, .ref (g 0 0)), (1, .ref (g 5 f))] := hl
  have hin_X3 : ∀ w ∈ wsX30, w ∈ wsX3_startBringingBack := by decide +kernel
  have hin_X2 : ∀ w ∈ wsX20, w ∈ wsX3_startBringingBack := by decide +kernel
  have hin_X0 : ∀ w ∈ wsX00, w ∈ wsX3_startBringingBack := by decide +kernel
  have hnd := hw.nd
  have hnf := hw.nf
  have hdy := hw.day
  have hnf0 := hnf.1
  have hdp := hw.dep h0 h1
  have hco := hw.coi hdp.1 hdp.2
  have hsz := hw.siz h0 h1
  have hpr : 0 ≤ priceS S f ∧ priceS S f ≤ 101 := by unfold priceS; omega
  refine lv_aload_n hx hb dX3_startBringingBack_0 rfl (lv_at hl 1 rfl) ?_
  refine c_callI hS (va_runV (As := []) (rest := []) ⟨hx, hb, hml, hown, hts⟩ (c_price l D cO dz mi hw hR f (by omega) (by omega)) (cwV 0 hts gX3_startBringingBack_X2_costToBringBack rfl rfl rfl (by decide +kernel) ⟨Nat.le_of_ble_eq_true rfl, Nat.le_of_ble_eq_true rfl⟩) (c_preV hA hE hX hC hS (hR.k5 (by first | omega | assumption) (by first | omega | assumption)) (by decide) (by decide) rfl) rfl rfl hl.1 rfl (lv_room (Nat.le_of_ble_eq_true rfl)) dX3_startBringingBack_1 ⟨Nat.le_of_ble_eq_true rfl, Nat.le_of_ble_eq_true rfl⟩) (fun r9 w9 H locs hpost hC hS => ?_)
  obtain ⟨rfl, rfl⟩ := hpost
  refine lv_istore_n (lv' := [(2, .int (iI ((priceS S f)))), (0, .ref (g 0 0)), (1, .ref (g 5 f))]) hx hb dX3_startBringingBack_4 rfl hl (by decide) rfl (fun ls hl => ?_)
  refine lv_aload_n hx hb dX3_startBringingBack_5 rfl (lv_at hl 2 rfl) ?_
  refine c_get (C := RX2) (T := TX2) (N := 6) hx hb hts hin_X2 hown hE hC (hR.k5 (by first | omega | assumption) (by first | omega | assumption)) (by decide) (by decide) rfl 0 (by decide) (hts (.fieldLink RX3 121 "HoldServer$StoredFile" "owner" "LHoldServer$Department;") (by decide +kernel)) rfl (v := .ref (g 7 (S.1 2 f))) (congrArg (fun z => some (va_rf z)) (hR.f (f := f) (by first | omega | assumption) (by first | omega | assumption)).1) dX3_startBringingBack_6 ?_
  refine c_get (C := RX0) (T := TX0) (N := 2) hx hb hts hin_X0 hown hE hC (hR.k7 (by first | omega | assumption) (by first | omega | assumption)) (by decide) (by decide) rfl 1 (by decide) (hts (.fieldLink RX3 156 "HoldServer$Department" "coins" "I") (by decide +kernel)) rfl (v := .int (iI ((S.1 10 (S.1 2 f))))) (congrArg (fun z => some (Value.int (iI z))) (hR.p (q := (S.1 2 f)) (by first | omega | assumption) (by first | omega | assumption)).2.1) dX3_startBringingBack_9 ?_
  refine lv_iload_n hx hb dX3_startBringingBack_12 rfl (lv_at hl 0 rfl) ?_
  refine h_icmp_ge (tgt := 26) hx hb (by omega) (by omega) dX3_startBringingBack_13 (by decide) (fun c_13 => ?_) (fun c_13 => ?_)
  · skip
    refine lv_aload_n hx hb dX3_startBringingBack_26 rfl (lv_at hl 2 rfl) ?_
    refine c_get (C := RX2) (T := TX2) (N := 6) hx hb hts hin_X2 hown hE hC (hR.k5 (by first | omega | assumption) (by first | omega | assumption)) (by decide) (by decide) rfl 0 (by decide) (hts (.fieldLink RX3 121 "HoldServer$StoredFile" "owner" "LHoldServer$Department;") (by decide +kernel)) rfl (v := .ref (g 7 (S.1 2 f))) (congrArg (fun z => some (va_rf z)) (hR.f (f := f) (by first | omega | assumption) (by first | omega | assumption)).1) dX3_startBringingBack_27 ?_
    refine lv_dup hx hb dX3_startBringingBack_30 rfl ?_
    refine c_get (C := RX0) (T := TX0) (N := 2) hx hb hts hin_X0 hown hE hC (hR.k7 (by first | omega | assumption) (by first | omega | assumption)) (by decide) (by decide) rfl 1 (by decide) (hts (.fieldLink RX3 156 "HoldServer$Department" "coins" "I") (by decide +kernel)) rfl (v := .int (iI ((S.1 10 (S.1 2 f))))) (congrArg (fun z => some (Value.int (iI z))) (hR.p (q := (S.1 2 f)) (by first | omega | assumption) (by first | omega | assumption)).2.1) dX3_startBringingBack_31 ?_
    refine lv_iload_n hx hb dX3_startBringingBack_34 rfl (lv_at hl 0 rfl) ?_
    refine h_isub hx hb dX3_startBringingBack_35 ?_
    refine c_putI (C := RX0) (T := TX0) (N := 2) hx hb hts hin_X0 tyX0 tyX0_ok nmX0 hown hE hC hS (hR.k7 (by first | omega | assumption) (by first | omega | assumption)) (by decide) (by decide) rfl 1 (by decide) (hts (.fieldLink RX3 156 "HoldServer$Department" "coins" "I") (by decide +kernel)) rfl rfl (by decide +kernel) (z := ((S.1 10 (S.1 2 f)) - (priceS S f))) 11 (Nat.le_of_ble_eq_true rfl) (cs_11 _ _ _) dX3_startBringingBack_36 (fun H locs hC hS => ?_)
    have hR := hR.coin hnf0 (q := (S.1 2 f)) (v := ((S.1 10 (S.1 2 f)) - (priceS S f))) (by first | omega | assumption) (by first | omega | assumption)
    refine lv_aload_n hx hb dX3_startBringingBack_39 rfl (lv_at hl 2 rfl) ?_
    refine lv_aload_n hx hb dX3_startBringingBack_40 rfl (lv_at hl 1 rfl) ?_
    refine c_get (C := RX3) (T := TX3) (N := 4) hx hb hts hin_X3 hown hE hC hR.k0 (by decide) (by decide) rfl 3 (by decide) (hts (.fieldLink RX3 70 "HoldServer" "day" "I") (by decide +kernel)) rfl (v := .int (iI ((S.1 11 2)))) (congrArg (fun z => some (Value.int (iI z))) hR.day) dX3_startBringingBack_41 ?_
    refine lv_iconst (v := iI 2) hx hb dX3_startBringingBack_44 rfl ?_
    refine h_iadd hx hb dX3_startBringingBack_45 ?_
    refine c_putI (C := RX2) (T := TX2) (N := 6) hx hb hts hin_X2 tyX2 tyX2_ok nmX2 hown hE hC hS (hR.k5 (by first | omega | assumption) (by first | omega | assumption)) (by decide) (by decide) rfl 5 (by decide) (hts (.fieldLink RX3 125 "HoldServer$StoredFile" "usedOn" "I") (by decide +kernel)) rfl rfl (by decide +kernel) (z := ((S.1 11 2) + 2)) 35 (Nat.le_of_ble_eq_true rfl) (cs_35 _ _ _) dX3_startBringingBack_46 (fun H locs hC hS => ?_)
    have hR := hR.uon hnf0 (f := f) (v := ((S.1 11 2) + 2)) (x := (sset S 10 (S.1 2 f) ((S.1 10 (S.1 2 f)) - (priceS S f))).1 8 f) (y := S.1 11 2 + 2) h0 h1 (fun _ => by rw [if_neg (by omega)])
    rw [sset_same] at hR
    exact hret ((wF (wF w 11 (g 7 (S.1 2 f)) ((S.1 10 (S.1 2 f)) - (priceS S f))) 35 (g 5 f) ((S.1 11 2) + 2))) _ _ _ _ _ _ dX3_startBringingBack_49 hC hS (by omega) (by omega) ⟨by omega, hR⟩
  · skip
    exact x_throw (cls := xISE) (text := _) (is := 209) (ic := 51) hx hb hst (by first | exact Or.inl ⟨rfl, rfl, rfl⟩ | exact Or.inr (Or.inl ⟨rfl, rfl, rfl⟩) | exact Or.inr (Or.inr ⟨rfl, rfl, rfl⟩)) hown hts (by decide +kernel) xs_209 hX hC hS hQ (hl.1.trans hml.symm) dX3_startBringingBack_16 dX3_startBringingBack_19 dX3_startBringingBack_20 dX3_startBringingBack_22 dX3_startBringingBack_25 hto (Nat.le_of_ble_eq_true rfl) (Nat.le_of_ble_eq_true rfl) (Nat.le_of_ble_eq_true rfl) (Nat.le_of_ble_eq_true rfl) hlk ⟨rfl, by omega⟩ (by omega) (by omega)

set_option maxRecDepth 100000 in
set_option maxHeartbeats 4000000 in
theorem c_placeOf (l : Launch) (D : va_G) (cO : ClassId) (dz mi : Nat) {A : Nat → Prop} {S : HdS} {w : CW} {g : Nat → Int → Nat} {T : Nat → Nat × Int} {U : Int → Int} (hR : RelC S w g T U) (f : Int) (h0 : 0 ≤ f) (h1 : f < S.1 11 1) (hln : (S.2 f).length ≤ 12) (hlk0 : ∀ d ∈ S.2 f, 0 ≤ d ∧ d < S.1 11 0) (d : Int) (d0 : 0 ≤ d) (d1 : d < S.1 11 0) : cI l yX2_placeOfLinkTo wsX2_placeOfLinkTo { frames := 3, cells := 0, slots := 0, locals := 64 } D cO dz mi A [.ref (g 5 f), .ref (g 4 d)] w (fun r w9 => w = w9 ∧ (d ∉ S.2 f ∧ r = iI (-1) ∨ ∃ a : Nat, a < (S.2 f).length ∧ (S.2 f).getD a 0 = d ∧ r = iI (a : Int))) 0 0 := by
  refine cI_of (cc := cX2_placeOfLinkTo) (maxL := 3) (ty := .int) (by decide) rfl (Nat.le_of_ble_eq_true rfl) ?_
  intro pp ee ss mm args below meth cc Q hx hb hml hown hts hA hC hE hX hS hret ls hl
  have hl : lv_has ls 3 [(0, .ref (g 5 f)), (1, .ref (g 4 d))] := hl
  have hin_X2 : ∀ w ∈ wsX20, w ∈ wsX2_placeOfLinkTo := by decide +kernel
  refine lv_iconst (v := iI 0) hx hb dX2_placeOfLinkTo_0 rfl ?_
  refine lv_istore_n (lv' := [(2, .int (iI 0)), (0, .ref (g 5 f)), (1, .ref (g 4 d))]) hx hb dX2_placeOfLinkTo_1 rfl hl (by decide) rfl (fun ls hl => ?_)
  have lp2 : ∀ (n9 : Nat) (j : Nat), ((S.2 f).length : Int) + 1 - j < (n9 : Int) → (j ≤ (S.2 f).length) → (∀ i : Nat, i < j → (S.2 f).getD i 0 ≠ d) → ∀ (H : Heap) (locs : List Loc), cH D cO dz A w H → va_S A ss.heap H locs → ∀ (ls : Array Slot), lv_has ls 3 [(0, .ref (g 5 f)), (1, .ref (g 4 d)), (2, .int (iI ((j : Int))))] → W pp l ee { frames := 3, cells := 0, slots := 0, locals := 64 } ss mm args below meth cc H locs 0 0 Q (F0 mm 2 ls []) := by
    intro n9
    induction n9 with
    | zero => intro j hms hj hj2 H locs hC hS ls hl; exfalso; omega
    | succ n9 ih9 =>
      intro j hms hj hj2 H locs hC hS ls hl
      refine lv_iload_n hx hb dX2_placeOfLinkTo_2 rfl (lv_at hl 2 rfl) ?_
      refine lv_aload_n hx hb dX2_placeOfLinkTo_3 rfl (lv_at hl 0 rfl) ?_
      refine c_get (C := RX2) (T := TX2) (N := 6) hx hb hts hin_X2 hown hE hC (hR.k5 (by first | omega | assumption) (by first | omega | assumption)) (by decide) (by decide) rfl 1 (by decide) (hts (.fieldLink RX2 12 "HoldServer$StoredFile" "links" "Ljava/util/ArrayList;") (by decide +kernel)) rfl (v := .ref (g 6 f)) (congrArg (fun z => some (va_rf z)) (hR.f (f := f) (by first | omega | assumption) (by first | omega | assumption)).2.1) dX2_placeOfLinkTo_4 ?_
      refine c_callI hS (va_runV (As := []) (rest := [.int (iI ((j : Int)))]) ⟨hx, hb, hml, hown, hts⟩ (R_size6 l D cO dz mi hR (f := f) h0 h1) (cwV 0 hts gX2_placeOfLinkTo_Jx4a65c_size_8abf5 rfl rfl rfl (by decide +kernel) ⟨Nat.le_of_ble_eq_true rfl, Nat.le_of_ble_eq_true rfl⟩) (c_preL hA hE hX hC hS (hR.k6 (by first | omega | assumption) (by first | omega | assumption))) rfl rfl hl.1 rfl (lv_room (Nat.le_of_ble_eq_true rfl)) dX2_placeOfLinkTo_7 ⟨Nat.le_of_ble_eq_true rfl, Nat.le_of_ble_eq_true rfl⟩) (fun r9 w9 H locs hpost hC hS => ?_)
      obtain ⟨rfl, rfl⟩ := hpost
      refine h_icmp_ge (tgt := 33) hx hb (by omega) (by omega) dX2_placeOfLinkTo_10 (by decide) (fun c_10 => ?_) (fun c_10 => ?_)
      · skip
        refine lv_iconst (v := iI (-1)) hx hb dX2_placeOfLinkTo_33 rfl ?_
        exact hret ((-1)) (w) _ _ _ _ _ _ dX2_placeOfLinkTo_34 rfl hC hS (by omega) (by omega) ⟨rfl, Or.inl ⟨fun hm => by obtain ⟨a, ha, hb9⟩ := List.mem_iff_getElem.mp hm; exact hj2 a (by omega) (by rw [List.getD_eq_getElem?_getD, List.getElem?_eq_getElem ha]; exact hb9), rfl⟩⟩
      · skip
        refine lv_aload_n hx hb dX2_placeOfLinkTo_13 rfl (lv_at hl 0 rfl) ?_
        refine c_get (C := RX2) (T := TX2) (N := 6) hx hb hts hin_X2 hown hE hC (hR.k5 (by first | omega | assumption) (by first | omega | assumption)) (by decide) (by decide) rfl 1 (by decide) (hts (.fieldLink RX2 12 "HoldServer$StoredFile" "links" "Ljava/util/ArrayList;") (by decide +kernel)) rfl (v := .ref (g 6 f)) (congrArg (fun z => some (va_rf z)) (hR.f (f := f) (by first | omega | assumption) (by first | omega | assumption)).2.1) dX2_placeOfLinkTo_14 ?_
        refine lv_iload_n hx hb dX2_placeOfLinkTo_17 rfl (lv_at hl 2 rfl) ?_
        refine c_callQ hS (va_runV (As := [.int (iI ((j : Int)))]) (rest := []) ⟨hx, hb, hml, hown, hts⟩ (R_get6 l D cO dz mi hR (f := f) h0 h1 (by omega) (j : Int) (by omega) (by omega)) (cwV 1 hts gX2_placeOfLinkTo_Jx4a65c_get_915e3 rfl rfl rfl (by decide +kernel) ⟨Nat.le_of_ble_eq_true rfl, Nat.le_of_ble_eq_true rfl⟩) (c_preL hA hE hX hC hS (hR.k6 (by first | omega | assumption) (by first | omega | assumption))) rfl rfl hl.1 rfl (lv_room (Nat.le_of_ble_eq_true rfl)) dX2_placeOfLinkTo_18 ⟨Nat.le_of_ble_eq_true rfl, Nat.le_of_ble_eq_true rfl⟩) (fun r9 w9 H locs hpost hC hS => ?_)
        obtain ⟨rfl, rfl⟩ := hpost
        rw [show ((j : Int)).toNat = j from rfl]
        obtain ⟨d9, hd9⟩ : ∃ x, x = (S.2 f).getD j 0 := ⟨_, rfl⟩
        rw [← hd9]
        have hd9m := hlk0 d9 (getD_mem (x := (j : Int)) (by omega) (by omega) hd9.symm)
        refine lv_aload_n hx hb dX2_placeOfLinkTo_21 rfl (lv_at hl 1 rfl) ?_
        refine lv_acmp_ne (rx := some (g 4 d9)) (ry := some (g 4 d)) (tgt := 27) hx hb dX2_placeOfLinkTo_22 (by decide) (fun c_22 => ?_) (fun c_22 => ?_)
        · skip
          have c_22 : d9 ≠ d := fun e => c_22 (by rw [e])
          refine lv_iinc (v := iI (((j : Int) + 1))) (lv' := [(2, .int (iI (((j : Int) + 1)))), (0, .ref (g 5 f)), (1, .ref (g 4 d))]) hx hb dX2_placeOfLinkTo_27 hl (k := 2) rfl (iI_add _ _) (by decide) rfl (fun ls hl => ?_)
          refine lv_goto (tgt := 2) hx hb dX2_placeOfLinkTo_30 (by decide) ?_
          exact ih9 (j + 1) (by omega) (by omega) (fun i hi => by by_cases hij : i = j; (rw [hij, ← hd9]; exact c_22); exact hj2 i (by omega)) H locs hC hS ls (lv_sub hl [1, 2, 0] rfl)
        · skip
          have c_22 := (hR.iff4 hd9m.1 hd9m.2 d0 d1).mp (Option.some.inj c_22)
          refine lv_iload_n hx hb dX2_placeOfLinkTo_25 rfl (lv_at hl 2 rfl) ?_
          exact hret ((j : Int)) (w) _ _ _ _ _ _ dX2_placeOfLinkTo_26 rfl hC hS (by omega) (by omega) ⟨rfl, Or.inr ⟨j, by omega, by rw [← hd9]; exact c_22, rfl⟩⟩
  exact lp2 ((S.2 f).length + 2) 0 (by omega) (by omega) (fun i hi => absurd hi (Nat.not_lt_zero i)) _ _ hC hS ls (lv_sub hl [1, 2, 0] rfl)

set_option maxRecDepth 100000 in
set_option maxHeartbeats 4000000 in
theorem c_read (l : Launch) (D : va_G) (cO : ClassId) (dz mi : Nat) {A : Nat → Prop} {S : HdS} {w : CW} {g : Nat → Int → Nat} {T : Nat → Nat × Int} {n : Int} (hw : wf S n) (hR : RelC S w g T (usg S)) (hst : l.stackTraces = false) (f : Int) (rf : inQ f) : cIX l yX3_read wsX3_read { frames := 7, cells := 3, slots := 18, locals := 112 } D cO dz mi A [.ref (g 0 0), .int (iI (f))] w (fun r w9 => spC (g 0 0) (sp_read S f) r w9) (spE tb2 (sp_read S f)) 3 18 := by
  refine cIX_of (cc := cX3_read) (maxL := 3) (ty := .int) (by decide) rfl (Nat.le_of_ble_eq_true rfl) ?_
  intro pp ee ss mm args below meth cc Q hx hb hml hown hts hA hC hE hX hS hto hlk hQ hret ls hl
  have hl : lv_has ls 3 [(0, .ref (g 0 0)), (1, .int (iI (f)))] := hl
  have hin_X3 : ∀ w ∈ wsX30, w ∈ wsX3_read := by decide +kernel
  have hin_X2 : ∀ w ∈ wsX20, w ∈ wsX3_read := by decide +kernel
  have hnd := hw.nd
  have hnf := hw.nf
  have hdy := hw.day
  have hnf0 := hnf.1
  refine lv_aload_n hx hb dX3_read_0 rfl (lv_at hl 0 rfl) ?_
  refine lv_iload_n hx hb dX3_read_1 rfl (lv_at hl 1 rfl) ?_
  refine c_callQX hS (vx_runV (As := [.int (iI (f))]) (rest := []) ⟨hx, hb, hml, hown, hts⟩ (c_filNumbered l D cO dz mi hw hR hst f (by omega)) (cwV 1 hts gX3_read_X3_fileNumbered rfl rfl rfl (by decide +kernel) ⟨Nat.le_of_ble_eq_true rfl, Nat.le_of_ble_eq_true rfl⟩) (c_preV hA hE hX hC hS hR.k0 (by decide) (by decide) rfl) rfl rfl hl.1 rfl (lv_room (Nat.le_of_ble_eq_true rfl)) dX3_read_2 ⟨Nat.le_of_ble_eq_true rfl, Nat.le_of_ble_eq_true rfl⟩) hQ (fun E hx9 => by obtain ⟨rfl, hx9⟩ := hx9; exact spE_of (k := 1) (by unfold sp_read; exact iteC_pos hx9) (by decide)) hto hlk (by omega) (by omega) (fun r9 w9 H locs hpost hC hS => ?_)
  obtain ⟨rfl, rfl, hn0_2, hn1_2⟩ := hpost
  refine lv_astore_n (lv' := [(2, .ref (g 5 f)), (0, .ref (g 0 0)), (1, .int (iI (f)))]) hx hb dX3_read_5 rfl hl (by decide) rfl (fun ls hl => ?_)
  refine lv_aload_n hx hb dX3_read_6 rfl (lv_at hl 0 rfl) ?_
  refine c_callVX hS (vx_runS (As := [.ref (g 5 f)]) (rest := []) ⟨hx, hb, hml, hown, hts⟩ (c_requireNotGone l D cO dz mi hw hR hst f (by omega) (by omega)) (va_cwS 1 hts gX3_read_X3_requireNotGone rfl rfl rfl (by decide +kernel) ⟨Nat.le_of_ble_eq_true rfl, Nat.le_of_ble_eq_true rfl⟩) (c_preS hA hE hX hC hS) rfl rfl hl.1 rfl (lv_room (Nat.le_of_ble_eq_true rfl)) dX3_read_7 ⟨Nat.le_of_ble_eq_true rfl, Nat.le_of_ble_eq_true rfl⟩) hQ (fun E hx9 => by obtain ⟨rfl, hx9⟩ := hx9; exact spE_of (k := 2) (by unfold sp_read; rw [iteC_neg (fun z => z ⟨by omega, by omega⟩)]; exact iteC_pos hx9) (by decide)) hto hlk (by omega) (by omega) (fun w9 H locs hpost hC hS => ?_)
  obtain ⟨rfl, hne⟩ := hpost
  refine lv_aload_n hx hb dX3_read_10 rfl (lv_at hl 0 rfl) ?_
  refine lv_aload_n hx hb dX3_read_11 rfl (lv_at hl 1 rfl) ?_
  refine c_get (C := RX3) (T := TX3) (N := 4) hx hb hts hin_X3 hown hE hC hR.k0 (by decide) (by decide) rfl 3 (by decide) (hts (.fieldLink RX3 70 "HoldServer" "day" "I") (by decide +kernel)) rfl (v := .int (iI ((S.1 11 2)))) (congrArg (fun z => some (Value.int (iI z))) hR.day) dX3_read_12 ?_
  have h0 := hn0_2
  have h1 := hn1_2
  have htr := tier_in (S := S) f
  have htu := tier_uo hw h0 h1 hne
  have hba := hw.bac h0 h1
  have huo := uo_in hw h0 h1
  refine c_callI hS (va_runV (As := [.int (iI ((S.1 11 2)))]) (rest := []) ⟨hx, hb, hml, hown, hts⟩ (c_tierOn l D cO dz mi hw hR f (by omega) (by omega)) (cwV 1 hts gX3_read_X2_tierOn rfl rfl rfl (by decide +kernel) ⟨Nat.le_of_ble_eq_true rfl, Nat.le_of_ble_eq_true rfl⟩) (c_preV hA hE hX hC hS (hR.k5 (by first | omega | assumption) (by first | omega | assumption)) (by decide) (by decide) rfl) rfl rfl hl.1 rfl (lv_room (Nat.le_of_ble_eq_true rfl)) dX3_read_15 ⟨Nat.le_of_ble_eq_true rfl, Nat.le_of_ble_eq_true rfl⟩) (fun r9 w9 H locs hpost hC hS => ?_)
  obtain ⟨rfl, rfl⟩ := hpost
  refine lv_iconst (v := iI 2) hx hb dX3_read_18 rfl ?_
  refine h_icmp_eq (tgt := 33) hx hb (by omega) (by omega) dX3_read_19 (by decide) (fun c_19 => ?_) (fun c_19 => ?_)
  · skip
    refine lv_aload_n hx hb dX3_read_33 rfl (lv_at hl 0 rfl) ?_
    refine lv_aload_n hx hb dX3_read_34 rfl (lv_at hl 1 rfl) ?_
    refine c_get (C := RX3) (T := TX3) (N := 4) hx hb hts hin_X3 hown hE hC hR.k0 (by decide) (by decide) rfl 3 (by decide) (hts (.fieldLink RX3 70 "HoldServer" "day" "I") (by decide +kernel)) rfl (v := .int (iI ((S.1 11 2)))) (congrArg (fun z => some (Value.int (iI z))) hR.day) dX3_read_35 ?_
    refine c_callI hS (va_runV (As := [.int (iI ((S.1 11 2)))]) (rest := []) ⟨hx, hb, hml, hown, hts⟩ (c_coming l D cO dz mi hw hR f (by omega) (by omega) hne) (cwV 1 hts gX3_read_X2_isComingBackOn rfl rfl rfl (by decide +kernel) ⟨Nat.le_of_ble_eq_true rfl, Nat.le_of_ble_eq_true rfl⟩) (c_preV hA hE hX hC hS (hR.k5 (by first | omega | assumption) (by first | omega | assumption)) (by decide) (by decide) rfl) rfl rfl hl.1 rfl (lv_room (Nat.le_of_ble_eq_true rfl)) dX3_read_38 ⟨Nat.le_of_ble_eq_true rfl, Nat.le_of_ble_eq_true rfl⟩) (fun r9 w9 H locs hpost hC hS => ?_)
    obtain ⟨rfl, ⟨hcb, rfl⟩ | ⟨hcb, rfl⟩⟩ := hpost
    · skip
      refine h_if_ne (tgt := 49) hx hb (by omega) dX3_read_41 (by decide) (fun c_41 => ?_) (fun c_41 => by exfalso; omega)
      have hb9 : S.1 9 f ≠ -1 := fun e => by have hus := hw.usd h0 h1; unfold uoS at hcb; rw [if_pos e] at hcb; omega
      refine lv_aload_n hx hb dX3_read_49 rfl (lv_at hl 0 rfl) ?_
      refine c_get (C := RX2) (T := TX2) (N := 6) hx hb hts hin_X2 hown hE hC (hR.k5 (by first | omega | assumption) (by first | omega | assumption)) (by decide) (by decide) rfl 5 (by decide) (hts (.fieldLink RX3 125 "HoldServer$StoredFile" "usedOn" "I") (by decide +kernel)) rfl (v := .int (iI ((uoS S f)))) (congrArg (fun z => some (Value.int (iI z))) ((hR.f (f := f) (by first | omega | assumption) (by first | omega | assumption)).2.2.2.2.2.2 hne)) dX3_read_50 ?_
      refine lv_aload_n hx hb dX3_read_53 rfl (lv_at hl 1 rfl) ?_
      refine c_get (C := RX3) (T := TX3) (N := 4) hx hb hts hin_X3 hown hE hC hR.k0 (by decide) (by decide) rfl 3 (by decide) (hts (.fieldLink RX3 70 "HoldServer" "day" "I") (by decide +kernel)) rfl (v := .int (iI ((S.1 11 2)))) (congrArg (fun z => some (Value.int (iI z))) hR.day) dX3_read_54 ?_
      refine h_isub hx hb dX3_read_57 ?_
      exact hret (((uoS S f) - (S.1 11 2))) (w) _ _ _ _ _ _ dX3_read_58 rfl hC hS (by omega) (by omega) (by rw [show ((uoS S f) - (S.1 11 2)) = S.1 9 f - S.1 11 2 from by unfold uoS; rw [if_neg hb9]]; exact spC_of (g := g) (T := T) (by unfold sp_read; rw [iteC_neg (fun z => z ⟨by omega, by omega⟩), iteC_neg hne, iteC_neg (by omega), iteC_neg hb9]) hR)
    · skip
      refine h_if_ne (tgt := 49) hx hb (by omega) dX3_read_41 (by decide) (fun c_41 => by exfalso; omega) (fun c_41 => ?_)
      have hb9 : S.1 9 f = -1 := by rcases hba with q | q; exact q; exfalso; apply hcb; unfold uoS; rw [if_neg (by omega)]; omega
      refine lv_aload_n hx hb dX3_read_44 rfl (lv_at hl 1 rfl) ?_
      refine lv_aload_n hx hb dX3_read_45 rfl (lv_at hl 0 rfl) ?_
      refine c_callVX hS (vx_runV (As := [.ref (g 5 f)]) (rest := []) ⟨hx, hb, hml, hown, hts⟩ (c_bringing l D cO dz mi hw hR hst f (by omega) (by omega) hne) (cwV 1 hts gX3_read_X3_startBringingBack rfl rfl rfl (by decide +kernel) ⟨Nat.le_of_ble_eq_true rfl, Nat.le_of_ble_eq_true rfl⟩) (c_preV hA hE hX hC hS hR.k0 (by decide) (by decide) rfl) rfl rfl hl.1 rfl (lv_room (Nat.le_of_ble_eq_true rfl)) dX3_read_46 ⟨Nat.le_of_ble_eq_true rfl, Nat.le_of_ble_eq_true rfl⟩) hQ (fun E hx9 => by obtain ⟨rfl, hx9⟩ := hx9; exact spE_of (k := 2) (by unfold sp_read; rw [iteC_neg (fun z => z ⟨by omega, by omega⟩), iteC_neg hne, iteC_neg (by omega), iteC_pos hb9]; exact iteC_pos hx9) (by decide)) hto hlk (by omega) (by omega) (fun w9 H locs hpost hC hS => ?_)
      obtain ⟨hnb, hR⟩ := hpost
      refine lv_aload_n hx hb dX3_read_49 rfl (lv_at hl 0 rfl) ?_
      refine c_get (C := RX2) (T := TX2) (N := 6) hx hb hts hin_X2 hown hE hC (hR.k5 (by first | omega | assumption) (by first | omega | assumption)) (by decide) (by decide) rfl 5 (by decide) (hts (.fieldLink RX3 125 "HoldServer$StoredFile" "usedOn" "I") (by decide +kernel)) rfl (v := .int (iI ((uoS (s_bring S f) f)))) (congrArg (fun z => some (Value.int (iI z))) ((hR.f (f := f) (by first | omega | assumption) (by first | omega | assumption)).2.2.2.2.2.2 hne)) dX3_read_50 ?_
      refine lv_aload_n hx hb dX3_read_53 rfl (lv_at hl 1 rfl) ?_
      refine c_get (C := RX3) (T := TX3) (N := 4) hx hb hts hin_X3 hown hE hC hR.k0 (by decide) (by decide) rfl 3 (by decide) (hts (.fieldLink RX3 70 "HoldServer" "day" "I") (by decide +kernel)) rfl (v := .int (iI ((S.1 11 2)))) (congrArg (fun z => some (Value.int (iI z))) hR.day) dX3_read_54 ?_
      refine h_isub hx hb dX3_read_57 ?_
      exact hret (((uoS (s_bring S f) f) - (S.1 11 2))) (w9) _ _ _ _ _ _ dX3_read_58 rfl hC hS (by omega) (by omega) (by rw [show ((uoS (s_bring S f) f) - (S.1 11 2)) = 2 from by rw [uoS_bring hw]; omega]; exact spC_of (g := g) (T := T) (by unfold sp_read; rw [iteC_neg (fun z => z ⟨by omega, by omega⟩), iteC_neg hne, iteC_neg (by omega), iteC_pos hb9, iteC_neg hnb]) (hR.usgEq (usg_bring S f).symm))
  · skip
    have hb9 : S.1 9 f = -1 := by rcases hba with q | q; exact q; exfalso; apply c_19; rw [htu, if_pos]; left; unfold uoS; rw [if_neg (by omega)]; omega
    refine lv_aload_n hx hb dX3_read_22 rfl (lv_at hl 0 rfl) ?_
    refine lv_aload_n hx hb dX3_read_23 rfl (lv_at hl 1 rfl) ?_
    refine c_get (C := RX3) (T := TX3) (N := 4) hx hb hts hin_X3 hown hE hC hR.k0 (by decide) (by decide) rfl 3 (by decide) (hts (.fieldLink RX3 70 "HoldServer" "day" "I") (by decide +kernel)) rfl (v := .int (iI ((S.1 11 2)))) (congrArg (fun z => some (Value.int (iI z))) hR.day) dX3_read_24 ?_
    refine c_putI (C := RX2) (T := TX2) (N := 6) hx hb hts hin_X2 tyX2 tyX2_ok nmX2 hown hE hC hS (hR.k5 (by first | omega | assumption) (by first | omega | assumption)) (by decide) (by decide) rfl 5 (by decide) (hts (.fieldLink RX3 125 "HoldServer$StoredFile" "usedOn" "I") (by decide +kernel)) rfl rfl (by decide +kernel) (z := (S.1 11 2)) 35 (Nat.le_of_ble_eq_true rfl) (cs_35 _ _ _) dX3_read_27 (fun H locs hC hS => ?_)
    have hR := hR.uon hnf0 (f := f) (v := (S.1 11 2)) (x := (S.1 11 2)) (y := (sset S 8 f (S.1 11 2)).1 9 f) h0 h1 (fun _ => by rw [sset_off (by omega), if_pos hb9])
    rw [sset_same] at hR
    refine lv_goto (tgt := 49) hx hb dX3_read_30 (by decide) ?_
    refine lv_aload_n hx hb dX3_read_49 rfl (lv_at hl 0 rfl) ?_
    refine c_get (C := RX2) (T := TX2) (N := 6) hx hb hts hin_X2 hown hE hC (hR.k5 (by first | omega | assumption) (by first | omega | assumption)) (by decide) (by decide) rfl 5 (by decide) (hts (.fieldLink RX3 125 "HoldServer$StoredFile" "usedOn" "I") (by decide +kernel)) rfl (v := .int (iI ((uoS (sset S 8 f (S.1 11 2)) f)))) (congrArg (fun z => some (Value.int (iI z))) ((hR.f (f := f) (by first | omega | assumption) (by first | omega | assumption)).2.2.2.2.2.2 hne)) dX3_read_50 ?_
    refine lv_aload_n hx hb dX3_read_53 rfl (lv_at hl 1 rfl) ?_
    refine c_get (C := RX3) (T := TX3) (N := 4) hx hb hts hin_X3 hown hE hC hR.k0 (by decide) (by decide) rfl 3 (by decide) (hts (.fieldLink RX3 70 "HoldServer" "day" "I") (by decide +kernel)) rfl (v := .int (iI ((S.1 11 2)))) (congrArg (fun z => some (Value.int (iI z))) hR.day) dX3_read_54 ?_
    refine h_isub hx hb dX3_read_57 ?_
    exact hret (((uoS (sset S 8 f (S.1 11 2)) f) - (S.1 11 2))) ((wF w 35 (g 5 f) (S.1 11 2))) _ _ _ _ _ _ dX3_read_58 rfl hC hS (by omega) (by omega) (by rw [show ((uoS (sset S 8 f (S.1 11 2)) f) - (S.1 11 2)) = 0 from by rw [uoS_8, if_pos hb9]; omega]; exact spC_of (g := g) (T := T) (by unfold sp_read; rw [iteC_neg (fun z => z ⟨by omega, by omega⟩), iteC_neg hne, iteC_pos (by omega)]) (hR.usgEq (usg_off (by omega) (by omega) (by omega)).symm))
