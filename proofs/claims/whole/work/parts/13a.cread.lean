set_option maxRecDepth 100000 in
set_option maxHeartbeats 4000000 in
theorem c_isGone (l : Launch) (D : va_G) (cO : ClassId) (dz mi : Nat) {A : Nat → Prop} {S : HdS} {w : CW} {g : Nat → Int → Nat} {T : Nat → Nat × Int} {U : Int → Int} (hR : RelC S w g T U) (f : Int) (h0 : 0 ≤ f) (h1 : f < S.1 11 1) (hln : (S.2 f).length ≤ 12) : cI l yX2_isGone wsX2_isGone { frames := 1, cells := 0, slots := 0, locals := 20 } D cO dz mi A [.ref (g 5 f)] w (fun r w9 => w = w9 ∧ ((S.2 f = []) ∧ r = iI 1 ∨ (S.2 f ≠ []) ∧ r = iI 0)) 0 0 := by
  refine cI_of (cc := cX2_isGone) (maxL := 1) (ty := .boolean) (by decide) rfl (Nat.le_of_ble_eq_true rfl) ?_
  intro pp ee ss mm args below meth cc Q hx hb hml hown hts hA hC hE hX hS hret ls hl
  have hl : lv_has ls 1 [(0, .ref (g 5 f))] := hl
  have hin_X2 : ∀ w ∈ wsX20, w ∈ wsX2_isGone := by decide +kernel
  refine lv_aload_n hx hb dX2_isGone_0 rfl (lv_at hl 0 rfl) ?_
  refine c_get (C := RX2) (T := TX2) (N := 6) hx hb hts hin_X2 hown hE hC (hR.k5 (by omega) (by omega)) (by decide) (by decide) rfl 1 (by decide) (hts (.fieldLink RX2 12 "HoldServer$StoredFile" "links" "Ljava/util/ArrayList;") (by decide +kernel)) rfl (v := .ref (g 6 f)) (congrArg (fun z => some (va_rf z)) (hR.f (f := f) (by omega) (by omega)).2.1) dX2_isGone_1 ?_
  refine c_callI hS (va_runV (As := []) (rest := []) ⟨hx, hb, hml, hown, hts⟩ (R_empty6 l D cO dz mi hR (f := f) (by omega) (by omega) (by omega)) (cwV 0 hts gX2_isGone_Jx4a65c_isEmpty_aae02 rfl rfl rfl (by decide +kernel) ⟨Nat.le_of_ble_eq_true rfl, Nat.le_of_ble_eq_true rfl⟩) (c_preL hA hE hX hC hS (hR.k6 (by omega) (by omega))) rfl rfl hl.1 rfl (lv_room (Nat.le_of_ble_eq_true rfl)) dX2_isGone_4 ⟨Nat.le_of_ble_eq_true rfl, Nat.le_of_ble_eq_true rfl⟩) (fun r9 w9 H locs hpost hC hS => ?_)
  obtain ⟨rfl, ⟨hc4, rfl⟩ | ⟨hc4, rfl⟩⟩ := hpost
  · skip
    exact hret (1) (w) _ _ _ _ _ _ dX2_isGone_7 (by decide) hC hS (by omega) (by omega) ⟨rfl, Or.inl ⟨hc4, rfl⟩⟩
  · skip
    exact hret (0) (w) _ _ _ _ _ _ dX2_isGone_7 (by decide) hC hS (by omega) (by omega) ⟨rfl, Or.inr ⟨hc4, rfl⟩⟩

set_option maxRecDepth 100000 in
set_option maxHeartbeats 4000000 in
theorem c_firstLink (l : Launch) (D : va_G) (cO : ClassId) (dz mi : Nat) {A : Nat → Prop} {S : HdS} {w : CW} {g : Nat → Int → Nat} {T : Nat → Nat × Int} {U : Int → Int} (hR : RelC S w g T U) (f : Int) (h0 : 0 ≤ f) (h1 : f < S.1 11 1) (hln : (S.2 f).length ≤ 12) (hlk0 : ∀ d ∈ S.2 f, 0 ≤ d ∧ d < S.1 11 0) : cQ l yX2_firstLink wsX2_firstLink { frames := 3, cells := 0, slots := 0, locals := 64 } D cO dz mi A [.ref (g 5 f)] w (fun r w9 => w = w9 ∧ r = opA g (homeS S f)) 0 0 := by
  refine cQ_of (cc := cX2_firstLink) (maxL := 1) (ty := (.object "HoldServer$Directory")) (by decide) rfl (Nat.le_of_ble_eq_true rfl) (Or.inl ⟨_, rfl⟩) ?_
  intro pp ee ss mm args below meth cc Q hx hb hml hown hts hA hC hE hX hS hret ls hl
  have hl : lv_has ls 1 [(0, .ref (g 5 f))] := hl
  have hin_X2 : ∀ w ∈ wsX20, w ∈ wsX2_firstLink := by decide +kernel
  refine lv_aload_n hx hb dX2_firstLink_0 rfl (lv_at hl 0 rfl) ?_
  refine c_get (C := RX2) (T := TX2) (N := 6) hx hb hts hin_X2 hown hE hC (hR.k5 (by omega) (by omega)) (by decide) (by decide) rfl 1 (by decide) (hts (.fieldLink RX2 12 "HoldServer$StoredFile" "links" "Ljava/util/ArrayList;") (by decide +kernel)) rfl (v := .ref (g 6 f)) (congrArg (fun z => some (va_rf z)) (hR.f (f := f) (by omega) (by omega)).2.1) dX2_firstLink_1 ?_
  refine c_callI hS (va_runV (As := []) (rest := []) ⟨hx, hb, hml, hown, hts⟩ (R_empty6 l D cO dz mi hR (f := f) (by omega) (by omega) (by omega)) (cwV 0 hts gX2_firstLink_Jx4a65c_isEmpty_aae02 rfl rfl rfl (by decide +kernel) ⟨Nat.le_of_ble_eq_true rfl, Nat.le_of_ble_eq_true rfl⟩) (c_preL hA hE hX hC hS (hR.k6 (by omega) (by omega))) rfl rfl hl.1 rfl (lv_room (Nat.le_of_ble_eq_true rfl)) dX2_firstLink_4 ⟨Nat.le_of_ble_eq_true rfl, Nat.le_of_ble_eq_true rfl⟩) (fun r9 w9 H locs hpost hC hS => ?_)
  obtain ⟨rfl, ⟨hc4, rfl⟩ | ⟨hc4, rfl⟩⟩ := hpost
  · skip
    refine h_if_eq (tgt := 14) hx hb (by omega) dX2_firstLink_7 (by decide) (fun c_7 => by exfalso; omega) (fun c_7 => ?_)
    refine lv_null hx hb dX2_firstLink_10 ?_
    refine lv_goto (tgt := 25) hx hb dX2_firstLink_11 (by decide) ?_
    exact hret (none) (w) _ _ _ _ _ _ dX2_firstLink_25 hC hS (by omega) (by omega) ⟨rfl, (by rw [home_nil hc4, opA, if_pos rfl])⟩
  · skip
    refine h_if_eq (tgt := 14) hx hb (by omega) dX2_firstLink_7 (by decide) (fun c_7 => ?_) (fun c_7 => by exfalso; omega)
    have hpos : 0 < (S.2 f).length := List.length_pos_iff.mpr hc4
    have hho := hlk0 _ (home_mem hc4)
    refine lv_aload_n hx hb dX2_firstLink_14 rfl (lv_at hl 0 rfl) ?_
    refine c_get (C := RX2) (T := TX2) (N := 6) hx hb hts hin_X2 hown hE hC (hR.k5 (by omega) (by omega)) (by decide) (by decide) rfl 1 (by decide) (hts (.fieldLink RX2 12 "HoldServer$StoredFile" "links" "Ljava/util/ArrayList;") (by decide +kernel)) rfl (v := .ref (g 6 f)) (congrArg (fun z => some (va_rf z)) (hR.f (f := f) (by omega) (by omega)).2.1) dX2_firstLink_15 ?_
    refine lv_iconst (v := iI 0) hx hb dX2_firstLink_18 rfl ?_
    refine c_callQ hS (va_runV (As := [.int (iI 0)]) (rest := []) ⟨hx, hb, hml, hown, hts⟩ (R_get6 l D cO dz mi hR (f := f) (by omega) (by omega) (by omega) 0 (by omega) (by omega)) (cwV 1 hts gX2_firstLink_Jx4a65c_get_915e3 rfl rfl rfl (by decide +kernel) ⟨Nat.le_of_ble_eq_true rfl, Nat.le_of_ble_eq_true rfl⟩) (c_preL hA hE hX hC hS (hR.k6 (by omega) (by omega))) rfl rfl hl.1 rfl (lv_room (Nat.le_of_ble_eq_true rfl)) dX2_firstLink_19 ⟨Nat.le_of_ble_eq_true rfl, Nat.le_of_ble_eq_true rfl⟩) (fun r9 w9 H locs hpost hC hS => ?_)
    obtain ⟨rfl, rfl⟩ := hpost
    rw [home_get hc4]
    refine c_castT (r := (RX1, TX1, 4)) hx hb hown (hts (.classLink RX2 37 RX1) (by decide +kernel)) hE hC (hR.k4 (by omega) (by omega)) (by decide) (by decide) rfl dX2_firstLink_22 ?_
    exact hret (some (g 4 (homeS S f))) (w) _ _ _ _ _ _ dX2_firstLink_25 hC hS (by omega) (by omega) ⟨rfl, (opA_is (by omega)).symm⟩

set_option maxRecDepth 100000 in
set_option maxHeartbeats 4000000 in
theorem c_coming (l : Launch) (D : va_G) (cO : ClassId) (dz mi : Nat) {A : Nat → Prop} {S : HdS} {w : CW} {g : Nat → Int → Nat} {T : Nat → Nat × Int} {U : Int → Int} {n : Int} (hw : wf S n) (hR : RelC S w g T U) (f : Int) (h0 : 0 ≤ f) (h1 : f < S.1 11 1) (hne : S.2 f ≠ []) : cI l yX2_isComingBackOn wsX2_isComingBackOn { frames := 0, cells := 0, slots := 0, locals := 0 } D cO dz mi A [.ref (g 5 f), .int (iI ((S.1 11 2)))] w (fun r w9 => w = w9 ∧ ((S.1 11 2 < uoS S f) ∧ r = iI 1 ∨ (¬ S.1 11 2 < uoS S f) ∧ r = iI 0)) 0 0 := by
  refine cI_of (cc := cX2_isComingBackOn) (maxL := 2) (ty := .boolean) (by decide) rfl (Nat.le_of_ble_eq_true rfl) ?_
  intro pp ee ss mm args below meth cc Q hx hb hml hown hts hA hC hE hX hS hret ls hl
  have hl : lv_has ls 2 [(0, .ref (g 5 f)), (1, .int (iI ((S.1 11 2))))] := hl
  have hin_X2 : ∀ w ∈ wsX20, w ∈ wsX2_isComingBackOn := by decide +kernel
  have hnd := hw.nd
  have hnf := hw.nf
  have hdy := hw.day
  have hnf0 := hnf.1
  have huo := uo_in hw h0 h1
  refine lv_aload_n hx hb dX2_isComingBackOn_0 rfl (lv_at hl 0 rfl) ?_
  refine c_get (C := RX2) (T := TX2) (N := 6) hx hb hts hin_X2 hown hE hC (hR.k5 (by omega) (by omega)) (by decide) (by decide) rfl 5 (by decide) (hts (.fieldLink RX2 26 "HoldServer$StoredFile" "usedOn" "I") (by decide +kernel)) rfl (v := .int (iI ((uoS S f)))) (congrArg (fun z => some (Value.int (iI z))) ((hR.f (f := f) (by omega) (by omega)).2.2.2.2.2.2 hne)) dX2_isComingBackOn_1 ?_
  refine lv_iload_n hx hb dX2_isComingBackOn_4 rfl (lv_at hl 1 rfl) ?_
  refine h_icmp_le (tgt := 12) hx hb (by omega) (by omega) dX2_isComingBackOn_5 (by decide) (fun c_5 => ?_) (fun c_5 => ?_)
  · skip
    refine lv_iconst (v := iI 0) hx hb dX2_isComingBackOn_12 rfl ?_
    exact hret (0) (w) _ _ _ _ _ _ dX2_isComingBackOn_13 (by decide) hC hS (by omega) (by omega) ⟨rfl, Or.inr ⟨by omega, rfl⟩⟩
  · skip
    refine lv_iconst (v := iI 1) hx hb dX2_isComingBackOn_8 rfl ?_
    refine lv_goto (tgt := 13) hx hb dX2_isComingBackOn_9 (by decide) ?_
    exact hret (1) (w) _ _ _ _ _ _ dX2_isComingBackOn_13 (by decide) hC hS (by omega) (by omega) ⟨rfl, Or.inl ⟨by omega, rfl⟩⟩

set_option maxRecDepth 100000 in
set_option maxHeartbeats 4000000 in
theorem c_price (l : Launch) (D : va_G) (cO : ClassId) (dz mi : Nat) {A : Nat → Prop} {S : HdS} {w : CW} {g : Nat → Int → Nat} {T : Nat → Nat × Int} {U : Int → Int} {n : Int} (hw : wf S n) (hR : RelC S w g T U) (f : Int) (h0 : 0 ≤ f) (h1 : f < S.1 11 1)  : cI l yX2_costToBringBack wsX2_costToBringBack { frames := 0, cells := 0, slots := 0, locals := 0 } D cO dz mi A [.ref (g 5 f)] w (fun r w9 => w = w9 ∧ r = iI (priceS S f)) 0 0 := by
  refine cI_of (cc := cX2_costToBringBack) (maxL := 1) (ty := .int) (by decide) rfl (Nat.le_of_ble_eq_true rfl) ?_
  intro pp ee ss mm args below meth cc Q hx hb hml hown hts hA hC hE hX hS hret ls hl
  have hl : lv_has ls 1 [(0, .ref (g 5 f))] := hl
  have hin_X2 : ∀ w ∈ wsX20, w ∈ wsX2_costToBringBack := by decide +kernel
  have hnd := hw.nd
  have hnf := hw.nf
  have hdy := hw.day
  have hnf0 := hnf.1
  have hsz := hw.siz h0 h1
  refine lv_aload_n hx hb dX2_costToBringBack_0 rfl (lv_at hl 0 rfl) ?_
  refine c_get (C := RX2) (T := TX2) (N := 6) hx hb hts hin_X2 hown hE hC (hR.k5 (by omega) (by omega)) (by decide) (by decide) rfl 2 (by decide) (hts (.fieldLink RX2 22 "HoldServer$StoredFile" "size" "I") (by decide +kernel)) rfl (v := .int (iI ((S.1 3 f)))) (congrArg (fun z => some (Value.int (iI z))) (hR.f (f := f) (by omega) (by omega)).2.2.2.1) dX2_costToBringBack_1 ?_
  refine lv_bipush (v := iI 10) hx hb dX2_costToBringBack_4 (by decide) ?_
  refine h_iadd hx hb dX2_costToBringBack_6 ?_
  refine lv_iconst (v := iI 1) hx hb dX2_costToBringBack_7 rfl ?_
  refine h_isub hx hb dX2_costToBringBack_8 ?_
  refine lv_bipush (v := iI 10) hx hb dX2_costToBringBack_9 (by decide) ?_
  refine h_idiv hx hb (by omega) (by omega) (by omega) (by omega) dX2_costToBringBack_11 ?_
  exact hret (((((S.1 3 f) + 10) - 1) / 10)) (w) _ _ _ _ _ _ dX2_costToBringBack_12 rfl hC hS (by omega) (by omega) ⟨rfl, by unfold priceS; congr 1; omega⟩

set_option maxRecDepth 100000 in
set_option maxHeartbeats 4000000 in
theorem c_tierOn (l : Launch) (D : va_G) (cO : ClassId) (dz mi : Nat) {A : Nat → Prop} {S : HdS} {w : CW} {g : Nat → Int → Nat} {T : Nat → Nat × Int} {U : Int → Int} {n : Int} (hw : wf S n) (hR : RelC S w g T U) (f : Int) (h0 : 0 ≤ f) (h1 : f < S.1 11 1)  : cI l yX2_tierOn wsX2_tierOn { frames := 2, cells := 0, slots := 0, locals := 40 } D cO dz mi A [.ref (g 5 f), .int (iI ((S.1 11 2)))] w (fun r w9 => w = w9 ∧ r = iI (tierS S f)) 0 0 := by
  refine cI_of (cc := cX2_tierOn) (maxL := 3) (ty := .int) (by decide) rfl (Nat.le_of_ble_eq_true rfl) ?_
  intro pp ee ss mm args below meth cc Q hx hb hml hown hts hA hC hE hX hS hret ls hl
  have hl : lv_has ls 3 [(0, .ref (g 5 f)), (1, .int (iI ((S.1 11 2))))] := hl
  have hin_X2 : ∀ w ∈ wsX20, w ∈ wsX2_tierOn := by decide +kernel
  have hnd := hw.nd
  have hnf := hw.nf
  have hdy := hw.day
  have hnf0 := hnf.1
  have huo := uo_in hw h0 h1
  have hln := hw.len h0 h1
  refine lv_aload_n hx hb dX2_tierOn_0 rfl (lv_at hl 0 rfl) ?_
  refine c_callI hS (va_runV (As := []) (rest := []) ⟨hx, hb, hml, hown, hts⟩ (c_isGone l D cO dz mi hR f (by omega) (by omega) (by omega)) (cwV 0 hts gX2_tierOn_X2_isGone rfl rfl rfl (by decide +kernel) ⟨Nat.le_of_ble_eq_true rfl, Nat.le_of_ble_eq_true rfl⟩) (c_preV hA hE hX hC hS (hR.k5 (by omega) (by omega)) (by decide) (by decide) rfl) rfl rfl hl.1 rfl (lv_room (Nat.le_of_ble_eq_true rfl)) dX2_tierOn_1 ⟨Nat.le_of_ble_eq_true rfl, Nat.le_of_ble_eq_true rfl⟩) (fun r9 w9 H locs hpost hC hS => ?_)
  obtain ⟨rfl, ⟨hne, rfl⟩ | ⟨hne, rfl⟩⟩ := hpost
  · skip
    refine h_if_eq (tgt := 9) hx hb (by omega) dX2_tierOn_4 (by decide) (fun c_4 => by exfalso; omega) (fun c_4 => ?_)
    refine lv_iconst (v := iI (-1)) hx hb dX2_tierOn_7 rfl ?_
    exact hret ((-1)) (w) _ _ _ _ _ _ dX2_tierOn_8 rfl hC hS (by omega) (by omega) ⟨rfl, by rw [tier_gone hne]⟩
  · skip
    refine h_if_eq (tgt := 9) hx hb (by omega) dX2_tierOn_4 (by decide) (fun c_4 => ?_) (fun c_4 => by exfalso; omega)
    refine lv_iload_n hx hb dX2_tierOn_9 rfl (lv_at hl 1 rfl) ?_
    refine lv_aload_n hx hb dX2_tierOn_10 rfl (lv_at hl 0 rfl) ?_
    refine c_get (C := RX2) (T := TX2) (N := 6) hx hb hts hin_X2 hown hE hC (hR.k5 (by omega) (by omega)) (by decide) (by decide) rfl 5 (by decide) (hts (.fieldLink RX2 26 "HoldServer$StoredFile" "usedOn" "I") (by decide +kernel)) rfl (v := .int (iI ((uoS S f)))) (congrArg (fun z => some (Value.int (iI z))) ((hR.f (f := f) (by omega) (by omega)).2.2.2.2.2.2 hne)) dX2_tierOn_11 ?_
    refine h_isub hx hb dX2_tierOn_14 ?_
    refine lv_istore_n (lv' := [(2, .int (iI (((S.1 11 2) - (uoS S f))))), (0, .ref (g 5 f)), (1, .int (iI ((S.1 11 2))))]) hx hb dX2_tierOn_15 rfl hl (by decide) rfl (fun ls hl => ?_)
    refine lv_aload_n hx hb dX2_tierOn_16 rfl (lv_at hl 1 rfl) ?_
    refine lv_iload_n hx hb dX2_tierOn_17 rfl (lv_at hl 2 rfl) ?_
    refine c_callI hS (va_runV (As := [.int (iI ((S.1 11 2)))]) (rest := []) ⟨hx, hb, hml, hown, hts⟩ (c_coming l D cO dz mi hw hR f (by omega) (by omega) hne) (cwV 1 hts gX2_tierOn_X2_isComingBackOn rfl rfl rfl (by decide +kernel) ⟨Nat.le_of_ble_eq_true rfl, Nat.le_of_ble_eq_true rfl⟩) (c_preV hA hE hX hC hS (hR.k5 (by omega) (by omega)) (by decide) (by decide) rfl) rfl rfl hl.1 rfl (lv_room (Nat.le_of_ble_eq_true rfl)) dX2_tierOn_18 ⟨Nat.le_of_ble_eq_true rfl, Nat.le_of_ble_eq_true rfl⟩) (fun r9 w9 H locs hpost hC hS => ?_)
    obtain ⟨rfl, ⟨hcb, rfl⟩ | ⟨hcb, rfl⟩⟩ := hpost
    · skip
      refine h_if_ne (tgt := 30) hx hb (by omega) dX2_tierOn_21 (by decide) (fun c_21 => ?_) (fun c_21 => by exfalso; omega)
      refine lv_iconst (v := iI 2) hx hb dX2_tierOn_30 rfl ?_
      exact hret (2) (w) _ _ _ _ _ _ dX2_tierOn_31 rfl hC hS (by omega) (by omega) ⟨rfl, by congr 1; rw [tier_uo hw h0 h1 hne]; (repeat' split) <;> omega⟩
    · skip
      refine h_if_ne (tgt := 30) hx hb (by omega) dX2_tierOn_21 (by decide) (fun c_21 => by exfalso; omega) (fun c_21 => ?_)
      refine lv_iload_n hx hb dX2_tierOn_24 rfl (lv_at hl 0 rfl) ?_
      refine lv_bipush (v := iI 90) hx hb dX2_tierOn_25 (by decide) ?_
      refine h_icmp_lt (tgt := 32) hx hb (by omega) (by omega) dX2_tierOn_27 (by decide) (fun c_27 => ?_) (fun c_27 => ?_)
      · skip
        refine lv_iload_n hx hb dX2_tierOn_32 rfl (lv_at hl 0 rfl) ?_
        refine lv_bipush (v := iI 30) hx hb dX2_tierOn_33 (by decide) ?_
        refine h_icmp_ge (tgt := 42) hx hb (by omega) (by omega) dX2_tierOn_35 (by decide) (fun c_35 => ?_) (fun c_35 => ?_)
        · skip
          refine lv_iconst (v := iI 1) hx hb dX2_tierOn_42 rfl ?_
          exact hret (1) (w) _ _ _ _ _ _ dX2_tierOn_43 rfl hC hS (by omega) (by omega) ⟨rfl, by congr 1; rw [tier_uo hw h0 h1 hne]; (repeat' split) <;> omega⟩
        · skip
          refine lv_iconst (v := iI 0) hx hb dX2_tierOn_38 rfl ?_
          refine lv_goto (tgt := 43) hx hb dX2_tierOn_39 (by decide) ?_
          exact hret (0) (w) _ _ _ _ _ _ dX2_tierOn_43 rfl hC hS (by omega) (by omega) ⟨rfl, by congr 1; rw [tier_uo hw h0 h1 hne]; (repeat' split) <;> omega⟩
      · skip
        refine lv_iconst (v := iI 2) hx hb dX2_tierOn_30 rfl ?_
        exact hret (2) (w) _ _ _ _ _ _ dX2_tierOn_31 rfl hC hS (by omega) (by omega) ⟨rfl, by congr 1; rw [tier_uo hw h0 h1 hne]; (repeat' split) <;> omega⟩

set_option maxRecDepth 100000 in
set_option maxHeartbeats 4000000 in
theorem c_billedOn (l : Launch) (D : va_G) (cO : ClassId) (dz mi : Nat) {A : Nat → Prop} {S : HdS} {w : CW} {g : Nat → Int → Nat} {T : Nat → Nat × Int} {U : Int → Int} {n : Int} (hw : wf S n) (hR : RelC S w g T U) (f : Int) (h0 : 0 ≤ f) (h1 : f < S.1 11 1)  : cI l yX2_billedOn wsX2_billedOn { frames := 3, cells := 0, slots := 0, locals := 62 } D cO dz mi A [.ref (g 5 f), .int (iI ((S.1 11 2)))] w (fun r w9 => w = w9 ∧ r = iI (bilT S f)) 0 0 := by
  refine cI_of (cc := cX2_billedOn) (maxL := 3) (ty := .int) (by decide) rfl (Nat.le_of_ble_eq_true rfl) ?_
  intro pp ee ss mm args below meth cc Q hx hb hml hown hts hA hC hE hX hS hret ls hl
  have hl : lv_has ls 3 [(0, .ref (g 5 f)), (1, .int (iI ((S.1 11 2))))] := hl
  have hin_X2 : ∀ w ∈ wsX20, w ∈ wsX2_billedOn := by decide +kernel
  have hnd := hw.nd
  have hnf := hw.nf
  have hdy := hw.day
  have hnf0 := hnf.1
  have hln := hw.len h0 h1
  refine lv_aload_n hx hb dX2_billedOn_0 rfl (lv_at hl 0 rfl) ?_
  refine c_callI hS (va_runV (As := []) (rest := []) ⟨hx, hb, hml, hown, hts⟩ (c_isGone l D cO dz mi hR f (by omega) (by omega) (by omega)) (cwV 0 hts gX2_billedOn_X2_isGone rfl rfl rfl (by decide +kernel) ⟨Nat.le_of_ble_eq_true rfl, Nat.le_of_ble_eq_true rfl⟩) (c_preV hA hE hX hC hS (hR.k5 (by omega) (by omega)) (by decide) (by decide) rfl) rfl rfl hl.1 rfl (lv_room (Nat.le_of_ble_eq_true rfl)) dX2_billedOn_1 ⟨Nat.le_of_ble_eq_true rfl, Nat.le_of_ble_eq_true rfl⟩) (fun r9 w9 H locs hpost hC hS => ?_)
  obtain ⟨rfl, ⟨hne, rfl⟩ | ⟨hne, rfl⟩⟩ := hpost
  · skip
    refine h_if_eq (tgt := 11) hx hb (by omega) dX2_billedOn_4 (by decide) (fun c_4 => by exfalso; omega) (fun c_4 => ?_)
    refine lv_iconst (v := iI 0) hx hb dX2_billedOn_7 rfl ?_
    refine lv_goto (tgt := 18) hx hb dX2_billedOn_8 (by decide) ?_
    refine lv_istore_n (lv' := [(2, .int (iI 0)), (0, .ref (g 5 f)), (1, .int (iI ((S.1 11 2))))]) hx hb dX2_billedOn_18 rfl hl (by decide) rfl (fun ls hl => ?_)
    refine lv_iload_n hx hb dX2_billedOn_19 rfl (lv_at hl 0 rfl) ?_
    refine lv_aload_n hx hb dX2_billedOn_20 rfl (lv_at hl 1 rfl) ?_
    refine c_get (C := RX2) (T := TX2) (N := 6) hx hb hts hin_X2 hown hE hC (hR.k5 (by omega) (by omega)) (by decide) (by decide) rfl 2 (by decide) (hts (.fieldLink RX2 22 "HoldServer$StoredFile" "size" "I") (by decide +kernel)) rfl (v := .int (iI ((S.1 3 f)))) (congrArg (fun z => some (Value.int (iI z))) (hR.f (f := f) (by omega) (by omega)).2.2.2.1) dX2_billedOn_21 ?_
    refine h_imul hx hb dX2_billedOn_24 ?_
    refine lv_aload_n hx hb dX2_billedOn_25 rfl (lv_at hl 1 rfl) ?_
    refine c_get (C := RX2) (T := TX2) (N := 6) hx hb hts hin_X2 hown hE hC (hR.k5 (by omega) (by omega)) (by decide) (by decide) rfl 4 (by decide) (hts (.fieldLink RX2 52 "HoldServer$StoredFile" "kept" "I") (by decide +kernel)) rfl (v := .int (iI ((S.1 6 f)))) (congrArg (fun z => some (Value.int (iI z))) (hR.f (f := f) (by omega) (by omega)).2.2.2.2.2.1) dX2_billedOn_26 ?_
    refine h_iadd hx hb dX2_billedOn_29 ?_
    exact hret (((0 * (S.1 3 f)) + (S.1 6 f))) (w) _ _ _ _ _ _ dX2_billedOn_30 rfl hC hS (by omega) (by omega) ⟨rfl, by unfold bilT; rw [if_pos hne]; congr 1; omega⟩
  · skip
    refine h_if_eq (tgt := 11) hx hb (by omega) dX2_billedOn_4 (by decide) (fun c_4 => ?_) (fun c_4 => by exfalso; omega)
    refine lv_iconst (v := iI 3) hx hb dX2_billedOn_11 rfl ?_
    refine lv_aload_n hx hb dX2_billedOn_12 rfl (lv_at hl 0 rfl) ?_
    refine lv_iload_n hx hb dX2_billedOn_13 rfl (lv_at hl 1 rfl) ?_
    refine c_callI hS (va_runV (As := [.int (iI ((S.1 11 2)))]) (rest := [.int (iI 3)]) ⟨hx, hb, hml, hown, hts⟩ (c_tierOn l D cO dz mi hw hR f (by omega) (by omega)) (cwV 1 hts gX2_billedOn_X2_tierOn rfl rfl rfl (by decide +kernel) ⟨Nat.le_of_ble_eq_true rfl, Nat.le_of_ble_eq_true rfl⟩) (c_preV hA hE hX hC hS (hR.k5 (by omega) (by omega)) (by decide) (by decide) rfl) rfl rfl hl.1 rfl (lv_room (Nat.le_of_ble_eq_true rfl)) dX2_billedOn_14 ⟨Nat.le_of_ble_eq_true rfl, Nat.le_of_ble_eq_true rfl⟩) (fun r9 w9 H locs hpost hC hS => ?_)
    obtain ⟨rfl, rfl⟩ := hpost
    refine h_isub hx hb dX2_billedOn_17 ?_
    refine lv_istore_n (lv' := [(2, .int (iI ((3 - (tierS S f))))), (0, .ref (g 5 f)), (1, .int (iI ((S.1 11 2))))]) hx hb dX2_billedOn_18 rfl hl (by decide) rfl (fun ls hl => ?_)
    refine lv_iload_n hx hb dX2_billedOn_19 rfl (lv_at hl 0 rfl) ?_
    refine lv_aload_n hx hb dX2_billedOn_20 rfl (lv_at hl 1 rfl) ?_
    refine c_get (C := RX2) (T := TX2) (N := 6) hx hb hts hin_X2 hown hE hC (hR.k5 (by omega) (by omega)) (by decide) (by decide) rfl 2 (by decide) (hts (.fieldLink RX2 22 "HoldServer$StoredFile" "size" "I") (by decide +kernel)) rfl (v := .int (iI ((S.1 3 f)))) (congrArg (fun z => some (Value.int (iI z))) (hR.f (f := f) (by omega) (by omega)).2.2.2.1) dX2_billedOn_21 ?_
    refine h_imul hx hb dX2_billedOn_24 ?_
    refine lv_aload_n hx hb dX2_billedOn_25 rfl (lv_at hl 1 rfl) ?_
    refine c_get (C := RX2) (T := TX2) (N := 6) hx hb hts hin_X2 hown hE hC (hR.k5 (by omega) (by omega)) (by decide) (by decide) rfl 4 (by decide) (hts (.fieldLink RX2 52 "HoldServer$StoredFile" "kept" "I") (by decide +kernel)) rfl (v := .int (iI ((S.1 6 f)))) (congrArg (fun z => some (Value.int (iI z))) (hR.f (f := f) (by omega) (by omega)).2.2.2.2.2.1) dX2_billedOn_26 ?_
    refine h_iadd hx hb dX2_billedOn_29 ?_
    exact hret ((((3 - (tierS S f)) * (S.1 3 f)) + (S.1 6 f))) (w) _ _ _ _ _ _ dX2_billedOn_30 rfl hC hS (by omega) (by omega) ⟨rfl, by unfold bilT; rw [if_neg hne]; congr 1; exact Int.add_comm _ _⟩

set_option maxRecDepth 100000 in
set_option maxHeartbeats 4000000 in
theorem c_hasRoomFor (l : Launch) (D : va_G) (cO : ClassId) (dz mi : Nat) {A : Nat → Prop} {S : HdS} {w : CW} {g : Nat → Int → Nat} {T : Nat → Nat × Int} {U : Int → Int} {n : Int} (hw : wf S n) (hR : RelC S w g T U) (d : Int) (h0 : 0 ≤ d) (h1 : d < S.1 11 0) (z : Int) (hz : 0 ≤ z ∧ z ≤ 1000) (hU : ∀ e, 0 ≤ e → e < S.1 11 0 → U e = usg S e) : cI l yX1_hasRoomFor wsX1_hasRoomFor { frames := 0, cells := 0, slots := 0, locals := 0 } D cO dz mi A [.ref (g 4 d), .int (iI (z))] w (fun r w9 => w = w9 ∧ ((growOk S d z) ∧ r = iI 1 ∨ (¬ growOk S d z) ∧ r = iI 0)) 0 0 := by
  refine cI_of (cc := cX1_hasRoomFor) (maxL := 3) (ty := .boolean) (by decide) rfl (Nat.le_of_ble_eq_true rfl) ?_
  intro pp ee ss mm args below meth cc Q hx hb hml hown hts hA hC hE hX hS hret ls hl
  have hl : lv_has ls 3 [(0, .ref (g 4 d)), (1, .int (iI (z)))] := hl
  have hin_X1 : ∀ w ∈ wsX10, w ∈ wsX1_hasRoomFor := by decide +kernel
  have hnd := hw.nd
  have hnf := hw.nf
  have hdy := hw.day
  have hnf0 := hnf.1
  refine lv_aload_n hx hb dX1_hasRoomFor_0 rfl (lv_at hl 0 rfl) ?_
  refine lv_astore_n (lv' := [(2, .ref (g 4 d)), (0, .ref (g 4 d)), (1, .int (iI (z)))]) hx hb dX1_hasRoomFor_1 rfl hl (by decide) rfl (fun ls hl => ?_)
  have lp2 : ∀ (n9 : Nat) (x : Int), x + 1 < (n9 : Int) → (-1 ≤ x) → (x < S.1 11 0) → (growOk S d z ↔ growOk S x z) → ∀ (H : Heap) (locs : List Loc), cH D cO dz A w H → va_S A ss.heap H locs → ∀ (ls : Array Slot), lv_has ls 3 [(0, .ref (g 4 d)), (1, .int (iI (z))), (2, va_rf (opA g x))] → W pp l ee { frames := 0, cells := 0, slots := 0, locals := 0 } ss mm args below meth cc H locs 0 0 Q (F0 mm 2 ls []) := by
    intro n9
    induction n9 with
    | zero => intro x hms hx0 hx1 hx2 H locs hC hS ls hl; exfalso; omega
    | succ n9 ih9 =>
      intro x hms hx0 hx1 hx2 H locs hC hS ls hl
      refine qr_aload_n hx hb dX1_hasRoomFor_2 rfl (lv_at hl 2 rfl) ?_
      refine qr_ifnull (r := opA g x) (tgt := 37) hx hb dX1_hasRoomFor_3 (by decide) (fun c_3 => ?_) (fun c_3 => ?_)
      · skip
        have c_3 := opA_nil c_3
        refine lv_iconst (v := iI 1) hx hb dX1_hasRoomFor_37 rfl ?_
        exact hret (1) (w) _ _ _ _ _ _ dX1_hasRoomFor_38 (by decide) hC hS (by omega) (by omega) ⟨rfl, Or.inl ⟨by rw [hx2, c_3]; intro e he; rw [wayS_neg] at he; cases he, rfl⟩⟩
      · skip
        have c_3 := opA_not c_3
        have hl : lv_has ls 3 [(0, .ref (g 4 d)), (1, .int (iI (z))), (2, .ref (g 4 x))] := by rw [opA_is c_3] at hl; exact hl
        have hx3 := hw.par' (d := x) (by omega) hx1
        have hx4 := hU x (by omega) hx1
        have hx5 := usg_in hw x
        have hx6 := hw.quo (d := x) (by omega) hx1
        refine lv_aload_n hx hb dX1_hasRoomFor_6 rfl (lv_at hl 2 rfl) ?_
        refine c_get (C := RX1) (T := TX1) (N := 4) hx hb hts hin_X1 hown hE hC (hR.k4 (by omega) (by omega)) (by decide) (by decide) rfl 2 (by decide) (hts (.fieldLink RX1 19 "HoldServer$Directory" "quota" "I") (by decide +kernel)) rfl (v := .int (iI ((S.1 1 x)))) (congrArg (fun z => some (Value.int (iI z))) (hR.d (d := x) (by omega) (by omega)).2.2.1) dX1_hasRoomFor_7 ?_
        refine lv_iconst (v := iI (-1)) hx hb dX1_hasRoomFor_10 rfl ?_
        refine h_icmp_eq (tgt := 29) hx hb (by omega) (by omega) dX1_hasRoomFor_11 (by decide) (fun c_11 => ?_) (fun c_11 => ?_)
        · skip
          refine lv_aload_n hx hb dX1_hasRoomFor_29 rfl (lv_at hl 2 rfl) ?_
          refine c_get (C := RX1) (T := TX1) (N := 4) hx hb hts hin_X1 hown hE hC (hR.k4 (by omega) (by omega)) (by decide) (by decide) rfl 1 (by decide) (hts (.fieldLink RX1 15 "HoldServer$Directory" "parent" "LHoldServer$Directory;") (by decide +kernel)) rfl (v := va_rf (opA g (S.1 0 x))) (congrArg (fun z => some (va_rf z)) (hR.d (d := x) (by omega) (by omega)).2.1) dX1_hasRoomFor_30 ?_
          refine qr_astore_n (lv' := [(2, va_rf (opA g (S.1 0 x))), (0, .ref (g 4 d)), (1, .int (iI (z)))]) hx hb dX1_hasRoomFor_33 rfl hl (by decide) rfl (fun ls hl => ?_)
          refine lv_goto (tgt := 2) hx hb dX1_hasRoomFor_34 (by decide) ?_
          exact ih9 (S.1 0 x) (by omega) hx3.1 (by omega) (by rw [hx2, growOk_step hw (by omega) hx1]; exact ⟨fun q => q.2, fun q => ⟨Or.inl c_11, q⟩⟩) H locs hC hS ls (lv_sub hl [1, 2, 0] rfl)
        · skip
          refine lv_aload_n hx hb dX1_hasRoomFor_14 rfl (lv_at hl 2 rfl) ?_
          refine c_get (C := RX1) (T := TX1) (N := 4) hx hb hts hin_X1 hown hE hC (hR.k4 (by omega) (by omega)) (by decide) (by decide) rfl 3 (by decide) (hts (.fieldLink RX1 22 "HoldServer$Directory" "usage" "I") (by decide +kernel)) rfl (v := .int (iI ((U x)))) (congrArg (fun z => some (Value.int (iI z))) (hR.d (d := x) (by omega) (by omega)).2.2.2) dX1_hasRoomFor_15 ?_
          refine lv_iload_n hx hb dX1_hasRoomFor_18 rfl (lv_at hl 1 rfl) ?_
          refine h_iadd hx hb dX1_hasRoomFor_19 ?_
          refine lv_aload_n hx hb dX1_hasRoomFor_20 rfl (lv_at hl 2 rfl) ?_
          refine c_get (C := RX1) (T := TX1) (N := 4) hx hb hts hin_X1 hown hE hC (hR.k4 (by omega) (by omega)) (by decide) (by decide) rfl 2 (by decide) (hts (.fieldLink RX1 19 "HoldServer$Directory" "quota" "I") (by decide +kernel)) rfl (v := .int (iI ((S.1 1 x)))) (congrArg (fun z => some (Value.int (iI z))) (hR.d (d := x) (by omega) (by omega)).2.2.1) dX1_hasRoomFor_21 ?_
          refine h_icmp_le (tgt := 29) hx hb (by omega) (by omega) dX1_hasRoomFor_24 (by decide) (fun c_24 => ?_) (fun c_24 => ?_)
          · skip
            refine lv_aload_n hx hb dX1_hasRoomFor_29 rfl (lv_at hl 2 rfl) ?_
            refine c_get (C := RX1) (T := TX1) (N := 4) hx hb hts hin_X1 hown hE hC (hR.k4 (by omega) (by omega)) (by decide) (by decide) rfl 1 (by decide) (hts (.fieldLink RX1 15 "HoldServer$Directory" "parent" "LHoldServer$Directory;") (by decide +kernel)) rfl (v := va_rf (opA g (S.1 0 x))) (congrArg (fun z => some (va_rf z)) (hR.d (d := x) (by omega) (by omega)).2.1) dX1_hasRoomFor_30 ?_
            refine qr_astore_n (lv' := [(2, va_rf (opA g (S.1 0 x))), (0, .ref (g 4 d)), (1, .int (iI (z)))]) hx hb dX1_hasRoomFor_33 rfl hl (by decide) rfl (fun ls hl => ?_)
            refine lv_goto (tgt := 2) hx hb dX1_hasRoomFor_34 (by decide) ?_
            exact ih9 (S.1 0 x) (by omega) hx3.1 (by omega) (by rw [hx2, growOk_step hw (by omega) hx1]; exact ⟨fun q => q.2, fun q => ⟨Or.inr (by omega), q⟩⟩) H locs hC hS ls (lv_sub hl [1, 2, 0] rfl)
          · skip
            refine lv_iconst (v := iI 0) hx hb dX1_hasRoomFor_27 rfl ?_
            exact hret (0) (w) _ _ _ _ _ _ dX1_hasRoomFor_28 (by decide) hC hS (by omega) (by omega) ⟨rfl, Or.inr ⟨fun q => by rw [hx2, growOk_step hw (by omega) hx1] at q; rcases q.1 with q | q <;> omega, rfl⟩⟩
  exact lp2 (d + 2).toNat d (by omega) (by omega) h1 Iff.rfl _ _ hC hS ls (by rw [opA_is (by omega)]; exact (lv_sub hl [1, 2, 0] rfl))

set_option maxRecDepth 100000 in
set_option maxHeartbeats 4000000 in
theorem c_hasOnItsWay (l : Launch) (D : va_G) (cO : ClassId) (dz mi : Nat) {A : Nat → Prop} {S : HdS} {w : CW} {g : Nat → Int → Nat} {T : Nat → Nat × Int} {U : Int → Int} {n : Int} (hw : wf S n) (hR : RelC S w g T U) (d : Int) (h0 : 0 ≤ d) (h1 : d < S.1 11 0) (o : Int) (o0 : 0 ≤ o) (o1 : o < S.1 11 0) : cI l yX1_hasOnItsWay wsX1_hasOnItsWay { frames := 0, cells := 0, slots := 0, locals := 0 } D cO dz mi A [.ref (g 4 d), .ref (g 4 o)] w (fun r w9 => w = w9 ∧ ((o ∈ wayS S d) ∧ r = iI 1 ∨ (o ∉ wayS S d) ∧ r = iI 0)) 0 0 := by
  refine cI_of (cc := cX1_hasOnItsWay) (maxL := 3) (ty := .boolean) (by decide) rfl (Nat.le_of_ble_eq_true rfl) ?_
  intro pp ee ss mm args below meth cc Q hx hb hml hown hts hA hC hE hX hS hret ls hl
  have hl : lv_has ls 3 [(0, .ref (g 4 d)), (1, .ref (g 4 o))] := hl
  have hin_X1 : ∀ w ∈ wsX10, w ∈ wsX1_hasOnItsWay := by decide +kernel
  have hnd := hw.nd
  have hnf := hw.nf
  have hdy := hw.day
  have hnf0 := hnf.1
  refine lv_aload_n hx hb dX1_hasOnItsWay_0 rfl (lv_at hl 0 rfl) ?_
  refine lv_astore_n (lv' := [(2, .ref (g 4 d)), (0, .ref (g 4 d)), (1, .ref (g 4 o))]) hx hb dX1_hasOnItsWay_1 rfl hl (by decide) rfl (fun ls hl => ?_)
  have lp2 : ∀ (n9 : Nat) (x : Int), x + 1 < (n9 : Int) → (-1 ≤ x) → (x < S.1 11 0) → (o ∈ wayS S d ↔ o ∈ wayS S x) → ∀ (H : Heap) (locs : List Loc), cH D cO dz A w H → va_S A ss.heap H locs → ∀ (ls : Array Slot), lv_has ls 3 [(0, .ref (g 4 d)), (1, .ref (g 4 o)), (2, va_rf (opA g x))] → W pp l ee { frames := 0, cells := 0, slots := 0, locals := 0 } ss mm args below meth cc H locs 0 0 Q (F0 mm 2 ls []) := by
    intro n9
    induction n9 with
    | zero => intro x hms hx0 hx1 hx2 H locs hC hS ls hl; exfalso; omega
    | succ n9 ih9 =>
      intro x hms hx0 hx1 hx2 H locs hC hS ls hl
      refine qr_aload_n hx hb dX1_hasOnItsWay_2 rfl (lv_at hl 2 rfl) ?_
      refine qr_ifnull (r := opA g x) (tgt := 21) hx hb dX1_hasOnItsWay_3 (by decide) (fun c_3 => ?_) (fun c_3 => ?_)
      · skip
        have c_3 := opA_nil c_3
        refine lv_iconst (v := iI 0) hx hb dX1_hasOnItsWay_21 rfl ?_
        exact hret (0) (w) _ _ _ _ _ _ dX1_hasOnItsWay_22 (by decide) hC hS (by omega) (by omega) ⟨rfl, Or.inr ⟨by rw [hx2, c_3, wayS_neg]; exact List.not_mem_nil, rfl⟩⟩
      · skip
        have c_3 := opA_not c_3
        have hl : lv_has ls 3 [(0, .ref (g 4 d)), (1, .ref (g 4 o)), (2, .ref (g 4 x))] := by rw [opA_is c_3] at hl; exact hl
        refine lv_aload_n hx hb dX1_hasOnItsWay_6 rfl (lv_at hl 2 rfl) ?_
        refine lv_aload_n hx hb dX1_hasOnItsWay_7 rfl (lv_at hl 1 rfl) ?_
        refine lv_acmp_ne (rx := some (g 4 x)) (ry := some (g 4 o)) (tgt := 13) hx hb dX1_hasOnItsWay_8 (by decide) (fun c_8 => ?_) (fun c_8 => ?_)
        · skip
          refine lv_aload_n hx hb dX1_hasOnItsWay_13 rfl (lv_at hl 2 rfl) ?_
          refine c_get (C := RX1) (T := TX1) (N := 4) hx hb hts hin_X1 hown hE hC (hR.k4 (by omega) (by omega)) (by decide) (by decide) rfl 1 (by decide) (hts (.fieldLink RX1 15 "HoldServer$Directory" "parent" "LHoldServer$Directory;") (by decide +kernel)) rfl (v := va_rf (opA g (S.1 0 x))) (congrArg (fun z => some (va_rf z)) (hR.d (d := x) (by omega) (by omega)).2.1) dX1_hasOnItsWay_14 ?_
          refine qr_astore_n (lv' := [(2, va_rf (opA g (S.1 0 x))), (0, .ref (g 4 d)), (1, .ref (g 4 o))]) hx hb dX1_hasOnItsWay_17 rfl hl (by decide) rfl (fun ls hl => ?_)
          refine lv_goto (tgt := 2) hx hb dX1_hasOnItsWay_18 (by decide) ?_
          have hx3 := hw.par' (d := x) (by omega) hx1
          exact ih9 (S.1 0 x) (by omega) hx3.1 (by omega) (by rw [hx2, wayS_step hw (by omega) hx1, List.mem_cons]; exact ⟨fun q => q.resolve_left (fun e => c_8 (by rw [e])), Or.inr⟩) H locs hC hS ls (lv_sub hl [1, 2, 0] rfl)
        · skip
          have c_8 := (hR.iff4 (by omega) hx1 o0 o1).mp (Option.some.inj c_8)
          refine lv_iconst (v := iI 1) hx hb dX1_hasOnItsWay_11 rfl ?_
          exact hret (1) (w) _ _ _ _ _ _ dX1_hasOnItsWay_12 (by decide) hC hS (by omega) (by omega) ⟨rfl, Or.inl ⟨by rw [hx2, wayS_step hw (by omega) hx1, c_8]; exact List.mem_cons_self, rfl⟩⟩
  exact lp2 (d + 2).toNat d (by omega) (by omega) h1 Iff.rfl _ _ hC hS ls (by rw [opA_is (by omega)]; exact (lv_sub hl [1, 2, 0] rfl))
