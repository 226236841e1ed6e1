set_option maxRecDepth 100000 in
set_option maxHeartbeats 4000000 in
theorem c_isGone (l : Launch) (D : va_G) (cO : ClassId) (dz mi : Nat) {A : Nat → Prop} {S : HdS} {w : CW} {g : Nat → Int → Nat} {T : Nat → Nat × Int} {U : Int → Int} (hR : RelC S w g T U) (f : Int) (h0 : 0 ≤ f) (h1 : f < S.1 11 1) (hln : (S.2 f).length ≤ 12) : cI l yX2_isGone wsX2_isGone { frames := 1, cells := 0, slots := 0, locals := 20 } D cO dz mi A [.ref (g 5 f)] w (fun r w9 => w = w9 ∧ ((S.2 f = []) ∧ r = iI 1 ∨ (S.2 f ≠ []) ∧ r = iI 0)) 0 0 := by
  refine cI_of (cc := cX2_isGone) (maxL := 1) (ty := .boolean) (by decide) rfl (Nat.le_of_ble_eq_true rfl) ?_
  intro pp ee ss mm args below meth cc Q hx hb hml hown hts hA hC hE hX hS hret ls hl
  have hl : lv_has ls 1 [(0, .ref (g 5 f))] := hl
  have hin_X2 : ∀ w ∈ wsX20, w ∈ wsX2_isGone := by decide +kernel
  refine lv_aload_n hx hb dX2_isGone_0 rfl (lv_at hl 0 rfl) ?_
  refine c_get (C := RX2) (T := TX2) (N := 6) hx hb hts hin_X2 hown hE hC (hR.k5 (by first | omega | assumption) (by first | omega | assumption)) (by decide) (by decide) rfl 1 (by decide) (hts (.fieldLink RX2 12 "HoldServer$StoredFile" "links" "Ljava/util/ArrayList;") (by decide +kernel)) rfl (v := .ref (g 6 f)) (congrArg (fun z => some (va_rf z)) (hR.f (f := f) (by first | omega | assumption) (by first | omega | assumption)).2.1) dX2_isGone_1 ?_
  refine c_callI hS (va_runV (As := []) (rest := []) ⟨hx, hb, hml, hown, hts⟩ (R_empty6 l D cO dz mi hR (f := f) (by omega) (by omega) (by omega)) (cwV 0 hts gX2_isGone_Jx4a65c_isEmpty_aae02 rfl rfl rfl (by decide +kernel) ⟨Nat.le_of_ble_eq_true rfl, Nat.le_of_ble_eq_true rfl⟩) (c_preL hA hE hX hC hS (hR.k6 (by first | omega | assumption) (by first | omega | assumption))) rfl rfl hl.1 rfl (lv_room (Nat.le_of_ble_eq_true rfl)) dX2_isGone_4 ⟨Nat.le_of_ble_eq_true rfl, Nat.le_of_ble_eq_true rfl⟩) (fun r9 w9 H locs hpost hC hS => ?_)
  obtain ⟨rfl, ⟨hc4, rfl⟩ | ⟨hc4, rfl⟩⟩ := hpost
  · skip
    exact hret (1) (w) _ _ _ _ _ _ dX2_isGone_7 (by decide) hC hS (by omega) (by omega) ⟨rfl, Or.inl ⟨hc4, rfl⟩⟩
  · skip
    exact hret (0) (w) _ _ _ _ _ _ dX2_isGone_7 (by decide) hC hS (by omega) (by omega) ⟨rfl, Or.inr ⟨hc4, rfl⟩⟩

set_option maxRecDepth 100000 in
set_option maxHeartbeats 4000000 in
theorem c_firstLink (l : Launch) (D : va_G) (cO : ClassId) (dz mi : Nat) {A : Nat → Prop} {S : HdS} {w : CW} {g : Nat → Int → Nat} {T : Nat → Nat × Int} {U : Int → Int} (hR : RelC S w g T U) (f : Int) (h0 : 0 ≤ f) (h1 : f < S.1 11 1) (hln : (S.2 f).length ≤ 12) (hlk0 : ∀ d ∈ S.2 f, 0 ≤ d ∧ d < S.1 11 0) : cQ l yX2_firstLink wsX2_firstLink { frames := 3, cells := 0, slots := 0, locals := 64 } D cO dz mi A [.ref (g 5 f)] w (fun r w9 => w = w9 ∧ r = opA g (homeS S f)) 0 0 := by
  refine cQ_of (cc := cX2_firstLink) (maxL := 1) (ty := (.object "HoldServer$Directory")) (by decide) rfl (Nat.le_of_ble_eq_true rfl) (Or.inl ⟨_, rfl⟩) ?_
  intro pp ee ss mm args below meth cc Q hx hb hml hown hts hA hC hE hX hS hret ls hl
  have hl : lv_has ls 1 [(0, .ref (g 5 f))] := hl
  have hin_X2 : ∀ w ∈ wsX20, w ∈ wsX2_firstLink := by decide +kernel
  refine lv_aload_n hx hb dX2_firstLink_0 rfl (lv_at hl 0 rfl) ?_
  refine c_get (C := RX2) (T := TX2) (N := 6) hx hb hts hin_X2 hown hE hC (hR.k5 (by first | omega | assumption) (by first | omega | assumption)) (by decide) (by decide) rfl 1 (by decide) (hts (.fieldLink RX2 12 "HoldServer$StoredFile" "links" "Ljava/util/ArrayList;") (by decide +kernel)) rfl (v := .ref (g 6 f)) (congrArg (fun z => some (va_rf z)) (hR.f (f := f) (by first | omega | assumption) (by first | omega | assumption)).2.1) dX2_firstLink_1 ?_
  refine c_callI hS (va_runV (As := []) (rest := []) ⟨hx, hb, hml, hown, hts⟩ (R_empty6 l D cO dz mi hR (f := f) (by omega) (by omega) (by omega)) (cwV 0 hts gX2_firstLink_Jx4a65c_isEmpty_aae02 rfl rfl rfl (by decide +kernel) ⟨Nat.le_of_ble_eq_true rfl, Nat.le_of_ble_eq_true rfl⟩) (c_preL hA hE hX hC hS (hR.k6 (by first | omega | assumption) (by first | omega | assumption))) rfl rfl hl.1 rfl (lv_room (Nat.le_of_ble_eq_true rfl)) dX2_firstLink_4 ⟨Nat.le_of_ble_eq_true rfl, Nat.le_of_ble_eq_true rfl⟩) (fun r9 w9 H locs hpost hC hS => ?_)
  obtain ⟨rfl, ⟨hc4, rfl⟩ | ⟨hc4, rfl⟩⟩ := hpost
  · skip
    refine h_if_eq (tgt := 14) hx hb (by omega) dX2_firstLink_7 (by decide) (fun c_7 => by exfalso; omega) (fun c_7 => ?_)
    refine lv_null hx hb dX2_firstLink_10 ?_
    refine lv_goto (tgt := 25) hx hb dX2_firstLink_11 (by decide) ?_
    exact hret (none) (w) _ _ _ _ _ _ dX2_firstLink_25 hC hS (by omega) (by omega) ⟨rfl, (by rw [home_nil hc4, opA, if_pos rfl])⟩
  · skip
    refine h_if_eq (tgt := 14) hx hb (by omega) dX2_firstLink_7 (by decide) (fun c_7 => ?_) (fun c_7 => by exfalso; omega)
    have hpos : 0 < (S.2 f).length := List.length_pos_iff.mpr hc4
    have hho := hlk0 _ (home_mem hc4)
    refine lv_aload_n hx hb dX2_firstLink_14 rfl (lv_at hl 0 rfl) ?_
    refine c_get (C := RX2) (T := TX2) (N := 6) hx hb hts hin_X2 hown hE hC (hR.k5 (by first | omega | assumption) (by first | omega | assumption)) (by decide) (by decide) rfl 1 (by decide) (hts (.fieldLink RX2 12 "HoldServer$StoredFile" "links" "Ljava/util/ArrayList;") (by decide +kernel)) rfl (v := .ref (g 6 f)) (congrArg (fun z => some (va_rf z)) (hR.f (f := f) (by first | omega | assumption) (by first | omega | assumption)).2.1) dX2_firstLink_15 ?_
    refine lv_iconst (v := iI 0) hx hb dX2_firstLink_18 rfl ?_
    refine c_callQ hS (va_runV (As := [.int (iI 0)]) (rest := []) ⟨hx, hb, hml, hown, hts⟩ (R_get6 l D cO dz mi hR (f := f) (by omega) (by omega) (by omega) 0 (by omega) (by omega)) (cwV 1 hts gX2_firstLink_Jx4a65c_get_915e3 rfl rfl rfl (by decide +kernel) ⟨Nat.le_of_ble_eq_true rfl, Nat.le_of_ble_eq_true rfl⟩) (c_preL hA hE hX hC hS (hR.k6 (by first | omega | assumption) (by first | omega | assumption))) rfl rfl hl.1 rfl (lv_room (Nat.le_of_ble_eq_true rfl)) dX2_firstLink_19 ⟨Nat.le_of_ble_eq_true rfl, Nat.le_of_ble_eq_true rfl⟩) (fun r9 w9 H locs hpost hC hS => ?_)
    obtain ⟨rfl, rfl⟩ := hpost
    rw [home_get hc4]
    refine c_castT (r := (RX1, TX1, 4)) hx hb hown (hts (.classLink RX2 37 RX1) (by decide +kernel)) hE hC (hR.k4 (by first | omega | assumption) (by first | omega | assumption)) (by decide) (by decide) rfl dX2_firstLink_22 ?_
    exact hret (some (g 4 (homeS S f))) (w) _ _ _ _ _ _ dX2_firstLink_25 hC hS (by omega) (by omega) ⟨rfl, (opA_is (by omega)).symm⟩

set_option maxRecDepth 100000 in
set_option maxHeartbeats 4000000 in
theorem c_coming (l : Launch) (D : va_G) (cO : ClassId) (dz mi : Nat) {A : Nat → Prop} {S : HdS} {w : CW} {g : Nat → Int → Nat} {T : Nat → Nat × Int} {U : Int → Int} {n : Int} (hw : wf S n) (hR : RelC S w g T U) (f : Int) (h0 : 0 ≤ f) (h1 : f < S.1 11 1) (hne : S.2 f ≠ []) : cI l yX2_isComingBackOn wsX2_isComingBackOn { frames := 0, cells := 0, slots := 0, locals := 0 } D cO dz mi A [.ref (g 5 f), .int (iI ((S.1 11 2)))] w (fun r w9 => w = w9 ∧ ((S.1 11 2 < uoS S f) ∧ r = iI 1 ∨ (¬ S.1 11 2 < uoS S f) ∧ r = iI 0)) 0 0 := by
  refine cI_of (cc := cX2_isComingBackOn) (maxL := 2) (ty := .boolean) (by decide) rfl (Nat.le_of_ble_eq_true rfl) ?_
  intro pp ee ss mm args below meth cc Q hx hb hml hown hts hA hC hE hX hS hret ls hl
  have hl : lv_has ls 2 [(0, .ref (g 5 f)), (1, .int (iI ((S.1 11 2))))] := hl
  have hin_X2 : ∀ w ∈ wsX20, w ∈ wsX2_isComingBackOn := by decide +kernel
  have hnd := hw.nd
  have hnf := hw.nf
  have hdy := hw.day
  have hnf0 := hnf.1
  have huo := uo_in hw h0 h1
  refine lv_aload_n hx hb dX2_isComingBackOn_0 rfl (lv_at hl 0 rfl) ?_
  refine c_get (C := RX2) (T := TX2) (N := 6) hx hb hts hin_X2 hown hE hC (hR.k5 (by first | omega | assumption) (by first | omega | assumption)) (by decide) (by decide) rfl 5 (by decide) (hts (.fieldLink RX2 26 "HoldServer$StoredFile" "usedOn" "I") (by decide +kernel)) rfl (v := .int (iI ((uoS S f)))) (congrArg (fun z => some (Value.int (iI z))) ((hR.f (f := f) (by first | omega | assumption) (by first | omega | assumption)).2.2.2.2.2.2 hne)) dX2_isComingBackOn_1 ?_
  refine lv_iload_n hx hb dX2_isComingBackOn_4 rfl (lv_at hl 1 rfl) ?_
  refine h_icmp_le (tgt := 12) hx hb (by omega) (by omega) dX2_isComingBackOn_5 (by decide) (fun c_5 => ?_) (fun c_5 => ?_)
  · skip
    refine lv_iconst (v := iI 0) hx hb dX2_isComingBackOn_12 rfl ?_
    exact hret (0) (w) _ _ _ _ _ _ dX2_isComingBackOn_13 (by decide) hC hS (by omega) (by omega) ⟨rfl, Or.inr ⟨by omega, rfl⟩⟩
  · skip
    refine lv_iconst (v := iI 1) hx hb dX2_isComingBackOn_8 rfl ?_
    refine lv_goto (tgt := 13) hx hb dX2_isComingBackOn_9 (by decide) ?_
    exact hret (1) (w) _ _ _ _ _ _ dX2_isComingBackOn_13 (by decide) hC hS (by omega) (by omega) ⟨rfl, Or.inl ⟨by omega, rfl⟩⟩

set_option maxRecDepth 100000 in
set_option maxHeartbeats 4000000 in
theorem c_price (l : Launch) (D : va_G) (cO : ClassId) (dz mi : Nat) {A : Nat → Prop} {S : HdS} {w : CW} {g : Nat → Int → Nat} {T : Nat → Nat × Int} {U : Int → Int} {n : Int} (hw : wf S n) (hR : RelC S w g T U) (f : Int) (h0 : 0 ≤ f) (h1 : f < S.1 11 1)  : cI l yX2_costToBringBack wsX2_costToBringBack { frames := 0, cells := 0, slots := 0, locals := 0 } D cO dz mi A [.ref (g 5 f)] w (fun r w9 => w = w9 ∧ r = iI (priceS S f)) 0 0 := by
  refine cI_of (cc := cX2_costToBringBack) (maxL := 1) (ty := .int) (by decide) rfl (Nat.le_of_ble_eq_true rfl) ?_
  intro pp ee ss mm args below meth cc Q hx hb hml hown hts hA hC hE hX hS hret ls hl
  have hl : lv_has ls 1 [(0, .ref (g 5 f))] := hl
  have hin_X2 : ∀ w ∈ wsX20, w ∈ wsX2_costToBringBack := by decide +kernel
  have hnd := hw.nd
  have hnf := hw.nf
  have hdy := hw.day
  have hnf0 := hnf.1
  have hsz := hw.siz h0 h1
  refine lv_aload_n hx hb dX2_costToBringBack_0 rfl (lv_at hl 0 rfl) ?_
  refine c_get (C := RX2) (T := TX2) (N := 6) hx hb hts hin_X2 hown hE hC (hR.k5 (by first | omega | assumption) (by first | omega | assumption)) (by decide) (by decide) rfl 2 (by decide) (hts (.fieldLink RX2 22 "HoldServer$StoredFile" "size" "I") (by decide +kernel)) rfl (v := .int (iI ((S.1 3 f)))) (congrArg (fun z => some (Value.int (iI z))) (hR.f (f := f) (by first | omega | assumption) (by first | omega | assumption)).2.2.2.1) dX2_costToBringBack_1 ?_
  refine lv_bipush (v := iI 10) hx hb dX2_costToBringBack_4 (by decide) ?_
  refine h_iadd hx hb dX2_costToBringBack_6 ?_
  refine lv_iconst (v := iI 1) hx hb dX2_costToBringBack_7 rfl ?_
  refine h_isub hx hb dX2_costToBringBack_8 ?_
  refine lv_bipush (v := iI 10) hx hb dX2_costToBringBack_9 (by decide) ?_
  refine h_idiv hx hb (by omega) (by omega) (by omega) (by omega) dX2_costToBringBack_11 ?_
  exact hret (((((S.1 3 f) + 10) - 1) / 10)) (w) _ _ _ _ _ _ dX2_costToBringBack_12 rfl hC hS (by omega) (by omega) ⟨rfl, by unfold priceS; congr 1; omega⟩

set_option maxRecDepth 100000 in
set_option maxHeartbeats 4000000 in
theorem c_tierOn (l : Launch) (D : va_G) (cO : ClassId) (dz mi : Nat) {A : Nat → Prop} {S : HdS} {w : CW} {g : Nat → Int → Nat} {T : Nat → Nat × Int} {U : Int → Int} {n : Int} (hw : wf S n) (hR : RelC S w g T U) (f : Int) (h0 : 0 ≤ f) (h1 : f < S.1 11 1)  : cI l yX2_tierOn wsX2_tierOn { frames := 2, cells := 0, slots := 0, locals := 40 } D cO dz mi A [.ref (g 5 f), .int (iI ((S.1 11 2)))] w (fun r w9 => w = w9 ∧ r = iI (tierS S f)) 0 0 := by
  refine cI_of (cc := cX2_tierOn) (maxL := 3) (ty := .int) (by decide) rfl (Nat.le_of_ble_eq_true rfl) ?_
  intro pp ee ss mm args below meth cc Q hx hb hml hown hts hA hC hE hX hS hret ls hl
  have hl : lv_has ls 3 [(0, .ref (g 5 f)), (1, .int (iI ((S.1 11 2))))] := hl
  have hin_X2 : ∀ w ∈ wsX20, w ∈ wsX2_tierOn := by decide +kernel
  have hnd := hw.nd
  have hnf := hw.nf
  have hdy := hw.day
  have hnf0 := hnf.1
  have huo := uo_in hw h0 h1
  have hln := hw.len h0 h1
  refine lv_aload_n hx hb dX2_tierOn_0 rfl (lv_at hl 0 rfl) ?_
  refine c_callI hS (va_runV (As := []) (rest := []) ⟨hx, hb, hml, hown, hts⟩ (c_isGone l D cO dz mi hR f (by omega) (by omega) (by omega)) (cwV 0 hts gX2_tierOn_X2_isGone rfl rfl rfl (by decide +kernel) ⟨Nat.le_of_ble_eq_true rfl, Nat.le_of_ble_eq_true rfl⟩) (c_preV hA hE hX hC hS (hR.k5 (by first | omega | assumption) (by first | omega | assumption)) (by decide) (by decide) rfl) rfl rfl hl.1 rfl (lv_room (Nat.le_of_ble_eq_true rfl)) dX2_tierOn_1 ⟨Nat.le_of_ble_eq_true rfl, Nat.le_of_ble_eq_true rfl⟩) (fun r9 w9 H locs hpost hC hS => ?_)
  obtain ⟨rfl, ⟨hne, rfl⟩ | ⟨hne, rfl⟩⟩ := hpost
  · skip
    refine h_if_eq (tgt := 9) hx hb (by omega) dX2_tierOn_4 (by decide) (fun c_4 => by exfalso; omega) (fun c_4 => ?_)
    refine lv_iconst (v := iI (-1)) hx hb dX2_tierOn_7 rfl ?_
    exact hret ((-1)) (w) _ _ _ _ _ _ dX2_tierOn_8 rfl hC hS (by omega) (by omega) ⟨rfl, by rw [tier_gone hne]⟩
  · skip
    refine h_if_eq (tgt := 9) hx hb (by omega) dX2_tierOn_4 (by decide) (fun c_4 => ?_) (fun c_4 => by exfalso; omega)
    refine lv_iload_n hx hb dX2_tierOn_9 rfl (lv_at hl 1 rfl) ?_
    refine lv_aload_n hx hb dX2_tierOn_10 rfl (lv_at hl 0 rfl) ?_
    refine c_get (C := RX2) (T := TX2) (N := 6) hx hb hts hin_X2 hown hE hC (hR.k5 (by first | omega | assumption) (by first | omega | assumption)) (by decide) (by decide) rfl 5 (by decide) (hts (.fieldLink RX2 26 "HoldServer$StoredFile" "usedOn" "I") (by decide +kernel)) rfl (v := .int (iI ((uoS S f)))) (congrArg (fun z => some (Value.int (iI z))) ((hR.f (f := f) (by first | omega | assumption) (by first | omega | assumption)).2.2.2.2.2.2 hne)) dX2_tierOn_11 ?_
    refine h_isub hx hb dX2_tierOn_14 ?_
    refine lv_istore_n (lv' := [(2, .int (iI (((S.1 11 2) - (uoS S f))))), (0, .ref (g 5 f)), (1, .int (iI ((S.1 11 2))))]) hx hb dX2_tierOn_15 rfl hl (by decide) rfl (fun ls hl => ?_)
    refine lv_aload_n hx hb dX2_tierOn_16 rfl (lv_at hl 1 rfl) ?_
    refine lv_iload_n hx hb dX2_tierOn_17 rfl (lv_at hl 2 rfl) ?_
    refine c_callI hS (va_runV (As := [.int (iI ((S.1 11 2)))]) (rest := []) ⟨hx, hb, hml, hown, hts⟩ (c_coming l D cO dz mi hw hR f (by omega) (by omega) hne) (cwV 1 hts gX2_tierOn_X2_isComingBackOn rfl rfl rfl (by decide +kernel) ⟨Nat.le_of_ble_eq_true rfl, Nat.le_of_ble_eq_true rfl⟩) (c_preV hA hE hX hC hS (hR.k5 (by first | omega | assumption) (by first | omega | assumption)) (by decide) (by decide) rfl) rfl rfl hl.1 rfl (lv_room (Nat.le_of_ble_eq_true rfl)) dX2_tierOn_18 ⟨Nat.le_of_ble_eq_true rfl, Nat.le_of_ble_eq_true rfl⟩) (fun r9 w9 H locs hpost hC hS => ?_)
    obtain ⟨rfl, ⟨hcb, rfl⟩ | ⟨hcb, rfl⟩⟩ := hpost
    · skip
      refine h_if_ne (tgt := 30) hx hb (by omega) dX2_tierOn_21 (by decide) (fun c_21 => ?_) (fun c_21 => by exfalso; omega)
      refine lv_iconst (v := iI 2) hx hb dX2_tierOn_30 rfl ?_
      exact hret (2) (w) _ _ _ _ _ _ dX2_tierOn_31 rfl hC hS (by omega) (by omega) ⟨rfl, by congr 1; rw [tier_uo hw h0 h1 hne]; (repeat' split) <;> omega⟩
    · skip
      refine h_if_ne (tgt := 30) hx hb (by omega) dX2_tierOn_21 (by decide) (fun c_21 => by exfalso; omega) (fun c_21 => ?_)
      refine lv_iload_n hx hb dX2_tierOn_24 rfl (lv_at hl 0 rfl) ?_
      refine lv_bipush (v := iI 90) hx hb dX2_tierOn_25 (by decide) ?_
      refine h_icmp_lt (tgt := 32) hx hb (by omega) (by omega) dX2_tierOn_27 (by decide) (fun c_27 => ?_) (fun c_27 => ?_)
      · skip
        refine lv_iload_n hx hb dX2_tierOn_32 rfl (lv_at hl 0 rfl) ?_
        refine lv_bipush (v := iI 30) hx hb dX2_tierOn_33 (by decide) ?_
        refine h_icmp_ge (tgt := 42) hx hb (by omega) (by omega) dX2_tierOn_35 (by decide) (fun c_35 => ?_) (fun c_35 => ?_)
        · skip
          refine lv_iconst (v := iI 1) hx hb dX2_tierOn_42 rfl ?_
          exact hret (1) (w) _ _ _ _ _ _ dX2_tierOn_43 rfl hC hS (by omega) (by omega) ⟨rfl, by congr 1; rw [tier_uo hw h0 h1 hne]; (repeat' split) <;> omega⟩
        · skip
          refine lv_iconst (v := iI 0) hx hb dX2_tierOn_38 rfl ?_
          refine lv_goto (tgt := 43) hx hb dX2_tierOn_39 (by decide) ?_
          exact hret (0) (w) _ _ _ _ _ _ dX2_tierOn_43 rfl hC hS (by omega) (by omega) ⟨rfl, by congr 1; rw [tier_uo hw h0 h1 hne]; (repeat' split) <;> omega⟩
      · skip
        refine lv_iconst (v := iI 2) hx hb dX2_tierOn_30 rfl ?_
        exact hret (2) (w) _ _ _ _ _ _ dX2_tierOn_31 rfl hC hS (by omega) (by omega) ⟨rfl, by congr 1; rw [tier_uo hw h0 h1 hne]; (repeat' split) <;> omega⟩

set_option maxRecDepth 100000 in
set_option maxHeartbeats 4000000 in
theorem c_billedOn (l : Launch) (D : va_G) (cO : ClassId) (dz mi : Nat) {A : Nat → Prop} {S : HdS} {w : CW} {g : Nat → Int → Nat} {T : Nat → Nat × Int} {U : Int → Int} {n : Int} (hw : wf S n) (hR : RelC S w g T U) (f : Int) (h0 : 0 ≤ f) (h1 : f < S.1 11 1)  : cI l yX2_billedOn wsX2_billedOn { frames := 3, cells := 0, slots := 0, locals := 62 } D cO dz mi A [.ref (g 5 f), .int (iI ((S.1 11 2)))] w (fun r w9 => w = w9 ∧ r = iI (bilT S f)) 0 0 := by
  refine cI_of (cc := cX2_billedOn) (maxL := 3) (ty := .int) (by decide) rfl (Nat.le_of_ble_eq_true rfl) ?_
  intro pp ee ss mm args below meth cc Q hx hb hml hown hts hA hC hE hX hS hret ls hl
  have hl : lv_has ls 3 [(0, .ref (g 5 f)), (1, .int (iI ((S.1 11 2))))] := hl
  have hin_X2 : ∀ w ∈ wsX20, w ∈ wsX2_billedOn := by decide +kernel
  have hnd := hw.nd
  have hnf := hw.nf
  have hdy := hw.day
  have hnf0 := hnf.1
  have hln := hw.len h0 h1
  refine lv_aload_n hx hb dX2_billedOn_0 rfl (lv_at hl 0 rfl) ?_
  refine c_callI hS (va_runV (As := []) (rest := []) ⟨hx, hb, hml, hown, hts⟩ (c_isGone l D cO dz mi hR f (by omega) (by omega) (by omega)) (cwV 0 hts gX2_billedOn_X2_isGone rfl rfl rfl (by decide +kernel) ⟨Nat.le_of_ble_eq_true rfl, Nat.le_of_ble_eq_true rfl⟩) (c_preV hA hE hX hC hS (hR.k5 (by first | omega | assumption) (by first | omega | assumption)) (by decide) (by decide) rfl) rfl rfl hl.1 rfl (lv_room (Nat.le_of_ble_eq_true rfl)) dX2_billedOn_1 ⟨Nat.le_of_ble_eq_true rfl, Nat.le_of_ble_eq_true rfl⟩) (fun r9 w9 H locs hpost hC hS => ?_)
  obtain ⟨rfl, ⟨hne, rfl⟩ | ⟨hne, rfl⟩⟩ := hpost
  · skip
    refine h_if_eq (tgt := 11) hx hb (by omega) dX2_billedOn_4 (by decide) (fun c_4 => by exfalso; omega) (fun c_4 => ?_)
    refine lv_iconst (v := iI 0) hx hb dX2_billedOn_7 rfl ?_
    refine lv_goto (tgt := 18) hx hb dX2_billedOn_8 (by decide) ?_
    refine lv_istore_n (lv' := [(2, .int (iI 0)), (0, .ref (g 5 f)), (1, .int (iI ((S.1 11 2))))]) hx hb dX2_billedOn_18 rfl hl (by decide) rfl (fun ls hl => ?_)
    refine lv_iload_n hx hb dX2_billedOn_19 rfl (lv_at hl 0 rfl) ?_
    refine lv_aload_n hx hb dX2_billedOn_20 rfl (lv_at hl 1 rfl) ?_
    refine c_get (C := RX2) (T := TX2) (N := 6) hx hb hts hin_X2 hown hE hC (hR.k5 (by first | omega | assumption) (by first | omega | assumption)) (by decide) (by decide) rfl 2 (by decide) (hts (.fieldLink RX2 22 "HoldServer$StoredFile" "size" "I") (by decide +kernel)) rfl (v := .int (iI ((S.1 3 f)))) (congrArg (fun z => some (Value.int (iI z))) (hR.f (f := f) (by first | omega | assumption) (by first | omega | assumption)).2.2.2.1) dX2_billedOn_21 ?_
    refine h_imul hx hb dX2_billedOn_24 ?_
    refine lv_aload_n hx hb dX2_billedOn_25 rfl (lv_at hl 1 rfl) ?_
    refine c_get (C := RX2) (T := TX2) (N := 6) hx hb hts hin_X2 hown hE hC (hR.k5 (by first | omega | assumption) (by first | omega | assumption)) (by decide) (by decide) rfl 4 (by decide) (hts (.fieldLink RX2 52 "HoldServer$StoredFile" "kept" "I") (by decide +kernel)) rfl (v := .int (iI ((S.1 6 f)))) (congrArg (fun z => some (Value.int (iI z))) (hR.f (f := f) (by first | omega | assumption) (by first | omega | assumption)).2.2.2.2.2.1) dX2_billedOn_26 ?_
    refine h_iadd hx hb dX2_billedOn_29 ?_
    exact hret (((0 * (S.1 3 f)) + (S.1 6 f))) (w) _ _ _ _ _ _ dX2_billedOn_30 rfl hC hS (by omega) (by omega) ⟨rfl, by unfold bilT; rw [if_pos hne]; congr 1; omega⟩
  · skip
    refine h_if_eq (tgt := 11) hx hb (by omega) dX2_billedOn_4 (by decide) (fun c_4 => ?_) (fun c_4 => by exfalso; omega)
    refine lv_iconst (v := iI 3) hx hb dX2_billedOn_11 rfl ?_
    refine lv_aload_n hx hb dX2_billedOn_12 rfl (lv_at hl 0 rfl) ?_
    refine lv_iload_n hx hb dX2_billedOn_13 rfl (lv_at hl 1 rfl) ?_
    refine c_callI hS (va_runV (As := [.int (iI ((S.1 11 2)))]) (rest := [.int (iI 3)]) ⟨hx, hb, hml, hown, hts⟩ (c_tierOn l D cO dz mi hw hR f (by omega) (by omega)) (cwV 1 hts gX2_billedOn_X2_tierOn rfl rfl rfl (by decide +kernel) ⟨Nat.le_of_ble_eq_true rfl, Nat.le_of_ble_eq_true rfl⟩) (c_preV hA hE hX hC hS (hR.k5 (by first | omega | assumption) (by first | omega | assumption)) (by decide) (by decide) rfl) rfl rfl hl.1 rfl (lv_room (Nat.le_of_ble_eq_true rfl)) dX2_billedOn_14 ⟨Nat.le_of_ble_eq_true rfl, Nat.le_of_ble_eq_true rfl⟩) (fun r9 w9 H locs hpost hC hS => ?_)
    obtain ⟨rfl, rfl⟩ := hpost
    refine h_isub hx hb dX2_billedOn_17 ?_
    refine lv_istore_n (lv' := [(2, .int (iI ((3 - (tierS S f))))), (0, .ref (g 5 f)), (1, .int (iI ((S.1 11 2))))]) hx hb dX2_billedOn_18 rfl hl (by decide) rfl (fun ls hl => ?_)
    refine lv_iload_n hx hb dX2_billedOn_19 rfl (lv_at hl 0 rfl) ?_
    refine lv_aload_n hx hb dX2_billedOn_20 rfl (lv_at hl 1 rfl) ?_
    refine c_get (C := RX2) (T := TX2) (N := 6) hx hb hts hin_X2 hown hE hC (hR.k5 (by first | omega | assumption) (by first | omega | assumption)) (by decide) (by decide) rfl 2 (by decide) (hts (.fieldLink RX2 22 "HoldServer$StoredFile" "size" "I") (by decide +kernel)) rfl (v := .int (iI ((S.1 3 f)))) (congrArg (fun z => some (Value.int (iI z))) (hR.f (f := f) (by first | omega | assumption) (by first | omega | assumption)).2.2.2.1) dX2_billedOn_21 ?_
    refine h_imul hx hb dX2_billedOn_24 ?_
    refine lv_aload_n hx hb dX2_billedOn_25 rfl (lv_at hl 1 rfl) ?_
    refine c_get (C := RX2) (T := TX2) (N := 6) hx hb hts hin_X2 hown hE hC (hR.k5 (by first | omega | assumption) (by first | omega | assumption)) (by decide) (by decide) rfl 4 (by decide) (hts (.fieldLink RX2 52 "HoldServer$StoredFile" "kept" "I") (by decide +kernel)) rfl (v := .int (iI ((S.1 6 f)))) (congrArg (fun z => some (Value.int (iI z))) (hR.f (f := f) (by first | omega | assumption) (by first | omega | assumption)).2.2.2.2.2.1) dX2_billedOn_26 ?_
    refine h_iadd hx hb dX2_billedOn_29 ?_
    exact hret ((((3 - (tierS S f)) * (S.1 3 f)) + (S.1 6 f))) (w) _ _ _ _ _ _ dX2_billedOn_30 rfl hC hS (by omega) (by omega) ⟨rfl, by unfold bilT; rw [if_neg hne]; congr 1; exact Int.add_comm _ _⟩

set_option maxRecDepth 100000 in
set_option maxHeartbeats 4000000 in
theorem c_hasRoomFor (l : Launch) (D : va_G) (cO : ClassId) (dz mi : Nat) {A : Nat → Prop} {S : HdS} {w : CW} {g : Nat → Int → Nat} {T : Nat → Nat × Int} {U : Int → Int} {n : Int} (hw : wf S n) (hR : RelC S w g T U) (d : Int) (h0 : 0 ≤ d) (h1 : d < S.1 11 0) (z : Int) (hz : 0 ≤ z ∧ z ≤ 1000) (hU : ∀ e, 0 ≤ e → e < S.1 11 0 → U e = usg S e) : cI l yX1_hasRoomFor wsX1_hasRoomFor { frames := 0, cells := 0, slots := 0, locals := 0 } D cO dz mi A [.ref (g 4 d), .int (iI (z))] w (fun r w9 => w = w9 ∧ ((growOk S d z) ∧ r = iI 1 ∨ (¬ growOk S d z) ∧ r = iI 0)) 0 0 := by
  refine cI_of (cc := cX1_hasRoomFor) (maxL := 3) (ty := .boolean) (by decide) rfl (Nat.le_of_ble_eq_true rfl) ?_
  intro pp ee ss mm args below meth cc Q hx hb hml hown hts hA hC hE hX hS hret ls hl
  have hl : lv_has ls 3 [(0, .ref (g 4 d)), (1, .int (iI (z)))] := hl
  have hin_X1 : ∀ w ∈ wsX10, w ∈ wsX1_hasRoomFor := by decide +kernel
  have hnd := hw.nd
  have hnf := hw.nf
  have hdy := hw.day
  have hnf0 := hnf.1
  refine lv_aload_n hx hb dX1_hasRoomFor_0 rfl (lv_at hl 0 rfl) ?_
  refine lv_astore_n (lv' := [(2, .ref (g 4 d)), (0, .ref (g 4 d)), (1, .int (iI (z)))]) hx hb dX1_hasRoomFor_1 rfl hl (by decide) rfl (fun ls hl => ?_)
  have lp2 : ∀ (n9 : Nat) (x : Int), x + 1 < (n9 : Int) → (-1 ≤ x) → (x < S.1 11 0) → (growOk S d z ↔ growOk S x z) → ∀ (H : Heap) (locs : List Loc), cH D cO dz A w H → va_S A ss.heap H locs → ∀ (ls : Array Slot), lv_has ls 3 [(0, .ref (g 4 d)), (1, .int (iI (z))), (2, va_rf (opA g x))] → W pp l ee { frames := 0, cells := 0, slots := 0, locals := 0 } ss mm args below meth cc H locs 0 0 Q (F0 mm 2 ls []) := by
    intro n9
    induction n9 with
    | zero => intro x hms hx0 hx1 hx2 H locs hC hS ls hl; exfalso; omega
    | succ n9 ih9 =>
      intro x hms hx0 hx1 hx2 H locs hC hS ls hl
      refine qr_aload_n hx hb dX1_hasRoomFor_2 rfl (lv_at hl 2 rfl) ?_
      refine qr_ifnull (r := opA g x) (tgt := 37) hx hb dX1_hasRoomFor_3 (by decide) (fun c_3 => ?_) (fun c_3 => ?_)
      · skip
        have c_3 := opA_nil c_3
        refine lv_iconst (v := iI 1) hx hb dX1_hasRoomFor_37 rfl ?_
        exact hret (1) (w) _ _ _ _ _ _ dX1_hasRoomFor_38 (by decide) hC hS (by omega) (by omega) ⟨rfl, Or.inl ⟨(by rw [hx2, c_3]; intro e he; rw [wayS_neg] at he; exact nomatch he), rfl⟩⟩
      · skip
        have c_3 := opA_not c_3
        have hl : lv_has ls 3 [(0, .ref (g 4 d)), (1, .int (iI (z))), (2, .ref (g 4 x))] := by rw [opA_is c_3] at hl; exact hl
        have hx3 := hw.par' (d := x) (by omega) hx1
        have hx4 := hU x (by omega) hx1
        have hx5 := usg_in hw x
        have hx6 := hw.quo (d := x) (by omega) hx1
        refine lv_aload_n hx hb dX1_hasRoomFor_6 rfl (lv_at hl 2 rfl) ?_
        refine c_get (C := RX1) (T := TX1) (N := 4) hx hb hts hin_X1 hown hE hC (hR.k4 (by first | omega | assumption) (by first | omega | assumption)) (by decide) (by decide) rfl 2 (by decide) (hts (.fieldLink RX1 19 "HoldServer$Directory" "quota" "I") (by decide +kernel)) rfl (v := .int (iI ((S.1 1 x)))) (congrArg (fun z => some (Value.int (iI z))) (hR.d (d := x) (by first | omega | assumption) (by first | omega | assumption)).2.2.1) dX1_hasRoomFor_7 ?_
        refine lv_iconst (v := iI (-1)) hx hb dX1_hasRoomFor_10 rfl ?_
        refine h_icmp_eq (tgt := 29) hx hb (by omega) (by omega) dX1_hasRoomFor_11 (by decide) (fun c_11 => ?_) (fun c_11 => ?_)
        · skip
          refine lv_aload_n hx hb dX1_hasRoomFor_29 rfl (lv_at hl 2 rfl) ?_
          refine c_get (C := RX1) (T := TX1) (N := 4) hx hb hts hin_X1 hown hE hC (hR.k4 (by first | omega | assumption) (by first | omega | assumption)) (by decide) (by decide) rfl 1 (by decide) (hts (.fieldLink RX1 15 "HoldServer$Directory" "parent" "LHoldServer$Directory;") (by decide +kernel)) rfl (v := va_rf (opA g (S.1 0 x))) (congrArg (fun z => some (va_rf z)) (hR.d (d := x) (by first | omega | assumption) (by first | omega | assumption)).2.1) dX1_hasRoomFor_30 ?_
          refine qr_astore_n (lv' := [(2, va_rf (opA g (S.1 0 x))), (0, .ref (g 4 d)), (1, .int (iI (z)))]) hx hb dX1_hasRoomFor_33 rfl hl (by decide) rfl (fun ls hl => ?_)
          refine lv_goto (tgt := 2) hx hb dX1_hasRoomFor_34 (by decide) ?_
          exact ih9 (S.1 0 x) (by omega) hx3.1 (by omega) (by rw [hx2, growOk_step hw (by omega) hx1]; exact ⟨fun q => q.2, fun q => ⟨Or.inl c_11, q⟩⟩) H locs hC hS ls (lv_sub hl [1, 2, 0] rfl)
        · skip
          refine lv_aload_n hx hb dX1_hasRoomFor_14 rfl (lv_at hl 2 rfl) ?_
          refine c_get (C := RX1) (T := TX1) (N := 4) hx hb hts hin_X1 hown hE hC (hR.k4 (by first | omega | assumption) (by first | omega | assumption)) (by decide) (by decide) rfl 3 (by decide) (hts (.fieldLink RX1 22 "HoldServer$Directory" "usage" "I") (by decide +kernel)) rfl (v := .int (iI ((U x)))) (congrArg (fun z => some (Value.int (iI z))) (hR.d (d := x) (by first | omega | assumption) (by first | omega | assumption)).2.2.2) dX1_hasRoomFor_15 ?_
          refine lv_iload_n hx hb dX1_hasRoomFor_18 rfl (lv_at hl 1 rfl) ?_
          refine h_iadd hx hb dX1_hasRoomFor_19 ?_
          refine lv_aload_n hx hb dX1_hasRoomFor_20 rfl (lv_at hl 2 rfl) ?_
          refine c_get (C := RX1) (T := TX1) (N := 4) hx hb hts hin_X1 hown hE hC (hR.k4 (by first | omega | assumption) (by first | omega | assumption)) (by decide) (by decide) rfl 2 (by decide) (hts (.fieldLink RX1 19 "HoldServer$Directory" "quota" "I") (by decide +kernel)) rfl (v := .int (iI ((S.1 1 x)))) (congrArg (fun z => some (Value.int (iI z))) (hR.d (d := x) (by first | omega | assumption) (by first | omega | assumption)).2.2.1) dX1_hasRoomFor_21 ?_
          refine h_icmp_le (tgt := 29) hx hb (by omega) (by omega) dX1_hasRoomFor_24 (by decide) (fun c_24 => ?_) (fun c_24 => ?_)
          · skip
            refine lv_aload_n hx hb dX1_hasRoomFor_29 rfl (lv_at hl 2 rfl) ?_
            refine c_get (C := RX1) (T := TX1) (N := 4) hx hb hts hin_X1 hown hE hC (hR.k4 (by first | omega | assumption) (by first | omega | assumption)) (by decide) (by decide) rfl 1 (by decide) (hts (.fieldLink RX1 15 "HoldServer$Directory" "parent" "LHoldServer$Directory;") (by decide +kernel)) rfl (v := va_rf (opA g (S.1 0 x))) (congrArg (fun z => some (va_rf z)) (hR.d (d := x) (by first | omega | assumption) (by first | omega | assumption)).2.1) dX1_hasRoomFor_30 ?_
            refine qr_astore_n (lv' := [(2, va_rf (opA g (S.1 0 x))), (0, .ref (g 4 d)), (1, .int (iI (z)))]) hx hb dX1_hasRoomFor_33 rfl hl (by decide) rfl (fun ls hl => ?_)
            refine lv_goto (tgt := 2) hx hb dX1_hasRoomFor_34 (by decide) ?_
            exact ih9 (S.1 0 x) (by omega) hx3.1 (by omega) (by rw [hx2, growOk_step hw (by omega) hx1]; exact ⟨fun q => q.2, fun q => ⟨Or.inr (by omega), q⟩⟩) H locs hC hS ls (lv_sub hl [1, 2, 0] rfl)
          · skip
            refine lv_iconst (v := iI 0) hx hb dX1_hasRoomFor_27 rfl ?_
            exact hret (0) (w) _ _ _ _ _ _ dX1_hasRoomFor_28 (by decide) hC hS (by omega) (by omega) ⟨rfl, Or.inr ⟨fun q => by rw [hx2, growOk_step hw (by omega) hx1] at q; rcases q.1 with q | q <;> omega, rfl⟩⟩
  exact lp2 (d + 2).toNat d (by omega) (by omega) h1 Iff.rfl _ _ hC hS ls (by rw [opA_is (by omega)]; exact (lv_sub hl [1, 2, 0] rfl))

set_option maxRecDepth 100000 in
set_option maxHeartbeats 4000000 in
theorem c_hasOnItsWay (l : Launch) (D : va_G) (cO : ClassId) (dz mi : Nat) {A : Nat → Prop} {S : HdS} {w : CW} {g : Nat → Int → Nat} {T : Nat → Nat × Int} {U : Int → Int} {n : Int} (hw : wf S n) (hR : RelC S w g T U) (d : Int) (h0 : 0 ≤ d) (h1 : d < S.1 11 0) (o : Int) (o0 : 0 ≤ o) (o1 : o < S.1 11 0) : cI l yX1_hasOnItsWay wsX1_hasOnItsWay { frames := 0, cells := 0, slots := 0, locals := 0 } D cO dz mi A [.ref (g 4 d), .ref (g 4 o)] w (fun r w9 => w = w9 ∧ ((o ∈ wayS S d) ∧ r = iI 1 ∨ (o ∉ wayS S d) ∧ r = iI 0)) 0 0 := by
  refine cI_of (cc := cX1_hasOnItsWay) (maxL := 3) (ty := .boolean) (by decide) rfl (Nat.le_of_ble_eq_true rfl) ?_
  intro pp ee ss mm args below meth cc Q hx hb hml hown hts hA hC hE hX hS hret ls hl
  have hl : lv_has ls 3 [(0, .ref (g 4 d)), (1, .ref (g 4 o))] := hl
  have hin_X1 : ∀ w ∈ wsX10, w ∈ wsX1_hasOnItsWay := by decide +kernel
  have hnd := hw.nd
  have hnf := hw.nf
  have hdy := hw.day
  have hnf0 := hnf.1
  refine lv_aload_n hx hb dX1_hasOnItsWay_0 rfl (lv_at hl 0 rfl) ?_
  refine lv_astore_n (lv' := [(2, .ref (g 4 d)), (0, .ref (g 4 d)), (1, .ref (g 4 o))]) hx hb dX1_hasOnItsWay_1 rfl hl (by decide) rfl (fun ls hl => ?_)
  have lp2 : ∀ (n9 : Nat) (x : Int), x + 1 < (n9 : Int) → (-1 ≤ x) → (x < S.1 11 0) → (o ∈ wayS S d ↔ o ∈ wayS S x) → ∀ (H : Heap) (locs : List Loc), cH D cO dz A w H → va_S A ss.heap H locs → ∀ (ls : Array Slot), lv_has ls 3 [(0, .ref (g 4 d)), (1, .ref (g 4 o)), (2, va_rf (opA g x))] → W pp l ee { frames := 0, cells := 0, slots := 0, locals := 0 } ss mm args below meth cc H locs 0 0 Q (F0 mm 2 ls []) := by
    intro n9
    induction n9 with
    | zero => intro x hms hx0 hx1 hx2 H locs hC hS ls hl; exfalso; omega
    | succ n9 ih9 =>
      intro x hms hx0 hx1 hx2 H locs hC hS ls hl
      refine qr_aload_n hx hb dX1_hasOnItsWay_2 rfl (lv_at hl 2 rfl) ?_
      refine qr_ifnull (r := opA g x) (tgt := 21) hx hb dX1_hasOnItsWay_3 (by decide) (fun c_3 => ?_) (fun c_3 => ?_)
      · skip
        have c_3 := opA_nil c_3
        refine lv_iconst (v := iI 0) hx hb dX1_hasOnItsWay_21 rfl ?_
        exact hret (0) (w) _ _ _ _ _ _ dX1_hasOnItsWay_22 (by decide) hC hS (by omega) (by omega) ⟨rfl, Or.inr ⟨by rw [hx2, c_3, wayS_neg]; exact List.not_mem_nil, rfl⟩⟩
      · skip
        have c_3 := opA_not c_3
        have hl : lv_has ls 3 [(0, .ref (g 4 d)), (1, .ref (g 4 o)), (2, .ref (g 4 x))] := by rw [opA_is c_3] at hl; exact hl
        refine lv_aload_n hx hb dX1_hasOnItsWay_6 rfl (lv_at hl 2 rfl) ?_
        refine lv_aload_n hx hb dX1_hasOnItsWay_7 rfl (lv_at hl 1 rfl) ?_
        refine lv_acmp_ne (rx := some (g 4 x)) (ry := some (g 4 o)) (tgt := 13) hx hb dX1_hasOnItsWay_8 (by decide) (fun c_8 => ?_) (fun c_8 => ?_)
        · skip
          refine lv_aload_n hx hb dX1_hasOnItsWay_13 rfl (lv_at hl 2 rfl) ?_
          refine c_get (C := RX1) (T := TX1) (N := 4) hx hb hts hin_X1 hown hE hC (hR.k4 (by first | omega | assumption) (by first | omega | assumption)) (by decide) (by decide) rfl 1 (by decide) (hts (.fieldLink RX1 15 "HoldServer$Directory" "parent" "LHoldServer$Directory;") (by decide +kernel)) rfl (v := va_rf (opA g (S.1 0 x))) (congrArg (fun z => some (va_rf z)) (hR.d (d := x) (by first | omega | assumption) (by first | omega | assumption)).2.1) dX1_hasOnItsWay_14 ?_
          refine qr_astore_n (lv' := [(2, va_rf (opA g (S.1 0 x))), (0, .ref (g 4 d)), (1, .ref (g 4 o))]) hx hb dX1_hasOnItsWay_17 rfl hl (by decide) rfl (fun ls hl => ?_)
          refine lv_goto (tgt := 2) hx hb dX1_hasOnItsWay_18 (by decide) ?_
          have hx3 := hw.par' (d := x) (by omega) hx1
          exact ih9 (S.1 0 x) (by omega) hx3.1 (by omega) (by rw [hx2, wayS_step hw (by omega) hx1, List.mem_cons]; exact ⟨fun q => q.resolve_left (fun e => c_8 (by rw [e])), Or.inr⟩) H locs hC hS ls (lv_sub hl [1, 2, 0] rfl)
        · skip
          have c_8 := (hR.iff4 (by omega) hx1 o0 o1).mp (Option.some.inj c_8)
          refine lv_iconst (v := iI 1) hx hb dX1_hasOnItsWay_11 rfl ?_
          exact hret (1) (w) _ _ _ _ _ _ dX1_hasOnItsWay_12 (by decide) hC hS (by omega) (by omega) ⟨rfl, Or.inl ⟨by rw [hx2, wayS_step hw (by omega) hx1, c_8]; exact List.mem_cons_self, rfl⟩⟩
  exact lp2 (d + 2).toNat d (by omega) (by omega) h1 Iff.rfl _ _ hC hS ls (by rw [opA_is (by omega)]; exact (lv_sub hl [1, 2, 0] rfl))

set_option maxRecDepth 100000 in
set_option maxHeartbeats 4000000 in
theorem c_addUsage (l : Launch) (D : va_G) (cO : ClassId) (dz mi : Nat) {A : Nat → Prop} {S : HdS} {w : CW} {g : Nat → Int → Nat} {T : Nat → Nat × Int} {U : Int → Int} (hR : RelC S w g T U) {S0 : HdS} {n : Int} (hw : wf S0 n) (hS1 : S.1 = S0.1) (hnf0 : 0 ≤ S.1 11 1) (d : Int) (h0 : 0 ≤ d) (h1 : d < S.1 11 0) (z : Int) : cV l yX1_addUsage wsX1_addUsage { frames := 0, cells := 0, slots := 0, locals := 0 } D cO dz mi A [.ref (g 4 d), .int (iI (z))] w (fun w9 => RelC S w9 g T (addU S0 U d z)) 0 0 := by
  refine cV_of (cc := cX1_addUsage) (maxL := 3)  (by decide) rfl (Nat.le_of_ble_eq_true rfl) ?_
  intro pp ee ss mm args below meth cc Q hx hb hml hown hts hA hC hE hX hS hini hret ls hl
  have hl : lv_has ls 3 [(0, .ref (g 4 d)), (1, .int (iI (z)))] := hl
  have hin_X1 : ∀ w ∈ wsX10, w ∈ wsX1_addUsage := by decide +kernel
  refine lv_aload_n hx hb dX1_addUsage_0 rfl (lv_at hl 0 rfl) ?_
  refine lv_astore_n (lv' := [(2, .ref (g 4 d)), (0, .ref (g 4 d)), (1, .int (iI (z)))]) hx hb dX1_addUsage_1 rfl hl (by decide) rfl (fun ls hl => ?_)
  have lp2 : ∀ (n9 : Nat) (x : Int) (U2 : Int → Int), x + 1 < (n9 : Int) → (-1 ≤ x) → (x < S.1 11 0) → (addU S0 U2 x z = addU S0 U d z) → ∀ (w2 : CW) (H : Heap) (locs : List Loc), (RelC S w2 g T U2) → cH D cO dz A w2 H → va_S A ss.heap H locs → ∀ (ls : Array Slot), lv_has ls 3 [(0, .ref (g 4 d)), (1, .int (iI (z))), (2, va_rf (opA g x))] → W pp l ee { frames := 0, cells := 0, slots := 0, locals := 0 } ss mm args below meth cc H locs 0 0 Q (F0 mm 2 ls []) := by
    intro n9
    induction n9 with
    | zero => intro x U2 hms hx0 hx1 hx2 w2 H locs hR hC hS ls hl; exfalso; omega
    | succ n9 ih9 =>
      intro x U2 hms hx0 hx1 hx2 w2 H locs hR hC hS ls hl
      refine qr_aload_n hx hb dX1_addUsage_2 rfl (lv_at hl 2 rfl) ?_
      refine qr_ifnull (r := opA g x) (tgt := 24) hx hb dX1_addUsage_3 (by decide) (fun c_3 => ?_) (fun c_3 => ?_)
      · skip
        have c_3 := opA_nil c_3
        exact hret (w2) _ _ _ _ _ _ dX1_addUsage_24 hC hS (by omega) (by omega) (by rw [← hx2, c_3, addU_neg]; exact hR)
      · skip
        have c_3 := opA_not c_3
        have hl : lv_has ls 3 [(0, .ref (g 4 d)), (1, .int (iI (z))), (2, .ref (g 4 x))] := by rw [opA_is c_3] at hl; exact hl
        refine lv_aload_n hx hb dX1_addUsage_6 rfl (lv_at hl 2 rfl) ?_
        refine lv_dup hx hb dX1_addUsage_7 rfl ?_
        refine c_get (C := RX1) (T := TX1) (N := 4) hx hb hts hin_X1 hown hE hC (hR.k4 (by first | omega | assumption) (by first | omega | assumption)) (by decide) (by decide) rfl 3 (by decide) (hts (.fieldLink RX1 22 "HoldServer$Directory" "usage" "I") (by decide +kernel)) rfl (v := .int (iI ((U2 x)))) (congrArg (fun z => some (Value.int (iI z))) (hR.d (d := x) (by first | omega | assumption) (by first | omega | assumption)).2.2.2) dX1_addUsage_8 ?_
        refine lv_iload_n hx hb dX1_addUsage_11 rfl (lv_at hl 1 rfl) ?_
        refine h_iadd hx hb dX1_addUsage_12 ?_
        refine c_putI (C := RX1) (T := TX1) (N := 4) hx hb hts hin_X1 tyX1 tyX1_ok nmX1 hown hE hC hS (hR.k4 (by first | omega | assumption) (by first | omega | assumption)) (by decide) (by decide) rfl 3 (by decide) (hts (.fieldLink RX1 22 "HoldServer$Directory" "usage" "I") (by decide +kernel)) rfl rfl (by decide +kernel) (z := ((U2 x) + z)) 23 (Nat.le_of_ble_eq_true rfl) (cs_23 _ _ _) dX1_addUsage_13 (fun H locs hC hS => ?_)
        have hR := hR.use hnf0 (d := x) (v := ((U2 x) + z)) (by first | omega | assumption) (by first | omega | assumption)
        refine lv_aload_n hx hb dX1_addUsage_16 rfl (lv_at hl 2 rfl) ?_
        refine c_get (C := RX1) (T := TX1) (N := 4) hx hb hts hin_X1 hown hE hC (hR.k4 (by first | omega | assumption) (by first | omega | assumption)) (by decide) (by decide) rfl 1 (by decide) (hts (.fieldLink RX1 15 "HoldServer$Directory" "parent" "LHoldServer$Directory;") (by decide +kernel)) rfl (v := va_rf (opA g (S.1 0 x))) (congrArg (fun z => some (va_rf z)) (hR.d (d := x) (by first | omega | assumption) (by first | omega | assumption)).2.1) dX1_addUsage_17 ?_
        refine qr_astore_n (lv' := [(2, va_rf (opA g (S.1 0 x))), (0, .ref (g 4 d)), (1, .int (iI (z)))]) hx hb dX1_addUsage_20 rfl hl (by decide) rfl (fun ls hl => ?_)
        refine lv_goto (tgt := 2) hx hb dX1_addUsage_21 (by decide) ?_
        have hx3 : -1 ≤ S.1 0 x ∧ S.1 0 x < x := by rw [hS1]; exact hw.par' (by omega) (by rw [← hS1]; exact hx1)
        exact ih9 (S.1 0 x) _ (by omega) hx3.1 (by omega) (by rw [← hx2, hS1]; exact addU_step hw U2 (by omega) (by rw [← hS1]; exact hx1)) _ H locs hR hC hS ls (lv_sub hl [1, 2, 0] rfl)
  exact lp2 (d + 2).toNat d U (by omega) (by omega) h1 rfl _ _ _ hR hC hS ls (by rw [opA_is (by omega)]; exact (lv_sub hl [1, 2, 0] rfl))

set_option maxRecDepth 100000 in
set_option maxHeartbeats 4000000 in
theorem c_replaceSize (l : Launch) (D : va_G) (cO : ClassId) (dz mi : Nat) {A : Nat → Prop} {S : HdS} {w : CW} {g : Nat → Int → Nat} {T : Nat → Nat × Int} {U : Int → Int} (hR : RelC S w g T U) (f : Int) (h0 : 0 ≤ f) (h1 : f < S.1 11 1) (v : Int) (hnf0 : 0 ≤ S.1 11 1) (hh : 0 ≤ S.1 7 f ∧ S.1 7 f < 32) : cV l yX2_replaceSize wsX2_replaceSize { frames := 0, cells := 0, slots := 0, locals := 0 } D cO dz mi A [.ref (g 5 f), .int (iI (v))] w (fun w9 => RelC (sset (sset S 6 f (keepT S f)) 3 f v) w9 g T U) 0 0 := by
  refine cV_of (cc := cX2_replaceSize) (maxL := 2)  (by decide) rfl (Nat.le_of_ble_eq_true rfl) ?_
  intro pp ee ss mm args below meth cc Q hx hb hml hown hts hA hC hE hX hS hini hret ls hl
  have hl : lv_has ls 2 [(0, .ref (g 5 f)), (1, .int (iI (v)))] := hl
  have hin_X2 : ∀ w ∈ wsX20, w ∈ wsX2_replaceSize := by decide +kernel
  refine lv_aload_n hx hb dX2_replaceSize_0 rfl (lv_at hl 0 rfl) ?_
  refine c_get (C := RX2) (T := TX2) (N := 6) hx hb hts hin_X2 hown hE hC (hR.k5 (by first | omega | assumption) (by first | omega | assumption)) (by decide) (by decide) rfl 3 (by decide) (hts (.fieldLink RX2 49 "HoldServer$StoredFile" "holders" "I") (by decide +kernel)) rfl (v := .int (iI ((S.1 7 f)))) (congrArg (fun z => some (Value.int (iI z))) (hR.f (f := f) (by first | omega | assumption) (by first | omega | assumption)).2.2.2.2.1) dX2_replaceSize_1 ?_
  refine h_if_eq (tgt := 20) hx hb (by omega) dX2_replaceSize_4 (by decide) (fun c_4 => ?_) (fun c_4 => ?_)
  · skip
    refine lv_aload_n hx hb dX2_replaceSize_20 rfl (lv_at hl 0 rfl) ?_
    refine lv_iload_n hx hb dX2_replaceSize_21 rfl (lv_at hl 1 rfl) ?_
    refine c_putI (C := RX2) (T := TX2) (N := 6) hx hb hts hin_X2 tyX2 tyX2_ok nmX2 hown hE hC hS (hR.k5 (by first | omega | assumption) (by first | omega | assumption)) (by decide) (by decide) rfl 2 (by decide) (hts (.fieldLink RX2 22 "HoldServer$StoredFile" "size" "I") (by decide +kernel)) rfl rfl (by decide +kernel) (z := v) 32 (Nat.le_of_ble_eq_true rfl) (cs_32 _ _ _) dX2_replaceSize_22 (fun H locs hC hS => ?_)
    have hR := hR.siz (by first | omega | assumption) (f := f) (v := v) (by first | omega | assumption) (by first | omega | assumption)
    exact hret ((wF w 32 (g 5 f) v)) _ _ _ _ _ _ dX2_replaceSize_25 hC hS (by omega) (by omega) (by rw [show sset S 6 f (keepT S f) = S from by unfold keepT; rw [if_pos c_4, Int.add_zero, sset_same]]; exact hR)
  · skip
    refine lv_aload_n hx hb dX2_replaceSize_7 rfl (lv_at hl 0 rfl) ?_
    refine lv_dup hx hb dX2_replaceSize_8 rfl ?_
    refine c_get (C := RX2) (T := TX2) (N := 6) hx hb hts hin_X2 hown hE hC (hR.k5 (by first | omega | assumption) (by first | omega | assumption)) (by decide) (by decide) rfl 4 (by decide) (hts (.fieldLink RX2 52 "HoldServer$StoredFile" "kept" "I") (by decide +kernel)) rfl (v := .int (iI ((S.1 6 f)))) (congrArg (fun z => some (Value.int (iI z))) (hR.f (f := f) (by first | omega | assumption) (by first | omega | assumption)).2.2.2.2.2.1) dX2_replaceSize_9 ?_
    refine lv_aload_n hx hb dX2_replaceSize_12 rfl (lv_at hl 0 rfl) ?_
    refine c_get (C := RX2) (T := TX2) (N := 6) hx hb hts hin_X2 hown hE hC (hR.k5 (by first | omega | assumption) (by first | omega | assumption)) (by decide) (by decide) rfl 2 (by decide) (hts (.fieldLink RX2 22 "HoldServer$StoredFile" "size" "I") (by decide +kernel)) rfl (v := .int (iI ((S.1 3 f)))) (congrArg (fun z => some (Value.int (iI z))) (hR.f (f := f) (by first | omega | assumption) (by first | omega | assumption)).2.2.2.1) dX2_replaceSize_13 ?_
    refine h_iadd hx hb dX2_replaceSize_16 ?_
    refine c_putI (C := RX2) (T := TX2) (N := 6) hx hb hts hin_X2 tyX2 tyX2_ok nmX2 hown hE hC hS (hR.k5 (by first | omega | assumption) (by first | omega | assumption)) (by decide) (by decide) rfl 4 (by decide) (hts (.fieldLink RX2 52 "HoldServer$StoredFile" "kept" "I") (by decide +kernel)) rfl rfl (by decide +kernel) (z := ((S.1 6 f) + (S.1 3 f))) 34 (Nat.le_of_ble_eq_true rfl) (cs_34 _ _ _) dX2_replaceSize_17 (fun H locs hC hS => ?_)
    have hR := hR.kep (by first | omega | assumption) (f := f) (v := ((S.1 6 f) + (S.1 3 f))) (by first | omega | assumption) (by first | omega | assumption)
    refine lv_aload_n hx hb dX2_replaceSize_20 rfl (lv_at hl 0 rfl) ?_
    refine lv_iload_n hx hb dX2_replaceSize_21 rfl (lv_at hl 1 rfl) ?_
    refine c_putI (C := RX2) (T := TX2) (N := 6) hx hb hts hin_X2 tyX2 tyX2_ok nmX2 hown hE hC hS (hR.k5 (by first | omega | assumption) (by first | omega | assumption)) (by decide) (by decide) rfl 2 (by decide) (hts (.fieldLink RX2 22 "HoldServer$StoredFile" "size" "I") (by decide +kernel)) rfl rfl (by decide +kernel) (z := v) 32 (Nat.le_of_ble_eq_true rfl) (cs_32 _ _ _) dX2_replaceSize_22 (fun H locs hC hS => ?_)
    have hR := hR.siz (by first | omega | assumption) (f := f) (v := v) (by first | omega | assumption) (by first | omega | assumption)
    exact hret ((wF (wF w 34 (g 5 f) ((S.1 6 f) + (S.1 3 f))) 32 (g 5 f) v)) _ _ _ _ _ _ dX2_replaceSize_25 hC hS (by omega) (by omega) (by rw [show keepT S f = S.1 6 f + S.1 3 f from by unfold keepT; rw [if_neg c_4]]; exact hR)

set_option maxRecDepth 100000 in
set_option maxHeartbeats 4000000 in
theorem c_requireBetween (l : Launch) (D : va_G) (cO : ClassId) (dz mi : Nat) {A : Nat → Prop} (w : CW) (hst : l.stackTraces = false) (lo v hi : Int) (r1 : inQ lo) (r2 : inQ v) (r3 : inQ hi) : cVX l yX3_requireBetween wsX3_requireBetween { frames := 6, cells := 1, slots := 6, locals := 90 } D cO dz mi A [.int (iI (lo)), .int (iI (v)), .int (iI (hi))] w (fun w9 => w = w9 ∧ lo ≤ v ∧ v ≤ hi) (fun E => E = xIAE ∧ ¬ (lo ≤ v ∧ v ≤ hi)) 1 6 := by
  refine cVX_of (cc := cX3_requireBetween) (maxL := 3)  (by decide) rfl (Nat.le_of_ble_eq_true rfl) ?_
  intro pp ee ss mm args below meth cc Q hx hb hml hown hts hA hC hE hX hS hto hlk hQ hret ls hl
  have hl : lv_has ls 3 [(0, .int (iI (lo))), (1, .int (iI (v))), (2, .int (iI (hi)))] := hl
  refine lv_iload_n hx hb dX3_requireBetween_0 rfl (lv_at hl 1 rfl) ?_
  refine lv_iload_n hx hb dX3_requireBetween_1 rfl (lv_at hl 0 rfl) ?_
  refine h_icmp_lt (tgt := 10) hx hb (by omega) (by omega) dX3_requireBetween_2 (by decide) (fun c_2 => ?_) (fun c_2 => ?_)
  · skip
    exact x_throw (cls := xIAE) (text := _) (is := 192) (ic := 194) hx hb hst (by first | exact Or.inl ⟨rfl, rfl, rfl⟩ | exact Or.inr (Or.inl ⟨rfl, rfl, rfl⟩) | exact Or.inr (Or.inr ⟨rfl, rfl, rfl⟩)) hown hts (by decide +kernel) xs_192 hX hC hS hQ (hl.1.trans hml.symm) dX3_requireBetween_10 dX3_requireBetween_13 dX3_requireBetween_14 dX3_requireBetween_16 dX3_requireBetween_19 hto (Nat.le_of_ble_eq_true rfl) (Nat.le_of_ble_eq_true rfl) (Nat.le_of_ble_eq_true rfl) (Nat.le_of_ble_eq_true rfl) hlk ⟨rfl, by omega⟩ (by omega) (by omega)
  · skip
    refine lv_iload_n hx hb dX3_requireBetween_5 rfl (lv_at hl 1 rfl) ?_
    refine lv_iload_n hx hb dX3_requireBetween_6 rfl (lv_at hl 2 rfl) ?_
    refine h_icmp_le (tgt := 20) hx hb (by omega) (by omega) dX3_requireBetween_7 (by decide) (fun c_7 => ?_) (fun c_7 => ?_)
    · skip
      exact hret (w) _ _ _ _ _ _ dX3_requireBetween_20 hC hS (by omega) (by omega) ⟨rfl, by omega, by omega⟩
    · skip
      exact x_throw (cls := xIAE) (text := _) (is := 192) (ic := 194) hx hb hst (by first | exact Or.inl ⟨rfl, rfl, rfl⟩ | exact Or.inr (Or.inl ⟨rfl, rfl, rfl⟩) | exact Or.inr (Or.inr ⟨rfl, rfl, rfl⟩)) hown hts (by decide +kernel) xs_192 hX hC hS hQ (hl.1.trans hml.symm) dX3_requireBetween_10 dX3_requireBetween_13 dX3_requireBetween_14 dX3_requireBetween_16 dX3_requireBetween_19 hto (Nat.le_of_ble_eq_true rfl) (Nat.le_of_ble_eq_true rfl) (Nat.le_of_ble_eq_true rfl) (Nat.le_of_ble_eq_true rfl) hlk ⟨rfl, by omega⟩ (by omega) (by omega)

set_option maxRecDepth 100000 in
set_option maxHeartbeats 4000000 in
theorem c_dirNumbered (l : Launch) (D : va_G) (cO : ClassId) (dz mi : Nat) {A : Nat → Prop} {S : HdS} {w : CW} {g : Nat → Int → Nat} {T : Nat → Nat × Int} {U : Int → Int} {n : Int} (hw : wf S n) (hR : RelC S w g T U) (hst : l.stackTraces = false) (i : Int) (ri : inQ i) : cQX l yX3_directoryNumbered wsX3_directoryNumbered { frames := 6, cells := 1, slots := 6, locals := 90 } D cO dz mi A [.ref (g 0 0), .int (iI (i))] w (fun r w9 => w = w9 ∧ r = some (g 4 i) ∧ 0 ≤ i ∧ i < S.1 11 0) (fun E => E = xIOB ∧ ¬ (0 ≤ i ∧ i < S.1 11 0)) 1 6 := by
  refine cQX_of (cc := cX3_directoryNumbered) (maxL := 2) (ty := (.object "HoldServer$Directory")) (by decide) rfl (Nat.le_of_ble_eq_true rfl) (Or.inl ⟨_, rfl⟩) ?_
  intro pp ee ss mm args below meth cc Q hx hb hml hown hts hA hC hE hX hS hto hlk hQ hret ls hl
  have hl : lv_has ls 2 [(0, .ref (g 0 0)), (1, .int (iI (i)))] := hl
  have hin_X3 : ∀ w ∈ wsX30, w ∈ wsX3_directoryNumbered := by decide +kernel
  have hnd := hw.nd
  have hnf := hw.nf
  have hdy := hw.day
  have hnf0 := hnf.1
  refine lv_iload_n hx hb dX3_directoryNumbered_0 rfl (lv_at hl 1 rfl) ?_
  refine h_if_lt (tgt := 15) hx hb (by omega) dX3_directoryNumbered_1 (by decide) (fun c_1 => ?_) (fun c_1 => ?_)
  · skip
    exact x_throw (cls := xIOB) (text := _) (is := 181) (ic := 183) hx hb hst (by first | exact Or.inl ⟨rfl, rfl, rfl⟩ | exact Or.inr (Or.inl ⟨rfl, rfl, rfl⟩) | exact Or.inr (Or.inr ⟨rfl, rfl, rfl⟩)) hown hts (by decide +kernel) xs_181 hX hC hS hQ (hl.1.trans hml.symm) dX3_directoryNumbered_15 dX3_directoryNumbered_18 dX3_directoryNumbered_19 dX3_directoryNumbered_21 dX3_directoryNumbered_24 hto (Nat.le_of_ble_eq_true rfl) (Nat.le_of_ble_eq_true rfl) (Nat.le_of_ble_eq_true rfl) (Nat.le_of_ble_eq_true rfl) hlk ⟨rfl, by omega⟩ (by omega) (by omega)
  · skip
    refine lv_iload_n hx hb dX3_directoryNumbered_4 rfl (lv_at hl 1 rfl) ?_
    refine lv_aload_n hx hb dX3_directoryNumbered_5 rfl (lv_at hl 0 rfl) ?_
    refine c_get (C := RX3) (T := TX3) (N := 4) hx hb hts hin_X3 hown hE hC hR.k0 (by decide) (by decide) rfl 0 (by decide) (hts (.fieldLink RX3 10 "HoldServer" "directories" "Ljava/util/ArrayList;") (by decide +kernel)) rfl (v := .ref (g 1 0)) (congrArg (fun z => some (va_rf z)) hR.dirs) dX3_directoryNumbered_6 ?_
    refine c_callI hS (va_runV (As := []) (rest := [.int (iI (i))]) ⟨hx, hb, hml, hown, hts⟩ (R_size1 l D cO dz mi hR (by omega)) (cwV 0 hts gX3_directoryNumbered_Jx4a65c_size_8abf5 rfl rfl rfl (by decide +kernel) ⟨Nat.le_of_ble_eq_true rfl, Nat.le_of_ble_eq_true rfl⟩) (c_preL hA hE hX hC hS hR.k1) rfl rfl hl.1 rfl (lv_room (Nat.le_of_ble_eq_true rfl)) dX3_directoryNumbered_9 ⟨Nat.le_of_ble_eq_true rfl, Nat.le_of_ble_eq_true rfl⟩) (fun r9 w9 H locs hpost hC hS => ?_)
    obtain ⟨rfl, rfl⟩ := hpost
    refine h_icmp_lt (tgt := 25) hx hb (by omega) (by omega) dX3_directoryNumbered_12 (by decide) (fun c_12 => ?_) (fun c_12 => ?_)
    · skip
      refine lv_aload_n hx hb dX3_directoryNumbered_25 rfl (lv_at hl 0 rfl) ?_
      refine c_get (C := RX3) (T := TX3) (N := 4) hx hb hts hin_X3 hown hE hC hR.k0 (by decide) (by decide) rfl 0 (by decide) (hts (.fieldLink RX3 10 "HoldServer" "directories" "Ljava/util/ArrayList;") (by decide +kernel)) rfl (v := .ref (g 1 0)) (congrArg (fun z => some (va_rf z)) hR.dirs) dX3_directoryNumbered_26 ?_
      refine lv_iload_n hx hb dX3_directoryNumbered_29 rfl (lv_at hl 1 rfl) ?_
      refine c_callQ hS (va_runV (As := [.int (iI (i))]) (rest := []) ⟨hx, hb, hml, hown, hts⟩ (R_get1 l D cO dz mi hR (by omega) i (by omega) (by omega)) (cwV 1 hts gX3_directoryNumbered_Jx4a65c_get_915e3 rfl rfl rfl (by decide +kernel) ⟨Nat.le_of_ble_eq_true rfl, Nat.le_of_ble_eq_true rfl⟩) (c_preL hA hE hX hC hS hR.k1) rfl rfl hl.1 rfl (lv_room (Nat.le_of_ble_eq_true rfl)) dX3_directoryNumbered_30 ⟨Nat.le_of_ble_eq_true rfl, Nat.le_of_ble_eq_true rfl⟩) (fun r9 w9 H locs hpost hC hS => ?_)
      obtain ⟨rfl, rfl⟩ := hpost
      refine c_castT (r := (RX1, TX1, 4)) hx hb hown (hts (.classLink RX3 22 RX1) (by decide +kernel)) hE hC (hR.k4 (by first | omega | assumption) (by first | omega | assumption)) (by decide) (by decide) rfl dX3_directoryNumbered_33 ?_
      exact hret (some (g 4 i)) (w) _ _ _ _ _ _ dX3_directoryNumbered_36 hC hS (by omega) (by omega) ⟨rfl, rfl, by omega, by omega⟩
    · skip
      exact x_throw (cls := xIOB) (text := _) (is := 181) (ic := 183) hx hb hst (by first | exact Or.inl ⟨rfl, rfl, rfl⟩ | exact Or.inr (Or.inl ⟨rfl, rfl, rfl⟩) | exact Or.inr (Or.inr ⟨rfl, rfl, rfl⟩)) hown hts (by decide +kernel) xs_181 hX hC hS hQ (hl.1.trans hml.symm) dX3_directoryNumbered_15 dX3_directoryNumbered_18 dX3_directoryNumbered_19 dX3_directoryNumbered_21 dX3_directoryNumbered_24 hto (Nat.le_of_ble_eq_true rfl) (Nat.le_of_ble_eq_true rfl) (Nat.le_of_ble_eq_true rfl) (Nat.le_of_ble_eq_true rfl) hlk ⟨rfl, by omega⟩ (by omega) (by omega)

set_option maxRecDepth 100000 in
set_option maxHeartbeats 4000000 in
theorem c_filNumbered (l : Launch) (D : va_G) (cO : ClassId) (dz mi : Nat) {A : Nat → Prop} {S : HdS} {w : CW} {g : Nat → Int → Nat} {T : Nat → Nat × Int} {U : Int → Int} {n : Int} (hw : wf S n) (hR : RelC S w g T U) (hst : l.stackTraces = false) (i : Int) (ri : inQ i) : cQX l yX3_fileNumbered wsX3_fileNumbered { frames := 6, cells := 1, slots := 6, locals := 90 } D cO dz mi A [.ref (g 0 0), .int (iI (i))] w (fun r w9 => w = w9 ∧ r = some (g 5 i) ∧ 0 ≤ i ∧ i < S.1 11 1) (fun E => E = xIOB ∧ ¬ (0 ≤ i ∧ i < S.1 11 1)) 1 6 := by
  refine cQX_of (cc := cX3_fileNumbered) (maxL := 2) (ty := (.object "HoldServer$StoredFile")) (by decide) rfl (Nat.le_of_ble_eq_true rfl) (Or.inl ⟨_, rfl⟩) ?_
  intro pp ee ss mm args below meth cc Q hx hb hml hown hts hA hC hE hX hS hto hlk hQ hret ls hl
  have hl : lv_has ls 2 [(0, .ref (g 0 0)), (1, .int (iI (i)))] := hl
  have hin_X3 : ∀ w ∈ wsX30, w ∈ wsX3_fileNumbered := by decide +kernel
  have hnd := hw.nd
  have hnf := hw.nf
  have hdy := hw.day
  have hnf0 := hnf.1
  refine lv_iload_n hx hb dX3_fileNumbered_0 rfl (lv_at hl 1 rfl) ?_
  refine h_if_lt (tgt := 15) hx hb (by omega) dX3_fileNumbered_1 (by decide) (fun c_1 => ?_) (fun c_1 => ?_)
  · skip
    exact x_throw (cls := xIOB) (text := _) (is := 184) (ic := 183) hx hb hst (by first | exact Or.inl ⟨rfl, rfl, rfl⟩ | exact Or.inr (Or.inl ⟨rfl, rfl, rfl⟩) | exact Or.inr (Or.inr ⟨rfl, rfl, rfl⟩)) hown hts (by decide +kernel) xs_184 hX hC hS hQ (hl.1.trans hml.symm) dX3_fileNumbered_15 dX3_fileNumbered_18 dX3_fileNumbered_19 dX3_fileNumbered_21 dX3_fileNumbered_24 hto (Nat.le_of_ble_eq_true rfl) (Nat.le_of_ble_eq_true rfl) (Nat.le_of_ble_eq_true rfl) (Nat.le_of_ble_eq_true rfl) hlk ⟨rfl, by omega⟩ (by omega) (by omega)
  · skip
    refine lv_iload_n hx hb dX3_fileNumbered_4 rfl (lv_at hl 1 rfl) ?_
    refine lv_aload_n hx hb dX3_fileNumbered_5 rfl (lv_at hl 0 rfl) ?_
    refine c_get (C := RX3) (T := TX3) (N := 4) hx hb hts hin_X3 hown hE hC hR.k0 (by decide) (by decide) rfl 1 (by decide) (hts (.fieldLink RX3 16 "HoldServer" "files" "Ljava/util/ArrayList;") (by decide +kernel)) rfl (v := .ref (g 2 0)) (congrArg (fun z => some (va_rf z)) hR.fils) dX3_fileNumbered_6 ?_
    refine c_callI hS (va_runV (As := []) (rest := [.int (iI (i))]) ⟨hx, hb, hml, hown, hts⟩ (R_size2 l D cO dz mi hR (by omega)) (cwV 0 hts gX3_fileNumbered_Jx4a65c_size_8abf5 rfl rfl rfl (by decide +kernel) ⟨Nat.le_of_ble_eq_true rfl, Nat.le_of_ble_eq_true rfl⟩) (c_preL hA hE hX hC hS hR.k2) rfl rfl hl.1 rfl (lv_room (Nat.le_of_ble_eq_true rfl)) dX3_fileNumbered_9 ⟨Nat.le_of_ble_eq_true rfl, Nat.le_of_ble_eq_true rfl⟩) (fun r9 w9 H locs hpost hC hS => ?_)
    obtain ⟨rfl, rfl⟩ := hpost
    refine h_icmp_lt (tgt := 25) hx hb (by omega) (by omega) dX3_fileNumbered_12 (by decide) (fun c_12 => ?_) (fun c_12 => ?_)
    · skip
      refine lv_aload_n hx hb dX3_fileNumbered_25 rfl (lv_at hl 0 rfl) ?_
      refine c_get (C := RX3) (T := TX3) (N := 4) hx hb hts hin_X3 hown hE hC hR.k0 (by decide) (by decide) rfl 1 (by decide) (hts (.fieldLink RX3 16 "HoldServer" "files" "Ljava/util/ArrayList;") (by decide +kernel)) rfl (v := .ref (g 2 0)) (congrArg (fun z => some (va_rf z)) hR.fils) dX3_fileNumbered_26 ?_
      refine lv_iload_n hx hb dX3_fileNumbered_29 rfl (lv_at hl 1 rfl) ?_
      refine c_callQ hS (va_runV (As := [.int (iI (i))]) (rest := []) ⟨hx, hb, hml, hown, hts⟩ (R_get2 l D cO dz mi hR (by omega) i (by omega) (by omega)) (cwV 1 hts gX3_fileNumbered_Jx4a65c_get_915e3 rfl rfl rfl (by decide +kernel) ⟨Nat.le_of_ble_eq_true rfl, Nat.le_of_ble_eq_true rfl⟩) (c_preL hA hE hX hC hS hR.k2) rfl rfl hl.1 rfl (lv_room (Nat.le_of_ble_eq_true rfl)) dX3_fileNumbered_30 ⟨Nat.le_of_ble_eq_true rfl, Nat.le_of_ble_eq_true rfl⟩) (fun r9 w9 H locs hpost hC hS => ?_)
      obtain ⟨rfl, rfl⟩ := hpost
      refine c_castT (r := (RX2, TX2, 6)) hx hb hown (hts (.classLink RX3 68 RX2) (by decide +kernel)) hE hC (hR.k5 (by first | omega | assumption) (by first | omega | assumption)) (by decide) (by decide) rfl dX3_fileNumbered_33 ?_
      exact hret (some (g 5 i)) (w) _ _ _ _ _ _ dX3_fileNumbered_36 hC hS (by omega) (by omega) ⟨rfl, rfl, by omega, by omega⟩
    · skip
      exact x_throw (cls := xIOB) (text := _) (is := 184) (ic := 183) hx hb hst (by first | exact Or.inl ⟨rfl, rfl, rfl⟩ | exact Or.inr (Or.inl ⟨rfl, rfl, rfl⟩) | exact Or.inr (Or.inr ⟨rfl, rfl, rfl⟩)) hown hts (by decide +kernel) xs_184 hX hC hS hQ (hl.1.trans hml.symm) dX3_fileNumbered_15 dX3_fileNumbered_18 dX3_fileNumbered_19 dX3_fileNumbered_21 dX3_fileNumbered_24 hto (Nat.le_of_ble_eq_true rfl) (Nat.le_of_ble_eq_true rfl) (Nat.le_of_ble_eq_true rfl) (Nat.le_of_ble_eq_true rfl) hlk ⟨rfl, by omega⟩ (by omega) (by omega)

set_option maxRecDepth 100000 in
set_option maxHeartbeats 4000000 in
theorem c_depNumbered (l : Launch) (D : va_G) (cO : ClassId) (dz mi : Nat) {A : Nat → Prop} {S : HdS} {w : CW} {g : Nat → Int → Nat} {T : Nat → Nat × Int} {U : Int → Int} {n : Int} (hw : wf S n) (hR : RelC S w g T U) (hst : l.stackTraces = false) (i : Int) (ri : inQ i) : cQX l yX3_departmentNumbered wsX3_departmentNumbered { frames := 6, cells := 1, slots := 6, locals := 90 } D cO dz mi A [.ref (g 0 0), .int (iI (i))] w (fun r w9 => w = w9 ∧ r = some (g 7 i) ∧ 0 ≤ i ∧ i < 4) (fun E => E = xIOB ∧ ¬ (0 ≤ i ∧ i < 4)) 1 6 := by
  refine cQX_of (cc := cX3_departmentNumbered) (maxL := 2) (ty := (.object "HoldServer$Department")) (by decide) rfl (Nat.le_of_ble_eq_true rfl) (Or.inl ⟨_, rfl⟩) ?_
  intro pp ee ss mm args below meth cc Q hx hb hml hown hts hA hC hE hX hS hto hlk hQ hret ls hl
  have hl : lv_has ls 2 [(0, .ref (g 0 0)), (1, .int (iI (i)))] := hl
  have hin_X3 : ∀ w ∈ wsX30, w ∈ wsX3_departmentNumbered := by decide +kernel
  have hnd := hw.nd
  have hnf := hw.nf
  have hdy := hw.day
  have hnf0 := hnf.1
  refine lv_iload_n hx hb dX3_departmentNumbered_0 rfl (lv_at hl 1 rfl) ?_
  refine h_if_lt (tgt := 15) hx hb (by omega) dX3_departmentNumbered_1 (by decide) (fun c_1 => ?_) (fun c_1 => ?_)
  · skip
    exact x_throw (cls := xIOB) (text := _) (is := 186) (ic := 183) hx hb hst (by first | exact Or.inl ⟨rfl, rfl, rfl⟩ | exact Or.inr (Or.inl ⟨rfl, rfl, rfl⟩) | exact Or.inr (Or.inr ⟨rfl, rfl, rfl⟩)) hown hts (by decide +kernel) xs_186 hX hC hS hQ (hl.1.trans hml.symm) dX3_departmentNumbered_15 dX3_departmentNumbered_18 dX3_departmentNumbered_19 dX3_departmentNumbered_21 dX3_departmentNumbered_24 hto (Nat.le_of_ble_eq_true rfl) (Nat.le_of_ble_eq_true rfl) (Nat.le_of_ble_eq_true rfl) (Nat.le_of_ble_eq_true rfl) hlk ⟨rfl, by omega⟩ (by omega) (by omega)
  · skip
    refine lv_iload_n hx hb dX3_departmentNumbered_4 rfl (lv_at hl 1 rfl) ?_
    refine lv_aload_n hx hb dX3_departmentNumbered_5 rfl (lv_at hl 0 rfl) ?_
    refine c_get (C := RX3) (T := TX3) (N := 4) hx hb hts hin_X3 hown hE hC hR.k0 (by decide) (by decide) rfl 2 (by decide) (hts (.fieldLink RX3 19 "HoldServer" "departments" "Ljava/util/ArrayList;") (by decide +kernel)) rfl (v := .ref (g 3 0)) (congrArg (fun z => some (va_rf z)) hR.deps) dX3_departmentNumbered_6 ?_
    refine c_callI hS (va_runV (As := []) (rest := [.int (iI (i))]) ⟨hx, hb, hml, hown, hts⟩ (R_size3 l D cO dz mi hR) (cwV 0 hts gX3_departmentNumbered_Jx4a65c_size_8abf5 rfl rfl rfl (by decide +kernel) ⟨Nat.le_of_ble_eq_true rfl, Nat.le_of_ble_eq_true rfl⟩) (c_preL hA hE hX hC hS hR.k3) rfl rfl hl.1 rfl (lv_room (Nat.le_of_ble_eq_true rfl)) dX3_departmentNumbered_9 ⟨Nat.le_of_ble_eq_true rfl, Nat.le_of_ble_eq_true rfl⟩) (fun r9 w9 H locs hpost hC hS => ?_)
    obtain ⟨rfl, rfl⟩ := hpost
    refine h_icmp_lt (tgt := 25) hx hb (by omega) (by omega) dX3_departmentNumbered_12 (by decide) (fun c_12 => ?_) (fun c_12 => ?_)
    · skip
      refine lv_aload_n hx hb dX3_departmentNumbered_25 rfl (lv_at hl 0 rfl) ?_
      refine c_get (C := RX3) (T := TX3) (N := 4) hx hb hts hin_X3 hown hE hC hR.k0 (by decide) (by decide) rfl 2 (by decide) (hts (.fieldLink RX3 19 "HoldServer" "departments" "Ljava/util/ArrayList;") (by decide +kernel)) rfl (v := .ref (g 3 0)) (congrArg (fun z => some (va_rf z)) hR.deps) dX3_departmentNumbered_26 ?_
      refine lv_iload_n hx hb dX3_departmentNumbered_29 rfl (lv_at hl 1 rfl) ?_
      refine c_callQ hS (va_runV (As := [.int (iI (i))]) (rest := []) ⟨hx, hb, hml, hown, hts⟩ (R_get3 l D cO dz mi hR i (by omega) (by omega)) (cwV 1 hts gX3_departmentNumbered_Jx4a65c_get_915e3 rfl rfl rfl (by decide +kernel) ⟨Nat.le_of_ble_eq_true rfl, Nat.le_of_ble_eq_true rfl⟩) (c_preL hA hE hX hC hS hR.k3) rfl rfl hl.1 rfl (lv_room (Nat.le_of_ble_eq_true rfl)) dX3_departmentNumbered_30 ⟨Nat.le_of_ble_eq_true rfl, Nat.le_of_ble_eq_true rfl⟩) (fun r9 w9 H locs hpost hC hS => ?_)
      obtain ⟨rfl, rfl⟩ := hpost
      refine c_castT (r := (RX0, TX0, 2)) hx hb hown (hts (.classLink RX3 31 RX0) (by decide +kernel)) hE hC (hR.k7 (by first | omega | assumption) (by first | omega | assumption)) (by decide) (by decide) rfl dX3_departmentNumbered_33 ?_
      exact hret (some (g 7 i)) (w) _ _ _ _ _ _ dX3_departmentNumbered_36 hC hS (by omega) (by omega) ⟨rfl, rfl, by omega, by omega⟩
    · skip
      exact x_throw (cls := xIOB) (text := _) (is := 186) (ic := 183) hx hb hst (by first | exact Or.inl ⟨rfl, rfl, rfl⟩ | exact Or.inr (Or.inl ⟨rfl, rfl, rfl⟩) | exact Or.inr (Or.inr ⟨rfl, rfl, rfl⟩)) hown hts (by decide +kernel) xs_186 hX hC hS hQ (hl.1.trans hml.symm) dX3_departmentNumbered_15 dX3_departmentNumbered_18 dX3_departmentNumbered_19 dX3_departmentNumbered_21 dX3_departmentNumbered_24 hto (Nat.le_of_ble_eq_true rfl) (Nat.le_of_ble_eq_true rfl) (Nat.le_of_ble_eq_true rfl) (Nat.le_of_ble_eq_true rfl) hlk ⟨rfl, by omega⟩ (by omega) (by omega)

set_option maxRecDepth 100000 in
set_option maxHeartbeats 4000000 in
theorem c_size (l : Launch) (D : va_G) (cO : ClassId) (dz mi : Nat) {A : Nat → Prop} {S : HdS} {w : CW} {g : Nat → Int → Nat} {T : Nat → Nat × Int} {U : Int → Int} {n : Int} (hw : wf S n) (hR : RelC S w g T U) (hst : l.stackTraces = false) (i : Int) (ri : inQ i) : cIX l yX3_size wsX3_size { frames := 7, cells := 1, slots := 6, locals := 111 } D cO dz mi A [.ref (g 0 0), .int (iI (i))] w (fun r w9 => w = w9 ∧ (0 ≤ i ∧ i < S.1 11 1) ∧ r = iI (S.1 3 i)) (fun E => E = xIOB ∧ ¬ (0 ≤ i ∧ i < S.1 11 1)) 1 6 := by
  refine cIX_of (cc := cX3_size) (maxL := 2) (ty := .int) (by decide) rfl (Nat.le_of_ble_eq_true rfl) ?_
  intro pp ee ss mm args below meth cc Q hx hb hml hown hts hA hC hE hX hS hto hlk hQ hret ls hl
  have hl : lv_has ls 2 [(0, .ref (g 0 0)), (1, .int (iI (i)))] := hl
  have hin_X3 : ∀ w ∈ wsX30, w ∈ wsX3_size := by decide +kernel
  have hin_X2 : ∀ w ∈ wsX20, w ∈ wsX3_size := by decide +kernel
  have hnd := hw.nd
  have hnf := hw.nf
  have hdy := hw.day
  have hnf0 := hnf.1
  refine lv_aload_n hx hb dX3_size_0 rfl (lv_at hl 0 rfl) ?_
  refine lv_iload_n hx hb dX3_size_1 rfl (lv_at hl 1 rfl) ?_
  refine c_callQX hS (vx_runV (As := [.int (iI (i))]) (rest := []) ⟨hx, hb, hml, hown, hts⟩ (c_filNumbered l D cO dz mi hw hR hst i (by omega)) (cwV 1 hts gX3_size_X3_fileNumbered rfl rfl rfl (by decide +kernel) ⟨Nat.le_of_ble_eq_true rfl, Nat.le_of_ble_eq_true rfl⟩) (c_preV hA hE hX hC hS hR.k0 (by decide) (by decide) rfl) rfl rfl hl.1 rfl (lv_room (Nat.le_of_ble_eq_true rfl)) dX3_size_2 ⟨Nat.le_of_ble_eq_true rfl, Nat.le_of_ble_eq_true rfl⟩) hQ (fun E hx9 => hx9) hto hlk (by omega) (by omega) (fun r9 w9 H locs hpost hC hS => ?_)
  obtain ⟨rfl, rfl, hn0_2, hn1_2⟩ := hpost
  refine c_get (C := RX2) (T := TX2) (N := 6) hx hb hts hin_X2 hown hE hC (hR.k5 (by first | omega | assumption) (by first | omega | assumption)) (by decide) (by decide) rfl 2 (by decide) (hts (.fieldLink RX3 110 "HoldServer$StoredFile" "size" "I") (by decide +kernel)) rfl (v := .int (iI ((S.1 3 i)))) (congrArg (fun z => some (Value.int (iI z))) (hR.f (f := i) (by first | omega | assumption) (by first | omega | assumption)).2.2.2.1) dX3_size_5 ?_
  exact hret ((S.1 3 i)) (w) _ _ _ _ _ _ dX3_size_8 rfl hC hS (by omega) (by omega) ⟨rfl, ⟨by omega, by omega⟩, rfl⟩

set_option maxRecDepth 100000 in
set_option maxHeartbeats 4000000 in
theorem c_kept (l : Launch) (D : va_G) (cO : ClassId) (dz mi : Nat) {A : Nat → Prop} {S : HdS} {w : CW} {g : Nat → Int → Nat} {T : Nat → Nat × Int} {U : Int → Int} {n : Int} (hw : wf S n) (hR : RelC S w g T U) (hst : l.stackTraces = false) (i : Int) (ri : inQ i) : cIX l yX3_kept wsX3_kept { frames := 7, cells := 1, slots := 6, locals := 111 } D cO dz mi A [.ref (g 0 0), .int (iI (i))] w (fun r w9 => w = w9 ∧ (0 ≤ i ∧ i < S.1 11 1) ∧ r = iI (S.1 6 i)) (fun E => E = xIOB ∧ ¬ (0 ≤ i ∧ i < S.1 11 1)) 1 6 := by
  refine cIX_of (cc := cX3_kept) (maxL := 2) (ty := .int) (by decide) rfl (Nat.le_of_ble_eq_true rfl) ?_
  intro pp ee ss mm args below meth cc Q hx hb hml hown hts hA hC hE hX hS hto hlk hQ hret ls hl
  have hl : lv_has ls 2 [(0, .ref (g 0 0)), (1, .int (iI (i)))] := hl
  have hin_X3 : ∀ w ∈ wsX30, w ∈ wsX3_kept := by decide +kernel
  have hin_X2 : ∀ w ∈ wsX20, w ∈ wsX3_kept := by decide +kernel
  have hnd := hw.nd
  have hnf := hw.nf
  have hdy := hw.day
  have hnf0 := hnf.1
  refine lv_aload_n hx hb dX3_kept_0 rfl (lv_at hl 0 rfl) ?_
  refine lv_iload_n hx hb dX3_kept_1 rfl (lv_at hl 1 rfl) ?_
  refine c_callQX hS (vx_runV (As := [.int (iI (i))]) (rest := []) ⟨hx, hb, hml, hown, hts⟩ (c_filNumbered l D cO dz mi hw hR hst i (by omega)) (cwV 1 hts gX3_kept_X3_fileNumbered rfl rfl rfl (by decide +kernel) ⟨Nat.le_of_ble_eq_true rfl, Nat.le_of_ble_eq_true rfl⟩) (c_preV hA hE hX hC hS hR.k0 (by decide) (by decide) rfl) rfl rfl hl.1 rfl (lv_room (Nat.le_of_ble_eq_true rfl)) dX3_kept_2 ⟨Nat.le_of_ble_eq_true rfl, Nat.le_of_ble_eq_true rfl⟩) hQ (fun E hx9 => hx9) hto hlk (by omega) (by omega) (fun r9 w9 H locs hpost hC hS => ?_)
  obtain ⟨rfl, rfl, hn0_2, hn1_2⟩ := hpost
  refine c_get (C := RX2) (T := TX2) (N := 6) hx hb hts hin_X2 hown hE hC (hR.k5 (by first | omega | assumption) (by first | omega | assumption)) (by decide) (by decide) rfl 4 (by decide) (hts (.fieldLink RX3 128 "HoldServer$StoredFile" "kept" "I") (by decide +kernel)) rfl (v := .int (iI ((S.1 6 i)))) (congrArg (fun z => some (Value.int (iI z))) (hR.f (f := i) (by first | omega | assumption) (by first | omega | assumption)).2.2.2.2.2.1) dX3_kept_5 ?_
  exact hret ((S.1 6 i)) (w) _ _ _ _ _ _ dX3_kept_8 rfl hC hS (by omega) (by omega) ⟨rfl, ⟨by omega, by omega⟩, rfl⟩

set_option maxRecDepth 100000 in
set_option maxHeartbeats 4000000 in
theorem c_holders (l : Launch) (D : va_G) (cO : ClassId) (dz mi : Nat) {A : Nat → Prop} {S : HdS} {w : CW} {g : Nat → Int → Nat} {T : Nat → Nat × Int} {U : Int → Int} {n : Int} (hw : wf S n) (hR : RelC S w g T U) (hst : l.stackTraces = false) (i : Int) (ri : inQ i) : cIX l yX3_holders wsX3_holders { frames := 7, cells := 1, slots := 6, locals := 111 } D cO dz mi A [.ref (g 0 0), .int (iI (i))] w (fun r w9 => w = w9 ∧ (0 ≤ i ∧ i < S.1 11 1) ∧ r = iI (S.1 7 i)) (fun E => E = xIOB ∧ ¬ (0 ≤ i ∧ i < S.1 11 1)) 1 6 := by
  refine cIX_of (cc := cX3_holders) (maxL := 2) (ty := .int) (by decide) rfl (Nat.le_of_ble_eq_true rfl) ?_
  intro pp ee ss mm args below meth cc Q hx hb hml hown hts hA hC hE hX hS hto hlk hQ hret ls hl
  have hl : lv_has ls 2 [(0, .ref (g 0 0)), (1, .int (iI (i)))] := hl
  have hin_X3 : ∀ w ∈ wsX30, w ∈ wsX3_holders := by decide +kernel
  have hin_X2 : ∀ w ∈ wsX20, w ∈ wsX3_holders := by decide +kernel
  have hnd := hw.nd
  have hnf := hw.nf
  have hdy := hw.day
  have hnf0 := hnf.1
  refine lv_aload_n hx hb dX3_holders_0 rfl (lv_at hl 0 rfl) ?_
  refine lv_iload_n hx hb dX3_holders_1 rfl (lv_at hl 1 rfl) ?_
  refine c_callQX hS (vx_runV (As := [.int (iI (i))]) (rest := []) ⟨hx, hb, hml, hown, hts⟩ (c_filNumbered l D cO dz mi hw hR hst i (by omega)) (cwV 1 hts gX3_holders_X3_fileNumbered rfl rfl rfl (by decide +kernel) ⟨Nat.le_of_ble_eq_true rfl, Nat.le_of_ble_eq_true rfl⟩) (c_preV hA hE hX hC hS hR.k0 (by decide) (by decide) rfl) rfl rfl hl.1 rfl (lv_room (Nat.le_of_ble_eq_true rfl)) dX3_holders_2 ⟨Nat.le_of_ble_eq_true rfl, Nat.le_of_ble_eq_true rfl⟩) hQ (fun E hx9 => hx9) hto hlk (by omega) (by omega) (fun r9 w9 H locs hpost hC hS => ?_)
  obtain ⟨rfl, rfl, hn0_2, hn1_2⟩ := hpost
  refine c_get (C := RX2) (T := TX2) (N := 6) hx hb hts hin_X2 hown hE hC (hR.k5 (by first | omega | assumption) (by first | omega | assumption)) (by decide) (by decide) rfl 3 (by decide) (hts (.fieldLink RX3 141 "HoldServer$StoredFile" "holders" "I") (by decide +kernel)) rfl (v := .int (iI ((S.1 7 i)))) (congrArg (fun z => some (Value.int (iI z))) (hR.f (f := i) (by first | omega | assumption) (by first | omega | assumption)).2.2.2.2.1) dX3_holders_5 ?_
  exact hret ((S.1 7 i)) (w) _ _ _ _ _ _ dX3_holders_8 rfl hC hS (by omega) (by omega) ⟨rfl, ⟨by omega, by omega⟩, rfl⟩

set_option maxRecDepth 100000 in
set_option maxHeartbeats 4000000 in
theorem c_coins (l : Launch) (D : va_G) (cO : ClassId) (dz mi : Nat) {A : Nat → Prop} {S : HdS} {w : CW} {g : Nat → Int → Nat} {T : Nat → Nat × Int} {U : Int → Int} {n : Int} (hw : wf S n) (hR : RelC S w g T U) (hst : l.stackTraces = false) (i : Int) (ri : inQ i) : cIX l yX3_coins wsX3_coins { frames := 7, cells := 1, slots := 6, locals := 111 } D cO dz mi A [.ref (g 0 0), .int (iI (i))] w (fun r w9 => w = w9 ∧ (0 ≤ i ∧ i < 4) ∧ r = iI (S.1 10 i)) (fun E => E = xIOB ∧ ¬ (0 ≤ i ∧ i < 4)) 1 6 := by
  refine cIX_of (cc := cX3_coins) (maxL := 2) (ty := .int) (by decide) rfl (Nat.le_of_ble_eq_true rfl) ?_
  intro pp ee ss mm args below meth cc Q hx hb hml hown hts hA hC hE hX hS hto hlk hQ hret ls hl
  have hl : lv_has ls 2 [(0, .ref (g 0 0)), (1, .int (iI (i)))] := hl
  have hin_X3 : ∀ w ∈ wsX30, w ∈ wsX3_coins := by decide +kernel
  have hin_X0 : ∀ w ∈ wsX00, w ∈ wsX3_coins := by decide +kernel
  have hnd := hw.nd
  have hnf := hw.nf
  have hdy := hw.day
  have hnf0 := hnf.1
  refine lv_aload_n hx hb dX3_coins_0 rfl (lv_at hl 0 rfl) ?_
  refine lv_iload_n hx hb dX3_coins_1 rfl (lv_at hl 1 rfl) ?_
  refine c_callQX hS (vx_runV (As := [.int (iI (i))]) (rest := []) ⟨hx, hb, hml, hown, hts⟩ (c_depNumbered l D cO dz mi hw hR hst i (by omega)) (cwV 1 hts gX3_coins_X3_departmentNumbered rfl rfl rfl (by decide +kernel) ⟨Nat.le_of_ble_eq_true rfl, Nat.le_of_ble_eq_true rfl⟩) (c_preV hA hE hX hC hS hR.k0 (by decide) (by decide) rfl) rfl rfl hl.1 rfl (lv_room (Nat.le_of_ble_eq_true rfl)) dX3_coins_2 ⟨Nat.le_of_ble_eq_true rfl, Nat.le_of_ble_eq_true rfl⟩) hQ (fun E hx9 => hx9) hto hlk (by omega) (by omega) (fun r9 w9 H locs hpost hC hS => ?_)
  obtain ⟨rfl, rfl, hn0_2, hn1_2⟩ := hpost
  refine c_get (C := RX0) (T := TX0) (N := 2) hx hb hts hin_X0 hown hE hC (hR.k7 (by first | omega | assumption) (by first | omega | assumption)) (by decide) (by decide) rfl 1 (by decide) (hts (.fieldLink RX3 156 "HoldServer$Department" "coins" "I") (by decide +kernel)) rfl (v := .int (iI ((S.1 10 i)))) (congrArg (fun z => some (Value.int (iI z))) (hR.p (q := i) (by first | omega | assumption) (by first | omega | assumption)).2.1) dX3_coins_5 ?_
  exact hret ((S.1 10 i)) (w) _ _ _ _ _ _ dX3_coins_8 rfl hC hS (by omega) (by omega) ⟨rfl, ⟨by omega, by omega⟩, rfl⟩

set_option maxRecDepth 100000 in
set_option maxHeartbeats 4000000 in
theorem c_usage (l : Launch) (D : va_G) (cO : ClassId) (dz mi : Nat) {A : Nat → Prop} {S : HdS} {w : CW} {g : Nat → Int → Nat} {T : Nat → Nat × Int} {U : Int → Int} {n : Int} (hw : wf S n) (hR : RelC S w g T U) (hst : l.stackTraces = false) (i : Int) (ri : inQ i) : cIX l yX3_usage wsX3_usage { frames := 7, cells := 1, slots := 6, locals := 111 } D cO dz mi A [.ref (g 0 0), .int (iI (i))] w (fun r w9 => w = w9 ∧ (0 ≤ i ∧ i < S.1 11 0) ∧ r = iI (U i)) (fun E => E = xIOB ∧ ¬ (0 ≤ i ∧ i < S.1 11 0)) 1 6 := by
  refine cIX_of (cc := cX3_usage) (maxL := 2) (ty := .int) (by decide) rfl (Nat.le_of_ble_eq_true rfl) ?_
  intro pp ee ss mm args below meth cc Q hx hb hml hown hts hA hC hE hX hS hto hlk hQ hret ls hl
  have hl : lv_has ls 2 [(0, .ref (g 0 0)), (1, .int (iI (i)))] := hl
  have hin_X3 : ∀ w ∈ wsX30, w ∈ wsX3_usage := by decide +kernel
  have hin_X1 : ∀ w ∈ wsX10, w ∈ wsX3_usage := by decide +kernel
  have hnd := hw.nd
  have hnf := hw.nf
  have hdy := hw.day
  have hnf0 := hnf.1
  refine lv_aload_n hx hb dX3_usage_0 rfl (lv_at hl 0 rfl) ?_
  refine lv_iload_n hx hb dX3_usage_1 rfl (lv_at hl 1 rfl) ?_
  refine c_callQX hS (vx_runV (As := [.int (iI (i))]) (rest := []) ⟨hx, hb, hml, hown, hts⟩ (c_dirNumbered l D cO dz mi hw hR hst i (by omega)) (cwV 1 hts gX3_usage_X3_directoryNumbered rfl rfl rfl (by decide +kernel) ⟨Nat.le_of_ble_eq_true rfl, Nat.le_of_ble_eq_true rfl⟩) (c_preV hA hE hX hC hS hR.k0 (by decide) (by decide) rfl) rfl rfl hl.1 rfl (lv_room (Nat.le_of_ble_eq_true rfl)) dX3_usage_2 ⟨Nat.le_of_ble_eq_true rfl, Nat.le_of_ble_eq_true rfl⟩) hQ (fun E hx9 => hx9) hto hlk (by omega) (by omega) (fun r9 w9 H locs hpost hC hS => ?_)
  obtain ⟨rfl, rfl, hn0_2, hn1_2⟩ := hpost
  refine c_get (C := RX1) (T := TX1) (N := 4) hx hb hts hin_X1 hown hE hC (hR.k4 (by first | omega | assumption) (by first | omega | assumption)) (by decide) (by decide) rfl 3 (by decide) (hts (.fieldLink RX3 167 "HoldServer$Directory" "usage" "I") (by decide +kernel)) rfl (v := .int (iI ((U i)))) (congrArg (fun z => some (Value.int (iI z))) (hR.d (d := i) (by first | omega | assumption) (by first | omega | assumption)).2.2.2) dX3_usage_5 ?_
  exact hret ((U i)) (w) _ _ _ _ _ _ dX3_usage_8 rfl hC hS (by omega) (by omega) ⟨rfl, ⟨by omega, by omega⟩, rfl⟩

set_option maxRecDepth 100000 in
set_option maxHeartbeats 4000000 in
theorem c_tier (l : Launch) (D : va_G) (cO : ClassId) (dz mi : Nat) {A : Nat → Prop} {S : HdS} {w : CW} {g : Nat → Int → Nat} {T : Nat → Nat × Int} {U : Int → Int} {n : Int} (hw : wf S n) (hR : RelC S w g T U) (hst : l.stackTraces = false) (i : Int) (ri : inQ i) : cIX l yX3_tier wsX3_tier { frames := 7, cells := 1, slots := 6, locals := 111 } D cO dz mi A [.ref (g 0 0), .int (iI (i))] w (fun r w9 => w = w9 ∧ (0 ≤ i ∧ i < S.1 11 1) ∧ r = iI (tierS S i)) (fun E => E = xIOB ∧ ¬ (0 ≤ i ∧ i < S.1 11 1)) 1 6 := by
  refine cIX_of (cc := cX3_tier) (maxL := 2) (ty := .int) (by decide) rfl (Nat.le_of_ble_eq_true rfl) ?_
  intro pp ee ss mm args below meth cc Q hx hb hml hown hts hA hC hE hX hS hto hlk hQ hret ls hl
  have hl : lv_has ls 2 [(0, .ref (g 0 0)), (1, .int (iI (i)))] := hl
  have hin_X3 : ∀ w ∈ wsX30, w ∈ wsX3_tier := by decide +kernel
  have hnd := hw.nd
  have hnf := hw.nf
  have hdy := hw.day
  have hnf0 := hnf.1
  refine lv_aload_n hx hb dX3_tier_0 rfl (lv_at hl 0 rfl) ?_
  refine lv_iload_n hx hb dX3_tier_1 rfl (lv_at hl 1 rfl) ?_
  refine c_callQX hS (vx_runV (As := [.int (iI (i))]) (rest := []) ⟨hx, hb, hml, hown, hts⟩ (c_filNumbered l D cO dz mi hw hR hst i (by omega)) (cwV 1 hts gX3_tier_X3_fileNumbered rfl rfl rfl (by decide +kernel) ⟨Nat.le_of_ble_eq_true rfl, Nat.le_of_ble_eq_true rfl⟩) (c_preV hA hE hX hC hS hR.k0 (by decide) (by decide) rfl) rfl rfl hl.1 rfl (lv_room (Nat.le_of_ble_eq_true rfl)) dX3_tier_2 ⟨Nat.le_of_ble_eq_true rfl, Nat.le_of_ble_eq_true rfl⟩) hQ (fun E hx9 => hx9) hto hlk (by omega) (by omega) (fun r9 w9 H locs hpost hC hS => ?_)
  obtain ⟨rfl, rfl, hn0_2, hn1_2⟩ := hpost
  refine lv_aload_n hx hb dX3_tier_5 rfl (lv_at hl 0 rfl) ?_
  refine c_get (C := RX3) (T := TX3) (N := 4) hx hb hts hin_X3 hown hE hC hR.k0 (by decide) (by decide) rfl 3 (by decide) (hts (.fieldLink RX3 70 "HoldServer" "day" "I") (by decide +kernel)) rfl (v := .int (iI ((S.1 11 2)))) (congrArg (fun z => some (Value.int (iI z))) hR.day) dX3_tier_6 ?_
  refine c_callI hS (va_runV (As := [.int (iI ((S.1 11 2)))]) (rest := []) ⟨hx, hb, hml, hown, hts⟩ (c_tierOn l D cO dz mi hw hR i (by omega) (by omega)) (cwV 1 hts gX3_tier_X2_tierOn rfl rfl rfl (by decide +kernel) ⟨Nat.le_of_ble_eq_true rfl, Nat.le_of_ble_eq_true rfl⟩) (c_preV hA hE hX hC hS (hR.k5 (by first | omega | assumption) (by first | omega | assumption)) (by decide) (by decide) rfl) rfl rfl hl.1 rfl (lv_room (Nat.le_of_ble_eq_true rfl)) dX3_tier_9 ⟨Nat.le_of_ble_eq_true rfl, Nat.le_of_ble_eq_true rfl⟩) (fun r9 w9 H locs hpost hC hS => ?_)
  obtain ⟨rfl, rfl⟩ := hpost
  exact hret ((tierS S i)) (w) _ _ _ _ _ _ dX3_tier_12 rfl hC hS (by omega) (by omega) ⟨rfl, ⟨by omega, by omega⟩, rfl⟩

set_option maxRecDepth 100000 in
set_option maxHeartbeats 4000000 in
theorem c_directories (l : Launch) (D : va_G) (cO : ClassId) (dz mi : Nat) {A : Nat → Prop} {S : HdS} {w : CW} {g : Nat → Int → Nat} {T : Nat → Nat × Int} {U : Int → Int} {n : Int} (hw : wf S n) (hR : RelC S w g T U)  : cI l yX3_directories wsX3_directories { frames := 1, cells := 0, slots := 0, locals := 20 } D cO dz mi A [.ref (g 0 0)] w (fun r w9 => w = w9 ∧ r = iI (S.1 11 0)) 0 0 := by
  refine cI_of (cc := cX3_directories) (maxL := 1) (ty := .int) (by decide) rfl (Nat.le_of_ble_eq_true rfl) ?_
  intro pp ee ss mm args below meth cc Q hx hb hml hown hts hA hC hE hX hS hret ls hl
  have hl : lv_has ls 1 [(0, .ref (g 0 0))] := hl
  have hin_X3 : ∀ w ∈ wsX30, w ∈ wsX3_directories := by decide +kernel
  have hnd := hw.nd
  have hnf := hw.nf
  have hdy := hw.day
  have hnf0 := hnf.1
  refine lv_aload_n hx hb dX3_directories_0 rfl (lv_at hl 0 rfl) ?_
  refine c_get (C := RX3) (T := TX3) (N := 4) hx hb hts hin_X3 hown hE hC hR.k0 (by decide) (by decide) rfl 0 (by decide) (hts (.fieldLink RX3 10 "HoldServer" "directories" "Ljava/util/ArrayList;") (by decide +kernel)) rfl (v := .ref (g 1 0)) (congrArg (fun z => some (va_rf z)) hR.dirs) dX3_directories_1 ?_
  refine c_callI hS (va_runV (As := []) (rest := []) ⟨hx, hb, hml, hown, hts⟩ (R_size1 l D cO dz mi hR (by omega)) (cwV 0 hts gX3_directories_Jx4a65c_size_8abf5 rfl rfl rfl (by decide +kernel) ⟨Nat.le_of_ble_eq_true rfl, Nat.le_of_ble_eq_true rfl⟩) (c_preL hA hE hX hC hS hR.k1) rfl rfl hl.1 rfl (lv_room (Nat.le_of_ble_eq_true rfl)) dX3_directories_4 ⟨Nat.le_of_ble_eq_true rfl, Nat.le_of_ble_eq_true rfl⟩) (fun r9 w9 H locs hpost hC hS => ?_)
  obtain ⟨rfl, rfl⟩ := hpost
  exact hret ((S.1 11 0)) (w) _ _ _ _ _ _ dX3_directories_7 rfl hC hS (by omega) (by omega) ⟨rfl, rfl⟩

set_option maxRecDepth 100000 in
set_option maxHeartbeats 4000000 in
theorem c_files (l : Launch) (D : va_G) (cO : ClassId) (dz mi : Nat) {A : Nat → Prop} {S : HdS} {w : CW} {g : Nat → Int → Nat} {T : Nat → Nat × Int} {U : Int → Int} {n : Int} (hw : wf S n) (hR : RelC S w g T U)  : cI l yX3_files wsX3_files { frames := 1, cells := 0, slots := 0, locals := 20 } D cO dz mi A [.ref (g 0 0)] w (fun r w9 => w = w9 ∧ r = iI (S.1 11 1)) 0 0 := by
  refine cI_of (cc := cX3_files) (maxL := 1) (ty := .int) (by decide) rfl (Nat.le_of_ble_eq_true rfl) ?_
  intro pp ee ss mm args below meth cc Q hx hb hml hown hts hA hC hE hX hS hret ls hl
  have hl : lv_has ls 1 [(0, .ref (g 0 0))] := hl
  have hin_X3 : ∀ w ∈ wsX30, w ∈ wsX3_files := by decide +kernel
  have hnd := hw.nd
  have hnf := hw.nf
  have hdy := hw.day
  have hnf0 := hnf.1
  refine lv_aload_n hx hb dX3_files_0 rfl (lv_at hl 0 rfl) ?_
  refine c_get (C := RX3) (T := TX3) (N := 4) hx hb hts hin_X3 hown hE hC hR.k0 (by decide) (by decide) rfl 1 (by decide) (hts (.fieldLink RX3 16 "HoldServer" "files" "Ljava/util/ArrayList;") (by decide +kernel)) rfl (v := .ref (g 2 0)) (congrArg (fun z => some (va_rf z)) hR.fils) dX3_files_1 ?_
  refine c_callI hS (va_runV (As := []) (rest := []) ⟨hx, hb, hml, hown, hts⟩ (R_size2 l D cO dz mi hR (by omega)) (cwV 0 hts gX3_files_Jx4a65c_size_8abf5 rfl rfl rfl (by decide +kernel) ⟨Nat.le_of_ble_eq_true rfl, Nat.le_of_ble_eq_true rfl⟩) (c_preL hA hE hX hC hS hR.k2) rfl rfl hl.1 rfl (lv_room (Nat.le_of_ble_eq_true rfl)) dX3_files_4 ⟨Nat.le_of_ble_eq_true rfl, Nat.le_of_ble_eq_true rfl⟩) (fun r9 w9 H locs hpost hC hS => ?_)
  obtain ⟨rfl, rfl⟩ := hpost
  exact hret ((S.1 11 1)) (w) _ _ _ _ _ _ dX3_files_7 rfl hC hS (by omega) (by omega) ⟨rfl, rfl⟩
