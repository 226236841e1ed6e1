set_option maxRecDepth 100000 in
set_option maxHeartbeats 4000000 in
theorem a_size (l : Launch) (D : va_G) (cO : ClassId) (dz mi : Nat) {A : Nat → Prop} (ws : va_W) (hD : va_D A ws) (k l0 e0 : Nat) (mo n : Int) (hk : ws[k]? = some (l0, .inr (0, [.int (iI mo), .ref e0, .int (iI n)])))  : aI l yJx4a65c_size_8abf5 wsJx4a65c_size_8abf5 { frames := 0, cells := 0, slots := 0, locals := 0 } D cO dz mi A [.ref l0] ws (fun r w9 => ws = w9 ∧ r = iI n) 0 0 := by
  refine aI_of (cc := cJx4a65c_size_8abf5) (maxL := 1) (ty := .int) (by decide) rfl (Nat.le_of_ble_eq_true rfl) ?_
  intro pp ee ss mm args below meth cc Q hx hb hml hown hts hA hP hE hS hret ls hl
  have hl : lv_has ls 1 [(0, .ref l0)] := hl
  have hin : ∀ w ∈ wsJx4a65c0, w ∈ wsJx4a65c_size_8abf5 := by decide +kernel
  refine lv_aload_n hx hb dJx4a65c_size_8abf5_0 rfl (lv_at hl 0 rfl) ?_
  refine va_get (D := D) (ci := 0) (v := .int (iI (n))) (C := RJx4a65c) (T := TJx4a65c) (N := 3) hx hb hts hin hown hE.1 hP k hk rfl 2 (by decide) (hts (.fieldLink RJx4a65c 48 "java/util/ArrayList" "size" "I") (by decide +kernel)) (fun _ h9 => h9) rfl dJx4a65c_size_8abf5_1 ?_
  exact hret (n) (ws) _ _ _ _ _ _ dJx4a65c_size_8abf5_4 rfl hP hD hS (by omega) (by omega) ⟨rfl, rfl⟩

set_option maxRecDepth 100000 in
set_option maxHeartbeats 4000000 in
theorem a_isEmpty (l : Launch) (D : va_G) (cO : ClassId) (dz mi : Nat) {A : Nat → Prop} (ws : va_W) (hD : va_D A ws) (k l0 e0 : Nat) (mo n : Int) (hk : ws[k]? = some (l0, .inr (0, [.int (iI mo), .ref e0, .int (iI n)]))) (hn : 0 ≤ n ∧ n ≤ 1000) : aI l yJx4a65c_isEmpty_aae02 wsJx4a65c_isEmpty_aae02 { frames := 0, cells := 0, slots := 0, locals := 0 } D cO dz mi A [.ref l0] ws (fun r w9 => ws = w9 ∧ (n = 0 ∧ r = iI 1 ∨ ¬ n = 0 ∧ r = iI 0)) 0 0 := by
  refine aI_of (cc := cJx4a65c_isEmpty_aae02) (maxL := 1) (ty := .boolean) (by decide) rfl (Nat.le_of_ble_eq_true rfl) ?_
  intro pp ee ss mm args below meth cc Q hx hb hml hown hts hA hP hE hS hret ls hl
  have hl : lv_has ls 1 [(0, .ref l0)] := hl
  have hin : ∀ w ∈ wsJx4a65c0, w ∈ wsJx4a65c_isEmpty_aae02 := by decide +kernel
  refine lv_aload_n hx hb dJx4a65c_isEmpty_aae02_0 rfl (lv_at hl 0 rfl) ?_
  refine va_get (D := D) (ci := 0) (v := .int (iI (n))) (C := RJx4a65c) (T := TJx4a65c) (N := 3) hx hb hts hin hown hE.1 hP k hk rfl 2 (by decide) (hts (.fieldLink RJx4a65c 48 "java/util/ArrayList" "size" "I") (by decide +kernel)) (fun _ h9 => h9) rfl dJx4a65c_isEmpty_aae02_1 ?_
  refine h_if_ne (tgt := 11) hx hb (by omega) dJx4a65c_isEmpty_aae02_4 (by decide) (fun c_4 => ?_) (fun c_4 => ?_)
  · skip
    refine lv_iconst (v := iI 0) hx hb dJx4a65c_isEmpty_aae02_11 rfl ?_
    exact hret (0) (ws) _ _ _ _ _ _ dJx4a65c_isEmpty_aae02_12 (by decide) hP hD hS (by omega) (by omega) ⟨rfl, Or.inr ⟨by omega, rfl⟩⟩
  · skip
    refine lv_iconst (v := iI 1) hx hb dJx4a65c_isEmpty_aae02_7 rfl ?_
    refine lv_goto (tgt := 12) hx hb dJx4a65c_isEmpty_aae02_8 (by decide) ?_
    exact hret (1) (ws) _ _ _ _ _ _ dJx4a65c_isEmpty_aae02_12 (by decide) hP hD hS (by omega) (by omega) ⟨rfl, Or.inl ⟨by omega, rfl⟩⟩

set_option maxRecDepth 100000 in
set_option maxHeartbeats 4000000 in
theorem a_check3 (l : Launch) (D : va_G) (cO : ClassId) (dz mi : Nat) {A : Nat → Prop} (ws : va_W) (hD : va_D A ws) (i n : Int) (h0 : 0 ≤ i) (h1 : i < n) (h2 : n ≤ 1000) : aI l yJ3_checkIndex_8e157 wsJ3_checkIndex_8e157 { frames := 0, cells := 0, slots := 0, locals := 0 } D cO dz mi A [.int (iI (i)), .int (iI (n)), .null] ws (fun r w9 => ws = w9 ∧ r = iI i) 0 0 := by
  refine aI_of (cc := cJ3_checkIndex_8e157) (maxL := 3) (ty := .int) (by decide) rfl (Nat.le_of_ble_eq_true rfl) ?_
  intro pp ee ss mm args below meth cc Q hx hb hml hown hts hA hP hE hS hret ls hl
  have hl : lv_has ls 3 [(0, .int (iI (i))), (1, .int (iI (n))), (2, .null)] := hl
  refine lv_iload_n hx hb dJ3_checkIndex_8e157_0 rfl (lv_at hl 0 rfl) ?_
  refine h_if_lt (tgt := 9) hx hb (by omega) dJ3_checkIndex_8e157_1 (by decide) (fun c_1 => by exfalso; omega) (fun c_1 => ?_)
  refine lv_iload_n hx hb dJ3_checkIndex_8e157_4 rfl (lv_at hl 0 rfl) ?_
  refine lv_iload_n hx hb dJ3_checkIndex_8e157_5 rfl (lv_at hl 1 rfl) ?_
  refine h_icmp_lt (tgt := 16) hx hb (by omega) (by omega) dJ3_checkIndex_8e157_6 (by decide) (fun c_6 => ?_) (fun c_6 => by exfalso; omega)
  refine lv_iload_n hx hb dJ3_checkIndex_8e157_16 rfl (lv_at hl 0 rfl) ?_
  exact hret (i) (ws) _ _ _ _ _ _ dJ3_checkIndex_8e157_17 rfl hP hD hS (by omega) (by omega) ⟨rfl, rfl⟩

set_option maxRecDepth 100000 in
set_option maxHeartbeats 4000000 in
theorem a_check (l : Launch) (D : va_G) (cO : ClassId) (dz mi : Nat) {A : Nat → Prop} (ws : va_W) (hD : va_D A ws) (i n : Int) (h0 : 0 ≤ i) (h1 : i < n) (h2 : n ≤ 1000) : aI l yJ15_checkIndex_7cf53 wsJ15_checkIndex_7cf53 { frames := 1, cells := 0, slots := 0, locals := 22 } D cO dz mi A [.int (iI (i)), .int (iI (n))] ws (fun r w9 => ws = w9 ∧ r = iI i) 0 0 := by
  refine aI_of (cc := cJ15_checkIndex_7cf53) (maxL := 2) (ty := .int) (by decide) rfl (Nat.le_of_ble_eq_true rfl) ?_
  intro pp ee ss mm args below meth cc Q hx hb hml hown hts hA hP hE hS hret ls hl
  have hl : lv_has ls 2 [(0, .int (iI (i))), (1, .int (iI (n)))] := hl
  refine lv_iload_n hx hb dJ15_checkIndex_7cf53_0 rfl (lv_at hl 0 rfl) ?_
  refine lv_iload_n hx hb dJ15_checkIndex_7cf53_1 rfl (lv_at hl 1 rfl) ?_
  refine lv_null hx hb dJ15_checkIndex_7cf53_2 ?_
  refine a_callI hS (va_runS (As := [.int (iI (i)), .int (iI (n)), .null]) (rest := []) ⟨hx, hb, hml, hown, hts⟩ (a_check3 l D cO dz mi ws hD i n h0 h1 h2) (va_cwS 3 hts gJ15_checkIndex_7cf53_J3_checkIndex_8e157 rfl rfl rfl (by decide +kernel) ⟨Nat.le_of_ble_eq_true rfl, Nat.le_of_ble_eq_true rfl⟩) (a_preS hA hE hP hS) rfl rfl hl.1 rfl (lv_room (Nat.le_of_ble_eq_true rfl)) dJ15_checkIndex_7cf53_3 ⟨Nat.le_of_ble_eq_true rfl, Nat.le_of_ble_eq_true rfl⟩) (fun r9 w9 H locs hpost hP hD hS => ?_)
  obtain ⟨rfl, rfl⟩ := hpost
  exact hret (i) (ws) _ _ _ _ _ _ dJ15_checkIndex_7cf53_6 rfl hP hD hS (by omega) (by omega) ⟨rfl, rfl⟩

set_option maxRecDepth 100000 in
set_option maxHeartbeats 4000000 in
theorem a_elementData (l : Launch) (D : va_G) (cO : ClassId) (dz mi : Nat) {A : Nat → Prop} (ws : va_W) (hD : va_D A ws) (k l0 e0 : Nat) (mo n : Int) (hk : ws[k]? = some (l0, .inr (0, [.int (iI mo), .ref e0, .int (iI n)]))) (ke cap : Nat) (arr : Nat → Option Nat) (hke : ws[ke]? = some (e0, aCell cO cap arr)) (hcap : 2 ≤ cap ∧ cap ≤ 600) (i : Int) (h0 : 0 ≤ i) (h1 : i < cap) : aRf l yJx4a65c_elementData_915e3 wsJx4a65c_elementData_915e3 { frames := 0, cells := 0, slots := 0, locals := 0 } D cO dz mi A [.ref l0, .int (iI (i))] ws (fun r w9 => ws = w9 ∧ r = arr i.toNat) 0 0 := by
  refine aRf_of (cc := cJx4a65c_elementData_915e3) (maxL := 2) (ty := (.object "java/lang/Object")) (by decide) rfl (Nat.le_of_ble_eq_true rfl) (by first | exact Or.inl ⟨_, rfl⟩ | exact Or.inr ⟨_, rfl⟩) ?_
  intro pp ee ss mm args below meth cc Q hx hb hml hown hts hA hP hE hS hret ls hl
  have hl : lv_has ls 2 [(0, .ref l0), (1, .int (iI (i)))] := hl
  have hin : ∀ w ∈ wsJx4a65c0, w ∈ wsJx4a65c_elementData_915e3 := by decide +kernel
  refine lv_aload_n hx hb dJx4a65c_elementData_915e3_0 rfl (lv_at hl 0 rfl) ?_
  refine va_get (D := D) (ci := 0) (v := .ref e0) (C := RJx4a65c) (T := TJx4a65c) (N := 3) hx hb hts hin hown hE.1 hP k hk rfl 1 (by decide) (hts (.fieldLink RJx4a65c 9 "java/util/ArrayList" "elementData" "[Ljava/lang/Object;") (by decide +kernel)) (fun _ h9 => h9) rfl dJx4a65c_elementData_915e3_1 ?_
  refine lv_iload_n hx hb dJx4a65c_elementData_915e3_4 rfl (lv_at hl 1 rfl) ?_
  refine a_ald hx hb hE hP hke (by omega) (by omega) (by omega) (r := arr i.toNat) rfl dJx4a65c_elementData_915e3_5 ?_
  exact hret (arr i.toNat) (ws) _ _ _ _ _ _ dJx4a65c_elementData_915e3_6 hP hD hS (by omega) (by omega) ⟨rfl, rfl⟩

set_option maxRecDepth 100000 in
set_option maxHeartbeats 4000000 in
theorem a_get (l : Launch) (D : va_G) (cO : ClassId) (dz mi : Nat) {A : Nat → Prop} (ws : va_W) (hD : va_D A ws) (k l0 e0 : Nat) (mo n : Int) (hk : ws[k]? = some (l0, .inr (0, [.int (iI mo), .ref e0, .int (iI n)]))) (ke cap : Nat) (arr : Nat → Option Nat) (hke : ws[ke]? = some (e0, aCell cO cap arr)) (hcap : 2 ≤ cap ∧ cap ≤ 600) (i : Int) (h0 : 0 ≤ i) (h1 : i < n) (h2 : n ≤ 1000) (h3 : n ≤ cap) : aRf l yJx4a65c_get_915e3 wsJx4a65c_get_915e3 { frames := 2, cells := 0, slots := 0, locals := 43 } D cO dz mi A [.ref l0, .int (iI (i))] ws (fun r w9 => ws = w9 ∧ r = arr i.toNat) 0 0 := by
  refine aRf_of (cc := cJx4a65c_get_915e3) (maxL := 2) (ty := (.object "java/lang/Object")) (by decide) rfl (Nat.le_of_ble_eq_true rfl) (by first | exact Or.inl ⟨_, rfl⟩ | exact Or.inr ⟨_, rfl⟩) ?_
  intro pp ee ss mm args below meth cc Q hx hb hml hown hts hA hP hE hS hret ls hl
  have hl : lv_has ls 2 [(0, .ref l0), (1, .int (iI (i)))] := hl
  have hin : ∀ w ∈ wsJx4a65c0, w ∈ wsJx4a65c_get_915e3 := by decide +kernel
  refine lv_iload_n hx hb dJx4a65c_get_915e3_0 rfl (lv_at hl 1 rfl) ?_
  refine lv_aload_n hx hb dJx4a65c_get_915e3_1 rfl (lv_at hl 0 rfl) ?_
  refine va_get (D := D) (ci := 0) (v := .int (iI (n))) (C := RJx4a65c) (T := TJx4a65c) (N := 3) hx hb hts hin hown hE.1 hP k hk rfl 2 (by decide) (hts (.fieldLink RJx4a65c 48 "java/util/ArrayList" "size" "I") (by decide +kernel)) (fun _ h9 => h9) rfl dJx4a65c_get_915e3_2 ?_
  refine a_callI hS (va_runS (As := [.int (iI (i)), .int (iI (n))]) (rest := []) ⟨hx, hb, hml, hown, hts⟩ (a_check l D cO dz mi ws hD i n h0 h1 h2) (va_cwS 2 hts gJx4a65c_get_915e3_J15_checkIndex_7cf53 rfl rfl rfl (by decide +kernel) ⟨Nat.le_of_ble_eq_true rfl, Nat.le_of_ble_eq_true rfl⟩) (a_preS hA hE hP hS) rfl rfl hl.1 rfl (lv_room (Nat.le_of_ble_eq_true rfl)) dJx4a65c_get_915e3_5 ⟨Nat.le_of_ble_eq_true rfl, Nat.le_of_ble_eq_true rfl⟩) (fun r9 w9 H locs hpost hP hD hS => ?_)
  obtain ⟨rfl, rfl⟩ := hpost
  refine lv_pop hx hb dJx4a65c_get_915e3_8 rfl ?_
  refine lv_aload_n hx hb dJx4a65c_get_915e3_9 rfl (lv_at hl 0 rfl) ?_
  refine lv_iload_n hx hb dJx4a65c_get_915e3_10 rfl (lv_at hl 1 rfl) ?_
  refine a_callQ hS (va_runV (As := [.int (iI (i))]) (rest := []) ⟨hx, hb, hml, hown, hts⟩ (a_elementData l D cO dz mi ws hD k l0 e0 mo n hk ke cap arr hke hcap i h0 (by omega)) (cwV 1 hts gJx4a65c_get_915e3_Jx4a65c_elementData_915e3 rfl rfl rfl (by decide +kernel) ⟨Nat.le_of_ble_eq_true rfl, Nat.le_of_ble_eq_true rfl⟩) (a_preV hA hE hP hS hk rfl) rfl rfl hl.1 rfl (lv_room (Nat.le_of_ble_eq_true rfl)) dJx4a65c_get_915e3_11 ⟨Nat.le_of_ble_eq_true rfl, Nat.le_of_ble_eq_true rfl⟩) (fun r9 w9 H locs hpost hP hD hS => ?_)
  obtain ⟨rfl, rfl⟩ := hpost
  exact hret (arr i.toNat) (ws) _ _ _ _ _ _ dJx4a65c_get_915e3_14 hP hD hS (by omega) (by omega) ⟨rfl, rfl⟩

set_option maxRecDepth 100000 in
set_option maxHeartbeats 4000000 in
theorem a_newLength (l : Launch) (D : va_G) (cO : ClassId) (dz mi : Nat) {A : Nat → Prop} (ws : va_W) (hD : va_D A ws) (o x y : Int) (h0 : 0 ≤ o ∧ o ≤ 600) (h1 : 1 ≤ x ∧ x ≤ 600) (h2 : 0 ≤ y ∧ y ≤ 600) : aI l yJ8_newLength_cabcc wsJ8_newLength_cabcc { frames := 1, cells := 0, slots := 0, locals := 20 } D cO dz mi A [.int (iI (o)), .int (iI (x)), .int (iI (y))] ws (fun r w9 => ws = w9 ∧ ∃ z : Int, r = iI z ∧ o < z ∧ z ≤ o + x + y) 0 0 := by
  refine aI_of (cc := cJ8_newLength_cabcc) (maxL := 4) (ty := .int) (by decide) rfl (Nat.le_of_ble_eq_true rfl) ?_
  intro pp ee ss mm args below meth cc Q hx hb hml hown hts hA hP hE hS hret ls hl
  have hl : lv_has ls 4 [(0, .int (iI (o))), (1, .int (iI (x))), (2, .int (iI (y)))] := hl
  refine lv_iload_n hx hb dJ8_newLength_cabcc_0 rfl (lv_at hl 0 rfl) ?_
  refine lv_iload_n hx hb dJ8_newLength_cabcc_1 rfl (lv_at hl 1 rfl) ?_
  refine lv_iload_n hx hb dJ8_newLength_cabcc_2 rfl (lv_at hl 2 rfl) ?_
  refine va_mmax hx hb (hml.trans hl.1.symm) hown (hts (.methodLink RJ8 194 Lib.Math.max.name) (by decide +kernel)) (hts (.static Lib.Math.max.name) (by decide +kernel)) (hts (.initialized "java/lang/Math") (by decide +kernel)) (hts (.code Lib.Math.max.name Lib.Math.max.code 2 (some .int)) (by decide +kernel)) (Nat.le_of_ble_eq_true rfl) (Nat.le_of_ble_eq_true rfl) (Nat.le_of_ble_eq_true rfl) (Nat.le_of_ble_eq_true rfl) dJ8_newLength_cabcc_3 ?_
  refine h_top hx (y := iI ((if x < y then y else x))) (by by_cases h9 : x < y; rw [if_pos h9, if_pos ((iI_lt (by omega) (by omega)).mpr h9)]; rw [if_neg h9, if_neg (fun z => h9 ((iI_lt (by omega) (by omega)).mp z))]) ?_
  have hb9 : 1 ≤ (if x < y then y else x) ∧ (if x < y then y else x) ≤ x + y := by split <;> omega
  refine h_iadd hx hb dJ8_newLength_cabcc_6 ?_
  refine lv_istore_n (lv' := [(3, .int (iI ((o + (if x < y then y else x))))), (0, .int (iI (o))), (1, .int (iI (x))), (2, .int (iI (y)))]) hx hb dJ8_newLength_cabcc_7 rfl hl (by decide) rfl (fun ls hl => ?_)
  refine lv_iconst (v := iI 0) hx hb dJ8_newLength_cabcc_8 rfl ?_
  refine lv_iload_n hx hb dJ8_newLength_cabcc_9 rfl (lv_at hl 0 rfl) ?_
  refine h_icmp_ge (tgt := 21) hx hb (by omega) (by omega) dJ8_newLength_cabcc_10 (by decide) (fun c_10 => by exfalso; omega) (fun c_10 => ?_)
  refine lv_iload_n hx hb dJ8_newLength_cabcc_13 rfl (lv_at hl 0 rfl) ?_
  refine lv_ldc (v := iI 2147483639) hx hb hown (hts (.constant RJ8 200 (iI 2147483639)) (by decide +kernel)) dJ8_newLength_cabcc_14 ?_
  refine h_icmp_gt (tgt := 21) hx hb (by omega) (by omega) dJ8_newLength_cabcc_16 (by decide) (fun c_16 => by exfalso; omega) (fun c_16 => ?_)
  refine lv_iload_n hx hb dJ8_newLength_cabcc_19 rfl (lv_at hl 0 rfl) ?_
  exact hret ((o + (if x < y then y else x))) (ws) _ _ _ _ _ _ dJ8_newLength_cabcc_20 rfl hP hD hS (by omega) (by omega) ⟨rfl, _, rfl, by omega, by omega⟩

set_option maxRecDepth 100000 in
set_option maxHeartbeats 4000000 in
theorem a_copyOf3 (l : Launch) (D : va_G) (cO : ClassId) (dz mi : Nat) {A : Nat → Prop} (ws : va_W) (hD : va_D A ws) (e0 : Nat) (ke cap : Nat) (arr : Nat → Option Nat) (hke : ws[ke]? = some (e0, aCell cO cap arr)) (hcap : 2 ≤ cap ∧ cap ≤ 600) (hels : elsOk ws cap arr) (z : Int) (hz : cap ≤ z ∧ z ≤ 1000) : aRf l yJ7_copyOf_6403c wsJ7_copyOf_6403c { frames := 1, cells := 1, slots := 1000, locals := 60 } D cO dz mi A [.ref e0, .int (iI (z)), .ref mi] ws (fun r w9 => ∃ q : Nat, r = some q ∧ w9 = ws ++ [(q, aCell cO z.toNat (va_cpy arr (fun _ => none) 0 0 cap))] ∧ ∀ (j : Nat) (x : Nat × va_E), ws[j]? = some x → x.1 ≠ q) 1 1000 := by
  refine aRf_of (cc := cJ7_copyOf_6403c) (maxL := 4) (ty := (.array (.object "java/lang/Object"))) (by decide) rfl (Nat.le_of_ble_eq_true rfl) (by first | exact Or.inl ⟨_, rfl⟩ | exact Or.inr ⟨_, rfl⟩) ?_
  intro pp ee ss mm args below meth cc Q hx hb hml hown hts hA hP hE hS hret ls hl
  have hl : lv_has ls 4 [(0, .ref e0), (1, .int (iI (z))), (2, .ref mi)] := hl
  have hke0 := hke
  refine lv_aload_n hx hb dJ7_copyOf_6403c_0 rfl (lv_at hl 2 rfl) ?_
  refine va_ldcM hx hb hown (hts (.classLink RJ7 110 "[Ljava/lang/Object;") (by decide +kernel)) hE.2.2.2.2.1 dJ7_copyOf_6403c_1 ?_
  refine lv_acmp_ne (rx := some mi) (ry := some mi) (tgt := 13) hx hb dJ7_copyOf_6403c_3 (by decide) (fun z => absurd rfl z) (fun _ => ?_)
  refine lv_iload_n hx hb dJ7_copyOf_6403c_6 rfl (lv_at hl 1 rfl) ?_
  refine a_newq hx hb hown (hts (.classLink RJ7 2 "java/lang/Object") (by decide +kernel)) hE hP hD hS hA (z := z) (by omega) (by omega) (Nat.le_of_ble_eq_true rfl) (by show 0 + (z).toNat ≤ 1000; omega) dJ7_copyOf_6403c_7 (fun q9 H hP hD hS => ?_)
  have hfr9 := fresh_of hD
  refine W.widen (k := 1) (n := 1000) (by omega) (by omega) ?_
  have hke := app_at (w2 := [(q9, aCell cO (z).toNat (fun _ => none))]) hke
  have hk_q := app_last (ws) (q9, aCell cO (z).toNat (fun _ => none))
  have hels := elsOk_app (w2 := [(q9, aCell cO (z).toNat (fun _ => none))]) hels
  refine lv_goto (tgt := 24) hx hb dJ7_copyOf_6403c_10 (by decide) ?_
  refine lv_astore_n (lv' := [(3, .ref q9), (0, .ref e0), (1, .int (iI (z))), (2, .ref mi)]) hx hb dJ7_copyOf_6403c_24 rfl hl (by decide) rfl (fun ls hl => ?_)
  refine lv_aload_n hx hb dJ7_copyOf_6403c_25 rfl (lv_at hl 1 rfl) ?_
  refine lv_iconst (v := iI 0) hx hb dJ7_copyOf_6403c_26 rfl ?_
  refine lv_aload_n hx hb dJ7_copyOf_6403c_27 rfl (lv_at hl 0 rfl) ?_
  refine lv_iconst (v := iI 0) hx hb dJ7_copyOf_6403c_28 rfl ?_
  refine lv_aload_n hx hb dJ7_copyOf_6403c_29 rfl (lv_at hl 1 rfl) ?_
  refine va_alen hx hb hE.1 hP ke 0 hke rfl (v := iI (cap : Int)) (iI_nat _) dJ7_copyOf_6403c_30 ?_
  refine lv_iload_n hx hb dJ7_copyOf_6403c_31 rfl (lv_at hl 2 rfl) ?_
  refine va_mmin hx hb (hml.trans hl.1.symm) hown (hts (.methodLink RJ7 304 Lib.Math.min.name) (by decide +kernel)) (hts (.static Lib.Math.min.name) (by decide +kernel)) (hts (.initialized "java/lang/Math") (by decide +kernel)) (hts (.code Lib.Math.min.name Lib.Math.min.code 2 (some .int)) (by decide +kernel)) (Nat.le_of_ble_eq_true rfl) (Nat.le_of_ble_eq_true rfl) (Nat.le_of_ble_eq_true rfl) (Nat.le_of_ble_eq_true rfl) dJ7_copyOf_6403c_32 ?_
  refine h_top hx (y := iI ((cap : Int))) (by rw [if_neg (fun h9 => by rw [iI_lt (by omega) (by omega)] at h9; omega)]) ?_
  refine a_copy hx hb (hml.trans hl.1.symm) hown (hts (.methodLink RJ7 150 arraycopyName) (by decide +kernel)) (hts (.native arraycopyName) (by decide +kernel)) (hts (.static arraycopyName) (by decide +kernel)) (hts (.initialized "java/lang/System") (by decide +kernel)) hE hP hD hS hke hk_q hels (sp := 0) (dp := 0) (z := (cap : Int)) (by omega) (by omega) (by omega) (by omega) (by omega) (by omega) (by omega) (Nat.le_of_ble_eq_true rfl) (Nat.le_of_ble_eq_true rfl) dJ7_copyOf_6403c_35 (fun H locs hP hD hS => ?_)
  have hke := set_off (y := (q9, aCell cO (z).toNat (va_cpy arr (fun _ => none) (0 : Int).toNat (0 : Int).toNat ((cap : Int) : Int).toNat))) hk_q hke (hfr9 ke _ hke0)
  have hk_q := set_at (y := (q9, aCell cO (z).toNat (va_cpy arr (fun _ => none) (0 : Int).toNat (0 : Int).toNat ((cap : Int) : Int).toNat))) hk_q
  refine lv_aload_n hx hb dJ7_copyOf_6403c_38 rfl (lv_at hl 0 rfl) ?_
  exact hret (some q9) (((ws ++ [(q9, aCell cO (z).toNat (fun _ => none))]).set (ws).length (q9, aCell cO (z).toNat (va_cpy arr (fun _ => none) (0 : Int).toNat (0 : Int).toNat ((cap : Int) : Int).toNat)))) _ _ _ _ _ _ dJ7_copyOf_6403c_39 hP hD hS (by omega) (by omega) ⟨q9, rfl, by rw [set_last]; rfl, hfr9⟩

set_option maxRecDepth 100000 in
set_option maxHeartbeats 4000000 in
theorem a_copyOf2 (l : Launch) (D : va_G) (cO : ClassId) (dz mi : Nat) {A : Nat → Prop} (ws : va_W) (hD : va_D A ws) (e0 : Nat) (ke cap : Nat) (arr : Nat → Option Nat) (hke : ws[ke]? = some (e0, aCell cO cap arr)) (hcap : 2 ≤ cap ∧ cap ≤ 600) (hels : elsOk ws cap arr) (z : Int) (hz : cap ≤ z ∧ z ≤ 1000) : aRf l yJ7_copyOf_1904c wsJ7_copyOf_1904c { frames := 2, cells := 1, slots := 1000, locals := 83 } D cO dz mi A [.ref e0, .int (iI (z))] ws (fun r w9 => ∃ q : Nat, r = some q ∧ w9 = ws ++ [(q, aCell cO z.toNat (va_cpy arr (fun _ => none) 0 0 cap))] ∧ ∀ (j : Nat) (x : Nat × va_E), ws[j]? = some x → x.1 ≠ q) 1 1000 := by
  refine aRf_of (cc := cJ7_copyOf_1904c) (maxL := 2) (ty := (.array (.object "java/lang/Object"))) (by decide) rfl (Nat.le_of_ble_eq_true rfl) (by first | exact Or.inl ⟨_, rfl⟩ | exact Or.inr ⟨_, rfl⟩) ?_
  intro pp ee ss mm args below meth cc Q hx hb hml hown hts hA hP hE hS hret ls hl
  have hl : lv_has ls 2 [(0, .ref e0), (1, .int (iI (z)))] := hl
  refine lv_aload_n hx hb dJ7_copyOf_1904c_0 rfl (lv_at hl 0 rfl) ?_
  refine lv_iload_n hx hb dJ7_copyOf_1904c_1 rfl (lv_at hl 1 rfl) ?_
  refine lv_aload_n hx hb dJ7_copyOf_1904c_2 rfl (lv_at hl 0 rfl) ?_
  refine va_getC hx hb (hml.trans hl.1.symm) hown (hts (.methodLink RJ7 86 ⟨"java/lang/Object", "getClass", "()Ljava/lang/Class;"⟩) (by decide +kernel)) (va_Dc.use hE.2.2.2.2.2.1) (hts (.selects "[Ljava/lang/Object;" ⟨"java/lang/Object", "getClass", "()Ljava/lang/Class;"⟩ ⟨"java/lang/Object", "getClass", "()Ljava/lang/Class;"⟩) (by decide +kernel)) (hts (.instanceMethod ⟨"java/lang/Object", "getClass", "()Ljava/lang/Class;"⟩) (by decide +kernel)) (hts (.native ⟨"java/lang/Object", "getClass", "()Ljava/lang/Class;"⟩) (by decide +kernel)) hE.2.2.2.2.1 (a_arr hE hP hke) (Nat.le_of_ble_eq_true rfl) (Nat.le_of_ble_eq_true rfl) dJ7_copyOf_1904c_3 ?_
  refine a_callQ hS (va_runS (As := [.ref e0, .int (iI (z)), .ref mi]) (rest := []) ⟨hx, hb, hml, hown, hts⟩ (a_copyOf3 l D cO dz mi ws hD e0 ke cap arr hke hcap hels z hz) (va_cwS 3 hts gJ7_copyOf_1904c_J7_copyOf_6403c rfl rfl rfl (by decide +kernel) ⟨Nat.le_of_ble_eq_true rfl, Nat.le_of_ble_eq_true rfl⟩) (a_preS hA hE hP hS) rfl rfl hl.1 rfl (lv_room (Nat.le_of_ble_eq_true rfl)) dJ7_copyOf_1904c_6 ⟨Nat.le_of_ble_eq_true rfl, Nat.le_of_ble_eq_true rfl⟩) (fun r9 w9 H locs hpost hP hD hS => ?_)
  obtain ⟨q9, rfl, rfl, hfr9⟩ := hpost
  have hk_q := app_last (ws) (q9, aCell cO (z).toNat (va_cpy arr (fun _ => none) 0 0 cap))
  have hke := app_at (w2 := [(q9, aCell cO (z).toNat (va_cpy arr (fun _ => none) 0 0 cap))]) hke
  exact hret (some q9) ((ws ++ [(q9, aCell cO (z).toNat (va_cpy arr (fun _ => none) 0 0 cap))])) _ _ _ _ _ _ dJ7_copyOf_1904c_9 hP hD hS (by omega) (by omega) ⟨q9, rfl, rfl, hfr9⟩

set_option maxRecDepth 100000 in
set_option maxHeartbeats 4000000 in
theorem a_growF (l : Launch) (D : va_G) (cO : ClassId) (dz mi : Nat) {A : Nat → Prop} (ws : va_W) (hD : va_D A ws) (k l0 e0 : Nat) (mo n : Int) (hk : ws[k]? = some (l0, .inr (0, [.int (iI mo), .ref e0, .int (iI n)]))) (ke cap : Nat) (arr : Nat → Option Nat) (hke : ws[ke]? = some (e0, aCell cO cap arr)) (hcap : 2 ≤ cap ∧ cap ≤ 600) (hels : elsOk ws cap arr) (hn : n = cap) (hc4 : cap ≤ 300) : aRf l yJx4a65c_grow_92f84 wsJx4a65c_grow_92f84 { frames := 3, cells := 1, slots := 1000, locals := 104 } D cO dz mi A [.ref l0, .int (iI ((n + 1)))] ws (fun r w9 => ∃ q : Nat, r = some q ∧ grewTo cO ws w9 k l0 (iI mo) n cap arr q) 1 1000 := by
  refine aRf_of (cc := cJx4a65c_grow_92f84) (maxL := 4) (ty := (.array (.object "java/lang/Object"))) (by decide) rfl (Nat.le_of_ble_eq_true rfl) (by first | exact Or.inl ⟨_, rfl⟩ | exact Or.inr ⟨_, rfl⟩) ?_
  intro pp ee ss mm args below meth cc Q hx hb hml hown hts hA hP hE hS hret ls hl
  have hl : lv_has ls 4 [(0, .ref l0), (1, .int (iI ((n + 1))))] := hl
  have hin : ∀ w ∈ wsJx4a65c0, w ∈ wsJx4a65c_grow_92f84 := by decide +kernel
  have hkp : keepA l0 l0 ws ws := keepA.rf
  have hle := ne_cells hD hk hke (by intro h9; cases h9)
  have hk0 := hk
  have hke0 := hke
  refine lv_aload_n hx hb dJx4a65c_grow_92f84_0 rfl (lv_at hl 0 rfl) ?_
  refine va_get (D := D) (ci := 0) (v := .ref e0) (C := RJx4a65c) (T := TJx4a65c) (N := 3) hx hb hts hin hown hE.1 hP k hk rfl 1 (by decide) (hts (.fieldLink RJx4a65c 9 "java/util/ArrayList" "elementData" "[Ljava/lang/Object;") (by decide +kernel)) (fun _ h9 => h9) rfl dJx4a65c_grow_92f84_1 ?_
  refine va_alen hx hb hE.1 hP ke 0 hke rfl (v := iI (cap : Int)) (iI_nat _) dJx4a65c_grow_92f84_4 ?_
  refine lv_istore_n (lv' := [(2, .int (iI ((cap : Int)))), (0, .ref l0), (1, .int (iI ((n + 1))))]) hx hb dJx4a65c_grow_92f84_5 rfl hl (by decide) rfl (fun ls hl => ?_)
  refine lv_iload_n hx hb dJx4a65c_grow_92f84_6 rfl (lv_at hl 0 rfl) ?_
  refine h_if_gt (tgt := 20) hx hb (by omega) dJx4a65c_grow_92f84_7 (by decide) (fun c_7 => ?_) (fun c_7 => by exfalso; omega)
  refine lv_iload_n hx hb dJx4a65c_grow_92f84_20 rfl (lv_at hl 0 rfl) ?_
  refine lv_iload_n hx hb dJx4a65c_grow_92f84_21 rfl (lv_at hl 2 rfl) ?_
  refine lv_iload_n hx hb dJx4a65c_grow_92f84_22 rfl (lv_at hl 0 rfl) ?_
  refine h_isub hx hb dJx4a65c_grow_92f84_23 ?_
  refine lv_iload_n hx hb dJx4a65c_grow_92f84_24 rfl (lv_at hl 0 rfl) ?_
  refine lv_iconst (v := iI 1) hx hb dJx4a65c_grow_92f84_25 rfl ?_
  refine lv_ishr hx hb dJx4a65c_grow_92f84_26 ?_
  refine h_top hx (y := iI (((cap : Int) / 2))) (shr_1 (by omega) (by omega)) ?_
  refine a_callI hS (va_runS (As := [.int (iI ((cap : Int))), .int (iI (((n + 1) - (cap : Int)))), .int (iI (((cap : Int) / 2)))]) (rest := []) ⟨hx, hb, hml, hown, hts⟩ (a_newLength l D cO dz mi ws hD (cap : Int) ((n + 1) - (cap : Int)) ((cap : Int) / 2) (by omega) (by omega) (by omega)) (va_cwS 3 hts gJx4a65c_grow_92f84_J8_newLength_cabcc rfl rfl rfl (by decide +kernel) ⟨Nat.le_of_ble_eq_true rfl, Nat.le_of_ble_eq_true rfl⟩) (a_preS hA hE hP hS) rfl rfl hl.1 rfl (lv_room (Nat.le_of_ble_eq_true rfl)) dJx4a65c_grow_92f84_27 ⟨Nat.le_of_ble_eq_true rfl, Nat.le_of_ble_eq_true rfl⟩) (fun r9 w9 H locs hpost hP hD hS => ?_)
  obtain ⟨rfl, nl, rfl, hnl1, hnl2⟩ := hpost
  refine lv_istore_n (lv' := [(3, .int (iI (nl))), (2, .int (iI ((cap : Int)))), (0, .ref l0), (1, .int (iI ((n + 1))))]) hx hb dJx4a65c_grow_92f84_30 rfl hl (by decide) rfl (fun ls hl => ?_)
  refine lv_aload_n hx hb dJx4a65c_grow_92f84_31 rfl (lv_at hl 2 rfl) ?_
  refine lv_aload_n hx hb dJx4a65c_grow_92f84_32 rfl (lv_at hl 2 rfl) ?_
  refine va_get (D := D) (ci := 0) (v := .ref e0) (C := RJx4a65c) (T := TJx4a65c) (N := 3) hx hb hts hin hown hE.1 hP k hk rfl 1 (by decide) (hts (.fieldLink RJx4a65c 9 "java/util/ArrayList" "elementData" "[Ljava/lang/Object;") (by decide +kernel)) (fun _ h9 => h9) rfl dJx4a65c_grow_92f84_33 ?_
  refine lv_iload_n hx hb dJx4a65c_grow_92f84_36 rfl (lv_at hl 0 rfl) ?_
  refine a_callQ hS (va_runS (As := [.ref e0, .int (iI (nl))]) (rest := [.ref l0]) ⟨hx, hb, hml, hown, hts⟩ (a_copyOf2 l D cO dz mi ws hD e0 ke cap arr hke hcap hels nl (by omega)) (va_cwS 2 hts gJx4a65c_grow_92f84_J7_copyOf_1904c rfl rfl rfl (by decide +kernel) ⟨Nat.le_of_ble_eq_true rfl, Nat.le_of_ble_eq_true rfl⟩) (a_preS hA hE hP hS) rfl rfl hl.1 rfl (lv_room (Nat.le_of_ble_eq_true rfl)) dJx4a65c_grow_92f84_37 ⟨Nat.le_of_ble_eq_true rfl, Nat.le_of_ble_eq_true rfl⟩) (fun r9 w9 H locs hpost hP hD hS => ?_)
  obtain ⟨q9, rfl, rfl, hfr9⟩ := hpost
  have hk_q := app_last (ws) (q9, aCell cO (nl).toNat (va_cpy arr (fun _ => none) 0 0 cap))
  have hk := app_at (w2 := [(q9, aCell cO (nl).toNat (va_cpy arr (fun _ => none) 0 0 cap))]) hk
  have hke := app_at (w2 := [(q9, aCell cO (nl).toNat (va_cpy arr (fun _ => none) 0 0 cap))]) hke
  have hkp := hkp.app (w3 := [(q9, aCell cO (nl).toNat (va_cpy arr (fun _ => none) 0 0 cap))])
  refine lv_dup_x1 hx hb dJx4a65c_grow_92f84_40 rfl rfl ?_
  refine va_put (D := D) (ci := 0) (v := .ref q9) (ty := (.array (.object "java/lang/Object"))) (C := RJx4a65c) (T := TJx4a65c) (N := 3) hx hb hts hin tyJx4a65c tyJx4a65c_ok nmJx4a65c hown hE.1 hP hD hS k hk rfl 1 (by decide) (hts (.fieldLink RJx4a65c 9 "java/util/ArrayList" "elementData" "[Ljava/lang/Object;") (by decide +kernel)) (fun _ h9 => h9) rfl (by decide +kernel) rfl rfl (Nat.le_of_ble_eq_true rfl) dJx4a65c_grow_92f84_41 (fun H locs hP hD hS => ?_)
  have hke := set_off (y := (l0, .inr (0, [.int (iI (mo)), .ref q9, .int (iI (n))]))) hk hke (Ne.symm hle)
  have hk_q := set_off (y := (l0, .inr (0, [.int (iI (mo)), .ref q9, .int (iI (n))]))) hk hk_q (Ne.symm (hfr9 k _ hk0))
  have hkp := hkp.set (y := (l0, .inr (0, [.int (iI (mo)), .ref q9, .int (iI (n))]))) hk (by first | exact Or.inl rfl | exact Or.inr rfl)
  have hk := set_at (y := (l0, .inr (0, [.int (iI (mo)), .ref q9, .int (iI (n))]))) hk
  have hP : va_P D vwCl ((ws ++ [(q9, aCell cO (nl).toNat (va_cpy arr (fun _ => none) 0 0 cap))]).set k (l0, .inr (0, [.int (iI (mo)), .ref q9, .int (iI (n))]))) H := hP
  have hD : va_D A ((ws ++ [(q9, aCell cO (nl).toNat (va_cpy arr (fun _ => none) 0 0 cap))]).set k (l0, .inr (0, [.int (iI (mo)), .ref q9, .int (iI (n))]))) := hD
  exact hret (some q9) (((ws ++ [(q9, aCell cO (nl).toNat (va_cpy arr (fun _ => none) 0 0 cap))]).set k (l0, .inr (0, [.int (iI (mo)), .ref q9, .int (iI (n))])))) _ _ _ _ _ _ dJx4a65c_grow_92f84_44 hP hD hS (by omega) (by omega) ⟨q9, rfl, hk, ⟨_, nl.toNat, _, hk_q, by omega, by omega, by omega, fun i _ => cpy_all arr cap i⟩, hkp, hfr9⟩

set_option maxRecDepth 100000 in
set_option maxHeartbeats 4000000 in
theorem a_growD (l : Launch) (D : va_G) (cO : ClassId) (dz mi : Nat) {A : Nat → Prop} (ws : va_W) (hD : va_D A ws) (k l0 : Nat) (mo n : Int) (hk : ws[k]? = some (l0, .inr (0, [.int (iI mo), .ref dz, .int (iI n)]))) (hn : n = 0)  : aRf l yJx4a65c_grow_92f84 wsJx4a65c_grow_92f84 { frames := 1, cells := 1, slots := 1000, locals := 20 } D cO dz mi A [.ref l0, .int (iI ((n + 1)))] ws (fun r w9 => ∃ q : Nat, r = some q ∧ grewTo cO ws w9 k l0 (iI mo) n 0 (fun _ => none) q) 1 1000 := by
  refine aRf_of (cc := cJx4a65c_grow_92f84) (maxL := 4) (ty := (.array (.object "java/lang/Object"))) (by decide) rfl (Nat.le_of_ble_eq_true rfl) (by first | exact Or.inl ⟨_, rfl⟩ | exact Or.inr ⟨_, rfl⟩) ?_
  intro pp ee ss mm args below meth cc Q hx hb hml hown hts hA hP hE hS hret ls hl
  have hl : lv_has ls 4 [(0, .ref l0), (1, .int (iI ((n + 1))))] := hl
  have hin : ∀ w ∈ wsJx4a65c0, w ∈ wsJx4a65c_grow_92f84 := by decide +kernel
  have hkp : keepA l0 l0 ws ws := keepA.rf
  obtain ⟨fz, hTz⟩ := hE.2.2.2.1
  have hk0 := hk
  refine lv_aload_n hx hb dJx4a65c_grow_92f84_0 rfl (lv_at hl 0 rfl) ?_
  refine va_get (D := D) (ci := 0) (v := .ref dz) (C := RJx4a65c) (T := TJx4a65c) (N := 3) hx hb hts hin hown hE.1 hP k hk rfl 1 (by decide) (hts (.fieldLink RJx4a65c 9 "java/util/ArrayList" "elementData" "[Ljava/lang/Object;") (by decide +kernel)) (fun _ h9 => h9) rfl dJx4a65c_grow_92f84_1 ?_
  refine va_tlen hx hb hTz hS (v := iI 0) (by decide) dJx4a65c_grow_92f84_4 ?_
  refine lv_istore_n (lv' := [(2, .int (iI 0)), (0, .ref l0), (1, .int (iI ((n + 1))))]) hx hb dJx4a65c_grow_92f84_5 rfl hl (by decide) rfl (fun ls hl => ?_)
  refine lv_iload_n hx hb dJx4a65c_grow_92f84_6 rfl (lv_at hl 0 rfl) ?_
  refine h_if_gt (tgt := 20) hx hb (by omega) dJx4a65c_grow_92f84_7 (by decide) (fun c_7 => by exfalso; omega) (fun c_7 => ?_)
  refine lv_aload_n hx hb dJx4a65c_grow_92f84_10 rfl (lv_at hl 1 rfl) ?_
  refine va_get (D := D) (ci := 0) (v := .ref dz) (C := RJx4a65c) (T := TJx4a65c) (N := 3) hx hb hts hin hown hE.1 hP k hk rfl 1 (by decide) (hts (.fieldLink RJx4a65c 9 "java/util/ArrayList" "elementData" "[Ljava/lang/Object;") (by decide +kernel)) (fun _ h9 => h9) rfl dJx4a65c_grow_92f84_11 ?_
  refine va_gets hx hb hE.2.2.1 hS hown (hts (.fieldLink RJx4a65c 39 "java/util/ArrayList" "DEFAULTCAPACITY_EMPTY_ELEMENTDATA" "[Ljava/lang/Object;") (by decide +kernel)) (fun _ h9 => h9) dJx4a65c_grow_92f84_14 ?_
  refine lv_acmp_eq (rx := some dz) (ry := some dz) (tgt := 45) hx hb dJx4a65c_grow_92f84_17 (by decide) (fun _ => ?_) (fun z => absurd rfl z)
  refine lv_aload_n hx hb dJx4a65c_grow_92f84_45 rfl (lv_at hl 1 rfl) ?_
  refine lv_bipush (v := iI 10) hx hb dJx4a65c_grow_92f84_46 (by decide) ?_
  refine lv_iload_n hx hb dJx4a65c_grow_92f84_48 rfl (lv_at hl 2 rfl) ?_
  refine va_mmax hx hb (hml.trans hl.1.symm) hown (hts (.methodLink RJx4a65c 79 Lib.Math.max.name) (by decide +kernel)) (hts (.static Lib.Math.max.name) (by decide +kernel)) (hts (.initialized "java/lang/Math") (by decide +kernel)) (hts (.code Lib.Math.max.name Lib.Math.max.code 2 (some .int)) (by decide +kernel)) (Nat.le_of_ble_eq_true rfl) (Nat.le_of_ble_eq_true rfl) (Nat.le_of_ble_eq_true rfl) (Nat.le_of_ble_eq_true rfl) dJx4a65c_grow_92f84_49 ?_
  refine h_top hx (y := iI ((10 : Int))) (by rw [if_neg (fun h9 => by rw [iI_lt (by omega) (by omega)] at h9; omega)]) ?_
  refine a_newq hx hb hown (hts (.classLink RJx4a65c 7 "java/lang/Object") (by decide +kernel)) hE hP hD hS hA (z := (10 : Int)) (by omega) (by omega) (Nat.le_of_ble_eq_true rfl) (by show 0 + ((10 : Int)).toNat ≤ 1000; omega) dJx4a65c_grow_92f84_52 (fun q9 H hP hD hS => ?_)
  have hfr9 := fresh_of hD
  refine W.widen (k := 1) (n := 1000) (by omega) (by omega) ?_
  have hk := app_at (w2 := [(q9, aCell cO ((10 : Int)).toNat (fun _ => none))]) hk
  have hkp := hkp.app (w3 := [(q9, aCell cO ((10 : Int)).toNat (fun _ => none))])
  have hk_q := app_last (ws) (q9, aCell cO ((10 : Int)).toNat (fun _ => none))
  refine lv_dup_x1 hx hb dJx4a65c_grow_92f84_55 rfl rfl ?_
  refine va_put (D := D) (ci := 0) (v := .ref q9) (ty := (.array (.object "java/lang/Object"))) (C := RJx4a65c) (T := TJx4a65c) (N := 3) hx hb hts hin tyJx4a65c tyJx4a65c_ok nmJx4a65c hown hE.1 hP hD hS k hk rfl 1 (by decide) (hts (.fieldLink RJx4a65c 9 "java/util/ArrayList" "elementData" "[Ljava/lang/Object;") (by decide +kernel)) (fun _ h9 => h9) rfl (by decide +kernel) rfl rfl (Nat.le_of_ble_eq_true rfl) dJx4a65c_grow_92f84_56 (fun H locs hP hD hS => ?_)
  have hk_q := set_off (y := (l0, .inr (0, [.int (iI (mo)), .ref q9, .int (iI (n))]))) hk hk_q (Ne.symm (hfr9 k _ hk0))
  have hkp := hkp.set (y := (l0, .inr (0, [.int (iI (mo)), .ref q9, .int (iI (n))]))) hk (by first | exact Or.inl rfl | exact Or.inr rfl)
  have hk := set_at (y := (l0, .inr (0, [.int (iI (mo)), .ref q9, .int (iI (n))]))) hk
  have hP : va_P D vwCl ((ws ++ [(q9, aCell cO ((10 : Int)).toNat (fun _ => none))]).set k (l0, .inr (0, [.int (iI (mo)), .ref q9, .int (iI (n))]))) H := hP
  have hD : va_D A ((ws ++ [(q9, aCell cO ((10 : Int)).toNat (fun _ => none))]).set k (l0, .inr (0, [.int (iI (mo)), .ref q9, .int (iI (n))]))) := hD
  exact hret (some q9) (((ws ++ [(q9, aCell cO ((10 : Int)).toNat (fun _ => none))]).set k (l0, .inr (0, [.int (iI (mo)), .ref q9, .int (iI (n))])))) _ _ _ _ _ _ dJx4a65c_grow_92f84_59 hP hD hS (by omega) (by omega) ⟨q9, rfl, hk, ⟨_, 10, _, hk_q, by omega, by omega, by omega, fun i _ => by rw [if_neg (Nat.not_lt_zero i)]⟩, hkp, hfr9⟩

set_option maxRecDepth 100000 in
set_option maxHeartbeats 4000000 in
theorem a_grow0F (l : Launch) (D : va_G) (cO : ClassId) (dz mi : Nat) {A : Nat → Prop} (ws : va_W) (hD : va_D A ws) (k l0 e0 : Nat) (mo n : Int) (hk : ws[k]? = some (l0, .inr (0, [.int (iI mo), .ref e0, .int (iI n)]))) (ke cap : Nat) (arr : Nat → Option Nat) (hke : ws[ke]? = some (e0, aCell cO cap arr)) (hcap : 2 ≤ cap ∧ cap ≤ 600) (hels : elsOk ws cap arr) (hn : n = cap) (hc4 : cap ≤ 300) : aRf l yJx4a65c_grow_d5877 wsJx4a65c_grow_d5877 { frames := 4, cells := 1, slots := 1000, locals := 127 } D cO dz mi A [.ref l0] ws (fun r w9 => ∃ q : Nat, r = some q ∧ grewTo cO ws w9 k l0 (iI mo) n cap arr q) 1 1000 := by
  refine aRf_of (cc := cJx4a65c_grow_d5877) (maxL := 1) (ty := (.array (.object "java/lang/Object"))) (by decide) rfl (Nat.le_of_ble_eq_true rfl) (by first | exact Or.inl ⟨_, rfl⟩ | exact Or.inr ⟨_, rfl⟩) ?_
  intro pp ee ss mm args below meth cc Q hx hb hml hown hts hA hP hE hS hret ls hl
  have hl : lv_has ls 1 [(0, .ref l0)] := hl
  have hin : ∀ w ∈ wsJx4a65c0, w ∈ wsJx4a65c_grow_d5877 := by decide +kernel
  refine lv_aload_n hx hb dJx4a65c_grow_d5877_0 rfl (lv_at hl 0 rfl) ?_
  refine lv_aload_n hx hb dJx4a65c_grow_d5877_1 rfl (lv_at hl 0 rfl) ?_
  refine va_get (D := D) (ci := 0) (v := .int (iI (n))) (C := RJx4a65c) (T := TJx4a65c) (N := 3) hx hb hts hin hown hE.1 hP k hk rfl 2 (by decide) (hts (.fieldLink RJx4a65c 48 "java/util/ArrayList" "size" "I") (by decide +kernel)) (fun _ h9 => h9) rfl dJx4a65c_grow_d5877_2 ?_
  refine lv_iconst (v := iI 1) hx hb dJx4a65c_grow_d5877_5 rfl ?_
  refine h_iadd hx hb dJx4a65c_grow_d5877_6 ?_
  refine a_callQ hS (va_runV (As := [.int (iI ((n + 1)))]) (rest := []) ⟨hx, hb, hml, hown, hts⟩ (a_growF l D cO dz mi ws hD k l0 e0 mo n hk ke cap arr hke hcap hels hn hc4) (cwV 1 hts gJx4a65c_grow_d5877_Jx4a65c_grow_92f84 rfl rfl rfl (by decide +kernel) ⟨Nat.le_of_ble_eq_true rfl, Nat.le_of_ble_eq_true rfl⟩) (a_preV hA hE hP hS hk rfl) rfl rfl hl.1 rfl (lv_room (Nat.le_of_ble_eq_true rfl)) dJx4a65c_grow_d5877_7 ⟨Nat.le_of_ble_eq_true rfl, Nat.le_of_ble_eq_true rfl⟩) (fun r9 w9 H locs hpost hP hD hS => ?_)
  obtain ⟨q9, rfl, hg9⟩ := hpost
  exact hret (some q9) (w9) _ _ _ _ _ _ dJx4a65c_grow_d5877_10 hP hD hS (by omega) (by omega) ⟨q9, rfl, hg9⟩

set_option maxRecDepth 100000 in
set_option maxHeartbeats 4000000 in
theorem a_grow0D (l : Launch) (D : va_G) (cO : ClassId) (dz mi : Nat) {A : Nat → Prop} (ws : va_W) (hD : va_D A ws) (k l0 : Nat) (mo n : Int) (hk : ws[k]? = some (l0, .inr (0, [.int (iI mo), .ref dz, .int (iI n)]))) (hn : n = 0)  : aRf l yJx4a65c_grow_d5877 wsJx4a65c_grow_d5877 { frames := 2, cells := 1, slots := 1000, locals := 43 } D cO dz mi A [.ref l0] ws (fun r w9 => ∃ q : Nat, r = some q ∧ grewTo cO ws w9 k l0 (iI mo) n 0 (fun _ => none) q) 1 1000 := by
  refine aRf_of (cc := cJx4a65c_grow_d5877) (maxL := 1) (ty := (.array (.object "java/lang/Object"))) (by decide) rfl (Nat.le_of_ble_eq_true rfl) (by first | exact Or.inl ⟨_, rfl⟩ | exact Or.inr ⟨_, rfl⟩) ?_
  intro pp ee ss mm args below meth cc Q hx hb hml hown hts hA hP hE hS hret ls hl
  have hl : lv_has ls 1 [(0, .ref l0)] := hl
  have hin : ∀ w ∈ wsJx4a65c0, w ∈ wsJx4a65c_grow_d5877 := by decide +kernel
  refine lv_aload_n hx hb dJx4a65c_grow_d5877_0 rfl (lv_at hl 0 rfl) ?_
  refine lv_aload_n hx hb dJx4a65c_grow_d5877_1 rfl (lv_at hl 0 rfl) ?_
  refine va_get (D := D) (ci := 0) (v := .int (iI (n))) (C := RJx4a65c) (T := TJx4a65c) (N := 3) hx hb hts hin hown hE.1 hP k hk rfl 2 (by decide) (hts (.fieldLink RJx4a65c 48 "java/util/ArrayList" "size" "I") (by decide +kernel)) (fun _ h9 => h9) rfl dJx4a65c_grow_d5877_2 ?_
  refine lv_iconst (v := iI 1) hx hb dJx4a65c_grow_d5877_5 rfl ?_
  refine h_iadd hx hb dJx4a65c_grow_d5877_6 ?_
  refine a_callQ hS (va_runV (As := [.int (iI ((n + 1)))]) (rest := []) ⟨hx, hb, hml, hown, hts⟩ (a_growD l D cO dz mi ws hD k l0 mo n hk hn) (cwV 1 hts gJx4a65c_grow_d5877_Jx4a65c_grow_92f84 rfl rfl rfl (by decide +kernel) ⟨Nat.le_of_ble_eq_true rfl, Nat.le_of_ble_eq_true rfl⟩) (a_preV hA hE hP hS hk rfl) rfl rfl hl.1 rfl (lv_room (Nat.le_of_ble_eq_true rfl)) dJx4a65c_grow_d5877_7 ⟨Nat.le_of_ble_eq_true rfl, Nat.le_of_ble_eq_true rfl⟩) (fun r9 w9 H locs hpost hP hD hS => ?_)
  obtain ⟨q9, rfl, hg9⟩ := hpost
  exact hret (some q9) (w9) _ _ _ _ _ _ dJx4a65c_grow_d5877_10 hP hD hS (by omega) (by omega) ⟨q9, rfl, hg9⟩

set_option maxRecDepth 100000 in
set_option maxHeartbeats 4000000 in
theorem a_add3R (l : Launch) (D : va_G) (cO : ClassId) (dz mi : Nat) {A : Nat → Prop} (ws : va_W) (hD : va_D A ws) (xs : List Nat) (k l0 e0 : Nat) (mo : Int) (hk : ws[k]? = some (l0, .inr (0, [.int (iI mo), .ref e0, .int (iI (xs.length : Int))]))) (hed : e0 ≠ dz) (ke cap : Nat) (arr : Nat → Option Nat) (hke : ws[ke]? = some (e0, aCell cO cap arr)) (hcap : 2 ≤ cap ∧ cap ≤ 600) (harr : ∀ i : Nat, i < cap → arr i = xs[i]?) (b kb ci : Nat) (fs : List Value) (hkb : ws[kb]? = some (b, .inr (ci, fs))) (hc1 : 1 ≤ ci) (hc3 : ci ≤ 3) (hroom : xs.length < cap) : aV l yJx4a65c_add_72be8 wsJx4a65c_add_72be8 { frames := 0, cells := 0, slots := 0, locals := 0 } D cO dz mi A [.ref l0, .ref b, .ref e0, .int (iI ((xs.length : Int)))] ws (fun w9 => ∃ e1 : Nat, lsAt cO dz w9 l0 (xs ++ [b]) e1 ∧ keepA l0 e0 ws w9 ∧ (e1 = e0 ∨ ∀ (j : Nat) (x : Nat × va_E), ws[j]? = some x → x.1 ≠ e1)) 0 0 := by
  refine aV_of (cc := cJx4a65c_add_72be8) (maxL := 4) (by decide) rfl (Nat.le_of_ble_eq_true rfl) ?_
  intro pp ee ss mm args below meth cc Q hx hb hml hown hts hA hP hE hS hini hret ls hl
  have hl : lv_has ls 4 [(0, .ref l0), (1, .ref b), (2, .ref e0), (3, .int (iI ((xs.length : Int))))] := hl
  have hin : ∀ w ∈ wsJx4a65c0, w ∈ wsJx4a65c_add_72be8 := by decide +kernel
  have hkp : keepA l0 e0 ws ws := keepA.rf
  have hbl := ne_cells hD hkb hk (by intro h9; cases h9; omega)
  have hkb0 := hkb
  have hk0 := hk
  have hl9 : ((xs ++ [b]).length : Int) = (xs.length : Int) + 1 := by simp
  have hle := ne_cells hD hk hke (by intro h9; cases h9)
  have hbe := ne_cells hD hkb hke (by intro h9; cases h9)
  have hke0 := hke
  refine lv_iload_n hx hb dJx4a65c_add_72be8_0 rfl (lv_at hl 3 rfl) ?_
  refine lv_aload_n hx hb dJx4a65c_add_72be8_1 rfl (lv_at hl 2 rfl) ?_
  refine va_alen hx hb hE.1 hP ke 0 hke rfl (v := iI (cap : Int)) (iI_nat _) dJx4a65c_add_72be8_2 ?_
  refine h_icmp_ne (tgt := 11) hx hb (by omega) (by omega) dJx4a65c_add_72be8_3 (by decide) (fun c_3 => ?_) (fun c_3 => by exfalso; omega)
  refine lv_aload_n hx hb dJx4a65c_add_72be8_11 rfl (lv_at hl 2 rfl) ?_
  refine lv_iload_n hx hb dJx4a65c_add_72be8_12 rfl (lv_at hl 3 rfl) ?_
  refine lv_aload_n hx hb dJx4a65c_add_72be8_13 rfl (lv_at hl 1 rfl) ?_
  refine a_ast hx hb hE hP hD hS hke hkb hc1 hc3 (z := (xs.length : Int)) (by omega) (by omega) (by omega) dJx4a65c_add_72be8_14 (fun H locs hP hD hS => ?_)
  have hk := set_off (y := (e0, aCell cO cap (va_up arr ((xs.length : Int)).toNat (some b)))) hke hk hle
  have hkb := set_off (y := (e0, aCell cO cap (va_up arr ((xs.length : Int)).toNat (some b)))) hke hkb hbe
  have hkp := hkp.set (y := (e0, aCell cO cap (va_up arr ((xs.length : Int)).toNat (some b)))) hke (by first | exact Or.inl rfl | exact Or.inr rfl)
  have hke := set_at (y := (e0, aCell cO cap (va_up arr ((xs.length : Int)).toNat (some b)))) hke
  refine lv_aload_n hx hb dJx4a65c_add_72be8_15 rfl (lv_at hl 0 rfl) ?_
  refine lv_iload_n hx hb dJx4a65c_add_72be8_16 rfl (lv_at hl 3 rfl) ?_
  refine lv_iconst (v := iI 1) hx hb dJx4a65c_add_72be8_17 rfl ?_
  refine h_iadd hx hb dJx4a65c_add_72be8_18 ?_
  refine va_put (D := D) (ci := 0) (v := .int (iI (((xs.length : Int) + 1)))) (ty := .int) (C := RJx4a65c) (T := TJx4a65c) (N := 3) hx hb hts hin tyJx4a65c tyJx4a65c_ok nmJx4a65c hown hE.1 hP hD hS k hk rfl 2 (by decide) (hts (.fieldLink RJx4a65c 48 "java/util/ArrayList" "size" "I") (by decide +kernel)) (fun _ h9 => h9) rfl (by decide +kernel) rfl rfl (Nat.le_of_ble_eq_true rfl) dJx4a65c_add_72be8_19 (fun H locs hP hD hS => ?_)
  have hke := set_off (y := (l0, .inr (0, [.int (iI (mo)), .ref e0, .int (iI (((xs.length : Int) + 1)))]))) hk hke (Ne.symm hle)
  have hkb := set_off (y := (l0, .inr (0, [.int (iI (mo)), .ref e0, .int (iI (((xs.length : Int) + 1)))]))) hk hkb hbl
  have hkp := hkp.set (y := (l0, .inr (0, [.int (iI (mo)), .ref e0, .int (iI (((xs.length : Int) + 1)))]))) hk (by first | exact Or.inl rfl | exact Or.inr rfl)
  have hk := set_at (y := (l0, .inr (0, [.int (iI (mo)), .ref e0, .int (iI (((xs.length : Int) + 1)))]))) hk
  have hP : va_P D vwCl ((ws.set ke (e0, aCell cO cap (va_up arr ((xs.length : Int)).toNat (some b)))).set k (l0, .inr (0, [.int (iI (mo)), .ref e0, .int (iI (((xs.length : Int) + 1)))]))) H := hP
  have hD : va_D A ((ws.set ke (e0, aCell cO cap (va_up arr ((xs.length : Int)).toNat (some b)))).set k (l0, .inr (0, [.int (iI (mo)), .ref e0, .int (iI (((xs.length : Int) + 1)))]))) := hD
  exact hret (((ws.set ke (e0, aCell cO cap (va_up arr ((xs.length : Int)).toNat (some b)))).set k (l0, .inr (0, [.int (iI (mo)), .ref e0, .int (iI (((xs.length : Int) + 1)))])))) _ _ _ _ _ _ dJx4a65c_add_72be8_22 hP hD hS (by omega) (by omega) ⟨e0, ⟨k, iI mo, by rw [hl9]; exact hk, Or.inr ⟨hed, ke, cap, _, hke, by simp; omega, by omega, by omega, up_app harr⟩⟩, hkp, Or.inl rfl⟩

set_option maxRecDepth 100000 in
set_option maxHeartbeats 4000000 in
theorem a_add3F (l : Launch) (D : va_G) (cO : ClassId) (dz mi : Nat) {A : Nat → Prop} (ws : va_W) (hD : va_D A ws) (xs : List Nat) (k l0 e0 : Nat) (mo : Int) (hk : ws[k]? = some (l0, .inr (0, [.int (iI mo), .ref e0, .int (iI (xs.length : Int))]))) (hed : e0 ≠ dz) (ke cap : Nat) (arr : Nat → Option Nat) (hke : ws[ke]? = some (e0, aCell cO cap arr)) (hcap : 2 ≤ cap ∧ cap ≤ 600) (harr : ∀ i : Nat, i < cap → arr i = xs[i]?) (b kb ci : Nat) (fs : List Value) (hkb : ws[kb]? = some (b, .inr (ci, fs))) (hc1 : 1 ≤ ci) (hc3 : ci ≤ 3) (hels : elsOk ws cap arr) (hfull : xs.length = cap) (hc4 : cap ≤ 300) : aV l yJx4a65c_add_72be8 wsJx4a65c_add_72be8 { frames := 5, cells := 1, slots := 1000, locals := 147 } D cO dz mi A [.ref l0, .ref b, .ref e0, .int (iI ((xs.length : Int)))] ws (fun w9 => ∃ e1 : Nat, lsAt cO dz w9 l0 (xs ++ [b]) e1 ∧ keepA l0 e0 ws w9 ∧ (e1 = e0 ∨ ∀ (j : Nat) (x : Nat × va_E), ws[j]? = some x → x.1 ≠ e1)) 1 1000 := by
  refine aV_of (cc := cJx4a65c_add_72be8) (maxL := 4) (by decide) rfl (Nat.le_of_ble_eq_true rfl) ?_
  intro pp ee ss mm args below meth cc Q hx hb hml hown hts hA hP hE hS hini hret ls hl
  have hl : lv_has ls 4 [(0, .ref l0), (1, .ref b), (2, .ref e0), (3, .int (iI ((xs.length : Int))))] := hl
  have hin : ∀ w ∈ wsJx4a65c0, w ∈ wsJx4a65c_add_72be8 := by decide +kernel
  have hkp : keepA l0 e0 ws ws := keepA.rf
  have hbl := ne_cells hD hkb hk (by intro h9; cases h9; omega)
  have hkb0 := hkb
  have hk0 := hk
  have hl9 : ((xs ++ [b]).length : Int) = (xs.length : Int) + 1 := by simp
  have hle := ne_cells hD hk hke (by intro h9; cases h9)
  have hbe := ne_cells hD hkb hke (by intro h9; cases h9)
  have hke0 := hke
  refine lv_iload_n hx hb dJx4a65c_add_72be8_0 rfl (lv_at hl 3 rfl) ?_
  refine lv_aload_n hx hb dJx4a65c_add_72be8_1 rfl (lv_at hl 2 rfl) ?_
  refine va_alen hx hb hE.1 hP ke 0 hke rfl (v := iI (cap : Int)) (iI_nat _) dJx4a65c_add_72be8_2 ?_
  refine h_icmp_ne (tgt := 11) hx hb (by omega) (by omega) dJx4a65c_add_72be8_3 (by decide) (fun c_3 => by exfalso; omega) (fun c_3 => ?_)
  refine lv_aload_n hx hb dJx4a65c_add_72be8_6 rfl (lv_at hl 0 rfl) ?_
  refine a_callQ hS (va_runV (As := []) (rest := []) ⟨hx, hb, hml, hown, hts⟩ (a_grow0F l D cO dz mi ws hD k l0 e0 mo (xs.length : Int) hk ke cap arr hke hcap hels (by omega) (by omega)) (cwV 0 hts gJx4a65c_add_72be8_Jx4a65c_grow_d5877 rfl rfl rfl (by decide +kernel) ⟨Nat.le_of_ble_eq_true rfl, Nat.le_of_ble_eq_true rfl⟩) (a_preV hA hE hP hS hk rfl) rfl rfl hl.1 rfl (lv_room (Nat.le_of_ble_eq_true rfl)) dJx4a65c_add_72be8_7 ⟨Nat.le_of_ble_eq_true rfl, Nat.le_of_ble_eq_true rfl⟩) (fun r9 w9 H locs hpost hP hD hS => ?_)
  obtain ⟨q9, rfl, hk, ⟨jq, capn, arrn, hk_q, hq1, hq2, hq3, hq4⟩, hkp9, hfr9⟩ := hpost
  have hkb := hkp9 _ _ hkb hbl hbl
  have hkp := keepA.mono (e0 := e0) hkp9
  have hlq9 : l0 ≠ q9 := hfr9 k _ hk0
  have hqd : q9 ≠ dz := fun z => hE.dz (z ▸ hD.2 _ _ hk_q)
  refine lv_astore_n (lv' := [(2, .ref q9), (0, .ref l0), (1, .ref b), (3, .int (iI ((xs.length : Int))))]) hx hb dJx4a65c_add_72be8_10 rfl hl (by decide) rfl (fun ls hl => ?_)
  refine lv_aload_n hx hb dJx4a65c_add_72be8_11 rfl (lv_at hl 0 rfl) ?_
  refine lv_iload_n hx hb dJx4a65c_add_72be8_12 rfl (lv_at hl 3 rfl) ?_
  refine lv_aload_n hx hb dJx4a65c_add_72be8_13 rfl (lv_at hl 2 rfl) ?_
  refine a_ast hx hb hE hP hD hS hk_q hkb hc1 hc3 (z := (xs.length : Int)) (by omega) (by omega) (by omega) dJx4a65c_add_72be8_14 (fun H locs hP hD hS => ?_)
  have hk := set_off (y := (q9, aCell cO capn (va_up arrn ((xs.length : Int)).toNat (some b)))) hk_q hk hlq9
  have hkb := set_off (y := (q9, aCell cO capn (va_up arrn ((xs.length : Int)).toNat (some b)))) hk_q hkb (hfr9 kb _ hkb0)
  have hkp := hkp.setF (y := aCell cO capn (va_up arrn ((xs.length : Int)).toNat (some b))) hk_q hfr9
  have hk_q := set_at (y := (q9, aCell cO capn (va_up arrn ((xs.length : Int)).toNat (some b)))) hk_q
  refine lv_aload_n hx hb dJx4a65c_add_72be8_15 rfl (lv_at hl 1 rfl) ?_
  refine lv_iload_n hx hb dJx4a65c_add_72be8_16 rfl (lv_at hl 3 rfl) ?_
  refine lv_iconst (v := iI 1) hx hb dJx4a65c_add_72be8_17 rfl ?_
  refine h_iadd hx hb dJx4a65c_add_72be8_18 ?_
  refine va_put (D := D) (ci := 0) (v := .int (iI (((xs.length : Int) + 1)))) (ty := .int) (C := RJx4a65c) (T := TJx4a65c) (N := 3) hx hb hts hin tyJx4a65c tyJx4a65c_ok nmJx4a65c hown hE.1 hP hD hS k hk rfl 2 (by decide) (hts (.fieldLink RJx4a65c 48 "java/util/ArrayList" "size" "I") (by decide +kernel)) (fun _ h9 => h9) rfl (by decide +kernel) rfl rfl (Nat.le_of_ble_eq_true rfl) dJx4a65c_add_72be8_19 (fun H locs hP hD hS => ?_)
  have hk_q := set_off (y := (l0, .inr (0, [.int (iI (mo)), .ref q9, .int (iI (((xs.length : Int) + 1)))]))) hk hk_q (Ne.symm hlq9)
  have hkb := set_off (y := (l0, .inr (0, [.int (iI (mo)), .ref q9, .int (iI (((xs.length : Int) + 1)))]))) hk hkb hbl
  have hkp := hkp.set (y := (l0, .inr (0, [.int (iI (mo)), .ref q9, .int (iI (((xs.length : Int) + 1)))]))) hk (by first | exact Or.inl rfl | exact Or.inr rfl)
  have hk := set_at (y := (l0, .inr (0, [.int (iI (mo)), .ref q9, .int (iI (((xs.length : Int) + 1)))]))) hk
  have hP : va_P D vwCl ((w9.set jq (q9, aCell cO capn (va_up arrn ((xs.length : Int)).toNat (some b)))).set k (l0, .inr (0, [.int (iI (mo)), .ref q9, .int (iI (((xs.length : Int) + 1)))]))) H := hP
  have hD : va_D A ((w9.set jq (q9, aCell cO capn (va_up arrn ((xs.length : Int)).toNat (some b)))).set k (l0, .inr (0, [.int (iI (mo)), .ref q9, .int (iI (((xs.length : Int) + 1)))]))) := hD
  exact hret (((w9.set jq (q9, aCell cO capn (va_up arrn ((xs.length : Int)).toNat (some b)))).set k (l0, .inr (0, [.int (iI (mo)), .ref q9, .int (iI (((xs.length : Int) + 1)))])))) _ _ _ _ _ _ dJx4a65c_add_72be8_22 hP hD hS (by omega) (by omega) ⟨q9, ⟨k, iI mo, by rw [hl9]; exact hk, Or.inr ⟨hqd, jq, capn, _, hk_q, by simp; omega, by omega, by omega, up_grow harr hfull hq4⟩⟩, hkp, Or.inr hfr9⟩

set_option maxRecDepth 100000 in
set_option maxHeartbeats 4000000 in
theorem a_add3D (l : Launch) (D : va_G) (cO : ClassId) (dz mi : Nat) {A : Nat → Prop} (ws : va_W) (hD : va_D A ws) (xs : List Nat) (k l0 : Nat) (mo : Int) (hk : ws[k]? = some (l0, .inr (0, [.int (iI mo), .ref dz, .int (iI (xs.length : Int))]))) (hx0 : xs.length = 0) (b kb ci : Nat) (fs : List Value) (hkb : ws[kb]? = some (b, .inr (ci, fs))) (hc1 : 1 ≤ ci) (hc3 : ci ≤ 3)  : aV l yJx4a65c_add_72be8 wsJx4a65c_add_72be8 { frames := 3, cells := 1, slots := 1000, locals := 63 } D cO dz mi A [.ref l0, .ref b, .ref dz, .int (iI ((xs.length : Int)))] ws (fun w9 => ∃ e1 : Nat, lsAt cO dz w9 l0 (xs ++ [b]) e1 ∧ keepA l0 dz ws w9 ∧ (e1 = dz ∨ ∀ (j : Nat) (x : Nat × va_E), ws[j]? = some x → x.1 ≠ e1)) 1 1000 := by
  refine aV_of (cc := cJx4a65c_add_72be8) (maxL := 4) (by decide) rfl (Nat.le_of_ble_eq_true rfl) ?_
  intro pp ee ss mm args below meth cc Q hx hb hml hown hts hA hP hE hS hini hret ls hl
  have hl : lv_has ls 4 [(0, .ref l0), (1, .ref b), (2, .ref dz), (3, .int (iI ((xs.length : Int))))] := hl
  have hin : ∀ w ∈ wsJx4a65c0, w ∈ wsJx4a65c_add_72be8 := by decide +kernel
  have hkp : keepA l0 dz ws ws := keepA.rf
  obtain ⟨fz, hTz⟩ := hE.2.2.2.1
  have hbl := ne_cells hD hkb hk (by intro h9; cases h9; omega)
  have hkb0 := hkb
  have hk0 := hk
  have hl9 : ((xs ++ [b]).length : Int) = (xs.length : Int) + 1 := by simp
  refine lv_iload_n hx hb dJx4a65c_add_72be8_0 rfl (lv_at hl 3 rfl) ?_
  refine lv_aload_n hx hb dJx4a65c_add_72be8_1 rfl (lv_at hl 2 rfl) ?_
  refine va_tlen hx hb hTz hS (v := iI 0) (by decide) dJx4a65c_add_72be8_2 ?_
  refine h_icmp_ne (tgt := 11) hx hb (by omega) (by omega) dJx4a65c_add_72be8_3 (by decide) (fun c_3 => by exfalso; omega) (fun c_3 => ?_)
  refine lv_aload_n hx hb dJx4a65c_add_72be8_6 rfl (lv_at hl 0 rfl) ?_
  refine a_callQ hS (va_runV (As := []) (rest := []) ⟨hx, hb, hml, hown, hts⟩ (a_grow0D l D cO dz mi ws hD k l0 mo (xs.length : Int) hk (by omega)) (cwV 0 hts gJx4a65c_add_72be8_Jx4a65c_grow_d5877 rfl rfl rfl (by decide +kernel) ⟨Nat.le_of_ble_eq_true rfl, Nat.le_of_ble_eq_true rfl⟩) (a_preV hA hE hP hS hk rfl) rfl rfl hl.1 rfl (lv_room (Nat.le_of_ble_eq_true rfl)) dJx4a65c_add_72be8_7 ⟨Nat.le_of_ble_eq_true rfl, Nat.le_of_ble_eq_true rfl⟩) (fun r9 w9 H locs hpost hP hD hS => ?_)
  obtain ⟨q9, rfl, hk, ⟨jq, capn, arrn, hk_q, hq1, hq2, hq3, hq4⟩, hkp9, hfr9⟩ := hpost
  have hkb := hkp9 _ _ hkb hbl hbl
  have hkp := keepA.mono (e0 := dz) hkp9
  have hlq9 : l0 ≠ q9 := hfr9 k _ hk0
  have hqd : q9 ≠ dz := fun z => hE.dz (z ▸ hD.2 _ _ hk_q)
  refine lv_astore_n (lv' := [(2, .ref q9), (0, .ref l0), (1, .ref b), (3, .int (iI ((xs.length : Int))))]) hx hb dJx4a65c_add_72be8_10 rfl hl (by decide) rfl (fun ls hl => ?_)
  refine lv_aload_n hx hb dJx4a65c_add_72be8_11 rfl (lv_at hl 0 rfl) ?_
  refine lv_iload_n hx hb dJx4a65c_add_72be8_12 rfl (lv_at hl 3 rfl) ?_
  refine lv_aload_n hx hb dJx4a65c_add_72be8_13 rfl (lv_at hl 2 rfl) ?_
  refine a_ast hx hb hE hP hD hS hk_q hkb hc1 hc3 (z := (xs.length : Int)) (by omega) (by omega) (by omega) dJx4a65c_add_72be8_14 (fun H locs hP hD hS => ?_)
  have hk := set_off (y := (q9, aCell cO capn (va_up arrn ((xs.length : Int)).toNat (some b)))) hk_q hk hlq9
  have hkb := set_off (y := (q9, aCell cO capn (va_up arrn ((xs.length : Int)).toNat (some b)))) hk_q hkb (hfr9 kb _ hkb0)
  have hkp := hkp.setF (y := aCell cO capn (va_up arrn ((xs.length : Int)).toNat (some b))) hk_q hfr9
  have hk_q := set_at (y := (q9, aCell cO capn (va_up arrn ((xs.length : Int)).toNat (some b)))) hk_q
  refine lv_aload_n hx hb dJx4a65c_add_72be8_15 rfl (lv_at hl 1 rfl) ?_
  refine lv_iload_n hx hb dJx4a65c_add_72be8_16 rfl (lv_at hl 3 rfl) ?_
  refine lv_iconst (v := iI 1) hx hb dJx4a65c_add_72be8_17 rfl ?_
  refine h_iadd hx hb dJx4a65c_add_72be8_18 ?_
  refine va_put (D := D) (ci := 0) (v := .int (iI (((xs.length : Int) + 1)))) (ty := .int) (C := RJx4a65c) (T := TJx4a65c) (N := 3) hx hb hts hin tyJx4a65c tyJx4a65c_ok nmJx4a65c hown hE.1 hP hD hS k hk rfl 2 (by decide) (hts (.fieldLink RJx4a65c 48 "java/util/ArrayList" "size" "I") (by decide +kernel)) (fun _ h9 => h9) rfl (by decide +kernel) rfl rfl (Nat.le_of_ble_eq_true rfl) dJx4a65c_add_72be8_19 (fun H locs hP hD hS => ?_)
  have hk_q := set_off (y := (l0, .inr (0, [.int (iI (mo)), .ref q9, .int (iI (((xs.length : Int) + 1)))]))) hk hk_q (Ne.symm hlq9)
  have hkb := set_off (y := (l0, .inr (0, [.int (iI (mo)), .ref q9, .int (iI (((xs.length : Int) + 1)))]))) hk hkb hbl
  have hkp := hkp.set (y := (l0, .inr (0, [.int (iI (mo)), .ref q9, .int (iI (((xs.length : Int) + 1)))]))) hk (by first | exact Or.inl rfl | exact Or.inr rfl)
  have hk := set_at (y := (l0, .inr (0, [.int (iI (mo)), .ref q9, .int (iI (((xs.length : Int) + 1)))]))) hk
  have hP : va_P D vwCl ((w9.set jq (q9, aCell cO capn (va_up arrn ((xs.length : Int)).toNat (some b)))).set k (l0, .inr (0, [.int (iI (mo)), .ref q9, .int (iI (((xs.length : Int) + 1)))]))) H := hP
  have hD : va_D A ((w9.set jq (q9, aCell cO capn (va_up arrn ((xs.length : Int)).toNat (some b)))).set k (l0, .inr (0, [.int (iI (mo)), .ref q9, .int (iI (((xs.length : Int) + 1)))]))) := hD
  exact hret (((w9.set jq (q9, aCell cO capn (va_up arrn ((xs.length : Int)).toNat (some b)))).set k (l0, .inr (0, [.int (iI (mo)), .ref q9, .int (iI (((xs.length : Int) + 1)))])))) _ _ _ _ _ _ dJx4a65c_add_72be8_22 hP hD hS (by omega) (by omega) ⟨q9, ⟨k, iI mo, by rw [hl9]; exact hk, Or.inr ⟨hqd, jq, capn, _, hk_q, by simp; omega, by omega, by omega, up_grow (cap := 0) (arr := fun _ => none) (fun i hi => absurd hi (Nat.not_lt_zero i)) hx0 hq4⟩⟩, hkp, Or.inr hfr9⟩

set_option maxRecDepth 100000 in
set_option maxHeartbeats 4000000 in
theorem a_addR (l : Launch) (D : va_G) (cO : ClassId) (dz mi : Nat) {A : Nat → Prop} (ws : va_W) (hD : va_D A ws) (xs : List Nat) (k l0 e0 : Nat) (mo : Int) (hk : ws[k]? = some (l0, .inr (0, [.int (iI mo), .ref e0, .int (iI (xs.length : Int))]))) (hed : e0 ≠ dz) (ke cap : Nat) (arr : Nat → Option Nat) (hke : ws[ke]? = some (e0, aCell cO cap arr)) (hcap : 2 ≤ cap ∧ cap ≤ 600) (harr : ∀ i : Nat, i < cap → arr i = xs[i]?) (b kb ci : Nat) (fs : List Value) (hkb : ws[kb]? = some (b, .inr (ci, fs))) (hc1 : 1 ≤ ci) (hc3 : ci ≤ 3) (hroom : xs.length < cap) : aI l yJx4a65c_add_9ea2d wsJx4a65c_add_9ea2d { frames := 1, cells := 0, slots := 0, locals := 23 } D cO dz mi A [.ref l0, .ref b] ws (fun r w9 => r = iI 1 ∧ ∃ e1 : Nat, lsAt cO dz w9 l0 (xs ++ [b]) e1 ∧ keepA l0 e0 ws w9 ∧ (e1 = e0 ∨ ∀ (j : Nat) (x : Nat × va_E), ws[j]? = some x → x.1 ≠ e1)) 0 0 := by
  refine aI_of (cc := cJx4a65c_add_9ea2d) (maxL := 2) (ty := .boolean) (by decide) rfl (Nat.le_of_ble_eq_true rfl) ?_
  intro pp ee ss mm args below meth cc Q hx hb hml hown hts hA hP hE hS hret ls hl
  have hl : lv_has ls 2 [(0, .ref l0), (1, .ref b)] := hl
  have hin : ∀ w ∈ wsJx4a65c0, w ∈ wsJx4a65c_add_9ea2d := by decide +kernel
  have hkp : keepA l0 e0 ws ws := keepA.rf
  have hbl := ne_cells hD hkb hk (by intro h9; cases h9; omega)
  have hkb0 := hkb
  have hk0 := hk
  have hl9 : ((xs ++ [b]).length : Int) = (xs.length : Int) + 1 := by simp
  have hle := ne_cells hD hk hke (by intro h9; cases h9)
  have hbe := ne_cells hD hkb hke (by intro h9; cases h9)
  have hke0 := hke
  have hD0 := hD
  refine lv_aload_n hx hb dJx4a65c_add_9ea2d_0 rfl (lv_at hl 0 rfl) ?_
  refine lv_dup hx hb dJx4a65c_add_9ea2d_1 rfl ?_
  refine va_get (D := D) (ci := 0) (v := .int (iI (mo))) (C := RJx4a65c) (T := TJx4a65c) (N := 3) hx hb hts hin hown hE.1 hP k hk rfl 0 (by decide) (hts (.fieldLink RJx4a65c 63 "java/util/ArrayList" "modCount" "I") (by decide +kernel)) (u_same (hts (.sameField "java/util/ArrayList" "java/util/AbstractList" "modCount" "I") (by decide +kernel))) rfl dJx4a65c_add_9ea2d_2 ?_
  refine lv_iconst (v := iI 1) hx hb dJx4a65c_add_9ea2d_5 rfl ?_
  refine h_iadd hx hb dJx4a65c_add_9ea2d_6 ?_
  refine va_put (D := D) (ci := 0) (v := .int (iI ((mo + 1)))) (ty := .int) (C := RJx4a65c) (T := TJx4a65c) (N := 3) hx hb hts hin tyJx4a65c tyJx4a65c_ok nmJx4a65c hown hE.1 hP hD hS k hk rfl 0 (by decide) (hts (.fieldLink RJx4a65c 63 "java/util/ArrayList" "modCount" "I") (by decide +kernel)) (u_same (hts (.sameField "java/util/ArrayList" "java/util/AbstractList" "modCount" "I") (by decide +kernel))) rfl (by decide +kernel) rfl rfl (Nat.le_of_ble_eq_true rfl) dJx4a65c_add_9ea2d_7 (fun H locs hP hD hS => ?_)
  have hke := set_off (y := (l0, .inr (0, [.int (iI ((mo + 1))), .ref e0, .int (iI ((xs.length : Int)))]))) hk hke (Ne.symm hle)
  have hkb := set_off (y := (l0, .inr (0, [.int (iI ((mo + 1))), .ref e0, .int (iI ((xs.length : Int)))]))) hk hkb hbl
  have hkp := hkp.set (y := (l0, .inr (0, [.int (iI ((mo + 1))), .ref e0, .int (iI ((xs.length : Int)))]))) hk (by first | exact Or.inl rfl | exact Or.inr rfl)
  have hk := set_at (y := (l0, .inr (0, [.int (iI ((mo + 1))), .ref e0, .int (iI ((xs.length : Int)))]))) hk
  have hP : va_P D vwCl (ws.set k (l0, .inr (0, [.int (iI ((mo + 1))), .ref e0, .int (iI ((xs.length : Int)))]))) H := hP
  have hD : va_D A (ws.set k (l0, .inr (0, [.int (iI ((mo + 1))), .ref e0, .int (iI ((xs.length : Int)))]))) := hD
  refine lv_aload_n hx hb dJx4a65c_add_9ea2d_10 rfl (lv_at hl 0 rfl) ?_
  refine lv_aload_n hx hb dJx4a65c_add_9ea2d_11 rfl (lv_at hl 1 rfl) ?_
  refine lv_aload_n hx hb dJx4a65c_add_9ea2d_12 rfl (lv_at hl 0 rfl) ?_
  refine va_get (D := D) (ci := 0) (v := .ref e0) (C := RJx4a65c) (T := TJx4a65c) (N := 3) hx hb hts hin hown hE.1 hP k hk rfl 1 (by decide) (hts (.fieldLink RJx4a65c 9 "java/util/ArrayList" "elementData" "[Ljava/lang/Object;") (by decide +kernel)) (fun _ h9 => h9) rfl dJx4a65c_add_9ea2d_13 ?_
  refine lv_aload_n hx hb dJx4a65c_add_9ea2d_16 rfl (lv_at hl 0 rfl) ?_
  refine va_get (D := D) (ci := 0) (v := .int (iI ((xs.length : Int)))) (C := RJx4a65c) (T := TJx4a65c) (N := 3) hx hb hts hin hown hE.1 hP k hk rfl 2 (by decide) (hts (.fieldLink RJx4a65c 48 "java/util/ArrayList" "size" "I") (by decide +kernel)) (fun _ h9 => h9) rfl dJx4a65c_add_9ea2d_17 ?_
  refine a_callV hS (va_runV (As := [.ref b, .ref e0, .int (iI ((xs.length : Int)))]) (rest := []) ⟨hx, hb, hml, hown, hts⟩ (a_add3R l D cO dz mi (ws.set k (l0, .inr (0, [.int (iI ((mo + 1))), .ref e0, .int (iI ((xs.length : Int)))]))) hD xs k l0 e0 (mo + 1) hk hed ke cap arr hke hcap harr b kb ci fs hkb hc1 hc3 hroom) (cwV 3 hts gJx4a65c_add_9ea2d_Jx4a65c_add_72be8 rfl rfl rfl (by decide +kernel) ⟨Nat.le_of_ble_eq_true rfl, Nat.le_of_ble_eq_true rfl⟩) (a_preV hA hE hP hS hk rfl) rfl rfl hl.1 rfl (lv_room (Nat.le_of_ble_eq_true rfl)) dJx4a65c_add_9ea2d_20 ⟨Nat.le_of_ble_eq_true rfl, Nat.le_of_ble_eq_true rfl⟩) (fun w9 H locs hpost hP hD hS => ?_)
  obtain ⟨e1, hls, hkp2, hor⟩ := hpost
  refine lv_iconst (v := iI 1) hx hb dJx4a65c_add_9ea2d_23 rfl ?_
  exact hret (1) (w9) _ _ _ _ _ _ dJx4a65c_add_9ea2d_24 (by decide) hP hD hS (by omega) (by omega) ⟨rfl, e1, hls, fun j x h n1 n2 => hkp2 j x (hkp j x h n1 n2) n1 n2, hor.elim Or.inl (fun h => Or.inr (fun j x hj e9 => by by_cases n1 : x.1 = l0; exact h k _ hk (n1.symm.trans e9); by_cases n2 : x.1 = e0; exact h ke _ hke (n2.symm.trans e9); exact h j x (hkp j x hj n1 n2) e9))⟩

set_option maxRecDepth 100000 in
set_option maxHeartbeats 4000000 in
theorem a_addF (l : Launch) (D : va_G) (cO : ClassId) (dz mi : Nat) {A : Nat → Prop} (ws : va_W) (hD : va_D A ws) (xs : List Nat) (k l0 e0 : Nat) (mo : Int) (hk : ws[k]? = some (l0, .inr (0, [.int (iI mo), .ref e0, .int (iI (xs.length : Int))]))) (hed : e0 ≠ dz) (ke cap : Nat) (arr : Nat → Option Nat) (hke : ws[ke]? = some (e0, aCell cO cap arr)) (hcap : 2 ≤ cap ∧ cap ≤ 600) (harr : ∀ i : Nat, i < cap → arr i = xs[i]?) (b kb ci : Nat) (fs : List Value) (hkb : ws[kb]? = some (b, .inr (ci, fs))) (hc1 : 1 ≤ ci) (hc3 : ci ≤ 3) (hels : elsOk ws cap arr) (hfull : xs.length = cap) (hc4 : cap ≤ 300) : aI l yJx4a65c_add_9ea2d wsJx4a65c_add_9ea2d { frames := 6, cells := 1, slots := 1000, locals := 170 } D cO dz mi A [.ref l0, .ref b] ws (fun r w9 => r = iI 1 ∧ ∃ e1 : Nat, lsAt cO dz w9 l0 (xs ++ [b]) e1 ∧ keepA l0 e0 ws w9 ∧ (e1 = e0 ∨ ∀ (j : Nat) (x : Nat × va_E), ws[j]? = some x → x.1 ≠ e1)) 1 1000 := by
  refine aI_of (cc := cJx4a65c_add_9ea2d) (maxL := 2) (ty := .boolean) (by decide) rfl (Nat.le_of_ble_eq_true rfl) ?_
  intro pp ee ss mm args below meth cc Q hx hb hml hown hts hA hP hE hS hret ls hl
  have hl : lv_has ls 2 [(0, .ref l0), (1, .ref b)] := hl
  have hin : ∀ w ∈ wsJx4a65c0, w ∈ wsJx4a65c_add_9ea2d := by decide +kernel
  have hkp : keepA l0 e0 ws ws := keepA.rf
  have hbl := ne_cells hD hkb hk (by intro h9; cases h9; omega)
  have hkb0 := hkb
  have hk0 := hk
  have hl9 : ((xs ++ [b]).length : Int) = (xs.length : Int) + 1 := by simp
  have hle := ne_cells hD hk hke (by intro h9; cases h9)
  have hbe := ne_cells hD hkb hke (by intro h9; cases h9)
  have hke0 := hke
  have hD0 := hD
  refine lv_aload_n hx hb dJx4a65c_add_9ea2d_0 rfl (lv_at hl 0 rfl) ?_
  refine lv_dup hx hb dJx4a65c_add_9ea2d_1 rfl ?_
  refine va_get (D := D) (ci := 0) (v := .int (iI (mo))) (C := RJx4a65c) (T := TJx4a65c) (N := 3) hx hb hts hin hown hE.1 hP k hk rfl 0 (by decide) (hts (.fieldLink RJx4a65c 63 "java/util/ArrayList" "modCount" "I") (by decide +kernel)) (u_same (hts (.sameField "java/util/ArrayList" "java/util/AbstractList" "modCount" "I") (by decide +kernel))) rfl dJx4a65c_add_9ea2d_2 ?_
  refine lv_iconst (v := iI 1) hx hb dJx4a65c_add_9ea2d_5 rfl ?_
  refine h_iadd hx hb dJx4a65c_add_9ea2d_6 ?_
  refine va_put (D := D) (ci := 0) (v := .int (iI ((mo + 1)))) (ty := .int) (C := RJx4a65c) (T := TJx4a65c) (N := 3) hx hb hts hin tyJx4a65c tyJx4a65c_ok nmJx4a65c hown hE.1 hP hD hS k hk rfl 0 (by decide) (hts (.fieldLink RJx4a65c 63 "java/util/ArrayList" "modCount" "I") (by decide +kernel)) (u_same (hts (.sameField "java/util/ArrayList" "java/util/AbstractList" "modCount" "I") (by decide +kernel))) rfl (by decide +kernel) rfl rfl (Nat.le_of_ble_eq_true rfl) dJx4a65c_add_9ea2d_7 (fun H locs hP hD hS => ?_)
  have hke := set_off (y := (l0, .inr (0, [.int (iI ((mo + 1))), .ref e0, .int (iI ((xs.length : Int)))]))) hk hke (Ne.symm hle)
  have hkb := set_off (y := (l0, .inr (0, [.int (iI ((mo + 1))), .ref e0, .int (iI ((xs.length : Int)))]))) hk hkb hbl
  have hkp := hkp.set (y := (l0, .inr (0, [.int (iI ((mo + 1))), .ref e0, .int (iI ((xs.length : Int)))]))) hk (by first | exact Or.inl rfl | exact Or.inr rfl)
  have hels := elsOk_set (y := .inr (0, [.int (iI ((mo + 1))), .ref e0, .int (iI ((xs.length : Int)))])) hels hk (by intro ci fs h9; cases h9 <;> rfl)
  have hk := set_at (y := (l0, .inr (0, [.int (iI ((mo + 1))), .ref e0, .int (iI ((xs.length : Int)))]))) hk
  have hP : va_P D vwCl (ws.set k (l0, .inr (0, [.int (iI ((mo + 1))), .ref e0, .int (iI ((xs.length : Int)))]))) H := hP
  have hD : va_D A (ws.set k (l0, .inr (0, [.int (iI ((mo + 1))), .ref e0, .int (iI ((xs.length : Int)))]))) := hD
  refine lv_aload_n hx hb dJx4a65c_add_9ea2d_10 rfl (lv_at hl 0 rfl) ?_
  refine lv_aload_n hx hb dJx4a65c_add_9ea2d_11 rfl (lv_at hl 1 rfl) ?_
  refine lv_aload_n hx hb dJx4a65c_add_9ea2d_12 rfl (lv_at hl 0 rfl) ?_
  refine va_get (D := D) (ci := 0) (v := .ref e0) (C := RJx4a65c) (T := TJx4a65c) (N := 3) hx hb hts hin hown hE.1 hP k hk rfl 1 (by decide) (hts (.fieldLink RJx4a65c 9 "java/util/ArrayList" "elementData" "[Ljava/lang/Object;") (by decide +kernel)) (fun _ h9 => h9) rfl dJx4a65c_add_9ea2d_13 ?_
  refine lv_aload_n hx hb dJx4a65c_add_9ea2d_16 rfl (lv_at hl 0 rfl) ?_
  refine va_get (D := D) (ci := 0) (v := .int (iI ((xs.length : Int)))) (C := RJx4a65c) (T := TJx4a65c) (N := 3) hx hb hts hin hown hE.1 hP k hk rfl 2 (by decide) (hts (.fieldLink RJx4a65c 48 "java/util/ArrayList" "size" "I") (by decide +kernel)) (fun _ h9 => h9) rfl dJx4a65c_add_9ea2d_17 ?_
  refine a_callV hS (va_runV (As := [.ref b, .ref e0, .int (iI ((xs.length : Int)))]) (rest := []) ⟨hx, hb, hml, hown, hts⟩ (a_add3F l D cO dz mi (ws.set k (l0, .inr (0, [.int (iI ((mo + 1))), .ref e0, .int (iI ((xs.length : Int)))]))) hD xs k l0 e0 (mo + 1) hk hed ke cap arr hke hcap harr b kb ci fs hkb hc1 hc3 hels hfull hc4) (cwV 3 hts gJx4a65c_add_9ea2d_Jx4a65c_add_72be8 rfl rfl rfl (by decide +kernel) ⟨Nat.le_of_ble_eq_true rfl, Nat.le_of_ble_eq_true rfl⟩) (a_preV hA hE hP hS hk rfl) rfl rfl hl.1 rfl (lv_room (Nat.le_of_ble_eq_true rfl)) dJx4a65c_add_9ea2d_20 ⟨Nat.le_of_ble_eq_true rfl, Nat.le_of_ble_eq_true rfl⟩) (fun w9 H locs hpost hP hD hS => ?_)
  obtain ⟨e1, hls, hkp2, hor⟩ := hpost
  refine lv_iconst (v := iI 1) hx hb dJx4a65c_add_9ea2d_23 rfl ?_
  exact hret (1) (w9) _ _ _ _ _ _ dJx4a65c_add_9ea2d_24 (by decide) hP hD hS (by omega) (by omega) ⟨rfl, e1, hls, fun j x h n1 n2 => hkp2 j x (hkp j x h n1 n2) n1 n2, hor.elim Or.inl (fun h => Or.inr (fun j x hj e9 => by by_cases n1 : x.1 = l0; exact h k _ hk (n1.symm.trans e9); by_cases n2 : x.1 = e0; exact h ke _ hke (n2.symm.trans e9); exact h j x (hkp j x hj n1 n2) e9))⟩

set_option maxRecDepth 100000 in
set_option maxHeartbeats 4000000 in
theorem a_addD (l : Launch) (D : va_G) (cO : ClassId) (dz mi : Nat) {A : Nat → Prop} (ws : va_W) (hD : va_D A ws) (xs : List Nat) (k l0 : Nat) (mo : Int) (hk : ws[k]? = some (l0, .inr (0, [.int (iI mo), .ref dz, .int (iI (xs.length : Int))]))) (hx0 : xs.length = 0) (b kb ci : Nat) (fs : List Value) (hkb : ws[kb]? = some (b, .inr (ci, fs))) (hc1 : 1 ≤ ci) (hc3 : ci ≤ 3)  : aI l yJx4a65c_add_9ea2d wsJx4a65c_add_9ea2d { frames := 4, cells := 1, slots := 1000, locals := 86 } D cO dz mi A [.ref l0, .ref b] ws (fun r w9 => r = iI 1 ∧ ∃ e1 : Nat, lsAt cO dz w9 l0 (xs ++ [b]) e1 ∧ keepA l0 dz ws w9 ∧ (e1 = dz ∨ ∀ (j : Nat) (x : Nat × va_E), ws[j]? = some x → x.1 ≠ e1)) 1 1000 := by
  refine aI_of (cc := cJx4a65c_add_9ea2d) (maxL := 2) (ty := .boolean) (by decide) rfl (Nat.le_of_ble_eq_true rfl) ?_
  intro pp ee ss mm args below meth cc Q hx hb hml hown hts hA hP hE hS hret ls hl
  have hl : lv_has ls 2 [(0, .ref l0), (1, .ref b)] := hl
  have hin : ∀ w ∈ wsJx4a65c0, w ∈ wsJx4a65c_add_9ea2d := by decide +kernel
  have hkp : keepA l0 dz ws ws := keepA.rf
  have hbl := ne_cells hD hkb hk (by intro h9; cases h9; omega)
  have hkb0 := hkb
  have hk0 := hk
  have hl9 : ((xs ++ [b]).length : Int) = (xs.length : Int) + 1 := by simp
  have hD0 := hD
  refine lv_aload_n hx hb dJx4a65c_add_9ea2d_0 rfl (lv_at hl 0 rfl) ?_
  refine lv_dup hx hb dJx4a65c_add_9ea2d_1 rfl ?_
  refine va_get (D := D) (ci := 0) (v := .int (iI (mo))) (C := RJx4a65c) (T := TJx4a65c) (N := 3) hx hb hts hin hown hE.1 hP k hk rfl 0 (by decide) (hts (.fieldLink RJx4a65c 63 "java/util/ArrayList" "modCount" "I") (by decide +kernel)) (u_same (hts (.sameField "java/util/ArrayList" "java/util/AbstractList" "modCount" "I") (by decide +kernel))) rfl dJx4a65c_add_9ea2d_2 ?_
  refine lv_iconst (v := iI 1) hx hb dJx4a65c_add_9ea2d_5 rfl ?_
  refine h_iadd hx hb dJx4a65c_add_9ea2d_6 ?_
  refine va_put (D := D) (ci := 0) (v := .int (iI ((mo + 1)))) (ty := .int) (C := RJx4a65c) (T := TJx4a65c) (N := 3) hx hb hts hin tyJx4a65c tyJx4a65c_ok nmJx4a65c hown hE.1 hP hD hS k hk rfl 0 (by decide) (hts (.fieldLink RJx4a65c 63 "java/util/ArrayList" "modCount" "I") (by decide +kernel)) (u_same (hts (.sameField "java/util/ArrayList" "java/util/AbstractList" "modCount" "I") (by decide +kernel))) rfl (by decide +kernel) rfl rfl (Nat.le_of_ble_eq_true rfl) dJx4a65c_add_9ea2d_7 (fun H locs hP hD hS => ?_)
  have hkb := set_off (y := (l0, .inr (0, [.int (iI ((mo + 1))), .ref dz, .int (iI ((xs.length : Int)))]))) hk hkb hbl
  have hkp := hkp.set (y := (l0, .inr (0, [.int (iI ((mo + 1))), .ref dz, .int (iI ((xs.length : Int)))]))) hk (by first | exact Or.inl rfl | exact Or.inr rfl)
  have hk := set_at (y := (l0, .inr (0, [.int (iI ((mo + 1))), .ref dz, .int (iI ((xs.length : Int)))]))) hk
  have hP : va_P D vwCl (ws.set k (l0, .inr (0, [.int (iI ((mo + 1))), .ref dz, .int (iI ((xs.length : Int)))]))) H := hP
  have hD : va_D A (ws.set k (l0, .inr (0, [.int (iI ((mo + 1))), .ref dz, .int (iI ((xs.length : Int)))]))) := hD
  refine lv_aload_n hx hb dJx4a65c_add_9ea2d_10 rfl (lv_at hl 0 rfl) ?_
  refine lv_aload_n hx hb dJx4a65c_add_9ea2d_11 rfl (lv_at hl 1 rfl) ?_
  refine lv_aload_n hx hb dJx4a65c_add_9ea2d_12 rfl (lv_at hl 0 rfl) ?_
  refine va_get (D := D) (ci := 0) (v := .ref dz) (C := RJx4a65c) (T := TJx4a65c) (N := 3) hx hb hts hin hown hE.1 hP k hk rfl 1 (by decide) (hts (.fieldLink RJx4a65c 9 "java/util/ArrayList" "elementData" "[Ljava/lang/Object;") (by decide +kernel)) (fun _ h9 => h9) rfl dJx4a65c_add_9ea2d_13 ?_
  refine lv_aload_n hx hb dJx4a65c_add_9ea2d_16 rfl (lv_at hl 0 rfl) ?_
  refine va_get (D := D) (ci := 0) (v := .int (iI ((xs.length : Int)))) (C := RJx4a65c) (T := TJx4a65c) (N := 3) hx hb hts hin hown hE.1 hP k hk rfl 2 (by decide) (hts (.fieldLink RJx4a65c 48 "java/util/ArrayList" "size" "I") (by decide +kernel)) (fun _ h9 => h9) rfl dJx4a65c_add_9ea2d_17 ?_
  refine a_callV hS (va_runV (As := [.ref b, .ref dz, .int (iI ((xs.length : Int)))]) (rest := []) ⟨hx, hb, hml, hown, hts⟩ (a_add3D l D cO dz mi (ws.set k (l0, .inr (0, [.int (iI ((mo + 1))), .ref dz, .int (iI ((xs.length : Int)))]))) hD xs k l0 (mo + 1) hk hx0 b kb ci fs hkb hc1 hc3) (cwV 3 hts gJx4a65c_add_9ea2d_Jx4a65c_add_72be8 rfl rfl rfl (by decide +kernel) ⟨Nat.le_of_ble_eq_true rfl, Nat.le_of_ble_eq_true rfl⟩) (a_preV hA hE hP hS hk rfl) rfl rfl hl.1 rfl (lv_room (Nat.le_of_ble_eq_true rfl)) dJx4a65c_add_9ea2d_20 ⟨Nat.le_of_ble_eq_true rfl, Nat.le_of_ble_eq_true rfl⟩) (fun w9 H locs hpost hP hD hS => ?_)
  obtain ⟨e1, hls, hkp2, hor⟩ := hpost
  refine lv_iconst (v := iI 1) hx hb dJx4a65c_add_9ea2d_23 rfl ?_
  exact hret (1) (w9) _ _ _ _ _ _ dJx4a65c_add_9ea2d_24 (by decide) hP hD hS (by omega) (by omega) ⟨rfl, e1, hls, fun j x h n1 n2 => hkp2 j x (hkp j x h n1 n2) n1 n2, hor.elim Or.inl (fun h => Or.inr (fun j x hj e9 => by by_cases n1 : x.1 = l0; exact h k _ hk (n1.symm.trans e9); by_cases n2 : x.1 = dz; exact absurd (n2 ▸ hD0.2 j x hj) hE.dz; exact h j x (hkp j x hj n1 n2) e9))⟩

set_option maxRecDepth 100000 in
set_option maxHeartbeats 4000000 in
theorem a_fastRemove (l : Launch) (D : va_G) (cO : ClassId) (dz mi : Nat) {A : Nat → Prop} (ws : va_W) (hD : va_D A ws) (xs : List Nat) (k l0 e0 : Nat) (mo : Int) (hk : ws[k]? = some (l0, .inr (0, [.int (iI mo), .ref e0, .int (iI (xs.length : Int))]))) (hed : e0 ≠ dz) (ke cap : Nat) (arr : Nat → Option Nat) (hke : ws[ke]? = some (e0, aCell cO cap arr)) (hcap : 2 ≤ cap ∧ cap ≤ 600) (harr : ∀ i : Nat, i < cap → arr i = xs[i]?) (hels : elsOk ws cap arr) (r0 : Nat) (hr0 : r0 < xs.length) (hxc : xs.length ≤ cap) : aV l yJx4a65c_fastRemove_b59b0 wsJx4a65c_fastRemove_b59b0 { frames := 1, cells := 0, slots := 0, locals := 60 } D cO dz mi A [.ref l0, .ref e0, .int (iI ((r0 : Int)))] ws (fun w9 => lsAt cO dz w9 l0 (xs.eraseIdx r0) e0 ∧ keepA l0 e0 ws w9) 0 0 := by
  refine aV_of (cc := cJx4a65c_fastRemove_b59b0) (maxL := 4) (by decide) rfl (Nat.le_of_ble_eq_true rfl) ?_
  intro pp ee ss mm args below meth cc Q hx hb hml hown hts hA hP hE hS hini hret ls hl
  have hl : lv_has ls 4 [(0, .ref l0), (1, .ref e0), (2, .int (iI ((r0 : Int))))] := hl
  have hin : ∀ w ∈ wsJx4a65c0, w ∈ wsJx4a65c_fastRemove_b59b0 := by decide +kernel
  have hkp : keepA l0 e0 ws ws := keepA.rf
  have hle := ne_cells hD hk hke (by intro h9; cases h9)
  have hl9 : ((xs.eraseIdx r0).length : Int) = (xs.length : Int) - 1 := by rw [List.length_eraseIdx_of_lt hr0]; omega
  refine lv_aload_n hx hb dJx4a65c_fastRemove_b59b0_0 rfl (lv_at hl 0 rfl) ?_
  refine lv_dup hx hb dJx4a65c_fastRemove_b59b0_1 rfl ?_
  refine va_get (D := D) (ci := 0) (v := .int (iI (mo))) (C := RJx4a65c) (T := TJx4a65c) (N := 3) hx hb hts hin hown hE.1 hP k hk rfl 0 (by decide) (hts (.fieldLink RJx4a65c 63 "java/util/ArrayList" "modCount" "I") (by decide +kernel)) (u_same (hts (.sameField "java/util/ArrayList" "java/util/AbstractList" "modCount" "I") (by decide +kernel))) rfl dJx4a65c_fastRemove_b59b0_2 ?_
  refine lv_iconst (v := iI 1) hx hb dJx4a65c_fastRemove_b59b0_5 rfl ?_
  refine h_iadd hx hb dJx4a65c_fastRemove_b59b0_6 ?_
  refine va_put (D := D) (ci := 0) (v := .int (iI ((mo + 1)))) (ty := .int) (C := RJx4a65c) (T := TJx4a65c) (N := 3) hx hb hts hin tyJx4a65c tyJx4a65c_ok nmJx4a65c hown hE.1 hP hD hS k hk rfl 0 (by decide) (hts (.fieldLink RJx4a65c 63 "java/util/ArrayList" "modCount" "I") (by decide +kernel)) (u_same (hts (.sameField "java/util/ArrayList" "java/util/AbstractList" "modCount" "I") (by decide +kernel))) rfl (by decide +kernel) rfl rfl (Nat.le_of_ble_eq_true rfl) dJx4a65c_fastRemove_b59b0_7 (fun H locs hP hD hS => ?_)
  have hke := set_off (y := (l0, .inr (0, [.int (iI ((mo + 1))), .ref e0, .int (iI ((xs.length : Int)))]))) hk hke (Ne.symm hle)
  have hkp := hkp.set (y := (l0, .inr (0, [.int (iI ((mo + 1))), .ref e0, .int (iI ((xs.length : Int)))]))) hk (by first | exact Or.inl rfl | exact Or.inr rfl)
  have hels := elsOk_set (y := .inr (0, [.int (iI ((mo + 1))), .ref e0, .int (iI ((xs.length : Int)))])) hels hk (by intro ci fs h9; cases h9 <;> rfl)
  have hk := set_at (y := (l0, .inr (0, [.int (iI ((mo + 1))), .ref e0, .int (iI ((xs.length : Int)))]))) hk
  have hP : va_P D vwCl (ws.set k (l0, .inr (0, [.int (iI ((mo + 1))), .ref e0, .int (iI ((xs.length : Int)))]))) H := hP
  have hD : va_D A (ws.set k (l0, .inr (0, [.int (iI ((mo + 1))), .ref e0, .int (iI ((xs.length : Int)))]))) := hD
  refine lv_aload_n hx hb dJx4a65c_fastRemove_b59b0_10 rfl (lv_at hl 0 rfl) ?_
  refine va_get (D := D) (ci := 0) (v := .int (iI ((xs.length : Int)))) (C := RJx4a65c) (T := TJx4a65c) (N := 3) hx hb hts hin hown hE.1 hP k hk rfl 2 (by decide) (hts (.fieldLink RJx4a65c 48 "java/util/ArrayList" "size" "I") (by decide +kernel)) (fun _ h9 => h9) rfl dJx4a65c_fastRemove_b59b0_11 ?_
  refine lv_iconst (v := iI 1) hx hb dJx4a65c_fastRemove_b59b0_14 rfl ?_
  refine h_isub hx hb dJx4a65c_fastRemove_b59b0_15 ?_
  refine lv_dup hx hb dJx4a65c_fastRemove_b59b0_16 rfl ?_
  refine lv_istore_n (lv' := [(3, .int (iI (((xs.length : Int) - 1)))), (0, .ref l0), (1, .ref e0), (2, .int (iI ((r0 : Int))))]) hx hb dJx4a65c_fastRemove_b59b0_17 rfl hl (by decide) rfl (fun ls hl => ?_)
  refine lv_iload_n hx hb dJx4a65c_fastRemove_b59b0_18 rfl (lv_at hl 3 rfl) ?_
  refine h_icmp_le (tgt := 34) hx hb (by omega) (by omega) dJx4a65c_fastRemove_b59b0_19 (by decide) (fun c_19 => ?_) (fun c_19 => ?_)
  · skip
    refine lv_aload_n hx hb dJx4a65c_fastRemove_b59b0_34 rfl (lv_at hl 2 rfl) ?_
    refine lv_aload_n hx hb dJx4a65c_fastRemove_b59b0_35 rfl (lv_at hl 1 rfl) ?_
    refine lv_iload_n hx hb dJx4a65c_fastRemove_b59b0_36 rfl (lv_at hl 0 rfl) ?_
    refine lv_dup_x1 hx hb dJx4a65c_fastRemove_b59b0_37 rfl rfl ?_
    refine va_put (D := D) (ci := 0) (v := .int (iI (((xs.length : Int) - 1)))) (ty := .int) (C := RJx4a65c) (T := TJx4a65c) (N := 3) hx hb hts hin tyJx4a65c tyJx4a65c_ok nmJx4a65c hown hE.1 hP hD hS k hk rfl 2 (by decide) (hts (.fieldLink RJx4a65c 48 "java/util/ArrayList" "size" "I") (by decide +kernel)) (fun _ h9 => h9) rfl (by decide +kernel) rfl rfl (Nat.le_of_ble_eq_true rfl) dJx4a65c_fastRemove_b59b0_38 (fun H locs hP hD hS => ?_)
    have hke := set_off (y := (l0, .inr (0, [.int (iI ((mo + 1))), .ref e0, .int (iI (((xs.length : Int) - 1)))]))) hk hke (Ne.symm hle)
    have hkp := hkp.set (y := (l0, .inr (0, [.int (iI ((mo + 1))), .ref e0, .int (iI (((xs.length : Int) - 1)))]))) hk (by first | exact Or.inl rfl | exact Or.inr rfl)
    have hels := elsOk_set (y := .inr (0, [.int (iI ((mo + 1))), .ref e0, .int (iI (((xs.length : Int) - 1)))])) hels hk (by intro ci fs h9; cases h9 <;> rfl)
    have hk := set_at (y := (l0, .inr (0, [.int (iI ((mo + 1))), .ref e0, .int (iI (((xs.length : Int) - 1)))]))) hk
    have hP : va_P D vwCl ((ws.set k (l0, .inr (0, [.int (iI ((mo + 1))), .ref e0, .int (iI ((xs.length : Int)))]))).set k (l0, .inr (0, [.int (iI ((mo + 1))), .ref e0, .int (iI (((xs.length : Int) - 1)))]))) H := hP
    have hD : va_D A ((ws.set k (l0, .inr (0, [.int (iI ((mo + 1))), .ref e0, .int (iI ((xs.length : Int)))]))).set k (l0, .inr (0, [.int (iI ((mo + 1))), .ref e0, .int (iI (((xs.length : Int) - 1)))]))) := hD
    refine lv_null hx hb dJx4a65c_fastRemove_b59b0_41 ?_
    refine a_astN hx hb hE hP hD hS hke (z := ((xs.length : Int) - 1)) (by omega) (by omega) (by omega) dJx4a65c_fastRemove_b59b0_42 (fun H locs hP hD hS => ?_)
    have hk := set_off (y := (e0, aCell cO cap (va_up arr (((xs.length : Int) - 1)).toNat none))) hke hk hle
    have hkp := hkp.set (y := (e0, aCell cO cap (va_up arr (((xs.length : Int) - 1)).toNat none))) hke (by first | exact Or.inl rfl | exact Or.inr rfl)
    have hels := elsOk_set (y := aCell cO cap (va_up arr (((xs.length : Int) - 1)).toNat none)) hels hke (by intro ci fs h9; cases h9 <;> rfl)
    have hke := set_at (y := (e0, aCell cO cap (va_up arr (((xs.length : Int) - 1)).toNat none))) hke
    exact hret ((((ws.set k (l0, .inr (0, [.int (iI ((mo + 1))), .ref e0, .int (iI ((xs.length : Int)))]))).set k (l0, .inr (0, [.int (iI ((mo + 1))), .ref e0, .int (iI (((xs.length : Int) - 1)))]))).set ke (e0, aCell cO cap (va_up arr (((xs.length : Int) - 1)).toNat none)))) _ _ _ _ _ _ dJx4a65c_fastRemove_b59b0_43 hP hD hS (by omega) (by omega) ⟨⟨k, iI (mo + 1), by rw [hl9]; exact hk, Or.inr ⟨hed, ke, cap, _, hke, by rw [List.length_eraseIdx_of_lt hr0]; omega, by omega, by omega, fun i hi => by rw [← (rm_end harr (by omega)) i hi]; congr 1 <;> (try congr 1) <;> omega⟩⟩, hkp⟩
  · skip
    refine lv_aload_n hx hb dJx4a65c_fastRemove_b59b0_22 rfl (lv_at hl 2 rfl) ?_
    refine lv_iload_n hx hb dJx4a65c_fastRemove_b59b0_23 rfl (lv_at hl 3 rfl) ?_
    refine lv_iconst (v := iI 1) hx hb dJx4a65c_fastRemove_b59b0_24 rfl ?_
    refine h_iadd hx hb dJx4a65c_fastRemove_b59b0_25 ?_
    refine lv_aload_n hx hb dJx4a65c_fastRemove_b59b0_26 rfl (lv_at hl 2 rfl) ?_
    refine lv_iload_n hx hb dJx4a65c_fastRemove_b59b0_27 rfl (lv_at hl 3 rfl) ?_
    refine lv_iload_n hx hb dJx4a65c_fastRemove_b59b0_28 rfl (lv_at hl 0 rfl) ?_
    refine lv_iload_n hx hb dJx4a65c_fastRemove_b59b0_29 rfl (lv_at hl 3 rfl) ?_
    refine h_isub hx hb dJx4a65c_fastRemove_b59b0_30 ?_
    refine a_copy hx hb (hml.trans hl.1.symm) hown (hts (.methodLink RJx4a65c 112 arraycopyName) (by decide +kernel)) (hts (.native arraycopyName) (by decide +kernel)) (hts (.static arraycopyName) (by decide +kernel)) (hts (.initialized "java/lang/System") (by decide +kernel)) hE hP hD hS hke hke hels (sp := ((r0 : Int) + 1)) (dp := (r0 : Int)) (z := (((xs.length : Int) - 1) - (r0 : Int))) (by omega) (by omega) (by omega) (by omega) (by omega) (by omega) (by omega) (Nat.le_of_ble_eq_true rfl) (Nat.le_of_ble_eq_true rfl) dJx4a65c_fastRemove_b59b0_31 (fun H locs hP hD hS => ?_)
    have hk := set_off (y := (e0, aCell cO cap (va_cpy arr arr (((r0 : Int) + 1) : Int).toNat ((r0 : Int) : Int).toNat ((((xs.length : Int) - 1) - (r0 : Int)) : Int).toNat))) hke hk hle
    have hkp := hkp.set (y := (e0, aCell cO cap (va_cpy arr arr (((r0 : Int) + 1) : Int).toNat ((r0 : Int) : Int).toNat ((((xs.length : Int) - 1) - (r0 : Int)) : Int).toNat))) hke (by first | exact Or.inl rfl | exact Or.inr rfl)
    have hels := elsOk_set (y := aCell cO cap (va_cpy arr arr (((r0 : Int) + 1) : Int).toNat ((r0 : Int) : Int).toNat ((((xs.length : Int) - 1) - (r0 : Int)) : Int).toNat)) hels hke (by intro ci fs h9; cases h9 <;> rfl)
    have hke := set_at (y := (e0, aCell cO cap (va_cpy arr arr (((r0 : Int) + 1) : Int).toNat ((r0 : Int) : Int).toNat ((((xs.length : Int) - 1) - (r0 : Int)) : Int).toNat))) hke
    refine lv_aload_n hx hb dJx4a65c_fastRemove_b59b0_34 rfl (lv_at hl 2 rfl) ?_
    refine lv_aload_n hx hb dJx4a65c_fastRemove_b59b0_35 rfl (lv_at hl 1 rfl) ?_
    refine lv_iload_n hx hb dJx4a65c_fastRemove_b59b0_36 rfl (lv_at hl 0 rfl) ?_
    refine lv_dup_x1 hx hb dJx4a65c_fastRemove_b59b0_37 rfl rfl ?_
    refine va_put (D := D) (ci := 0) (v := .int (iI (((xs.length : Int) - 1)))) (ty := .int) (C := RJx4a65c) (T := TJx4a65c) (N := 3) hx hb hts hin tyJx4a65c tyJx4a65c_ok nmJx4a65c hown hE.1 hP hD hS k hk rfl 2 (by decide) (hts (.fieldLink RJx4a65c 48 "java/util/ArrayList" "size" "I") (by decide +kernel)) (fun _ h9 => h9) rfl (by decide +kernel) rfl rfl (Nat.le_of_ble_eq_true rfl) dJx4a65c_fastRemove_b59b0_38 (fun H locs hP hD hS => ?_)
    have hke := set_off (y := (l0, .inr (0, [.int (iI ((mo + 1))), .ref e0, .int (iI (((xs.length : Int) - 1)))]))) hk hke (Ne.symm hle)
    have hkp := hkp.set (y := (l0, .inr (0, [.int (iI ((mo + 1))), .ref e0, .int (iI (((xs.length : Int) - 1)))]))) hk (by first | exact Or.inl rfl | exact Or.inr rfl)
    have hels := elsOk_set (y := .inr (0, [.int (iI ((mo + 1))), .ref e0, .int (iI (((xs.length : Int) - 1)))])) hels hk (by intro ci fs h9; cases h9 <;> rfl)
    have hk := set_at (y := (l0, .inr (0, [.int (iI ((mo + 1))), .ref e0, .int (iI (((xs.length : Int) - 1)))]))) hk
    have hP : va_P D vwCl (((ws.set k (l0, .inr (0, [.int (iI ((mo + 1))), .ref e0, .int (iI ((xs.length : Int)))]))).set ke (e0, aCell cO cap (va_cpy arr arr (((r0 : Int) + 1) : Int).toNat ((r0 : Int) : Int).toNat ((((xs.length : Int) - 1) - (r0 : Int)) : Int).toNat))).set k (l0, .inr (0, [.int (iI ((mo + 1))), .ref e0, .int (iI (((xs.length : Int) - 1)))]))) H := hP
    have hD : va_D A (((ws.set k (l0, .inr (0, [.int (iI ((mo + 1))), .ref e0, .int (iI ((xs.length : Int)))]))).set ke (e0, aCell cO cap (va_cpy arr arr (((r0 : Int) + 1) : Int).toNat ((r0 : Int) : Int).toNat ((((xs.length : Int) - 1) - (r0 : Int)) : Int).toNat))).set k (l0, .inr (0, [.int (iI ((mo + 1))), .ref e0, .int (iI (((xs.length : Int) - 1)))]))) := hD
    refine lv_null hx hb dJx4a65c_fastRemove_b59b0_41 ?_
    refine a_astN hx hb hE hP hD hS hke (z := ((xs.length : Int) - 1)) (by omega) (by omega) (by omega) dJx4a65c_fastRemove_b59b0_42 (fun H locs hP hD hS => ?_)
    have hk := set_off (y := (e0, aCell cO cap (va_up (va_cpy arr arr (((r0 : Int) + 1) : Int).toNat ((r0 : Int) : Int).toNat ((((xs.length : Int) - 1) - (r0 : Int)) : Int).toNat) (((xs.length : Int) - 1)).toNat none))) hke hk hle
    have hkp := hkp.set (y := (e0, aCell cO cap (va_up (va_cpy arr arr (((r0 : Int) + 1) : Int).toNat ((r0 : Int) : Int).toNat ((((xs.length : Int) - 1) - (r0 : Int)) : Int).toNat) (((xs.length : Int) - 1)).toNat none))) hke (by first | exact Or.inl rfl | exact Or.inr rfl)
    have hels := elsOk_set (y := aCell cO cap (va_up (va_cpy arr arr (((r0 : Int) + 1) : Int).toNat ((r0 : Int) : Int).toNat ((((xs.length : Int) - 1) - (r0 : Int)) : Int).toNat) (((xs.length : Int) - 1)).toNat none)) hels hke (by intro ci fs h9; cases h9 <;> rfl)
    have hke := set_at (y := (e0, aCell cO cap (va_up (va_cpy arr arr (((r0 : Int) + 1) : Int).toNat ((r0 : Int) : Int).toNat ((((xs.length : Int) - 1) - (r0 : Int)) : Int).toNat) (((xs.length : Int) - 1)).toNat none))) hke
    exact hret (((((ws.set k (l0, .inr (0, [.int (iI ((mo + 1))), .ref e0, .int (iI ((xs.length : Int)))]))).set ke (e0, aCell cO cap (va_cpy arr arr (((r0 : Int) + 1) : Int).toNat ((r0 : Int) : Int).toNat ((((xs.length : Int) - 1) - (r0 : Int)) : Int).toNat))).set k (l0, .inr (0, [.int (iI ((mo + 1))), .ref e0, .int (iI (((xs.length : Int) - 1)))]))).set ke (e0, aCell cO cap (va_up (va_cpy arr arr (((r0 : Int) + 1) : Int).toNat ((r0 : Int) : Int).toNat ((((xs.length : Int) - 1) - (r0 : Int)) : Int).toNat) (((xs.length : Int) - 1)).toNat none)))) _ _ _ _ _ _ dJx4a65c_fastRemove_b59b0_43 hP hD hS (by omega) (by omega) ⟨⟨k, iI (mo + 1), by rw [hl9]; exact hk, Or.inr ⟨hed, ke, cap, _, hke, by rw [List.length_eraseIdx_of_lt hr0]; omega, by omega, by omega, fun i hi => by rw [← (rm_mid harr (by omega) hxc) i hi]; congr 1 <;> (try congr 1) <;> omega⟩⟩, hkp⟩

set_option maxRecDepth 100000 in
set_option maxHeartbeats 4000000 in
theorem a_remove (l : Launch) (D : va_G) (cO : ClassId) (dz mi : Nat) {A : Nat → Prop} (ws : va_W) (hD : va_D A ws) (xs : List Nat) (k l0 e0 : Nat) (mo : Int) (hk : ws[k]? = some (l0, .inr (0, [.int (iI mo), .ref e0, .int (iI (xs.length : Int))]))) (hed : e0 ≠ dz) (ke cap : Nat) (arr : Nat → Option Nat) (hke : ws[ke]? = some (e0, aCell cO cap arr)) (hcap : 2 ≤ cap ∧ cap ≤ 600) (harr : ∀ i : Nat, i < cap → arr i = xs[i]?) (hels : elsOk ws cap arr) (r0 : Nat) (hr0 : r0 < xs.length) (hxc : xs.length ≤ cap) : aRf l yJx4a65c_remove_915e3 wsJx4a65c_remove_915e3 { frames := 2, cells := 0, slots := 0, locals := 83 } D cO dz mi A [.ref l0, .int (iI ((r0 : Int)))] ws (fun r w9 => r = xs[r0]? ∧ lsAt cO dz w9 l0 (xs.eraseIdx r0) e0 ∧ keepA l0 e0 ws w9) 0 0 := by
  refine aRf_of (cc := cJx4a65c_remove_915e3) (maxL := 4) (ty := (.object "java/lang/Object")) (by decide) rfl (Nat.le_of_ble_eq_true rfl) (by first | exact Or.inl ⟨_, rfl⟩ | exact Or.inr ⟨_, rfl⟩) ?_
  intro pp ee ss mm args below meth cc Q hx hb hml hown hts hA hP hE hS hret ls hl
  have hl : lv_has ls 4 [(0, .ref l0), (1, .int (iI ((r0 : Int))))] := hl
  have hin : ∀ w ∈ wsJx4a65c0, w ∈ wsJx4a65c_remove_915e3 := by decide +kernel
  obtain ⟨y9, hy9⟩ : ∃ y, xs[r0]? = some y := ⟨_, List.getElem?_eq_getElem hr0⟩
  refine lv_iload_n hx hb dJx4a65c_remove_915e3_0 rfl (lv_at hl 1 rfl) ?_
  refine lv_aload_n hx hb dJx4a65c_remove_915e3_1 rfl (lv_at hl 0 rfl) ?_
  refine va_get (D := D) (ci := 0) (v := .int (iI ((xs.length : Int)))) (C := RJx4a65c) (T := TJx4a65c) (N := 3) hx hb hts hin hown hE.1 hP k hk rfl 2 (by decide) (hts (.fieldLink RJx4a65c 48 "java/util/ArrayList" "size" "I") (by decide +kernel)) (fun _ h9 => h9) rfl dJx4a65c_remove_915e3_2 ?_
  refine a_callI hS (va_runS (As := [.int (iI ((r0 : Int))), .int (iI ((xs.length : Int)))]) (rest := []) ⟨hx, hb, hml, hown, hts⟩ (a_check l D cO dz mi ws hD (r0 : Int) (xs.length : Int) (by omega) (by omega) (by omega)) (va_cwS 2 hts gJx4a65c_remove_915e3_J15_checkIndex_7cf53 rfl rfl rfl (by decide +kernel) ⟨Nat.le_of_ble_eq_true rfl, Nat.le_of_ble_eq_true rfl⟩) (a_preS hA hE hP hS) rfl rfl hl.1 rfl (lv_room (Nat.le_of_ble_eq_true rfl)) dJx4a65c_remove_915e3_5 ⟨Nat.le_of_ble_eq_true rfl, Nat.le_of_ble_eq_true rfl⟩) (fun r9 w9 H locs hpost hP hD hS => ?_)
  obtain ⟨rfl, rfl⟩ := hpost
  refine lv_pop hx hb dJx4a65c_remove_915e3_8 rfl ?_
  refine lv_aload_n hx hb dJx4a65c_remove_915e3_9 rfl (lv_at hl 0 rfl) ?_
  refine va_get (D := D) (ci := 0) (v := .ref e0) (C := RJx4a65c) (T := TJx4a65c) (N := 3) hx hb hts hin hown hE.1 hP k hk rfl 1 (by decide) (hts (.fieldLink RJx4a65c 9 "java/util/ArrayList" "elementData" "[Ljava/lang/Object;") (by decide +kernel)) (fun _ h9 => h9) rfl dJx4a65c_remove_915e3_10 ?_
  refine lv_astore_n (lv' := [(2, .ref e0), (0, .ref l0), (1, .int (iI ((r0 : Int))))]) hx hb dJx4a65c_remove_915e3_13 rfl hl (by decide) rfl (fun ls hl => ?_)
  refine lv_aload_n hx hb dJx4a65c_remove_915e3_14 rfl (lv_at hl 0 rfl) ?_
  refine lv_iload_n hx hb dJx4a65c_remove_915e3_15 rfl (lv_at hl 2 rfl) ?_
  refine a_ald hx hb hE hP hke (by omega) (by omega) (by omega) (r := some y9) (by rw [Int.toNat_natCast, harr r0 (by omega), hy9]) dJx4a65c_remove_915e3_16 ?_
  refine lv_astore_n (lv' := [(3, .ref y9), (2, .ref e0), (0, .ref l0), (1, .int (iI ((r0 : Int))))]) hx hb dJx4a65c_remove_915e3_17 rfl hl (by decide) rfl (fun ls hl => ?_)
  refine lv_aload_n hx hb dJx4a65c_remove_915e3_18 rfl (lv_at hl 2 rfl) ?_
  refine lv_aload_n hx hb dJx4a65c_remove_915e3_19 rfl (lv_at hl 1 rfl) ?_
  refine lv_iload_n hx hb dJx4a65c_remove_915e3_20 rfl (lv_at hl 3 rfl) ?_
  refine a_callV hS (va_runV (As := [.ref e0, .int (iI ((r0 : Int)))]) (rest := []) ⟨hx, hb, hml, hown, hts⟩ (a_fastRemove l D cO dz mi ws hD xs k l0 e0 mo hk hed ke cap arr hke hcap harr hels r0 hr0 hxc) (cwV 2 hts gJx4a65c_remove_915e3_Jx4a65c_fastRemove_b59b0 rfl rfl rfl (by decide +kernel) ⟨Nat.le_of_ble_eq_true rfl, Nat.le_of_ble_eq_true rfl⟩) (a_preV hA hE hP hS hk rfl) rfl rfl hl.1 rfl (lv_room (Nat.le_of_ble_eq_true rfl)) dJx4a65c_remove_915e3_21 ⟨Nat.le_of_ble_eq_true rfl, Nat.le_of_ble_eq_true rfl⟩) (fun w9 H locs hpost hP hD hS => ?_)
  refine lv_aload_n hx hb dJx4a65c_remove_915e3_24 rfl (lv_at hl 0 rfl) ?_
  exact hret (some y9) (w9) _ _ _ _ _ _ dJx4a65c_remove_915e3_25 hP hD hS (by omega) (by omega) ⟨hy9.symm, hpost⟩
