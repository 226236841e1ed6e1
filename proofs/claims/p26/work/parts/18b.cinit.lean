set_option maxRecDepth 100000 in
set_option maxHeartbeats 4000000 in
theorem c_dirInit (l : Launch) (D : va_G) (cO : ClassId) (dz mi : Nat) {A : Nat → Prop} (w : CW) (b : Nat) (hk : w.1 b = 2) (num quo : Int) (r : Option Nat) : cV l yX1_init wsX1_init { frames := 1, cells := 0, slots := 0, locals := 12 } D cO dz mi A [.ref b, .int (iI num), va_rf r, .int (iI quo)] w (fun w9 => wF (wR (wF w 20 b num) 21 b r) 22 b quo = w9) 0 0 := by
  refine cV_of (cc := cX1_init) (maxL := 4) (by decide) rfl (by cases r <;> exact Nat.le_of_ble_eq_true rfl) ?_
  intro pp ee ss mm args below meth cc Q hx hb hml hown hts hA hC hE hX hS hini hret ls hl
  have hini := hini rfl
  have hl : lv_has ls 4 [(0, .ref b), (1, .int (iI num)), (2, va_rf r), (3, .int (iI quo))] := by cases r <;> exact hl
  have hin_X1 : ∀ w ∈ wsX10, w ∈ wsX1_init := by decide +kernel
  refine lv_aload_n hx hb dX1_init_0 rfl (lv_at hl 0 rfl) ?_
  refine W.objInit hx hb hown (hts (.methodLink RX1 3 objectInit) (by decide +kernel)) (hts (.instanceMethod objectInit) (by decide +kernel)) (hts (.code objectInit ⟨#[0xb1]⟩ 1 none) (by decide +kernel)) rfl (by rw [hml]; exact hl.1) rfl dX1_init_1 (Nat.le_of_ble_eq_true rfl) (Nat.le_of_ble_eq_true rfl) ?_
  refine lv_aload_n hx hb dX1_init_4 rfl (lv_at hl 0 rfl) ?_
  refine lv_iload_n hx hb dX1_init_5 rfl (lv_at hl 1 rfl) ?_
  refine c_putG (C := RX1) (T := TX1) (N := 4) hx hb hts hin_X1 tyX1 tyX1_ok nmX1 hown hE hC hS hk (by decide) (by decide) rfl 0 (by decide) (hts (.fieldLink RX1 9 "HoldServer$Directory" "number" "I") (by decide +kernel)) rfl (Or.inr ⟨rfl, hini, rfl⟩) (ty := .int) (v := .int (iI num)) (by decide +kernel) rfl rfl (wF w 20 b num) rfl rfl (fun _ h9 q9 => cFs_offF _ _ _ _ h9 q9) (Nat.le_of_ble_eq_true rfl) (cs_20 _ _ _) dX1_init_6 (fun H locs hC hS => ?_)
  refine lv_aload_n hx hb dX1_init_9 rfl (lv_at hl 0 rfl) ?_
  refine qr_aload_n hx hb dX1_init_10 rfl (lv_at hl 2 rfl) ?_
  refine c_putG (C := RX1) (T := TX1) (N := 4) hx hb hts hin_X1 tyX1 tyX1_ok nmX1 hown hE hC hS hk (by decide) (by decide) rfl 1 (by decide) (hts (.fieldLink RX1 15 "HoldServer$Directory" "parent" "LHoldServer$Directory;") (by decide +kernel)) rfl (Or.inr ⟨rfl, hini, rfl⟩) (ty := .object "HoldServer$Directory") (v := va_rf r) (by decide +kernel) (rf_fits _ _).1 (rf_fits _ _).2 (wR (wF w 20 b num) 21 b r) rfl rfl (fun _ h9 q9 => cFs_offR _ _ _ _ h9 q9) (Nat.le_of_ble_eq_true rfl) (cs_21 _ _ _) dX1_init_11 (fun H locs hC hS => ?_)
  refine lv_aload_n hx hb dX1_init_14 rfl (lv_at hl 0 rfl) ?_
  refine lv_iload_n hx hb dX1_init_15 rfl (lv_at hl 3 rfl) ?_
  refine c_putG (C := RX1) (T := TX1) (N := 4) hx hb hts hin_X1 tyX1 tyX1_ok nmX1 hown hE hC hS hk (by decide) (by decide) rfl 2 (by decide) (hts (.fieldLink RX1 19 "HoldServer$Directory" "quota" "I") (by decide +kernel)) rfl (Or.inl rfl) (ty := .int) (v := .int (iI quo)) (by decide +kernel) rfl rfl (wF (wR (wF w 20 b num) 21 b r) 22 b quo) rfl rfl (fun _ h9 q9 => cFs_offF _ _ _ _ h9 q9) (Nat.le_of_ble_eq_true rfl) (cs_22 _ _ _) dX1_init_16 (fun H locs hC hS => ?_)
  exact hret _ _ _ _ _ _ _ dX1_init_19 hC hS (by omega) (by omega) rfl

set_option maxRecDepth 100000 in
set_option maxHeartbeats 4000000 in
theorem c_fileInit (l : Launch) (D : va_G) (cO : ClassId) (dz mi : Nat) {A : Nat → Prop} (w : CW) (b : Nat) (hk : w.1 b = 3) (ow : Nat) (z u : Int) : cV l yX2_init wsX2_init { frames := 4, cells := 1, slots := 3, locals := 72 } D cO dz mi A [.ref b, .ref ow, .int (iI z), .int (iI u)] w (fun w9 => ∃ q : Nat, w.1 q = 0 ∧ wF (wF (wR (wR (wMk w q 5) 31 b (some q)) 30 b (some ow)) 32 b z) 35 b u = w9) 1 3 := by
  refine cV_of (cc := cX2_init) (maxL := 4) (by decide) rfl (Nat.le_of_ble_eq_true rfl) ?_
  intro pp ee ss mm args below meth cc Q hx hb hml hown hts hA hC hE hX hS hini hret ls hl
  have hini := hini rfl
  have hl : lv_has ls 4 [(0, .ref b), (1, .ref ow), (2, .int (iI z)), (3, .int (iI u))] := hl
  have hin_X2 : ∀ w ∈ wsX20, w ∈ wsX2_init := by decide +kernel
  have hin_L : ∀ w ∈ wsJx4a65c0, w ∈ wsX2_init := by decide +kernel
  refine lv_aload_n hx hb dX2_init_0 rfl (lv_at hl 0 rfl) ?_
  refine W.objInit hx hb hown (hts (.methodLink RX2 3 objectInit) (by decide +kernel)) (hts (.instanceMethod objectInit) (by decide +kernel)) (hts (.code objectInit ⟨#[0xb1]⟩ 1 none) (by decide +kernel)) rfl (by rw [hml]; exact hl.1) rfl dX2_init_1 (Nat.le_of_ble_eq_true rfl) (Nat.le_of_ble_eq_true rfl) ?_
  refine lv_aload_n hx hb dX2_init_4 rfl (lv_at hl 0 rfl) ?_
  refine c_newList (ik := 9) (ic := 11) hx hb hml hl.1 hts hin_L gX2_init_Jx4a65c_init_da8c8 hown (hts (.classLink RX2 9 RJx4a65c) (by decide +kernel)) (hts (.instantiable RJx4a65c 3) (by decide +kernel)) (hts (.initialized RJx4a65c) (by decide +kernel)) (hts (.methodLink RX2 11 yJx4a65c_init_da8c8) (by decide +kernel)) (hts (.instanceMethod yJx4a65c_init_da8c8) (by decide +kernel)) hA hE hC hS (Nat.le_of_ble_eq_true rfl) (Nat.le_of_ble_eq_true rfl) (Nat.le_of_ble_eq_true rfl) (Nat.le_of_ble_eq_true rfl) (Nat.le_of_ble_eq_true rfl) dX2_init_5 dX2_init_8 dX2_init_9 (fun q H locs hq hC hS => ?_)
  have hk2 : (wMk w q 5).1 b = 3 := by rw [wMk_K, if_neg (fun e => by rw [e, hq] at hk; omega)]; exact hk
  refine c_putG (C := RX2) (T := TX2) (N := 6) hx hb hts hin_X2 tyX2 tyX2_ok nmX2 hown hE hC hS hk2 (by decide) (by decide) rfl 1 (by decide) (hts (.fieldLink RX2 12 "HoldServer$StoredFile" "links" "Ljava/util/ArrayList;") (by decide +kernel)) rfl (Or.inr ⟨rfl, hini, rfl⟩) (ty := .object "java/util/ArrayList") (v := va_rf (some q)) (by decide +kernel) (rf_fits _ _).1 (rf_fits _ _).2 (wR (wMk w q 5) 31 b (some q)) rfl rfl (fun _ h9 q9 => cFs_offR _ _ _ _ h9 q9) (Nat.le_of_ble_eq_true rfl) (cs_31 _ _ _) dX2_init_12 (fun H locs hC hS => ?_)
  refine lv_aload_n hx hb dX2_init_15 rfl (lv_at hl 0 rfl) ?_
  refine lv_aload_n hx hb dX2_init_16 rfl (lv_at hl 1 rfl) ?_
  refine c_putG (C := RX2) (T := TX2) (N := 6) hx hb hts hin_X2 tyX2 tyX2_ok nmX2 hown hE hC hS hk2 (by decide) (by decide) rfl 0 (by decide) (hts (.fieldLink RX2 18 "HoldServer$StoredFile" "owner" "LHoldServer$Department;") (by decide +kernel)) rfl (Or.inr ⟨rfl, hini, rfl⟩) (ty := .object "HoldServer$Department") (v := va_rf (some ow)) (by decide +kernel) (rf_fits _ _).1 (rf_fits _ _).2 (wR (wR (wMk w q 5) 31 b (some q)) 30 b (some ow)) rfl rfl (fun _ h9 q9 => cFs_offR _ _ _ _ h9 q9) (Nat.le_of_ble_eq_true rfl) (cs_30 _ _ _) dX2_init_17 (fun H locs hC hS => ?_)
  refine lv_aload_n hx hb dX2_init_20 rfl (lv_at hl 0 rfl) ?_
  refine lv_iload_n hx hb dX2_init_21 rfl (lv_at hl 2 rfl) ?_
  refine c_putG (C := RX2) (T := TX2) (N := 6) hx hb hts hin_X2 tyX2 tyX2_ok nmX2 hown hE hC hS hk2 (by decide) (by decide) rfl 2 (by decide) (hts (.fieldLink RX2 22 "HoldServer$StoredFile" "size" "I") (by decide +kernel)) rfl (Or.inl rfl) (ty := .int) (v := .int (iI z)) (by decide +kernel) rfl rfl (wF (wR (wR (wMk w q 5) 31 b (some q)) 30 b (some ow)) 32 b z) rfl rfl (fun _ h9 q9 => cFs_offF _ _ _ _ h9 q9) (Nat.le_of_ble_eq_true rfl) (cs_32 _ _ _) dX2_init_22 (fun H locs hC hS => ?_)
  refine lv_aload_n hx hb dX2_init_25 rfl (lv_at hl 0 rfl) ?_
  refine lv_iload_n hx hb dX2_init_26 rfl (lv_at hl 3 rfl) ?_
  refine c_putG (C := RX2) (T := TX2) (N := 6) hx hb hts hin_X2 tyX2 tyX2_ok nmX2 hown hE hC hS hk2 (by decide) (by decide) rfl 5 (by decide) (hts (.fieldLink RX2 26 "HoldServer$StoredFile" "usedOn" "I") (by decide +kernel)) rfl (Or.inl rfl) (ty := .int) (v := .int (iI u)) (by decide +kernel) rfl rfl (wF (wF (wR (wR (wMk w q 5) 31 b (some q)) 30 b (some ow)) 32 b z) 35 b u) rfl rfl (fun _ h9 q9 => cFs_offF _ _ _ _ h9 q9) (Nat.le_of_ble_eq_true rfl) (cs_35 _ _ _) dX2_init_27 (fun H locs hC hS => ?_)
  exact hret _ _ _ _ _ _ _ dX2_init_30 hC hS (by omega) (by omega) ⟨q, hq, rfl⟩

set_option maxRecDepth 100000 in
set_option maxHeartbeats 4000000 in
theorem c_depInit (l : Launch) (D : va_G) (cO : ClassId) (dz mi : Nat) {A : Nat → Prop} (w : CW) (b : Nat) (hk : w.1 b = 1) : cV l yX0_init wsX0_init { frames := 4, cells := 1, slots := 3, locals := 72 } D cO dz mi A [.ref b] w (fun w9 => ∃ q : Nat, w.1 q = 0 ∧ wF (wR (wMk w q 5) 10 b (some q)) 11 b 100 = w9) 1 3 := by
  refine cV_of (cc := cX0_init) (maxL := 1) (by decide) rfl (Nat.le_of_ble_eq_true rfl) ?_
  intro pp ee ss mm args below meth cc Q hx hb hml hown hts hA hC hE hX hS hini hret ls hl
  have hini := hini rfl
  have hl : lv_has ls 1 [(0, .ref b)] := hl
  have hin_X0 : ∀ w ∈ wsX00, w ∈ wsX0_init := by decide +kernel
  have hin_L : ∀ w ∈ wsJx4a65c0, w ∈ wsX0_init := by decide +kernel
  refine lv_aload_n hx hb dX0_init_0 rfl (lv_at hl 0 rfl) ?_
  refine W.objInit hx hb hown (hts (.methodLink RX0 3 objectInit) (by decide +kernel)) (hts (.instanceMethod objectInit) (by decide +kernel)) (hts (.code objectInit ⟨#[0xb1]⟩ 1 none) (by decide +kernel)) rfl (by rw [hml]; exact hl.1) rfl dX0_init_1 (Nat.le_of_ble_eq_true rfl) (Nat.le_of_ble_eq_true rfl) ?_
  refine lv_aload_n hx hb dX0_init_4 rfl (lv_at hl 0 rfl) ?_
  refine c_newList (ik := 9) (ic := 11) hx hb hml hl.1 hts hin_L gX0_init_Jx4a65c_init_da8c8 hown (hts (.classLink RX0 9 RJx4a65c) (by decide +kernel)) (hts (.instantiable RJx4a65c 3) (by decide +kernel)) (hts (.initialized RJx4a65c) (by decide +kernel)) (hts (.methodLink RX0 11 yJx4a65c_init_da8c8) (by decide +kernel)) (hts (.instanceMethod yJx4a65c_init_da8c8) (by decide +kernel)) hA hE hC hS (Nat.le_of_ble_eq_true rfl) (Nat.le_of_ble_eq_true rfl) (Nat.le_of_ble_eq_true rfl) (Nat.le_of_ble_eq_true rfl) (Nat.le_of_ble_eq_true rfl) dX0_init_5 dX0_init_8 dX0_init_9 (fun q H locs hq hC hS => ?_)
  have hk2 : (wMk w q 5).1 b = 1 := by rw [wMk_K, if_neg (fun e => by rw [e, hq] at hk; omega)]; exact hk
  refine c_putG (C := RX0) (T := TX0) (N := 2) hx hb hts hin_X0 tyX0 tyX0_ok nmX0 hown hE hC hS hk2 (by decide) (by decide) rfl 0 (by decide) (hts (.fieldLink RX0 12 "HoldServer$Department" "ownFiles" "Ljava/util/ArrayList;") (by decide +kernel)) rfl (Or.inr ⟨rfl, hini, rfl⟩) (ty := .object "java/util/ArrayList") (v := va_rf (some q)) (by decide +kernel) (rf_fits _ _).1 (rf_fits _ _).2 (wR (wMk w q 5) 10 b (some q)) rfl rfl (fun _ h9 q9 => cFs_offR _ _ _ _ h9 q9) (Nat.le_of_ble_eq_true rfl) (cs_10 _ _ _) dX0_init_12 (fun H locs hC hS => ?_)
  refine lv_aload_n hx hb dX0_init_15 rfl (lv_at hl 0 rfl) ?_
  refine lv_bipush (v := iI 100) hx hb dX0_init_16 (by decide) ?_
  refine c_putG (C := RX0) (T := TX0) (N := 2) hx hb hts hin_X0 tyX0 tyX0_ok nmX0 hown hE hC hS hk2 (by decide) (by decide) rfl 1 (by decide) (hts (.fieldLink RX0 18 "HoldServer$Department" "coins" "I") (by decide +kernel)) rfl (Or.inl rfl) (ty := .int) (v := .int (iI 100)) (by decide +kernel) rfl rfl (wF (wR (wMk w q 5) 10 b (some q)) 11 b 100) rfl rfl (fun _ h9 q9 => cFs_offF _ _ _ _ h9 q9) (Nat.le_of_ble_eq_true rfl) (cs_11 _ _ _) dX0_init_18 (fun H locs hC hS => ?_)
  exact hret _ _ _ _ _ _ _ dX0_init_21 hC hS (by omega) (by omega) ⟨q, hq, rfl⟩
