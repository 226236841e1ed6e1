set_option maxRecDepth 100000 in
set_option maxHeartbeats 4000000 in
theorem c_bitOfMatter (l : Launch) (D : va_G) (cO : ClassId) (dz mi : Nat) {A : Nat → Prop} (w : CW) (hst : l.stackTraces = false) (m : Int) (rm : inQ m) : cIX l yX3_bitOfMatter wsX3_bitOfMatter { frames := 6, cells := 1, slots := 6, locals := 90 } D cO dz mi A [.int (iI (m))] w (fun r w9 => w = w9 ∧ 0 ≤ m ∧ m ≤ 4 ∧ r = iI (2 ^ m.toNat)) (fun E => E = xIOB ∧ ¬ (0 ≤ m ∧ m ≤ 4)) 1 6 := by
  refine cIX_of (cc := cX3_bitOfMatter) (maxL := 1) (ty := .int) (by decide) rfl (Nat.le_of_ble_eq_true rfl) ?_
  intro pp ee ss mm args below meth cc Q hx hb hml hown hts hA hC hE hX hS hto hlk hQ hret ls hl
  have hl : lv_has ls 1 [(0, .int (iI (m)))] := hl
  refine lv_iload_n hx hb dX3_bitOfMatter_0 rfl (lv_at hl 0 rfl) ?_
  refine h_if_lt (tgt := 9) hx hb (by omega) dX3_bitOfMatter_1 (by decide) (fun c_1 => ?_) (fun c_1 => ?_)
  · skip
    exact x_throw (cls := xIOB) (text := _) (is := 188) (ic := 183) hx hb hst (by first | exact Or.inl ⟨rfl, rfl, rfl⟩ | exact Or.inr (Or.inl ⟨rfl, rfl, rfl⟩) | exact Or.inr (Or.inr ⟨rfl, rfl, rfl⟩)) hown hts (by decide +kernel) xs_188 hX hC hS hQ (hl.1.trans hml.symm) dX3_bitOfMatter_9 dX3_bitOfMatter_12 dX3_bitOfMatter_13 dX3_bitOfMatter_15 dX3_bitOfMatter_18 hto (Nat.le_of_ble_eq_true rfl) (Nat.le_of_ble_eq_true rfl) (Nat.le_of_ble_eq_true rfl) (Nat.le_of_ble_eq_true rfl) hlk ⟨rfl, by omega⟩ (by omega) (by omega)
  · skip
    refine lv_iload_n hx hb dX3_bitOfMatter_4 rfl (lv_at hl 0 rfl) ?_
    refine lv_iconst (v := iI 5) hx hb dX3_bitOfMatter_5 rfl ?_
    refine h_icmp_lt (tgt := 19) hx hb (by omega) (by omega) dX3_bitOfMatter_6 (by decide) (fun c_6 => ?_) (fun c_6 => ?_)
    · skip
      refine lv_iconst (v := iI 1) hx hb dX3_bitOfMatter_19 rfl ?_
      refine lv_iload_n hx hb dX3_bitOfMatter_20 rfl (lv_at hl 0 rfl) ?_
      refine lv_ishl hx hb dX3_bitOfMatter_21 ?_
      refine h_top hx (bit_sh (m := m) (by omega) (by omega)) ?_
      exact hret (2 ^ m.toNat) (w) _ _ _ _ _ _ dX3_bitOfMatter_22 rfl hC hS (by omega) (by omega) ⟨rfl, by omega, by omega, rfl⟩
    · skip
      exact x_throw (cls := xIOB) (text := _) (is := 188) (ic := 183) hx hb hst (by first | exact Or.inl ⟨rfl, rfl, rfl⟩ | exact Or.inr (Or.inl ⟨rfl, rfl, rfl⟩) | exact Or.inr (Or.inr ⟨rfl, rfl, rfl⟩)) hown hts (by decide +kernel) xs_188 hX hC hS hQ (hl.1.trans hml.symm) dX3_bitOfMatter_9 dX3_bitOfMatter_12 dX3_bitOfMatter_13 dX3_bitOfMatter_15 dX3_bitOfMatter_18 hto (Nat.le_of_ble_eq_true rfl) (Nat.le_of_ble_eq_true rfl) (Nat.le_of_ble_eq_true rfl) (Nat.le_of_ble_eq_true rfl) hlk ⟨rfl, by omega⟩ (by omega) (by omega)

set_option maxRecDepth 100000 in
set_option maxHeartbeats 4000000 in
theorem c_releaseFrom (l : Launch) (D : va_G) (cO : ClassId) (dz mi : Nat) {A : Nat → Prop} {S : HdS} {w : CW} {g : Nat → Int → Nat} {T : Nat → Nat × Int} {U : Int → Int} (hR : RelC S w g T U) (f : Int) (h0 : 0 ≤ f) (h1 : f < S.1 11 1) (hnf0 : 0 ≤ S.1 11 1) (m : Int) (hm0 : 0 ≤ m) (hm1 : m ≤ 4) (hh : 0 ≤ S.1 7 f ∧ S.1 7 f < 32) : cI l yX2_releaseFrom wsX2_releaseFrom { frames := 0, cells := 0, slots := 0, locals := 0 } D cO dz mi A [.ref (g 5 f), .int (iI (2 ^ m.toNat))] w (fun r w9 => RelC (relOne S f m) w9 g T U ∧ r = iI (relV S f m)) 0 0 := by
  refine cI_of (cc := cX2_releaseFrom) (maxL := 3) (ty := .int) (by decide) rfl (Nat.le_of_ble_eq_true rfl) ?_
  intro pp ee ss mm args below meth cc Q hx hb hml hown hts hA hC hE hX hS hret ls hl
  have hl : lv_has ls 3 [(0, .ref (g 5 f)), (1, .int (iI (2 ^ m.toNat)))] := hl
  have hin_X2 : ∀ w ∈ wsX20, w ∈ wsX2_releaseFrom := by decide +kernel
  have hbc := bit_clr2 (h := S.1 7 f) (m := m) hh.1 hh.2 hm0 hm1
  refine lv_aload_n hx hb dX2_releaseFrom_0 rfl (lv_at hl 0 rfl) ?_
  refine lv_dup hx hb dX2_releaseFrom_1 rfl ?_
  refine c_get (C := RX2) (T := TX2) (N := 6) hx hb hts hin_X2 hown hE hC (hR.k5 (by first | omega | assumption) (by first | omega | assumption)) (by decide) (by decide) rfl 3 (by decide) (hts (.fieldLink RX2 49 "HoldServer$StoredFile" "holders" "I") (by decide +kernel)) rfl (v := .int (iI ((S.1 7 f)))) (congrArg (fun z => some (Value.int (iI z))) (hR.f (f := f) (by first | omega | assumption) (by first | omega | assumption)).2.2.2.2.1) dX2_releaseFrom_2 ?_
  refine lv_iload_n hx hb dX2_releaseFrom_5 rfl (lv_at hl 1 rfl) ?_
  refine lv_iconst (v := iI (-1)) hx hb dX2_releaseFrom_6 rfl ?_
  refine lv_ixor hx hb dX2_releaseFrom_7 ?_
  refine lv_iand hx hb dX2_releaseFrom_8 ?_
  refine h_top hx hbc.1 ?_
  refine c_putI (C := RX2) (T := TX2) (N := 6) hx hb hts hin_X2 tyX2 tyX2_ok nmX2 hown hE hC hS (hR.k5 (by first | omega | assumption) (by first | omega | assumption)) (by decide) (by decide) rfl 3 (by decide) (hts (.fieldLink RX2 49 "HoldServer$StoredFile" "holders" "I") (by decide +kernel)) rfl rfl (by decide +kernel) (z := (hClr (S.1 7 f) m)) 33 (Nat.le_of_ble_eq_true rfl) (cs_33 _ _ _) dX2_releaseFrom_9 (fun H locs hC hS => ?_)
  have hR := hR.hol (by first | omega | assumption) (f := f) (v := (hClr (S.1 7 f) m)) (by first | omega | assumption) (by first | omega | assumption)
  refine lv_aload_n hx hb dX2_releaseFrom_12 rfl (lv_at hl 0 rfl) ?_
  refine c_get (C := RX2) (T := TX2) (N := 6) hx hb hts hin_X2 hown hE hC (hR.k5 (by first | omega | assumption) (by first | omega | assumption)) (by decide) (by decide) rfl 3 (by decide) (hts (.fieldLink RX2 49 "HoldServer$StoredFile" "holders" "I") (by decide +kernel)) rfl (v := .int (iI ((hClr (S.1 7 f) m)))) (congrArg (fun z => some (Value.int (iI z))) ((hR.f (f := f) (by first | omega | assumption) (by first | omega | assumption)).2.2.2.2.1.trans (sset_at _ _ _ _))) dX2_releaseFrom_13 ?_
  refine h_if_eq (tgt := 21) hx hb (by omega) dX2_releaseFrom_16 (by decide) (fun c_16 => ?_) (fun c_16 => ?_)
  · skip
    refine lv_aload_n hx hb dX2_releaseFrom_21 rfl (lv_at hl 0 rfl) ?_
    refine c_get (C := RX2) (T := TX2) (N := 6) hx hb hts hin_X2 hown hE hC (hR.k5 (by first | omega | assumption) (by first | omega | assumption)) (by decide) (by decide) rfl 4 (by decide) (hts (.fieldLink RX2 52 "HoldServer$StoredFile" "kept" "I") (by decide +kernel)) rfl (v := .int (iI ((S.1 6 f)))) (congrArg (fun z => some (Value.int (iI z))) ((hR.f (f := f) (by first | omega | assumption) (by first | omega | assumption)).2.2.2.2.2.1.trans (sset_off (by omega)))) dX2_releaseFrom_22 ?_
    refine lv_istore_n (lv' := [(2, .int (iI ((S.1 6 f)))), (0, .ref (g 5 f)), (1, .int (iI (2 ^ m.toNat)))]) hx hb dX2_releaseFrom_25 rfl hl (by decide) rfl (fun ls hl => ?_)
    refine lv_aload_n hx hb dX2_releaseFrom_26 rfl (lv_at hl 1 rfl) ?_
    refine lv_iconst (v := iI 0) hx hb dX2_releaseFrom_27 rfl ?_
    refine c_putI (C := RX2) (T := TX2) (N := 6) hx hb hts hin_X2 tyX2 tyX2_ok nmX2 hown hE hC hS (hR.k5 (by first | omega | assumption) (by first | omega | assumption)) (by decide) (by decide) rfl 4 (by decide) (hts (.fieldLink RX2 52 "HoldServer$StoredFile" "kept" "I") (by decide +kernel)) rfl rfl (by decide +kernel) (z := 0) 34 (Nat.le_of_ble_eq_true rfl) (cs_34 _ _ _) dX2_releaseFrom_28 (fun H locs hC hS => ?_)
    have hR := hR.kep (by first | omega | assumption) (f := f) (v := 0) (by first | omega | assumption) (by first | omega | assumption)
    refine lv_iload_n hx hb dX2_releaseFrom_31 rfl (lv_at hl 0 rfl) ?_
    exact hret ((S.1 6 f)) ((wF (wF w 33 (g 5 f) (hClr (S.1 7 f) m)) 34 (g 5 f) 0)) _ _ _ _ _ _ dX2_releaseFrom_32 rfl hC hS (by omega) (by omega) ⟨by unfold relOne; rw [if_pos c_16]; exact hR, by unfold relV; rw [if_pos c_16]⟩
  · skip
    refine lv_iconst (v := iI 0) hx hb dX2_releaseFrom_19 rfl ?_
    exact hret (0) ((wF w 33 (g 5 f) (hClr (S.1 7 f) m))) _ _ _ _ _ _ dX2_releaseFrom_20 rfl hC hS (by omega) (by omega) ⟨by unfold relOne; rw [if_neg c_16, show sset (sset S 7 f (hClr (S.1 7 f) m)) 6 f (S.1 6 f) = sset S 7 f (hClr (S.1 7 f) m) from sset_same (sset S 7 f (hClr (S.1 7 f) m)) 6 f]; exact hR, by unfold relV; rw [if_neg c_16]⟩

set_option maxRecDepth 100000 in
set_option maxHeartbeats 4000000 in
theorem c_release (l : Launch) (D : va_G) (cO : ClassId) (dz mi : Nat) {A : Nat → Prop} {S : HdS} {w : CW} {g : Nat → Int → Nat} {T : Nat → Nat × Int} {n : Int} (hw : wf S n) (hR : RelC S w g T (usg S)) (hst : l.stackTraces = false) (m : Int) (rm : inQ m) : cIX l yX3_release wsX3_release { frames := 7, cells := 1, slots := 6, locals := 110 } D cO dz mi A [.ref (g 0 0), .int (iI (m))] w (fun r w9 => spC (g 0 0) (sp_release S m) r w9) (spE tb2 (sp_release S m)) 1 6 := by
  refine cIX_of (cc := cX3_release) (maxL := 5) (ty := .int) (by decide) rfl (Nat.le_of_ble_eq_true rfl) ?_
  intro pp ee ss mm args below meth cc Q hx hb hml hown hts hA hC hE hX hS hto hlk hQ hret ls hl
  have hl : lv_has ls 5 [(0, .ref (g 0 0)), (1, .int (iI (m)))] := hl
  have hin_X3 : ∀ w ∈ wsX30, w ∈ wsX3_release := by decide +kernel
  have hnd := hw.nd
  have hnf := hw.nf
  have hdy := hw.day
  have hnf0 := hnf.1
  refine lv_iload_n hx hb dX3_release_0 rfl (lv_at hl 1 rfl) ?_
  refine c_callIX hS (vx_runS (As := [.int (iI (m))]) (rest := []) ⟨hx, hb, hml, hown, hts⟩ (c_bitOfMatter l D cO dz mi w hst m (by omega)) (va_cwS 1 hts gX3_release_X3_bitOfMatter rfl rfl rfl (by decide +kernel) ⟨Nat.le_of_ble_eq_true rfl, Nat.le_of_ble_eq_true rfl⟩) (c_preS hA hE hX hC hS) rfl rfl hl.1 rfl (lv_room (Nat.le_of_ble_eq_true rfl)) dX3_release_1 ⟨Nat.le_of_ble_eq_true rfl, Nat.le_of_ble_eq_true rfl⟩) hQ (fun E hx9 => by obtain ⟨rfl, hx9⟩ := hx9; exact spE_of (k := 1) (by unfold sp_release; exact iteC_pos hx9) (by decide)) hto hlk (by omega) (by omega) (fun r9 w9 H locs hpost hC hS => ?_)
  obtain ⟨rfl, hm0, hm1, rfl⟩ := hpost
  refine lv_istore_n (lv' := [(2, .int (iI (2 ^ m.toNat))), (0, .ref (g 0 0)), (1, .int (iI (m)))]) hx hb dX3_release_4 rfl hl (by decide) rfl (fun ls hl => ?_)
  refine lv_iconst (v := iI 0) hx hb dX3_release_5 rfl ?_
  refine lv_istore_n (lv' := [(3, .int (iI 0)), (2, .int (iI (2 ^ m.toNat))), (0, .ref (g 0 0)), (1, .int (iI (m)))]) hx hb dX3_release_6 rfl hl (by decide) rfl (fun ls hl => ?_)
  refine lv_iconst (v := iI 0) hx hb dX3_release_7 rfl ?_
  refine lv_istore (lv' := [(4, .int (iI 0)), (3, .int (iI 0)), (2, .int (iI (2 ^ m.toNat))), (0, .ref (g 0 0)), (1, .int (iI (m)))]) hx hb dX3_release_8 hl (by decide) rfl (fun ls hl => ?_)
  have lp10 : ∀ (n9 : Nat) (j : Nat), S.1 11 1 + 1 - j < (n9 : Int) → ((j : Int) ≤ S.1 11 1) → ∀ (w2 : CW) (H : Heap) (locs : List Loc), (RelC (relN S m (j : Int)) w2 g T (usg S)) → cH D cO dz A w2 H → va_S A ss.heap H locs → ∀ (ls : Array Slot), lv_has ls 5 [(0, .ref (g 0 0)), (1, .int (iI (m))), (2, .int (iI (2 ^ m.toNat))), (3, .int (iI (dropN S m j))), (4, .int (iI ((j : Int))))] → W pp l ee { frames := 7, cells := 1, slots := 6, locals := 110 } ss mm args below meth cc H locs (0 + 1) (0 + 6) Q (F0 mm 10 ls []) := by
    intro n9
    induction n9 with
    | zero => intro j hms hj w2 H locs hR hC hS ls hl; exfalso; omega
    | succ n9 ih9 =>
      intro j hms hj w2 H locs hR hC hS ls hl
      refine lv_iload hx hb dX3_release_10 (lv_at hl 4 rfl) ?_
      refine lv_aload_n hx hb dX3_release_12 rfl (lv_at hl 0 rfl) ?_
      refine c_get (C := RX3) (T := TX3) (N := 4) hx hb hts hin_X3 hown hE hC hR.k0 (by decide) (by decide) rfl 1 (by decide) (hts (.fieldLink RX3 16 "HoldServer" "files" "Ljava/util/ArrayList;") (by decide +kernel)) rfl (v := .ref (g 2 0)) (congrArg (fun z => some (va_rf z)) hR.fils) dX3_release_13 ?_
      refine c_callI hS (va_runV (As := []) (rest := [.int (iI ((j : Int)))]) ⟨hx, hb, hml, hown, hts⟩ (R_size2 l D cO dz mi hR (by rw [relN_off S m j (by omega) (by omega) 1]; omega)) (cwV 0 hts gX3_release_Jx4a65c_size_8abf5 rfl rfl rfl (by decide +kernel) ⟨Nat.le_of_ble_eq_true rfl, Nat.le_of_ble_eq_true rfl⟩) (c_preL hA hE hX hC hS hR.k2) rfl rfl hl.1 rfl (lv_room (Nat.le_of_ble_eq_true rfl)) dX3_release_16 ⟨Nat.le_of_ble_eq_true rfl, Nat.le_of_ble_eq_true rfl⟩) (fun r9 w9 H locs hpost hC hS => ?_)
      obtain ⟨rfl, rfl⟩ := hpost
      rw [relN_off S m j (by omega) (by omega) 1]
      refine h_icmp_ge (tgt := 47) hx hb (by omega) (by omega) dX3_release_19 (by decide) (fun c_19 => ?_) (fun c_19 => ?_)
      · skip
        refine lv_iload_n hx hb dX3_release_47 rfl (lv_at hl 3 rfl) ?_
        exact hret (dropN S m j) (w2) _ _ _ _ _ _ dX3_release_48 rfl hC hS (by omega) (by omega) (by rw [show j = (S.1 11 1).toNat from by omega] at hR ⊢; exact spC_of (g := g) (T := T) (by unfold sp_release; rw [iteC_neg (fun z => z ⟨hm0, hm1⟩)]) (by rw [show (((S.1 11 1).toNat : Nat) : Int) = S.1 11 1 from by omega] at hR; exact hR.usgEq (usg_relN S m _).symm))
      · skip
        refine lv_iload_n hx hb dX3_release_22 rfl (lv_at hl 3 rfl) ?_
        refine lv_aload_n hx hb dX3_release_23 rfl (lv_at hl 0 rfl) ?_
        refine c_get (C := RX3) (T := TX3) (N := 4) hx hb hts hin_X3 hown hE hC hR.k0 (by decide) (by decide) rfl 1 (by decide) (hts (.fieldLink RX3 16 "HoldServer" "files" "Ljava/util/ArrayList;") (by decide +kernel)) rfl (v := .ref (g 2 0)) (congrArg (fun z => some (va_rf z)) hR.fils) dX3_release_24 ?_
        refine lv_iload hx hb dX3_release_27 (lv_at hl 4 rfl) ?_
        refine c_callQ hS (va_runV (As := [.int (iI ((j : Int)))]) (rest := [.int (iI (dropN S m j))]) ⟨hx, hb, hml, hown, hts⟩ (R_get2 l D cO dz mi hR (by rw [relN_off S m j (by omega) (by omega) 1]; omega) (j : Int) (by omega) (by rw [relN_off S m j (by omega) (by omega) 1]; omega)) (cwV 1 hts gX3_release_Jx4a65c_get_915e3 rfl rfl rfl (by decide +kernel) ⟨Nat.le_of_ble_eq_true rfl, Nat.le_of_ble_eq_true rfl⟩) (c_preL hA hE hX hC hS hR.k2) rfl rfl hl.1 rfl (lv_room (Nat.le_of_ble_eq_true rfl)) dX3_release_29 ⟨Nat.le_of_ble_eq_true rfl, Nat.le_of_ble_eq_true rfl⟩) (fun r9 w9 H locs hpost hC hS => ?_)
        obtain ⟨rfl, rfl⟩ := hpost
        have k1 : (j : Int) < (relN S m (j : Int)).1 11 1 := by rw [relN_off S m j (by omega) (by omega) 1]; omega
        refine c_castT (r := (RX2, TX2, 6)) hx hb hown (hts (.classLink RX3 68 RX2) (by decide +kernel)) hE hC (hR.k5 (by first | omega | assumption) (by first | omega | assumption)) (by decide) (by decide) rfl dX3_release_32 ?_
        refine lv_iload_n hx hb dX3_release_35 rfl (lv_at hl 2 rfl) ?_
        refine c_callI hS (va_runV (As := [.int (iI (2 ^ m.toNat))]) (rest := [.int (iI (dropN S m j))]) ⟨hx, hb, hml, hown, hts⟩ (c_releaseFrom l D cO dz mi hR (j : Int) (by omega) k1 (by rw [relN_off S m j (by omega) (by omega) 1]; omega) m hm0 hm1 (by rw [relN_7]; exact hw.hol (by omega) (by omega))) (cwV 1 hts gX3_release_X2_releaseFrom rfl rfl rfl (by decide +kernel) ⟨Nat.le_of_ble_eq_true rfl, Nat.le_of_ble_eq_true rfl⟩) (c_preV hA hE hX hC hS (hR.k5 (by first | omega | assumption) (by first | omega | assumption)) (by decide) (by decide) rfl) rfl rfl hl.1 rfl (lv_room (Nat.le_of_ble_eq_true rfl)) dX3_release_36 ⟨Nat.le_of_ble_eq_true rfl, Nat.le_of_ble_eq_true rfl⟩) (fun r9 w9 H locs hpost hC hS => ?_)
        obtain ⟨hpR, rfl⟩ := hpost
        refine h_iadd hx hb dX3_release_39 ?_
        refine lv_istore_n (lv' := [(3, .int (iI ((dropN S m j + (relV (relN S m (j : Int)) (j : Int) m))))), (0, .ref (g 0 0)), (1, .int (iI (m))), (2, .int (iI (2 ^ m.toNat))), (4, .int (iI ((j : Int))))]) hx hb dX3_release_40 rfl hl (by decide) rfl (fun ls hl => ?_)
        refine lv_iinc (v := iI (((j : Int) + 1))) (lv' := [(4, .int (iI (((j : Int) + 1)))), (3, .int (iI ((dropN S m j + (relV (relN S m (j : Int)) (j : Int) m))))), (0, .ref (g 0 0)), (1, .int (iI (m))), (2, .int (iI (2 ^ m.toNat)))]) hx hb dX3_release_41 hl (k := 4) rfl (iI_add _ _) (by decide) rfl (fun ls hl => ?_)
        refine lv_goto (tgt := 10) hx hb dX3_release_44 (by decide) ?_
        have hR := hpR
        rw [relOne_N] at hR
        exact ih9 (j + 1) (by omega) (by omega) _ H locs hR hC hS ls (by rw [relV_N] at hl; rw [show ((j + 1 : Nat) : Int) = (j : Int) + 1 from by omega]; exact (lv_sub hl [2, 3, 4, 1, 0] rfl))
  exact lp10 ((S.1 11 1).toNat + 2) 0 (by omega) (by omega) _ _ _ (by rw [show ((0 : Nat) : Int) = 0 from rfl, relN_0]; exact hR) hC hS ls (lv_sub hl [3, 4, 2, 1, 0] rfl)

set_option maxRecDepth 100000 in
set_option maxHeartbeats 4000000 in
theorem c_link (l : Launch) (D : va_G) (cO : ClassId) (dz mi : Nat) {A : Nat → Prop} {S : HdS} {w : CW} {g : Nat → Int → Nat} {T : Nat → Nat × Int} {n : Int} (hw : wf S n) (hR : RelC S w g T (usg S)) (hst : l.stackTraces = false) (f d : Int) (rf : inQ f) (rd : inQ d) : cIX l yX3_link wsX3_link { frames := 7, cells := 5, slots := 1024, locals := 191 } D cO dz mi A [.ref (g 0 0), .int (iI (f)), .int (iI (d))] w (fun r w9 => spC (g 0 0) (sp_link S f d) r w9) (spE tb2 (sp_link S f d)) 5 1024 := by
  refine cIX_of (cc := cX3_link) (maxL := 5) (ty := .int) (by decide) rfl (Nat.le_of_ble_eq_true rfl) ?_
  intro pp ee ss mm args below meth cc Q hx hb hml hown hts hA hC hE hX hS hto hlk hQ hret ls hl
  have hl : lv_has ls 5 [(0, .ref (g 0 0)), (1, .int (iI (f))), (2, .int (iI (d)))] := hl
  have hin_X2 : ∀ w ∈ wsX20, w ∈ wsX3_link := by decide +kernel
  have hnd := hw.nd
  have hnf := hw.nf
  have hdy := hw.day
  have hnf0 := hnf.1
  refine lv_aload_n hx hb dX3_link_0 rfl (lv_at hl 0 rfl) ?_
  refine lv_iload_n hx hb dX3_link_1 rfl (lv_at hl 1 rfl) ?_
  refine c_callQX hS (vx_runV (As := [.int (iI (f))]) (rest := []) ⟨hx, hb, hml, hown, hts⟩ (c_filNumbered l D cO dz mi hw hR hst f (by omega)) (cwV 1 hts gX3_link_X3_fileNumbered rfl rfl rfl (by decide +kernel) ⟨Nat.le_of_ble_eq_true rfl, Nat.le_of_ble_eq_true rfl⟩) (c_preV hA hE hX hC hS hR.k0 (by decide) (by decide) rfl) rfl rfl hl.1 rfl (lv_room (Nat.le_of_ble_eq_true rfl)) dX3_link_2 ⟨Nat.le_of_ble_eq_true rfl, Nat.le_of_ble_eq_true rfl⟩) hQ (fun E hx9 => by obtain ⟨rfl, hx9⟩ := hx9; exact spE_of (k := 1) (by unfold sp_link; exact iteC_pos (Or.inl hx9)) (by decide)) hto hlk (by omega) (by omega) (fun r9 w9 H locs hpost hC hS => ?_)
  obtain ⟨rfl, rfl, hn0_2, hn1_2⟩ := hpost
  refine lv_astore_n (lv' := [(3, .ref (g 5 f)), (0, .ref (g 0 0)), (1, .int (iI (f))), (2, .int (iI (d)))]) hx hb dX3_link_5 rfl hl (by decide) rfl (fun ls hl => ?_)
  refine lv_aload_n hx hb dX3_link_6 rfl (lv_at hl 1 rfl) ?_
  refine lv_iload_n hx hb dX3_link_7 rfl (lv_at hl 3 rfl) ?_
  refine c_callQX hS (vx_runV (As := [.int (iI (d))]) (rest := []) ⟨hx, hb, hml, hown, hts⟩ (c_dirNumbered l D cO dz mi hw hR hst d (by omega)) (cwV 1 hts gX3_link_X3_directoryNumbered rfl rfl rfl (by decide +kernel) ⟨Nat.le_of_ble_eq_true rfl, Nat.le_of_ble_eq_true rfl⟩) (c_preV hA hE hX hC hS hR.k0 (by decide) (by decide) rfl) rfl rfl hl.1 rfl (lv_room (Nat.le_of_ble_eq_true rfl)) dX3_link_8 ⟨Nat.le_of_ble_eq_true rfl, Nat.le_of_ble_eq_true rfl⟩) hQ (fun E hx9 => by obtain ⟨rfl, hx9⟩ := hx9; exact spE_of (k := 1) (by unfold sp_link; exact iteC_pos (Or.inr hx9)) (by decide)) hto hlk (by omega) (by omega) (fun r9 w9 H locs hpost hC hS => ?_)
  obtain ⟨rfl, rfl, hn0_8, hn1_8⟩ := hpost
  refine lv_astore (lv' := [(4, .ref (g 4 d)), (3, .ref (g 5 f)), (0, .ref (g 0 0)), (1, .int (iI (f))), (2, .int (iI (d)))]) hx hb dX3_link_11 hl (by decide) rfl (fun ls hl => ?_)
  refine lv_aload_n hx hb dX3_link_13 rfl (lv_at hl 1 rfl) ?_
  refine c_callVX hS (vx_runS (As := [.ref (g 5 f)]) (rest := []) ⟨hx, hb, hml, hown, hts⟩ (c_requireNotGone l D cO dz mi hw hR hst f (by omega) (by omega)) (va_cwS 1 hts gX3_link_X3_requireNotGone rfl rfl rfl (by decide +kernel) ⟨Nat.le_of_ble_eq_true rfl, Nat.le_of_ble_eq_true rfl⟩) (c_preS hA hE hX hC hS) rfl rfl hl.1 rfl (lv_room (Nat.le_of_ble_eq_true rfl)) dX3_link_14 ⟨Nat.le_of_ble_eq_true rfl, Nat.le_of_ble_eq_true rfl⟩) hQ (fun E hx9 => by obtain ⟨rfl, hx9⟩ := hx9; exact spE_of (k := 2) (by unfold sp_link; rw [iteC_neg (by omega)]; exact iteC_pos (Or.inl hx9)) (by decide)) hto hlk (by omega) (by omega) (fun w9 H locs hpost hC hS => ?_)
  obtain ⟨rfl, hne⟩ := hpost
  have hln := hw.len hn0_2 hn1_2
  refine lv_aload_n hx hb dX3_link_17 rfl (lv_at hl 1 rfl) ?_
  refine lv_aload hx hb dX3_link_18 (lv_at hl 0 rfl) ?_
  refine c_callI hS (va_runV (As := [.ref (g 4 d)]) (rest := []) ⟨hx, hb, hml, hown, hts⟩ (c_placeOf l D cO dz mi hR f (by omega) (by omega) (by omega) (hw.lks (by omega) (by omega)) d (by omega) (by omega)) (cwV 1 hts gX3_link_X2_placeOfLinkTo rfl rfl rfl (by decide +kernel) ⟨Nat.le_of_ble_eq_true rfl, Nat.le_of_ble_eq_true rfl⟩) (c_preV hA hE hX hC hS (hR.k5 (by first | omega | assumption) (by first | omega | assumption)) (by decide) (by decide) rfl) rfl rfl hl.1 rfl (lv_room (Nat.le_of_ble_eq_true rfl)) dX3_link_20 ⟨Nat.le_of_ble_eq_true rfl, Nat.le_of_ble_eq_true rfl⟩) (fun r9 w9 H locs hpost hC hS => ?_)
  obtain ⟨rfl, ⟨hnm, rfl⟩ | ⟨a9, ha9, hg9, rfl⟩⟩ := hpost
  · skip
    refine h_if_lt (tgt := 36) hx hb (by omega) dX3_link_23 (by decide) (fun c_23 => ?_) (fun c_23 => by exfalso; omega)
    refine lv_aload_n hx hb dX3_link_36 rfl (lv_at hl 1 rfl) ?_
    refine c_get (C := RX2) (T := TX2) (N := 6) hx hb hts hin_X2 hown hE hC (hR.k5 (by first | omega | assumption) (by first | omega | assumption)) (by decide) (by decide) rfl 1 (by decide) (hts (.fieldLink RX3 76 "HoldServer$StoredFile" "links" "Ljava/util/ArrayList;") (by decide +kernel)) rfl (v := .ref (g 6 f)) (congrArg (fun z => some (va_rf z)) (hR.f (f := f) (by first | omega | assumption) (by first | omega | assumption)).2.1) dX3_link_37 ?_
    refine lv_aload hx hb dX3_link_40 (lv_at hl 0 rfl) ?_
    refine c_callI hS (va_runV (As := [.ref (g 4 d)]) (rest := []) ⟨hx, hb, hml, hown, hts⟩ (R_add6 l D cO dz mi hR (f := f) (d := d) (by omega) (by omega) (by omega) (by omega) (by omega)) (cwV 1 hts gX3_link_Jx4a65c_add_9ea2d rfl rfl rfl (by decide +kernel) ⟨Nat.le_of_ble_eq_true rfl, Nat.le_of_ble_eq_true rfl⟩) (c_preL hA hE hX hC hS (hR.k6 (by first | omega | assumption) (by first | omega | assumption))) rfl rfl hl.1 rfl (lv_room (Nat.le_of_ble_eq_true rfl)) dX3_link_42 ⟨Nat.le_of_ble_eq_true rfl, Nat.le_of_ble_eq_true rfl⟩) (fun r9 w9 H locs hpost hC hS => ?_)
    obtain ⟨rfl, rfl⟩ := hpost
    have hR := hR.lks (f := f) (ls := S.2 f ++ [d]) hnf0 hn0_2 hn1_2 hne
    refine lv_pop hx hb dX3_link_45 rfl ?_
    refine lv_aload_n hx hb dX3_link_46 rfl (lv_at hl 1 rfl) ?_
    refine c_get (C := RX2) (T := TX2) (N := 6) hx hb hts hin_X2 hown hE hC (hR.k5 (by first | omega | assumption) (by first | omega | assumption)) (by decide) (by decide) rfl 1 (by decide) (hts (.fieldLink RX3 76 "HoldServer$StoredFile" "links" "Ljava/util/ArrayList;") (by decide +kernel)) rfl (v := .ref (g 6 f)) (congrArg (fun z => some (va_rf z)) (hR.f (f := f) (by first | omega | assumption) (by first | omega | assumption)).2.1) dX3_link_47 ?_
    refine c_callI hS (va_runV (As := []) (rest := []) ⟨hx, hb, hml, hown, hts⟩ (R_size6 l D cO dz mi hR (f := f) hn0_2 hn1_2) (cwV 0 hts gX3_link_Jx4a65c_size_8abf5 rfl rfl rfl (by decide +kernel) ⟨Nat.le_of_ble_eq_true rfl, Nat.le_of_ble_eq_true rfl⟩) (c_preL hA hE hX hC hS (hR.k6 (by first | omega | assumption) (by first | omega | assumption))) rfl rfl hl.1 rfl (lv_room (Nat.le_of_ble_eq_true rfl)) dX3_link_50 ⟨Nat.le_of_ble_eq_true rfl, Nat.le_of_ble_eq_true rfl⟩) (fun r9 w9 H locs hpost hC hS => ?_)
    obtain ⟨rfl, rfl⟩ := hpost
    exact hret (((((slks S f (S.2 f ++ [d])).2 f).length : Nat) : Int)) ((wL w (g 6 f) ((S.2 f ++ [d]).map (g 4)))) _ _ _ _ _ _ dX3_link_53 rfl hC hS (by omega) (by omega) (by rw [show ((((slks S f (S.2 f ++ [d])).2 f).length : Nat) : Int) = ((S.2 f).length : Int) + 1 from by rw [slks_2, if_pos rfl, List.length_append]; rfl]; exact spC_of (g := g) (T := T) (by unfold sp_link; rw [iteC_neg (by omega), iteC_neg (fun z => z.elim hne hnm)]) (hR.usgEq (usg_link hne).symm))
  · skip
    have hmm := getD_mem (x := (a9 : Int)) (by omega) (by omega) hg9
    refine h_if_lt (tgt := 36) hx hb (by omega) dX3_link_23 (by decide) (fun c_23 => by exfalso; omega) (fun c_23 => ?_)
    exact x_throw (cls := xISE) (text := _) (is := 98) (ic := 51) hx hb hst (by first | exact Or.inl ⟨rfl, rfl, rfl⟩ | exact Or.inr (Or.inl ⟨rfl, rfl, rfl⟩) | exact Or.inr (Or.inr ⟨rfl, rfl, rfl⟩)) hown hts (by decide +kernel) xs_98 hX hC hS hQ (hl.1.trans hml.symm) dX3_link_26 dX3_link_29 dX3_link_30 dX3_link_32 dX3_link_35 hto (Nat.le_of_ble_eq_true rfl) (Nat.le_of_ble_eq_true rfl) (Nat.le_of_ble_eq_true rfl) (Nat.le_of_ble_eq_true rfl) hlk (spE_of (k := 2) (by unfold sp_link; rw [iteC_neg (by omega)]; exact iteC_pos (Or.inr hmm)) (by decide)) (by omega) (by omega)
