set_option maxRecDepth 100000 in
set_option maxHeartbeats 4000000 in
theorem c_setQuota (l : Launch) (D : va_G) (cO : ClassId) (dz mi : Nat) {A : Nat → Prop} {S : HdS} {w : CW} {g : Nat → Int → Nat} {T : Nat → Nat × Int} {n : Int} (hw : wf S n) (hR : RelC S w g T (usg S)) (hst : l.stackTraces = false) (d q : Int) (rd : inQ d) (rq : inQ q) : cIX l yX3_setQuota wsX3_setQuota { frames := 7, cells := 3, slots := 18, locals := 112 } D cO dz mi A [.ref (g 0 0), .int (iI (d)), .int (iI (q))] w (fun r w9 => spC (g 0 0) (sp_setQuota S d q) r w9) (spE tb1 (sp_setQuota S d q)) 3 18 := by
  refine cIX_of (cc := cX3_setQuota) (maxL := 5) (ty := .int) (by decide) rfl (Nat.le_of_ble_eq_true rfl) ?_
  intro pp ee ss mm args below meth cc Q hx hb hml hown hts hA hC hE hX hS hto hlk hQ hret ls hl
  have hl : lv_has ls 5 [(0, .ref (g 0 0)), (1, .int (iI (d))), (2, .int (iI (q)))] := hl
  have hin_X3 : ∀ w ∈ wsX30, w ∈ wsX3_setQuota := by decide +kernel
  have hin_X1 : ∀ w ∈ wsX10, w ∈ wsX3_setQuota := by decide +kernel
  have hnd := hw.nd
  have hnf := hw.nf
  have hdy := hw.day
  have hnf0 := hnf.1
  refine lv_aload_n hx hb dX3_setQuota_0 rfl (lv_at hl 0 rfl) ?_
  refine lv_iload_n hx hb dX3_setQuota_1 rfl (lv_at hl 1 rfl) ?_
  refine c_callQX hS (vx_runV (As := [.int (iI (d))]) (rest := []) ⟨hx, hb, hml, hown, hts⟩ (c_dirNumbered l D cO dz mi hw hR hst d (by omega)) (cwV 1 hts gX3_setQuota_X3_directoryNumbered rfl rfl rfl (by decide +kernel) ⟨Nat.le_of_ble_eq_true rfl, Nat.le_of_ble_eq_true rfl⟩) (c_preV hA hE hX hC hS hR.k0 (by decide) (by decide) rfl) rfl rfl hl.1 rfl (lv_room (Nat.le_of_ble_eq_true rfl)) dX3_setQuota_2 ⟨Nat.le_of_ble_eq_true rfl, Nat.le_of_ble_eq_true rfl⟩) hQ (fun E hx9 => by obtain ⟨rfl, hx9⟩ := hx9; exact spE_of (k := 1) (by unfold sp_setQuota; exact iteC_pos hx9) (by decide)) hto hlk (by omega) (by omega) (fun r9 w9 H locs hpost hC hS => ?_)
  obtain ⟨rfl, rfl, hn0_2, hn1_2⟩ := hpost
  refine lv_astore_n (lv' := [(3, .ref (g 4 d)), (0, .ref (g 0 0)), (1, .int (iI (d))), (2, .int (iI (q)))]) hx hb dX3_setQuota_5 rfl hl (by decide) rfl (fun ls hl => ?_)
  refine lv_iconst (v := iI (-1)) hx hb dX3_setQuota_6 rfl ?_
  refine lv_iload_n hx hb dX3_setQuota_7 rfl (lv_at hl 3 rfl) ?_
  refine lv_ldc (v := iI 100000) hx hb hown (hts (.constant RX3 38 (iI 100000)) (by decide +kernel)) dX3_setQuota_8 ?_
  refine c_callVX hS (vx_runS (As := [.int (iI (-1)), .int (iI (q)), .int (iI 100000)]) (rest := []) ⟨hx, hb, hml, hown, hts⟩ (c_requireBetween l D cO dz mi w hst ((-1)) (q) (100000) (by omega) (by omega) (by omega)) (va_cwS 3 hts gX3_setQuota_X3_requireBetween rfl rfl rfl (by decide +kernel) ⟨Nat.le_of_ble_eq_true rfl, Nat.le_of_ble_eq_true rfl⟩) (c_preS hA hE hX hC hS) rfl rfl hl.1 rfl (lv_room (Nat.le_of_ble_eq_true rfl)) dX3_setQuota_10 ⟨Nat.le_of_ble_eq_true rfl, Nat.le_of_ble_eq_true rfl⟩) hQ (fun E hx9 => by obtain ⟨rfl, hx9⟩ := hx9; exact spE_of (k := 2) (by unfold sp_setQuota; rw [iteC_neg (fun z => z ⟨by omega, by omega⟩)]; exact iteC_pos hx9) (by decide)) hto hlk (by omega) (by omega) (fun w9 H locs hpost hC hS => ?_)
  obtain ⟨rfl, hb0_10, hb1_10⟩ := hpost
  refine lv_aload_n hx hb dX3_setQuota_13 rfl (lv_at hl 0 rfl) ?_
  refine c_get (C := RX1) (T := TX1) (N := 4) hx hb hts hin_X1 hown hE hC (hR.k4 (by first | omega | assumption) (by first | omega | assumption)) (by decide) (by decide) rfl 2 (by decide) (hts (.fieldLink RX3 54 "HoldServer$Directory" "quota" "I") (by decide +kernel)) rfl (v := .int (iI ((S.1 1 d)))) (congrArg (fun z => some (Value.int (iI z))) (hR.d (d := d) (by first | omega | assumption) (by first | omega | assumption)).2.2.1) dX3_setQuota_14 ?_
  refine lv_istore (lv' := [(4, .int (iI ((S.1 1 d)))), (3, .ref (g 4 d)), (0, .ref (g 0 0)), (1, .int (iI (d))), (2, .int (iI (q)))]) hx hb dX3_setQuota_17 hl (by decide) rfl (fun ls hl => ?_)
  refine lv_aload_n hx hb dX3_setQuota_19 rfl (lv_at hl 1 rfl) ?_
  refine lv_iload_n hx hb dX3_setQuota_20 rfl (lv_at hl 4 rfl) ?_
  refine c_putI (C := RX1) (T := TX1) (N := 4) hx hb hts hin_X1 tyX1 tyX1_ok nmX1 hown hE hC hS (hR.k4 (by first | omega | assumption) (by first | omega | assumption)) (by decide) (by decide) rfl 2 (by decide) (hts (.fieldLink RX3 54 "HoldServer$Directory" "quota" "I") (by decide +kernel)) rfl rfl (by decide +kernel) (z := q) 22 (Nat.le_of_ble_eq_true rfl) (cs_22 _ _ _) dX3_setQuota_21 (fun H locs hC hS => ?_)
  have hR := hR.quo hnf0 (d := d) (v := q) (by first | omega | assumption) (by first | omega | assumption)
  refine lv_iload hx hb dX3_setQuota_24 (lv_at hl 0 rfl) ?_
  exact hret ((S.1 1 d)) ((wF w 22 (g 4 d) q)) _ _ _ _ _ _ dX3_setQuota_26 rfl hC hS (by omega) (by omega) (spC_of (g := g) (T := T) (by unfold sp_setQuota; rw [iteC_neg (fun z => z ⟨by omega, by omega⟩), iteC_neg (fun z => z ⟨by omega, by omega⟩)]) (hR.usgEq (usg_off (by omega) (by omega) (by omega)).symm))

set_option maxRecDepth 100000 in
set_option maxHeartbeats 4000000 in
theorem c_fund (l : Launch) (D : va_G) (cO : ClassId) (dz mi : Nat) {A : Nat → Prop} {S : HdS} {w : CW} {g : Nat → Int → Nat} {T : Nat → Nat × Int} {n : Int} (hw : wf S n) (hR : RelC S w g T (usg S)) (hst : l.stackTraces = false) (q c : Int) (rd : inQ q) (rq : inQ c) : cIX l yX3_fund wsX3_fund { frames := 7, cells := 3, slots := 18, locals := 112 } D cO dz mi A [.ref (g 0 0), .int (iI (q)), .int (iI (c))] w (fun r w9 => spC (g 0 0) (sp_fund S q c) r w9) (spE tb1 (sp_fund S q c)) 3 18 := by
  refine cIX_of (cc := cX3_fund) (maxL := 4) (ty := .int) (by decide) rfl (Nat.le_of_ble_eq_true rfl) ?_
  intro pp ee ss mm args below meth cc Q hx hb hml hown hts hA hC hE hX hS hto hlk hQ hret ls hl
  have hl : lv_has ls 4 [(0, .ref (g 0 0)), (1, .int (iI (q))), (2, .int (iI (c)))] := hl
  have hin_X3 : ∀ w ∈ wsX30, w ∈ wsX3_fund := by decide +kernel
  have hin_X0 : ∀ w ∈ wsX00, w ∈ wsX3_fund := by decide +kernel
  have hnd := hw.nd
  have hnf := hw.nf
  have hdy := hw.day
  have hnf0 := hnf.1
  refine lv_aload_n hx hb dX3_fund_0 rfl (lv_at hl 0 rfl) ?_
  refine lv_iload_n hx hb dX3_fund_1 rfl (lv_at hl 1 rfl) ?_
  refine c_callQX hS (vx_runV (As := [.int (iI (q))]) (rest := []) ⟨hx, hb, hml, hown, hts⟩ (c_depNumbered l D cO dz mi hw hR hst q (by omega)) (cwV 1 hts gX3_fund_X3_departmentNumbered rfl rfl rfl (by decide +kernel) ⟨Nat.le_of_ble_eq_true rfl, Nat.le_of_ble_eq_true rfl⟩) (c_preV hA hE hX hC hS hR.k0 (by decide) (by decide) rfl) rfl rfl hl.1 rfl (lv_room (Nat.le_of_ble_eq_true rfl)) dX3_fund_2 ⟨Nat.le_of_ble_eq_true rfl, Nat.le_of_ble_eq_true rfl⟩) hQ (fun E hx9 => by obtain ⟨rfl, hx9⟩ := hx9; exact spE_of (k := 1) (by unfold sp_fund; exact iteC_pos hx9) (by decide)) hto hlk (by omega) (by omega) (fun r9 w9 H locs hpost hC hS => ?_)
  obtain ⟨rfl, rfl, hn0_2, hn1_2⟩ := hpost
  refine lv_astore_n (lv' := [(3, .ref (g 7 q)), (0, .ref (g 0 0)), (1, .int (iI (q))), (2, .int (iI (c)))]) hx hb dX3_fund_5 rfl hl (by decide) rfl (fun ls hl => ?_)
  refine lv_iconst (v := iI 1) hx hb dX3_fund_6 rfl ?_
  refine lv_iload_n hx hb dX3_fund_7 rfl (lv_at hl 3 rfl) ?_
  refine lv_sipush (v := iI 10000) hx hb dX3_fund_8 (by decide) ?_
  refine c_callVX hS (vx_runS (As := [.int (iI 1), .int (iI (c)), .int (iI 10000)]) (rest := []) ⟨hx, hb, hml, hown, hts⟩ (c_requireBetween l D cO dz mi w hst (1) (c) (10000) (by omega) (by omega) (by omega)) (va_cwS 3 hts gX3_fund_X3_requireBetween rfl rfl rfl (by decide +kernel) ⟨Nat.le_of_ble_eq_true rfl, Nat.le_of_ble_eq_true rfl⟩) (c_preS hA hE hX hC hS) rfl rfl hl.1 rfl (lv_room (Nat.le_of_ble_eq_true rfl)) dX3_fund_11 ⟨Nat.le_of_ble_eq_true rfl, Nat.le_of_ble_eq_true rfl⟩) hQ (fun E hx9 => by obtain ⟨rfl, hx9⟩ := hx9; exact spE_of (k := 2) (by unfold sp_fund; rw [iteC_neg (fun z => z ⟨by omega, by omega⟩)]; exact iteC_pos hx9) (by decide)) hto hlk (by omega) (by omega) (fun w9 H locs hpost hC hS => ?_)
  obtain ⟨rfl, hb0_11, hb1_11⟩ := hpost
  have hco := hw.coi hn0_2 hn1_2
  refine lv_aload_n hx hb dX3_fund_14 rfl (lv_at hl 0 rfl) ?_
  refine c_get (C := RX0) (T := TX0) (N := 2) hx hb hts hin_X0 hown hE hC (hR.k7 (by first | omega | assumption) (by first | omega | assumption)) (by decide) (by decide) rfl 1 (by decide) (hts (.fieldLink RX3 156 "HoldServer$Department" "coins" "I") (by decide +kernel)) rfl (v := .int (iI ((S.1 10 q)))) (congrArg (fun z => some (Value.int (iI z))) (hR.p (q := q) (by first | omega | assumption) (by first | omega | assumption)).2.1) dX3_fund_15 ?_
  refine lv_iload_n hx hb dX3_fund_18 rfl (lv_at hl 3 rfl) ?_
  refine h_iadd hx hb dX3_fund_19 ?_
  refine lv_ldc (v := iI 1000000) hx hb hown (hts (.constant RX3 159 (iI 1000000)) (by decide +kernel)) dX3_fund_20 ?_
  refine h_icmp_le (tgt := 35) hx hb (by omega) (by omega) dX3_fund_22 (by decide) (fun c_22 => ?_) (fun c_22 => ?_)
  · skip
    refine lv_aload_n hx hb dX3_fund_35 rfl (lv_at hl 0 rfl) ?_
    refine lv_dup hx hb dX3_fund_36 rfl ?_
    refine c_get (C := RX0) (T := TX0) (N := 2) hx hb hts hin_X0 hown hE hC (hR.k7 (by first | omega | assumption) (by first | omega | assumption)) (by decide) (by decide) rfl 1 (by decide) (hts (.fieldLink RX3 156 "HoldServer$Department" "coins" "I") (by decide +kernel)) rfl (v := .int (iI ((S.1 10 q)))) (congrArg (fun z => some (Value.int (iI z))) (hR.p (q := q) (by first | omega | assumption) (by first | omega | assumption)).2.1) dX3_fund_37 ?_
    refine lv_iload_n hx hb dX3_fund_40 rfl (lv_at hl 3 rfl) ?_
    refine h_iadd hx hb dX3_fund_41 ?_
    refine c_putI (C := RX0) (T := TX0) (N := 2) hx hb hts hin_X0 tyX0 tyX0_ok nmX0 hown hE hC hS (hR.k7 (by first | omega | assumption) (by first | omega | assumption)) (by decide) (by decide) rfl 1 (by decide) (hts (.fieldLink RX3 156 "HoldServer$Department" "coins" "I") (by decide +kernel)) rfl rfl (by decide +kernel) (z := ((S.1 10 q) + c)) 11 (Nat.le_of_ble_eq_true rfl) (cs_11 _ _ _) dX3_fund_42 (fun H locs hC hS => ?_)
    have hR := hR.coin hnf0 (q := q) (v := ((S.1 10 q) + c)) (by first | omega | assumption) (by first | omega | assumption)
    refine lv_aload_n hx hb dX3_fund_45 rfl (lv_at hl 0 rfl) ?_
    refine c_get (C := RX0) (T := TX0) (N := 2) hx hb hts hin_X0 hown hE hC (hR.k7 (by first | omega | assumption) (by first | omega | assumption)) (by decide) (by decide) rfl 1 (by decide) (hts (.fieldLink RX3 156 "HoldServer$Department" "coins" "I") (by decide +kernel)) rfl (v := .int (iI (((S.1 10 q) + c)))) (congrArg (fun z => some (Value.int (iI z))) ((hR.p (q := q) (by first | omega | assumption) (by first | omega | assumption)).2.1.trans (sset_at _ _ _ _))) dX3_fund_46 ?_
    exact hret (((S.1 10 q) + c)) ((wF w 11 (g 7 q) ((S.1 10 q) + c))) _ _ _ _ _ _ dX3_fund_49 rfl hC hS (by omega) (by omega) (spC_of (g := g) (T := T) (by unfold sp_fund; rw [iteC_neg (fun z => z ⟨by omega, by omega⟩), iteC_neg (fun z => z ⟨by omega, by omega⟩), iteC_neg (by omega)]) (hR.usgEq (usg_off (by omega) (by omega) (by omega)).symm))
  · skip
    exact x_throw (cls := xISE) (text := _) (is := 160) (ic := 51) hx hb hst (by first | exact Or.inl ⟨rfl, rfl, rfl⟩ | exact Or.inr (Or.inl ⟨rfl, rfl, rfl⟩) | exact Or.inr (Or.inr ⟨rfl, rfl, rfl⟩)) hown hts (by decide +kernel) xs_160 hX hC hS hQ (hl.1.trans hml.symm) dX3_fund_25 dX3_fund_28 dX3_fund_29 dX3_fund_31 dX3_fund_34 hto (Nat.le_of_ble_eq_true rfl) (Nat.le_of_ble_eq_true rfl) (Nat.le_of_ble_eq_true rfl) (Nat.le_of_ble_eq_true rfl) hlk (spE_of (k := 3) (by unfold sp_fund; rw [iteC_neg (fun z => z ⟨by omega, by omega⟩), iteC_neg (fun z => z ⟨by omega, by omega⟩)]; exact iteC_pos (by omega)) (by decide)) (by omega) (by omega)

set_option maxRecDepth 100000 in
set_option maxHeartbeats 4000000 in
theorem c_requireNotGone (l : Launch) (D : va_G) (cO : ClassId) (dz mi : Nat) {A : Nat → Prop} {S : HdS} {w : CW} {g : Nat → Int → Nat} {T : Nat → Nat × Int} {U : Int → Int} {n : Int} (hw : wf S n) (hR : RelC S w g T U) (hst : l.stackTraces = false) (f : Int) (h0 : 0 ≤ f) (h1 : f < S.1 11 1)  : cVX l yX3_requireNotGone wsX3_requireNotGone { frames := 6, cells := 1, slots := 6, locals := 90 } D cO dz mi A [.ref (g 5 f)] w (fun w9 => w = w9 ∧ S.2 f ≠ []) (fun E => E = xISE ∧ S.2 f = []) 1 6 := by
  refine cVX_of (cc := cX3_requireNotGone) (maxL := 1)  (by decide) rfl (Nat.le_of_ble_eq_true rfl) ?_
  intro pp ee ss mm args below meth cc Q hx hb hml hown hts hA hC hE hX hS hto hlk hQ hret ls hl
  have hl : lv_has ls 1 [(0, .ref (g 5 f))] := hl
  have hnd := hw.nd
  have hnf := hw.nf
  have hdy := hw.day
  have hnf0 := hnf.1
  have hln := hw.len h0 h1
  refine lv_aload_n hx hb dX3_requireNotGone_0 rfl (lv_at hl 0 rfl) ?_
  refine c_callI hS (va_runV (As := []) (rest := []) ⟨hx, hb, hml, hown, hts⟩ (c_isGone l D cO dz mi hR f (by omega) (by omega) (by omega)) (cwV 0 hts gX3_requireNotGone_X2_isGone rfl rfl rfl (by decide +kernel) ⟨Nat.le_of_ble_eq_true rfl, Nat.le_of_ble_eq_true rfl⟩) (c_preV hA hE hX hC hS (hR.k5 (by first | omega | assumption) (by first | omega | assumption)) (by decide) (by decide) rfl) rfl rfl hl.1 rfl (lv_room (Nat.le_of_ble_eq_true rfl)) dX3_requireNotGone_1 ⟨Nat.le_of_ble_eq_true rfl, Nat.le_of_ble_eq_true rfl⟩) (fun r9 w9 H locs hpost hC hS => ?_)
  obtain ⟨rfl, ⟨hne, rfl⟩ | ⟨hne, rfl⟩⟩ := hpost
  · skip
    refine h_if_eq (tgt := 17) hx hb (by omega) dX3_requireNotGone_4 (by decide) (fun c_4 => by exfalso; omega) (fun c_4 => ?_)
    exact x_throw (cls := xISE) (text := _) (is := 199) (ic := 51) hx hb hst (by first | exact Or.inl ⟨rfl, rfl, rfl⟩ | exact Or.inr (Or.inl ⟨rfl, rfl, rfl⟩) | exact Or.inr (Or.inr ⟨rfl, rfl, rfl⟩)) hown hts (by decide +kernel) xs_199 hX hC hS hQ (hl.1.trans hml.symm) dX3_requireNotGone_7 dX3_requireNotGone_10 dX3_requireNotGone_11 dX3_requireNotGone_13 dX3_requireNotGone_16 hto (Nat.le_of_ble_eq_true rfl) (Nat.le_of_ble_eq_true rfl) (Nat.le_of_ble_eq_true rfl) (Nat.le_of_ble_eq_true rfl) hlk ⟨rfl, hne⟩ (by omega) (by omega)
  · skip
    refine h_if_eq (tgt := 17) hx hb (by omega) dX3_requireNotGone_4 (by decide) (fun c_4 => ?_) (fun c_4 => by exfalso; omega)
    exact hret (w) _ _ _ _ _ _ dX3_requireNotGone_17 hC hS (by omega) (by omega) ⟨rfl, hne⟩

set_option maxRecDepth 100000 in
set_option maxHeartbeats 4000000 in
theorem c_requireGrowthPossible (l : Launch) (D : va_G) (cO : ClassId) (dz mi : Nat) {A : Nat → Prop} {S : HdS} {w : CW} {g : Nat → Int → Nat} {T : Nat → Nat × Int} {n : Int} (hw : wf S n) (hR : RelC S w g T (usg S)) (hst : l.stackTraces = false) (q : Int) (q0 : 0 ≤ q) (q1 : q < 4) (d : Int) (h0 : 0 ≤ d) (h1 : d < S.1 11 0) (z : Int) (hz : 0 ≤ z ∧ z ≤ 1000) : cVX l yX3_requireGrowthPossible wsX3_requireGrowthPossible { frames := 6, cells := 1, slots := 6, locals := 90 } D cO dz mi A [.ref (g 7 q), .ref (g 4 d), .int (iI (z))] w (fun w9 => w = w9 ∧ canGrow S q d z) (fun E => E = xISE ∧ ¬ canGrow S q d z) 1 6 := by
  refine cVX_of (cc := cX3_requireGrowthPossible) (maxL := 3)  (by decide) rfl (Nat.le_of_ble_eq_true rfl) ?_
  intro pp ee ss mm args below meth cc Q hx hb hml hown hts hA hC hE hX hS hto hlk hQ hret ls hl
  have hl : lv_has ls 3 [(0, .ref (g 7 q)), (1, .ref (g 4 d)), (2, .int (iI (z)))] := hl
  have hin_X0 : ∀ w ∈ wsX00, w ∈ wsX3_requireGrowthPossible := by decide +kernel
  have hnd := hw.nd
  have hnf := hw.nf
  have hdy := hw.day
  have hnf0 := hnf.1
  have hco := hw.coi q0 q1
  refine lv_aload_n hx hb dX3_requireGrowthPossible_0 rfl (lv_at hl 0 rfl) ?_
  refine c_get (C := RX0) (T := TX0) (N := 2) hx hb hts hin_X0 hown hE hC (hR.k7 (by first | omega | assumption) (by first | omega | assumption)) (by decide) (by decide) rfl 1 (by decide) (hts (.fieldLink RX3 156 "HoldServer$Department" "coins" "I") (by decide +kernel)) rfl (v := .int (iI ((S.1 10 q)))) (congrArg (fun z => some (Value.int (iI z))) (hR.p (q := q) (by first | omega | assumption) (by first | omega | assumption)).2.1) dX3_requireGrowthPossible_1 ?_
  refine h_if_eq (tgt := 15) hx hb (by omega) dX3_requireGrowthPossible_4 (by decide) (fun c_4 => ?_) (fun c_4 => ?_)
  · skip
    exact x_throw (cls := xISE) (text := _) (is := 204) (ic := 51) hx hb hst (by first | exact Or.inl ⟨rfl, rfl, rfl⟩ | exact Or.inr (Or.inl ⟨rfl, rfl, rfl⟩) | exact Or.inr (Or.inr ⟨rfl, rfl, rfl⟩)) hown hts (by decide +kernel) xs_204 hX hC hS hQ (hl.1.trans hml.symm) dX3_requireGrowthPossible_15 dX3_requireGrowthPossible_18 dX3_requireGrowthPossible_19 dX3_requireGrowthPossible_21 dX3_requireGrowthPossible_24 hto (Nat.le_of_ble_eq_true rfl) (Nat.le_of_ble_eq_true rfl) (Nat.le_of_ble_eq_true rfl) (Nat.le_of_ble_eq_true rfl) hlk ⟨rfl, fun z9 => by unfold canGrow at z9; omega⟩ (by omega) (by omega)
  · skip
    refine lv_aload_n hx hb dX3_requireGrowthPossible_7 rfl (lv_at hl 1 rfl) ?_
    refine lv_iload_n hx hb dX3_requireGrowthPossible_8 rfl (lv_at hl 2 rfl) ?_
    refine c_callI hS (va_runV (As := [.int (iI (z))]) (rest := []) ⟨hx, hb, hml, hown, hts⟩ (c_hasRoomFor l D cO dz mi hw hR d (by omega) (by omega) (z) (by omega) (fun _ _ _ => rfl)) (cwV 1 hts gX3_requireGrowthPossible_X1_hasRoomFor rfl rfl rfl (by decide +kernel) ⟨Nat.le_of_ble_eq_true rfl, Nat.le_of_ble_eq_true rfl⟩) (c_preV hA hE hX hC hS (hR.k4 (by first | omega | assumption) (by first | omega | assumption)) (by decide) (by decide) rfl) rfl rfl hl.1 rfl (lv_room (Nat.le_of_ble_eq_true rfl)) dX3_requireGrowthPossible_9 ⟨Nat.le_of_ble_eq_true rfl, Nat.le_of_ble_eq_true rfl⟩) (fun r9 w9 H locs hpost hC hS => ?_)
    obtain ⟨rfl, ⟨hgo, rfl⟩ | ⟨hgo, rfl⟩⟩ := hpost
    · skip
      refine h_if_ne (tgt := 25) hx hb (by omega) dX3_requireGrowthPossible_12 (by decide) (fun c_12 => ?_) (fun c_12 => by exfalso; omega)
      exact hret (w) _ _ _ _ _ _ dX3_requireGrowthPossible_25 hC hS (by omega) (by omega) ⟨rfl, by omega, hgo⟩
    · skip
      refine h_if_ne (tgt := 25) hx hb (by omega) dX3_requireGrowthPossible_12 (by decide) (fun c_12 => by exfalso; omega) (fun c_12 => ?_)
      exact x_throw (cls := xISE) (text := _) (is := 204) (ic := 51) hx hb hst (by first | exact Or.inl ⟨rfl, rfl, rfl⟩ | exact Or.inr (Or.inl ⟨rfl, rfl, rfl⟩) | exact Or.inr (Or.inr ⟨rfl, rfl, rfl⟩)) hown hts (by decide +kernel) xs_204 hX hC hS hQ (hl.1.trans hml.symm) dX3_requireGrowthPossible_15 dX3_requireGrowthPossible_18 dX3_requireGrowthPossible_19 dX3_requireGrowthPossible_21 dX3_requireGrowthPossible_24 hto (Nat.le_of_ble_eq_true rfl) (Nat.le_of_ble_eq_true rfl) (Nat.le_of_ble_eq_true rfl) (Nat.le_of_ble_eq_true rfl) hlk ⟨rfl, fun z9 => hgo z9.2⟩ (by omega) (by omega)

set_option maxRecDepth 100000 in
set_option maxHeartbeats 4000000 in
theorem c_home (l : Launch) (D : va_G) (cO : ClassId) (dz mi : Nat) {A : Nat → Prop} {S : HdS} {w : CW} {g : Nat → Int → Nat} {T : Nat → Nat × Int} {U : Int → Int} {n : Int} (hw : wf S n) (hR : RelC S w g T U) (hst : l.stackTraces = false) (i : Int) (ri : inQ i) : cIX l yX3_home wsX3_home { frames := 7, cells := 1, slots := 6, locals := 111 } D cO dz mi A [.ref (g 0 0), .int (iI (i))] w (fun r w9 => w = w9 ∧ (0 ≤ i ∧ i < S.1 11 1) ∧ r = iI (homeS S i)) (fun E => E = xIOB ∧ ¬ (0 ≤ i ∧ i < S.1 11 1)) 1 6 := by
  refine cIX_of (cc := cX3_home) (maxL := 3) (ty := .int) (by decide) rfl (Nat.le_of_ble_eq_true rfl) ?_
  intro pp ee ss mm args below meth cc Q hx hb hml hown hts hA hC hE hX hS hto hlk hQ hret ls hl
  have hl : lv_has ls 3 [(0, .ref (g 0 0)), (1, .int (iI (i)))] := hl
  have hin_X1 : ∀ w ∈ wsX10, w ∈ wsX3_home := by decide +kernel
  have hnd := hw.nd
  have hnf := hw.nf
  have hdy := hw.day
  have hnf0 := hnf.1
  refine lv_aload_n hx hb dX3_home_0 rfl (lv_at hl 0 rfl) ?_
  refine lv_iload_n hx hb dX3_home_1 rfl (lv_at hl 1 rfl) ?_
  refine c_callQX hS (vx_runV (As := [.int (iI (i))]) (rest := []) ⟨hx, hb, hml, hown, hts⟩ (c_filNumbered l D cO dz mi hw hR hst i (by omega)) (cwV 1 hts gX3_home_X3_fileNumbered rfl rfl rfl (by decide +kernel) ⟨Nat.le_of_ble_eq_true rfl, Nat.le_of_ble_eq_true rfl⟩) (c_preV hA hE hX hC hS hR.k0 (by decide) (by decide) rfl) rfl rfl hl.1 rfl (lv_room (Nat.le_of_ble_eq_true rfl)) dX3_home_2 ⟨Nat.le_of_ble_eq_true rfl, Nat.le_of_ble_eq_true rfl⟩) hQ (fun E hx9 => hx9) hto hlk (by omega) (by omega) (fun r9 w9 H locs hpost hC hS => ?_)
  obtain ⟨rfl, rfl, hn0_2, hn1_2⟩ := hpost
  have hln := hw.len hn0_2 hn1_2
  refine c_callQ hS (va_runV (As := []) (rest := []) ⟨hx, hb, hml, hown, hts⟩ (c_firstLink l D cO dz mi hR i (by omega) (by omega) (by omega) (hw.lks (by omega) (by omega))) (cwV 0 hts gX3_home_X2_firstLink rfl rfl rfl (by decide +kernel) ⟨Nat.le_of_ble_eq_true rfl, Nat.le_of_ble_eq_true rfl⟩) (c_preV hA hE hX hC hS (hR.k5 (by first | omega | assumption) (by first | omega | assumption)) (by decide) (by decide) rfl) rfl rfl hl.1 rfl (lv_room (Nat.le_of_ble_eq_true rfl)) dX3_home_5 ⟨Nat.le_of_ble_eq_true rfl, Nat.le_of_ble_eq_true rfl⟩) (fun r9 w9 H locs hpost hC hS => ?_)
  obtain ⟨rfl, rfl⟩ := hpost
  refine qr_astore_n (lv' := [(2, va_rf (opA g (homeS S i))), (0, .ref (g 0 0)), (1, .int (iI (i)))]) hx hb dX3_home_8 rfl hl (by decide) rfl (fun ls hl => ?_)
  refine qr_aload_n hx hb dX3_home_9 rfl (lv_at hl 0 rfl) ?_
  refine qr_ifnonnull (r := opA g (homeS S i)) (tgt := 17) hx hb dX3_home_10 (by decide) (fun c_10 => ?_) (fun c_10 => ?_)
  · skip
    have c_10 := opA_nil c_10
    refine lv_iconst (v := iI (-1)) hx hb dX3_home_13 rfl ?_
    refine lv_goto (tgt := 21) hx hb dX3_home_14 (by decide) ?_
    exact hret ((-1)) (w) _ _ _ _ _ _ dX3_home_21 rfl hC hS (by omega) (by omega) ⟨rfl, ⟨by omega, by omega⟩, by rw [c_10]⟩
  · skip
    have c_10 := opA_not c_10
    have hl : lv_has ls 3 [(2, .ref (g 4 (homeS S i))), (0, .ref (g 0 0)), (1, .int (iI (i)))] := by rw [opA_is c_10] at hl; exact hl
    have hho := hw.home hn0_2 hn1_2 (fun e => c_10 (home_nil e))
    refine lv_aload_n hx hb dX3_home_17 rfl (lv_at hl 0 rfl) ?_
    refine c_get (C := RX1) (T := TX1) (N := 4) hx hb hts hin_X1 hown hE hC (hR.k4 (by first | omega | assumption) (by first | omega | assumption)) (by decide) (by decide) rfl 0 (by decide) (hts (.fieldLink RX3 173 "HoldServer$Directory" "number" "I") (by decide +kernel)) rfl (v := .int (iI ((homeS S i)))) (congrArg (fun z => some (Value.int (iI z))) (hR.d (d := (homeS S i)) (by first | omega | assumption) (by first | omega | assumption)).1) dX3_home_18 ?_
    exact hret ((homeS S i)) (w) _ _ _ _ _ _ dX3_home_21 rfl hC hS (by omega) (by omega) ⟨rfl, ⟨by omega, by omega⟩, rfl⟩
