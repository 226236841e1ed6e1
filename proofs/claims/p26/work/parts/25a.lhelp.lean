/-! THE LAW'S OWN HELPERS: coins, isFree -/
set_option maxRecDepth 100000 in
set_option maxHeartbeats 4000000 in
theorem c_L_coins (l : Launch) (D : va_G) (cO : ClassId) (dz mi : Nat) {A : Nat → Prop} {S : HdS} {w : CW} {a0 : Nat} {n : Int} (hw : wf S n) (hR : ST S w a0) (hst : l.stackTraces = false) : cI l yL_coins wsL_coins { frames := 8, cells := 4, slots := 24, locals := 132 } D cO dz mi A [.ref a0] w (fun r w9 => r = iI (coinsS S) ∧ ST S w9 a0) 4 24 := by
  refine cI_of (cc := cL_coins) (maxL := 1) (ty := .int) (by decide) rfl (Nat.le_of_ble_eq_true rfl) ?_
  intro pp ee ss mm args below meth cc Q hx hb hml hown hts hA hC hE hX hS hret ls hl
  have hl : lv_has ls 1 [(0, .ref a0)] := hl
  refine lv_aload_n hx hb dL_coins_0 rfl (lv_at hl 0 rfl) ?_
  refine lv_iconst (v := iI 0) hx hb dL_coins_1 rfl ?_
  refine c_callI hS (va_runV (As := [.int (iI 0)]) (rest := []) ⟨hx, hb, hml, hown, hts⟩ (n_coins l D cO dz mi hw hR hst (by omega) (by omega) rfl) (cwV 1 hts gL_coins_X3_coins rfl rfl rfl (by decide +kernel) ⟨Nat.le_of_ble_eq_true rfl, Nat.le_of_ble_eq_true rfl⟩) (c_preV hA hE hX hC hS hR.k0 (by decide) (by decide) rfl) rfl rfl hl.1 rfl (lv_room (Nat.le_of_ble_eq_true rfl)) dL_coins_2 ⟨Nat.le_of_ble_eq_true rfl, Nat.le_of_ble_eq_true rfl⟩) (fun r9 w H locs hp hC hS => ?_)
  obtain ⟨rfl, hR⟩ := hp
  refine lv_aload_n hx hb dL_coins_5 rfl (lv_at hl 0 rfl) ?_
  refine lv_iconst (v := iI 1) hx hb dL_coins_6 rfl ?_
  refine c_callI hS (va_runV (As := [.int (iI 1)]) (rest := [.int (iI (S.1 10 0))]) ⟨hx, hb, hml, hown, hts⟩ (n_coins l D cO dz mi hw hR hst (by omega) (by omega) rfl) (cwV 1 hts gL_coins_X3_coins rfl rfl rfl (by decide +kernel) ⟨Nat.le_of_ble_eq_true rfl, Nat.le_of_ble_eq_true rfl⟩) (c_preV hA hE hX hC hS hR.k0 (by decide) (by decide) rfl) rfl rfl hl.1 rfl (lv_room (Nat.le_of_ble_eq_true rfl)) dL_coins_7 ⟨Nat.le_of_ble_eq_true rfl, Nat.le_of_ble_eq_true rfl⟩) (fun r9 w H locs hp hC hS => ?_)
  obtain ⟨rfl, hR⟩ := hp
  refine h_iadd hx hb dL_coins_10 ?_
  refine lv_aload_n hx hb dL_coins_11 rfl (lv_at hl 0 rfl) ?_
  refine lv_iconst (v := iI 2) hx hb dL_coins_12 rfl ?_
  refine c_callI hS (va_runV (As := [.int (iI 2)]) (rest := [.int (iI ((S.1 10 0 + S.1 10 1)))]) ⟨hx, hb, hml, hown, hts⟩ (n_coins l D cO dz mi hw hR hst (by omega) (by omega) rfl) (cwV 1 hts gL_coins_X3_coins rfl rfl rfl (by decide +kernel) ⟨Nat.le_of_ble_eq_true rfl, Nat.le_of_ble_eq_true rfl⟩) (c_preV hA hE hX hC hS hR.k0 (by decide) (by decide) rfl) rfl rfl hl.1 rfl (lv_room (Nat.le_of_ble_eq_true rfl)) dL_coins_13 ⟨Nat.le_of_ble_eq_true rfl, Nat.le_of_ble_eq_true rfl⟩) (fun r9 w H locs hp hC hS => ?_)
  obtain ⟨rfl, hR⟩ := hp
  refine h_iadd hx hb dL_coins_16 ?_
  refine lv_aload_n hx hb dL_coins_17 rfl (lv_at hl 0 rfl) ?_
  refine lv_iconst (v := iI 3) hx hb dL_coins_18 rfl ?_
  refine c_callI hS (va_runV (As := [.int (iI 3)]) (rest := [.int (iI (((S.1 10 0 + S.1 10 1) + S.1 10 2)))]) ⟨hx, hb, hml, hown, hts⟩ (n_coins l D cO dz mi hw hR hst (by omega) (by omega) rfl) (cwV 1 hts gL_coins_X3_coins rfl rfl rfl (by decide +kernel) ⟨Nat.le_of_ble_eq_true rfl, Nat.le_of_ble_eq_true rfl⟩) (c_preV hA hE hX hC hS hR.k0 (by decide) (by decide) rfl) rfl rfl hl.1 rfl (lv_room (Nat.le_of_ble_eq_true rfl)) dL_coins_19 ⟨Nat.le_of_ble_eq_true rfl, Nat.le_of_ble_eq_true rfl⟩) (fun r9 w H locs hp hC hS => ?_)
  obtain ⟨rfl, hR⟩ := hp
  refine h_iadd hx hb dL_coins_22 ?_
  exact hret (coinsS S) w _ _ _ _ _ _ dL_coins_23 rfl hC hS (Nat.le_of_ble_eq_true rfl) (Nat.le_of_ble_eq_true rfl) ⟨rfl, hR⟩
set_option maxRecDepth 100000 in
set_option maxHeartbeats 4000000 in
theorem c_L_isFree (l : Launch) (D : va_G) (cO : ClassId) (dz mi : Nat) {A : Nat → Prop} {S : HdS} {w : CW} {a0 : Nat} {n : Int} (hw : wf S n) (hR : ST S w a0) (hst : l.stackTraces = false) {z : Int} (hz : 0 ≤ z ∧ z ≤ 1000) : cI l yL_isFree wsL_isFree { frames := 8, cells := 84, slots := 504, locals := 136 } D cO dz mi A [.ref a0, .int (iI z)] w (fun r w9 => r = iI (freeV S z (S.1 11 0)) ∧ ST S w9 a0) 84 504 := by
  refine cI_of (cc := cL_isFree) (maxL := 5) (ty := .boolean) (by decide) rfl (Nat.le_of_ble_eq_true rfl) ?_
  intro pp ee ss mm args below meth cc Q hx hb hml hown hts hA hC hE hX hS hret ls hl
  have hl : lv_has ls 5 [(0, .ref a0), (1, .int (iI z))] := hl
  have hnd := hw.nd
  have loop : ∀ (k : Nat) (d : Int) (w : CW) (H : Heap) (locs : List Loc) (cells slots : Nat) (ls : Array Slot), 0 ≤ d → d + (k : Int) = S.1 11 0 → cells ≤ 7 * d.toNat → slots ≤ 42 * d.toNat → ST S w a0 → cH D cO dz A w H → va_S A ss.heap H locs → lv_has ls 5 [(3, .int (iI d)), (2, .int (iI (freeV S z d))), (0, .ref a0), (1, .int (iI z))] → W pp l ee { frames := 8, cells := 84, slots := 504, locals := 136 } ss mm args below meth cc H locs cells slots Q (F0 mm 4 ls []) := by
    intro k
    induction k with
    | zero =>
      intro d w H locs cells slots ls h0 h1 hce hsl hR hC hS hl
      have h1 : d = S.1 11 0 := by omega
      refine lv_iload_n hx hb dL_isFree_4 rfl (lv_at hl 0 rfl) ?_
      refine lv_aload_n hx hb dL_isFree_5 rfl (lv_at hl 2 rfl) ?_
      refine c_callI hS (va_runV (As := []) (rest := [.int (iI (d))]) ⟨hx, hb, hml, hown, hts⟩ (n_directories l D cO dz mi hw hR) (cwV 0 hts gL_isFree_X3_directories rfl rfl rfl (by decide +kernel) ⟨Nat.le_of_ble_eq_true rfl, Nat.le_of_ble_eq_true rfl⟩) (c_preV hA hE hX hC hS hR.k0 (by decide) (by decide) rfl) rfl rfl hl.1 rfl (lv_room (Nat.le_of_ble_eq_true rfl)) dL_isFree_6 ⟨by show cells + 0 ≤ 84; omega, by show slots + 0 ≤ 504; omega⟩) (fun r9 w H locs hp hC hS => ?_)
      obtain ⟨rfl, hR⟩ := hp
      refine h_icmp_ge (tgt := 61) hx hb (by omega) (by omega) dL_isFree_9 (by decide) (fun c_9 => ?_) (fun c_9 => by exfalso; omega)
      refine lv_iload_n hx hb dL_isFree_61 rfl (lv_at hl 1 rfl) ?_
      have hbool : narrow .boolean (.int (iI (freeV S z d))) = .int (iI (freeV S z d)) := by rcases freeV_in S z d with q | q <;> rw [q] <;> decide
      exact hret (freeV S z d) w _ _ _ _ _ _ dL_isFree_62 hbool hC hS (by omega) (by omega) ⟨by rw [h1], hR⟩
    | succ k ih =>
      intro d w H locs cells slots ls h0 h1 hce hsl hR hC hS hl
      have hq := hw.quo h0 (show d < S.1 11 0 by omega)
      have hu := usg_in hw d
      have hw1 : wf (sset S 1 d (-1)) n := wf_q0 hw ⟨by omega, by omega⟩
      have e1 : (sset S 1 d (-1)).1 11 0 = S.1 11 0 := sset_off (by omega)
      have hv := freeV_in S z d
      refine lv_iload_n hx hb dL_isFree_4 rfl (lv_at hl 0 rfl) ?_
      refine lv_aload_n hx hb dL_isFree_5 rfl (lv_at hl 2 rfl) ?_
      refine c_callI hS (va_runV (As := []) (rest := [.int (iI (d))]) ⟨hx, hb, hml, hown, hts⟩ (n_directories l D cO dz mi hw hR) (cwV 0 hts gL_isFree_X3_directories rfl rfl rfl (by decide +kernel) ⟨Nat.le_of_ble_eq_true rfl, Nat.le_of_ble_eq_true rfl⟩) (c_preV hA hE hX hC hS hR.k0 (by decide) (by decide) rfl) rfl rfl hl.1 rfl (lv_room (Nat.le_of_ble_eq_true rfl)) dL_isFree_6 ⟨by show cells + 0 ≤ 84; omega, by show slots + 0 ≤ 504; omega⟩) (fun r9 w H locs hp hC hS => ?_)
      obtain ⟨rfl, hR⟩ := hp
      refine h_icmp_ge (tgt := 61) hx hb (by omega) (by omega) dL_isFree_9 (by decide) (fun c_9 => by exfalso; omega) (fun c_9 => ?_)
      refine lv_aload_n hx hb dL_isFree_12 rfl (lv_at hl 2 rfl) ?_
      refine lv_iload_n hx hb dL_isFree_13 rfl (lv_at hl 0 rfl) ?_
      refine lv_iconst (v := iI (-1)) hx hb dL_isFree_14 rfl ?_
      refine c_callI hS (va_runV (As := [.int (iI (d)), .int (iI (-1))]) (rest := []) ⟨hx, hb, hml, hown, hts⟩ (n_setQuota l D cO dz mi hw hR hst d (-1) (by omega) (by omega) (sv_setQuota (by omega) (by omega) (by omega) (by omega))) (cwV 2 hts gL_isFree_X3_setQuota rfl rfl rfl (by decide +kernel) ⟨Nat.le_of_ble_eq_true rfl, Nat.le_of_ble_eq_true rfl⟩) (c_preV hA hE hX hC hS hR.k0 (by decide) (by decide) rfl) rfl rfl hl.1 rfl (lv_room (Nat.le_of_ble_eq_true rfl)) dL_isFree_15 ⟨by show cells + 0 + 3 ≤ 84; omega, by show slots + 0 + 18 ≤ 504; omega⟩) (fun r9 w H locs hp hC hS => ?_)
      obtain ⟨rfl, hR⟩ := hp
      refine lv_istore (lv' := [(4, .int (iI (S.1 1 d))), (3, .int (iI (d))), (2, .int (iI ((freeV S z d)))), (0, .ref a0), (1, .int (iI (z)))]) hx hb dL_isFree_18 hl (by decide) rfl (fun ls hl => ?_)
      refine lv_aload_n hx hb dL_isFree_20 rfl (lv_at hl 3 rfl) ?_
      refine lv_iload_n hx hb dL_isFree_21 rfl (lv_at hl 1 rfl) ?_
      refine lv_iload hx hb dL_isFree_22 (lv_at hl 0 rfl) ?_
      refine c_callI hS (va_runV (As := [.int (iI (d)), .int (iI (S.1 1 d))]) (rest := []) ⟨hx, hb, hml, hown, hts⟩ (n_setQuota l D cO dz mi hw1 hR hst d (S.1 1 d) (by omega) (by omega) (show sp_setQuota (sset S 1 d (-1)) d (S.1 1 d) = (0, -1, S) from by rw [sv_setQuota h0 (by omega) (by omega) (by omega), quota_back, sset_at])) (cwV 2 hts gL_isFree_X3_setQuota rfl rfl rfl (by decide +kernel) ⟨Nat.le_of_ble_eq_true rfl, Nat.le_of_ble_eq_true rfl⟩) (c_preV hA hE hX hC hS hR.k0 (by decide) (by decide) rfl) rfl rfl hl.1 rfl (lv_room (Nat.le_of_ble_eq_true rfl)) dL_isFree_24 ⟨by show cells + 0 + 3 + 3 ≤ 84; omega, by show slots + 0 + 18 + 18 ≤ 504; omega⟩) (fun r9 w H locs hp hC hS => ?_)
      obtain ⟨rfl, hR⟩ := hp
      refine lv_pop hx hb dL_isFree_27 rfl ?_
      refine lv_iload_n hx hb dL_isFree_28 rfl (lv_at hl 2 rfl) ?_
      refine h_if_eq (tgt := 53) hx hb (by omega) dL_isFree_29 (by decide) (fun c_29 => ?_) (fun c_29 => ?_)
      · skip
        refine lv_iconst (v := iI 0) hx hb dL_isFree_53 rfl ?_
        refine lv_istore_n (lv' := [(2, .int (iI 0)), (4, .int (iI (S.1 1 d))), (3, .int (iI (d))), (0, .ref a0), (1, .int (iI (z)))]) hx hb dL_isFree_54 rfl hl (by decide) rfl (fun ls hl => ?_)
        refine lv_iinc (v := iI (d + 1)) (lv' := [(3, .int (iI ((d + 1)))), (2, .int (iI 0)), (4, .int (iI (S.1 1 d))), (0, .ref a0), (1, .int (iI (z)))]) hx hb dL_isFree_55 hl (k := 2) rfl (iI_add _ _) (by decide) rfl (fun ls hl => ?_)
        refine lv_goto (tgt := 4) hx hb dL_isFree_58 (by decide) ?_
        exact ih (d + 1) w _ _ _ _ ls (by omega) (by omega) (by omega) (by omega) hR hC hS (by rw [freeV_z c_29]; exact lv_sub hl [0, 1, 3, 4] rfl)
      · skip
        refine lv_iload hx hb dL_isFree_32 (lv_at hl 0 rfl) ?_
        refine h_if_lt (tgt := 49) hx hb (by omega) dL_isFree_34 (by decide) (fun c_34 => ?_) (fun c_34 => ?_)
        · skip
          refine lv_iconst (v := iI 1) hx hb dL_isFree_49 rfl ?_
          refine lv_goto (tgt := 54) hx hb dL_isFree_50 (by decide) ?_
          refine lv_istore_n (lv' := [(2, .int (iI 1)), (4, .int (iI (S.1 1 d))), (3, .int (iI (d))), (0, .ref a0), (1, .int (iI (z)))]) hx hb dL_isFree_54 rfl hl (by decide) rfl (fun ls hl => ?_)
          refine lv_iinc (v := iI (d + 1)) (lv' := [(3, .int (iI ((d + 1)))), (2, .int (iI 1)), (4, .int (iI (S.1 1 d))), (0, .ref a0), (1, .int (iI (z)))]) hx hb dL_isFree_55 hl (k := 2) rfl (iI_add _ _) (by decide) rfl (fun ls hl => ?_)
          refine lv_goto (tgt := 4) hx hb dL_isFree_58 (by decide) ?_
          exact ih (d + 1) w _ _ _ _ ls (by omega) (by omega) (by omega) (by omega) hR hC hS (by rw [freeV_y c_29 (Or.inl c_34)]; exact lv_sub hl [0, 1, 3, 4] rfl)
        · skip
          refine lv_aload_n hx hb dL_isFree_37 rfl (lv_at hl 3 rfl) ?_
          refine lv_iload_n hx hb dL_isFree_38 rfl (lv_at hl 1 rfl) ?_
          refine c_callI hS (va_runV (As := [.int (iI (d))]) (rest := []) ⟨hx, hb, hml, hown, hts⟩ (n_usage l D cO dz mi hw hR hst (by omega) (by omega) rfl) (cwV 1 hts gL_isFree_X3_usage rfl rfl rfl (by decide +kernel) ⟨Nat.le_of_ble_eq_true rfl, Nat.le_of_ble_eq_true rfl⟩) (c_preV hA hE hX hC hS hR.k0 (by decide) (by decide) rfl) rfl rfl hl.1 rfl (lv_room (Nat.le_of_ble_eq_true rfl)) dL_isFree_39 ⟨by show cells + 0 + 3 + 3 + 1 ≤ 84; omega, by show slots + 0 + 18 + 18 + 6 ≤ 504; omega⟩) (fun r9 w H locs hp hC hS => ?_)
          obtain ⟨rfl, hR⟩ := hp
          refine lv_iload_n hx hb dL_isFree_42 rfl (lv_at hl 4 rfl) ?_
          refine h_iadd hx hb dL_isFree_43 ?_
          refine lv_iload hx hb dL_isFree_44 (lv_at hl 0 rfl) ?_
          refine h_icmp_gt (tgt := 53) hx hb (by omega) (by omega) dL_isFree_46 (by decide) (fun c_46 => ?_) (fun c_46 => ?_)
          · skip
            refine lv_iconst (v := iI 0) hx hb dL_isFree_53 rfl ?_
            refine lv_istore_n (lv' := [(2, .int (iI 0)), (4, .int (iI (S.1 1 d))), (3, .int (iI (d))), (0, .ref a0), (1, .int (iI (z)))]) hx hb dL_isFree_54 rfl hl (by decide) rfl (fun ls hl => ?_)
            refine lv_iinc (v := iI (d + 1)) (lv' := [(3, .int (iI ((d + 1)))), (2, .int (iI 0)), (4, .int (iI (S.1 1 d))), (0, .ref a0), (1, .int (iI (z)))]) hx hb dL_isFree_55 hl (k := 2) rfl (iI_add _ _) (by decide) rfl (fun ls hl => ?_)
            refine lv_goto (tgt := 4) hx hb dL_isFree_58 (by decide) ?_
            exact ih (d + 1) w _ _ _ _ ls (by omega) (by omega) (by omega) (by omega) hR hC hS (by rw [freeV_n h0 (Int.not_lt.mpr c_34) c_46]; exact lv_sub hl [0, 1, 3, 4] rfl)
          · skip
            refine lv_iconst (v := iI 1) hx hb dL_isFree_49 rfl ?_
            refine lv_goto (tgt := 54) hx hb dL_isFree_50 (by decide) ?_
            refine lv_istore_n (lv' := [(2, .int (iI 1)), (4, .int (iI (S.1 1 d))), (3, .int (iI (d))), (0, .ref a0), (1, .int (iI (z)))]) hx hb dL_isFree_54 rfl hl (by decide) rfl (fun ls hl => ?_)
            refine lv_iinc (v := iI (d + 1)) (lv' := [(3, .int (iI ((d + 1)))), (2, .int (iI 1)), (4, .int (iI (S.1 1 d))), (0, .ref a0), (1, .int (iI (z)))]) hx hb dL_isFree_55 hl (k := 2) rfl (iI_add _ _) (by decide) rfl (fun ls hl => ?_)
            refine lv_goto (tgt := 4) hx hb dL_isFree_58 (by decide) ?_
            exact ih (d + 1) w _ _ _ _ ls (by omega) (by omega) (by omega) (by omega) hR hC hS (by rw [freeV_y c_29 (Or.inr c_46)]; exact lv_sub hl [0, 1, 3, 4] rfl)
  refine lv_iconst (v := iI 1) hx hb dL_isFree_0 rfl ?_
  refine lv_istore_n (lv' := [(2, .int (iI 1)), (0, .ref a0), (1, .int (iI (z)))]) hx hb dL_isFree_1 rfl hl (by decide) rfl (fun ls hl => ?_)
  refine lv_iconst (v := iI 0) hx hb dL_isFree_2 rfl ?_
  refine lv_istore_n (lv' := [(3, .int (iI 0)), (2, .int (iI 1)), (0, .ref a0), (1, .int (iI (z)))]) hx hb dL_isFree_3 rfl hl (by decide) rfl (fun ls hl => ?_)
  exact loop (S.1 11 0).toNat 0 w _ _ 0 0 ls (by omega) (by omega) (by omega) (by omega) hR hC hS (by rw [freeV_0]; exact lv_sub hl [0, 1, 2, 3] rfl)
