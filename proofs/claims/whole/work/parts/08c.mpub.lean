set_option maxRecDepth 100000 in
set_option maxHeartbeats 4000000 in
theorem c_X4_link (l : Launch) (D : va_G) (ad : Nat → Nat) (cI : ClassId) {A : Nat → Prop} {u0 : MS} (hD0 : va_D A (wM ad cI u0)) {S : HdS} {n : Int} (hw : wf S n) (u : MS) (hR : RelM S u) (f d : Int)  (r_f : inQ f) (r_d : inQ d)  : mI l yX4_link wsX4_link { frames := 2, cells := 0, slots := 0, locals := 43 } D ad cI A [.ref (ad 11), .int (iI f), .int (iI d)] u (spM (sp_link S f d)) := by
  refine mI_of (cc := cX4_link) (maxL := 4) (ty := .int) (by decide) rfl (Nat.le_of_ble_eq_true rfl) ?_
  intro pp ee ss mm args below meth cc Q hx hb hml hown hts hP hK hS hret ls hl
  have hl : lv_has ls 4 [(0, .ref (ad 11)), (1, .int (iI (f))), (2, .int (iI (d)))] := hl
  have hin : ∀ w ∈ wsX40, w ∈ wsX4_link := fun w h => List.mem_cons_of_mem _ (List.mem_append_right _ h)
  have hD : va_D A (wM ad cI u) := wM_D hD0
  have hn1 := hw.nf
  have hn2 := hw.nd
  have hn3 := hw.day
  refine lv_aload_n hx hb dX4_link_0 rfl (lv_at hl 0 rfl) ?_
  refine lv_iload_n hx hb dX4_link_1 rfl (lv_at hl 1 rfl) ?_
  refine m_callv (As := [.int (iI (f))]) ⟨hx, hb, hml, hown, hts⟩ (c_X4_isFile l D ad cI hD0 hw (u) hR (f) (by omega)) (cwV 1 hts gX4_link_X4_isFile rfl rfl rfl (by decide +kernel) ⟨Nat.le_of_ble_eq_true rfl, Nat.le_of_ble_eq_true rfl⟩) hK hP hS rfl hl.1 rfl (Nat.le_of_ble_eq_true rfl) ⟨Nat.le_of_ble_eq_true rfl, Nat.le_of_ble_eq_true rfl⟩ dX4_link_2 (fun r9 u9 H locs hpost hP hS => ?_)
  obtain ⟨rfl, ⟨hc_1, rfl⟩ | ⟨hc_1, rfl⟩⟩ := hpost
  · skip
    refine h_if_eq (tgt := 16) hx hb (by omega) dX4_link_5 (by decide) (fun c_5 => by exfalso; omega) (fun c_5 => ?_)
    refine lv_aload_n hx hb dX4_link_8 rfl (lv_at hl 0 rfl) ?_
    refine lv_iload_n hx hb dX4_link_9 rfl (lv_at hl 2 rfl) ?_
    refine m_callv (As := [.int (iI (d))]) ⟨hx, hb, hml, hown, hts⟩ (c_X4_isDirectory l D ad cI hD0 hw (u) hR (d) (by omega)) (cwV 1 hts gX4_link_X4_isDirectory rfl rfl rfl (by decide +kernel) ⟨Nat.le_of_ble_eq_true rfl, Nat.le_of_ble_eq_true rfl⟩) hK hP hS rfl hl.1 rfl (Nat.le_of_ble_eq_true rfl) ⟨Nat.le_of_ble_eq_true rfl, Nat.le_of_ble_eq_true rfl⟩ dX4_link_10 (fun r9 u9 H locs hpost hP hS => ?_)
    obtain ⟨rfl, ⟨hc_2, rfl⟩ | ⟨hc_2, rfl⟩⟩ := hpost
    · skip
      refine h_if_ne (tgt := 20) hx hb (by omega) dX4_link_13 (by decide) (fun c_13 => ?_) (fun c_13 => by exfalso; omega)
      have h0 : 0 ≤ f := by omega
      have h1 : f < S.1 11 1 := by omega
      have hlen9 := hw.len h0 h1
      have hsiz9 := hw.siz h0 h1
      have hdep9 := hw.dep h0 h1
      have hkep9 := hw.kep h0 h1
      have hnum9 := hw.num
      have hhol9 := hw.hol h0 h1
      have husd9 := hw.usd h0 h1
      have hbac9 := hw.bac h0 h1
      refine lv_aload_n hx hb dX4_link_20 rfl (lv_at hl 0 rfl) ?_
      refine m_get hx hb hts hin hown hK hP 6 (by decide) (v := .ref (ad 5)) rfl (hts (.fieldLink RX4 29 "HoldServerModel" "links" "[I") (by decide +kernel)) rfl dX4_link_21 ?_
      refine lv_iload_n hx hb dX4_link_24 rfl (lv_at hl 1 rfl) ?_
      refine m_ld hx hb hK hP (k := 5) (by decide) (v := ((S.2 f).length : Int)) (by omega) (by show _ < ((30 : Nat) : Int); omega) (hR.len (by omega) (by omega)) dX4_link_25 ?_
      refine h_if_eq (tgt := 39) hx hb (by omega) dX4_link_26 (by decide) (fun c_26 => ?_) (fun c_26 => ?_)
      · skip
        refine lv_iconst (v := iI 2) hx hb dX4_link_39 rfl ?_
        refine lv_goto (tgt := 44) hx hb dX4_link_40 (by decide) ?_
        refine lv_istore_n (lv' := [(3, .int (iI 2)), (0, .ref (ad 11)), (1, .int (iI (f))), (2, .int (iI (d)))]) hx hb dX4_link_44 rfl hl (by decide) rfl (fun ls hl => ?_)
        refine lv_aload_n hx hb dX4_link_45 rfl (lv_at hl 1 rfl) ?_
        refine lv_iload_n hx hb dX4_link_46 rfl (lv_at hl 0 rfl) ?_
        refine m_callv (As := [.int (iI 2)]) ⟨hx, hb, hml, hown, hts⟩ (c_X4_isFine l D ad cI hD0 (u) (2) (by omega)) (cwV 1 hts gX4_link_X4_isFine rfl rfl rfl (by decide +kernel) ⟨Nat.le_of_ble_eq_true rfl, Nat.le_of_ble_eq_true rfl⟩) hK hP hS rfl hl.1 rfl (Nat.le_of_ble_eq_true rfl) ⟨Nat.le_of_ble_eq_true rfl, Nat.le_of_ble_eq_true rfl⟩ dX4_link_47 (fun r9 u9 H locs hpost hP hS => ?_)
        obtain ⟨rfl, ⟨hc9, rfl⟩ | ⟨hc9, rfl⟩⟩ := hpost
        · exact absurd hc9 (by decide)
        have hR := hR.thr (2)
        have hD : va_D A (wM ad cI (pokeX u 3 (2))) := wM_D hD0
        refine h_if_ne (tgt := 55) hx hb (by omega) dX4_link_50 (by decide) (fun c_50 => by exfalso; omega) (fun c_50 => ?_)
        refine lv_iconst (v := iI 0) hx hb dX4_link_53 rfl ?_
        exact hret (0) ((pokeX u 3 (2))) _ _ _ _ dX4_link_54 rfl hP hS (by show spM _ _ _; unfold sp_link; rw [iteC_neg (by omega), iteC_pos (Or.inl (List.eq_nil_of_length_eq_zero (l := S.2 f) (by omega)))]; exact ⟨rfl, rfl, hR⟩)
      · skip
        refine lv_aload_n hx hb dX4_link_29 rfl (lv_at hl 0 rfl) ?_
        refine lv_iload_n hx hb dX4_link_30 rfl (lv_at hl 1 rfl) ?_
        refine lv_iload_n hx hb dX4_link_31 rfl (lv_at hl 2 rfl) ?_
        refine m_callv (As := [.int (iI (f)), .int (iI (d))]) ⟨hx, hb, hml, hown, hts⟩ (c_X4_linkTo l D ad cI hD0 hw (u) hR (f) (d) (by omega) (by omega) (by omega) (by omega) (by omega) (by omega)) (cwV 2 hts gX4_link_X4_linkTo rfl rfl rfl (by decide +kernel) ⟨Nat.le_of_ble_eq_true rfl, Nat.le_of_ble_eq_true rfl⟩) hK hP hS rfl hl.1 rfl (Nat.le_of_ble_eq_true rfl) ⟨Nat.le_of_ble_eq_true rfl, Nat.le_of_ble_eq_true rfl⟩ dX4_link_32 (fun r9 u9 H locs hpost hP hS => ?_)
        obtain ⟨rfl, x_3, rfl, hx_3⟩ := hpost
        have hD : va_D A (wM ad cI u) := wM_D hD0
        refine lv_iconst (v := iI (-1)) hx hb dX4_link_35 rfl ?_
        refine h_icmp_eq (tgt := 43) hx hb (by omega) (by omega) dX4_link_36 (by decide) (fun c_36 => ?_) (fun c_36 => ?_)
        · skip
          refine lv_iconst (v := iI 0) hx hb dX4_link_43 rfl ?_
          refine lv_istore_n (lv' := [(3, .int (iI 0)), (0, .ref (ad 11)), (1, .int (iI (f))), (2, .int (iI (d)))]) hx hb dX4_link_44 rfl hl (by decide) rfl (fun ls hl => ?_)
          refine lv_aload_n hx hb dX4_link_45 rfl (lv_at hl 1 rfl) ?_
          refine lv_iload_n hx hb dX4_link_46 rfl (lv_at hl 0 rfl) ?_
          refine m_callv (As := [.int (iI 0)]) ⟨hx, hb, hml, hown, hts⟩ (c_X4_isFine l D ad cI hD0 (u) (0) (by omega)) (cwV 1 hts gX4_link_X4_isFine rfl rfl rfl (by decide +kernel) ⟨Nat.le_of_ble_eq_true rfl, Nat.le_of_ble_eq_true rfl⟩) hK hP hS rfl hl.1 rfl (Nat.le_of_ble_eq_true rfl) ⟨Nat.le_of_ble_eq_true rfl, Nat.le_of_ble_eq_true rfl⟩ dX4_link_47 (fun r9 u9 H locs hpost hP hS => ?_)
          obtain ⟨rfl, ⟨hc9, rfl⟩ | ⟨hc9, rfl⟩⟩ := hpost
          rotate_left
          · exact absurd rfl hc9
          have hR := hR.thr (0)
          have hD : va_D A (wM ad cI (pokeX u 3 (0))) := wM_D hD0
          refine h_if_ne (tgt := 55) hx hb (by omega) dX4_link_50 (by decide) (fun c_50 => ?_) (fun c_50 => by exfalso; omega)
          have hlt9 := hw.lenlt h0 h1 (d := d) (by omega) (by omega) (hx_3.elim (fun y => y.2) (fun y => by omega))
          refine lv_aload_n hx hb dX4_link_55 rfl (lv_at hl 1 rfl) ?_
          refine m_get hx hb hts hin hown hK hP 5 (by decide) (v := .ref (ad 4)) rfl (hts (.fieldLink RX4 26 "HoldServerModel" "link" "[I") (by decide +kernel)) rfl dX4_link_56 ?_
          refine lv_bipush (v := iI 12) hx hb dX4_link_59 (by decide) ?_
          refine lv_iload_n hx hb dX4_link_61 rfl (lv_at hl 2 rfl) ?_
          refine h_imul hx hb dX4_link_62 ?_
          refine lv_aload_n hx hb dX4_link_63 rfl (lv_at hl 1 rfl) ?_
          refine m_get hx hb hts hin hown hK hP 6 (by decide) (v := .ref (ad 5)) rfl (hts (.fieldLink RX4 29 "HoldServerModel" "links" "[I") (by decide +kernel)) rfl dX4_link_64 ?_
          refine lv_iload_n hx hb dX4_link_67 rfl (lv_at hl 2 rfl) ?_
          refine m_ld hx hb hK hP (k := 5) (by decide) (v := ((S.2 f).length : Int)) (by omega) (by show _ < ((30 : Nat) : Int); omega) (hR.len (by omega) (by omega)) dX4_link_68 ?_
          refine h_iadd hx hb dX4_link_69 ?_
          refine lv_iload_n hx hb dX4_link_70 rfl (lv_at hl 3 rfl) ?_
          refine m_st hx hb hK hP hD hS (k := 4) (by decide) (by omega) (by show _ < ((360 : Nat) : Int); omega) dX4_link_71 (fun H locs hP hD hS => ?_)
          refine lv_aload_n hx hb dX4_link_72 rfl (lv_at hl 1 rfl) ?_
          refine m_get hx hb hts hin hown hK hP 6 (by decide) (v := .ref (ad 5)) rfl (hts (.fieldLink RX4 29 "HoldServerModel" "links" "[I") (by decide +kernel)) rfl dX4_link_73 ?_
          refine lv_iload_n hx hb dX4_link_76 rfl (lv_at hl 2 rfl) ?_
          refine lv_dup2_11 hx hb dX4_link_77 rfl rfl ?_
          refine m_ld hx hb hK hP (k := 5) (by decide) (v := ((S.2 f).length : Int)) (by omega) (by show _ < ((30 : Nat) : Int); omega) (hR.len (by omega) (by omega)) dX4_link_78 ?_
          refine lv_iconst (v := iI 1) hx hb dX4_link_79 rfl ?_
          refine h_iadd hx hb dX4_link_80 ?_
          refine m_st hx hb hK hP hD hS (k := 5) (by decide) (by omega) (by show _ < ((30 : Nat) : Int); omega) dX4_link_81 (fun H locs hP hD hS => ?_)
          have hR := RelM.link hR hw (d := d) h0 h1 hlt9
          refine lv_aload_n hx hb dX4_link_82 rfl (lv_at hl 1 rfl) ?_
          refine m_get hx hb hts hin hown hK hP 6 (by decide) (v := .ref (ad 5)) rfl (hts (.fieldLink RX4 29 "HoldServerModel" "links" "[I") (by decide +kernel)) rfl dX4_link_83 ?_
          refine lv_iload_n hx hb dX4_link_86 rfl (lv_at hl 2 rfl) ?_
          refine m_ld hx hb hK hP (k := 5) (by decide) (v := ((S.2 f).length : Int) + 1) (by omega) (by show _ < ((30 : Nat) : Int); omega) (by rw [pokeF_1 _ 5 5 h0 h0, if_pos ⟨rfl, rfl⟩]) dX4_link_87 ?_
          exact hret ((((S.2 f).length : Int) + 1)) ((pokeF (pokeF (pokeX u 3 (0)) 4 (((12 * f) + (((S.2 f).length : Int)))) (d)) 5 (f) (((((S.2 f).length : Int)) + 1)))) _ _ _ _ dX4_link_88 rfl hP hS (by show spM _ _ _; unfold sp_link; rw [iteC_neg (by omega), iteC_neg (fun q => q.elim (fun z => by rw [z] at c_26; exact c_26 rfl) (fun z => hx_3.elim (fun y => y.2 z) (fun y => by omega)))]; exact ⟨rfl, rfl, hR⟩)
        · skip
          refine lv_iconst (v := iI 2) hx hb dX4_link_39 rfl ?_
          refine lv_goto (tgt := 44) hx hb dX4_link_40 (by decide) ?_
          refine lv_istore_n (lv' := [(3, .int (iI 2)), (0, .ref (ad 11)), (1, .int (iI (f))), (2, .int (iI (d)))]) hx hb dX4_link_44 rfl hl (by decide) rfl (fun ls hl => ?_)
          refine lv_aload_n hx hb dX4_link_45 rfl (lv_at hl 1 rfl) ?_
          refine lv_iload_n hx hb dX4_link_46 rfl (lv_at hl 0 rfl) ?_
          refine m_callv (As := [.int (iI 2)]) ⟨hx, hb, hml, hown, hts⟩ (c_X4_isFine l D ad cI hD0 (u) (2) (by omega)) (cwV 1 hts gX4_link_X4_isFine rfl rfl rfl (by decide +kernel) ⟨Nat.le_of_ble_eq_true rfl, Nat.le_of_ble_eq_true rfl⟩) hK hP hS rfl hl.1 rfl (Nat.le_of_ble_eq_true rfl) ⟨Nat.le_of_ble_eq_true rfl, Nat.le_of_ble_eq_true rfl⟩ dX4_link_47 (fun r9 u9 H locs hpost hP hS => ?_)
          obtain ⟨rfl, ⟨hc9, rfl⟩ | ⟨hc9, rfl⟩⟩ := hpost
          · exact absurd hc9 (by decide)
          have hR := hR.thr (2)
          have hD : va_D A (wM ad cI (pokeX u 3 (2))) := wM_D hD0
          refine h_if_ne (tgt := 55) hx hb (by omega) dX4_link_50 (by decide) (fun c_50 => by exfalso; omega) (fun c_50 => ?_)
          refine lv_iconst (v := iI 0) hx hb dX4_link_53 rfl ?_
          exact hret (0) ((pokeX u 3 (2))) _ _ _ _ dX4_link_54 rfl hP hS (by show spM _ _ _; unfold sp_link; rw [iteC_neg (by omega), iteC_pos (Or.inr (hx_3.elim (fun q => absurd q.1 c_36) (fun q => getD_mem q.1 q.2.1 q.2.2)))]; exact ⟨rfl, rfl, hR⟩)
    · skip
      refine h_if_ne (tgt := 20) hx hb (by omega) dX4_link_13 (by decide) (fun c_13 => by exfalso; omega) (fun c_13 => ?_)
      refine lv_iconst (v := iI 1) hx hb dX4_link_16 rfl ?_
      refine lv_goto (tgt := 44) hx hb dX4_link_17 (by decide) ?_
      refine lv_istore_n (lv' := [(3, .int (iI 1)), (0, .ref (ad 11)), (1, .int (iI (f))), (2, .int (iI (d)))]) hx hb dX4_link_44 rfl hl (by decide) rfl (fun ls hl => ?_)
      refine lv_aload_n hx hb dX4_link_45 rfl (lv_at hl 1 rfl) ?_
      refine lv_iload_n hx hb dX4_link_46 rfl (lv_at hl 0 rfl) ?_
      refine m_callv (As := [.int (iI 1)]) ⟨hx, hb, hml, hown, hts⟩ (c_X4_isFine l D ad cI hD0 (u) (1) (by omega)) (cwV 1 hts gX4_link_X4_isFine rfl rfl rfl (by decide +kernel) ⟨Nat.le_of_ble_eq_true rfl, Nat.le_of_ble_eq_true rfl⟩) hK hP hS rfl hl.1 rfl (Nat.le_of_ble_eq_true rfl) ⟨Nat.le_of_ble_eq_true rfl, Nat.le_of_ble_eq_true rfl⟩ dX4_link_47 (fun r9 u9 H locs hpost hP hS => ?_)
      obtain ⟨rfl, ⟨hc9, rfl⟩ | ⟨hc9, rfl⟩⟩ := hpost
      · exact absurd hc9 (by decide)
      have hR := hR.thr (1)
      have hD : va_D A (wM ad cI (pokeX u 3 (1))) := wM_D hD0
      refine h_if_ne (tgt := 55) hx hb (by omega) dX4_link_50 (by decide) (fun c_50 => by exfalso; omega) (fun c_50 => ?_)
      refine lv_iconst (v := iI 0) hx hb dX4_link_53 rfl ?_
      exact hret (0) ((pokeX u 3 (1))) _ _ _ _ dX4_link_54 rfl hP hS (by show spM _ _ _; unfold sp_link; rw [iteC_pos (by omega)]; exact ⟨rfl, rfl, hR⟩)
  · skip
    refine h_if_eq (tgt := 16) hx hb (by omega) dX4_link_5 (by decide) (fun c_5 => ?_) (fun c_5 => by exfalso; omega)
    refine lv_iconst (v := iI 1) hx hb dX4_link_16 rfl ?_
    refine lv_goto (tgt := 44) hx hb dX4_link_17 (by decide) ?_
    refine lv_istore_n (lv' := [(3, .int (iI 1)), (0, .ref (ad 11)), (1, .int (iI (f))), (2, .int (iI (d)))]) hx hb dX4_link_44 rfl hl (by decide) rfl (fun ls hl => ?_)
    refine lv_aload_n hx hb dX4_link_45 rfl (lv_at hl 1 rfl) ?_
    refine lv_iload_n hx hb dX4_link_46 rfl (lv_at hl 0 rfl) ?_
    refine m_callv (As := [.int (iI 1)]) ⟨hx, hb, hml, hown, hts⟩ (c_X4_isFine l D ad cI hD0 (u) (1) (by omega)) (cwV 1 hts gX4_link_X4_isFine rfl rfl rfl (by decide +kernel) ⟨Nat.le_of_ble_eq_true rfl, Nat.le_of_ble_eq_true rfl⟩) hK hP hS rfl hl.1 rfl (Nat.le_of_ble_eq_true rfl) ⟨Nat.le_of_ble_eq_true rfl, Nat.le_of_ble_eq_true rfl⟩ dX4_link_47 (fun r9 u9 H locs hpost hP hS => ?_)
    obtain ⟨rfl, ⟨hc9, rfl⟩ | ⟨hc9, rfl⟩⟩ := hpost
    · exact absurd hc9 (by decide)
    have hR := hR.thr (1)
    have hD : va_D A (wM ad cI (pokeX u 3 (1))) := wM_D hD0
    refine h_if_ne (tgt := 55) hx hb (by omega) dX4_link_50 (by decide) (fun c_50 => by exfalso; omega) (fun c_50 => ?_)
    refine lv_iconst (v := iI 0) hx hb dX4_link_53 rfl ?_
    exact hret (0) ((pokeX u 3 (1))) _ _ _ _ dX4_link_54 rfl hP hS (by show spM _ _ _; unfold sp_link; rw [iteC_pos (by omega)]; exact ⟨rfl, rfl, hR⟩)

set_option maxRecDepth 100000 in
set_option maxHeartbeats 4000000 in
theorem c_X4_unlink (l : Launch) (D : va_G) (ad : Nat → Nat) (cI : ClassId) {A : Nat → Prop} {u0 : MS} (hD0 : va_D A (wM ad cI u0)) {S : HdS} {n : Int} (hw : wf S n) (u : MS) (hR : RelM S u) (f d : Int)  (r_f : inQ f) (r_d : inQ d)  : mI l yX4_unlink wsX4_unlink { frames := 2, cells := 0, slots := 0, locals := 43 } D ad cI A [.ref (ad 11), .int (iI f), .int (iI d)] u (spM (sp_unlink S f d)) := by
  refine mI_of (cc := cX4_unlink) (maxL := 6) (ty := .int) (by decide) rfl (Nat.le_of_ble_eq_true rfl) ?_
  intro pp ee ss mm args below meth cc Q hx hb hml hown hts hP hK hS hret ls hl
  have hl : lv_has ls 6 [(0, .ref (ad 11)), (1, .int (iI (f))), (2, .int (iI (d)))] := hl
  have hin : ∀ w ∈ wsX40, w ∈ wsX4_unlink := fun w h => List.mem_cons_of_mem _ (List.mem_append_right _ h)
  have hD : va_D A (wM ad cI u) := wM_D hD0
  have hn1 := hw.nf
  have hn2 := hw.nd
  have hn3 := hw.day
  refine lv_aload_n hx hb dX4_unlink_0 rfl (lv_at hl 0 rfl) ?_
  refine lv_iload_n hx hb dX4_unlink_1 rfl (lv_at hl 1 rfl) ?_
  refine m_callv (As := [.int (iI (f))]) ⟨hx, hb, hml, hown, hts⟩ (c_X4_isFile l D ad cI hD0 hw (u) hR (f) (by omega)) (cwV 1 hts gX4_unlink_X4_isFile rfl rfl rfl (by decide +kernel) ⟨Nat.le_of_ble_eq_true rfl, Nat.le_of_ble_eq_true rfl⟩) hK hP hS rfl hl.1 rfl (Nat.le_of_ble_eq_true rfl) ⟨Nat.le_of_ble_eq_true rfl, Nat.le_of_ble_eq_true rfl⟩ dX4_unlink_2 (fun r9 u9 H locs hpost hP hS => ?_)
  obtain ⟨rfl, ⟨hc_1, rfl⟩ | ⟨hc_1, rfl⟩⟩ := hpost
  · skip
    refine h_if_eq (tgt := 16) hx hb (by omega) dX4_unlink_5 (by decide) (fun c_5 => by exfalso; omega) (fun c_5 => ?_)
    refine lv_aload_n hx hb dX4_unlink_8 rfl (lv_at hl 0 rfl) ?_
    refine lv_iload_n hx hb dX4_unlink_9 rfl (lv_at hl 2 rfl) ?_
    refine m_callv (As := [.int (iI (d))]) ⟨hx, hb, hml, hown, hts⟩ (c_X4_isDirectory l D ad cI hD0 hw (u) hR (d) (by omega)) (cwV 1 hts gX4_unlink_X4_isDirectory rfl rfl rfl (by decide +kernel) ⟨Nat.le_of_ble_eq_true rfl, Nat.le_of_ble_eq_true rfl⟩) hK hP hS rfl hl.1 rfl (Nat.le_of_ble_eq_true rfl) ⟨Nat.le_of_ble_eq_true rfl, Nat.le_of_ble_eq_true rfl⟩ dX4_unlink_10 (fun r9 u9 H locs hpost hP hS => ?_)
    obtain ⟨rfl, ⟨hc_2, rfl⟩ | ⟨hc_2, rfl⟩⟩ := hpost
    · skip
      refine h_if_ne (tgt := 20) hx hb (by omega) dX4_unlink_13 (by decide) (fun c_13 => ?_) (fun c_13 => by exfalso; omega)
      have h0 : 0 ≤ f := by omega
      have h1 : f < S.1 11 1 := by omega
      have hlen9 := hw.len h0 h1
      have hsiz9 := hw.siz h0 h1
      have hdep9 := hw.dep h0 h1
      have hkep9 := hw.kep h0 h1
      have hnum9 := hw.num
      have hhol9 := hw.hol h0 h1
      have husd9 := hw.usd h0 h1
      have hbac9 := hw.bac h0 h1
      refine lv_aload_n hx hb dX4_unlink_20 rfl (lv_at hl 0 rfl) ?_
      refine lv_iload_n hx hb dX4_unlink_21 rfl (lv_at hl 1 rfl) ?_
      refine lv_iload_n hx hb dX4_unlink_22 rfl (lv_at hl 2 rfl) ?_
      refine m_callv (As := [.int (iI (f)), .int (iI (d))]) ⟨hx, hb, hml, hown, hts⟩ (c_X4_linkTo l D ad cI hD0 hw (u) hR (f) (d) (by omega) (by omega) (by omega) (by omega) (by omega) (by omega)) (cwV 2 hts gX4_unlink_X4_linkTo rfl rfl rfl (by decide +kernel) ⟨Nat.le_of_ble_eq_true rfl, Nat.le_of_ble_eq_true rfl⟩) hK hP hS rfl hl.1 rfl (Nat.le_of_ble_eq_true rfl) ⟨Nat.le_of_ble_eq_true rfl, Nat.le_of_ble_eq_true rfl⟩ dX4_unlink_23 (fun r9 u9 H locs hpost hP hS => ?_)
      obtain ⟨rfl, x_3, rfl, hx_3⟩ := hpost
      have hD : va_D A (wM ad cI u) := wM_D hD0
      refine lv_iconst (v := iI (-1)) hx hb dX4_unlink_26 rfl ?_
      refine h_icmp_ne (tgt := 34) hx hb (by omega) (by omega) dX4_unlink_27 (by decide) (fun c_27 => ?_) (fun c_27 => ?_)
      · skip
        refine lv_iconst (v := iI 0) hx hb dX4_unlink_34 rfl ?_
        refine lv_istore_n (lv' := [(3, .int (iI 0)), (0, .ref (ad 11)), (1, .int (iI (f))), (2, .int (iI (d)))]) hx hb dX4_unlink_35 rfl hl (by decide) rfl (fun ls hl => ?_)
        refine lv_aload_n hx hb dX4_unlink_36 rfl (lv_at hl 1 rfl) ?_
        refine lv_iload_n hx hb dX4_unlink_37 rfl (lv_at hl 0 rfl) ?_
        refine m_callv (As := [.int (iI 0)]) ⟨hx, hb, hml, hown, hts⟩ (c_X4_isFine l D ad cI hD0 (u) (0) (by omega)) (cwV 1 hts gX4_unlink_X4_isFine rfl rfl rfl (by decide +kernel) ⟨Nat.le_of_ble_eq_true rfl, Nat.le_of_ble_eq_true rfl⟩) hK hP hS rfl hl.1 rfl (Nat.le_of_ble_eq_true rfl) ⟨Nat.le_of_ble_eq_true rfl, Nat.le_of_ble_eq_true rfl⟩ dX4_unlink_38 (fun r9 u9 H locs hpost hP hS => ?_)
        obtain ⟨rfl, ⟨hc9, rfl⟩ | ⟨hc9, rfl⟩⟩ := hpost
        rotate_left
        · exact absurd rfl hc9
        have hR := hR.thr (0)
        have hD : va_D A (wM ad cI (pokeX u 3 (0))) := wM_D hD0
        refine h_if_ne (tgt := 46) hx hb (by omega) dX4_unlink_41 (by decide) (fun c_41 => ?_) (fun c_41 => by exfalso; omega)
        refine lv_aload_n hx hb dX4_unlink_46 rfl (lv_at hl 1 rfl) ?_
        refine lv_iload_n hx hb dX4_unlink_47 rfl (lv_at hl 2 rfl) ?_
        refine lv_iload_n hx hb dX4_unlink_48 rfl (lv_at hl 3 rfl) ?_
        refine m_callv (As := [.int (iI (f)), .int (iI (d))]) ⟨hx, hb, hml, hown, hts⟩ (c_X4_linkTo l D ad cI hD0 hw ((pokeX u 3 (0))) hR (f) (d) (by omega) (by omega) (by omega) (by omega) (by omega) (by omega)) (cwV 2 hts gX4_unlink_X4_linkTo rfl rfl rfl (by decide +kernel) ⟨Nat.le_of_ble_eq_true rfl, Nat.le_of_ble_eq_true rfl⟩) hK hP hS rfl hl.1 rfl (Nat.le_of_ble_eq_true rfl) ⟨Nat.le_of_ble_eq_true rfl, Nat.le_of_ble_eq_true rfl⟩ dX4_unlink_49 (fun r9 u9 H locs hpost hP hS => ?_)
        obtain ⟨rfl, x_4, rfl, hx_4⟩ := hpost
        have hD : va_D A (wM ad cI (pokeX u 3 (0))) := wM_D hD0
        refine lv_istore (lv' := [(4, .int (iI (x_4))), (3, .int (iI 0)), (0, .ref (ad 11)), (1, .int (iI (f))), (2, .int (iI (d)))]) hx hb dX4_unlink_52 hl (by decide) rfl (fun ls hl => ?_)
        have hm9 : d ∈ S.2 f := hx_3.elim (fun q => absurd q.1 c_27) (fun q => getD_mem q.1 q.2.1 q.2.2)
        obtain ⟨a9, rfl⟩ : ∃ a : Nat, x_4 = (a : Int) := ⟨x_4.toNat, by rcases hx_4 with q | q; exact absurd hm9 q.2; omega⟩
        have ha9 : a9 < (S.2 f).length := by rcases hx_4 with q | q <;> omega
        have hd9 : (S.2 f).getD a9 0 = d := by rcases hx_4 with q | q; (exfalso; omega); simpa using q.2.2
        have he9 : (S.2 f).erase d = (S.2 f).eraseIdx a9 := erase_at (hw.nod h0 h1) ha9 hd9
        refine lv_aload_n hx hb dX4_unlink_54 rfl (lv_at hl 2 rfl) ?_
        refine m_get hx hb hts hin hown hK hP 6 (by decide) (v := .ref (ad 5)) rfl (hts (.fieldLink RX4 29 "HoldServerModel" "links" "[I") (by decide +kernel)) rfl dX4_unlink_55 ?_
        refine lv_iload_n hx hb dX4_unlink_58 rfl (lv_at hl 3 rfl) ?_
        refine lv_dup2_11 hx hb dX4_unlink_59 rfl rfl ?_
        refine m_ld hx hb hK hP (k := 5) (by decide) (v := ((S.2 f).length : Int)) (by omega) (by show _ < ((30 : Nat) : Int); omega) (hR.len (by omega) (by omega)) dX4_unlink_60 ?_
        refine lv_iconst (v := iI 1) hx hb dX4_unlink_61 rfl ?_
        refine h_isub hx hb dX4_unlink_62 ?_
        refine m_st hx hb hK hP hD hS (k := 5) (by decide) (by omega) (by show _ < ((30 : Nat) : Int); omega) dX4_unlink_63 (fun H locs hP hD hS => ?_)
        refine lv_iload hx hb dX4_unlink_64 (lv_at hl 0 rfl) ?_
        refine lv_istore (lv' := [(5, .int (iI ((a9 : Int)))), (4, .int (iI ((a9 : Int)))), (3, .int (iI 0)), (0, .ref (ad 11)), (1, .int (iI (f))), (2, .int (iI (d)))]) hx hb dX4_unlink_66 hl (by decide) rfl (fun ls hl => ?_)
        have lp68 : ∀ (n9 : Nat) (j : Nat), ((S.2 f).length : Int) - j < (n9 : Int) → (a9 ≤ j) → ((j : Int) ≤ ((S.2 f).length : Int) - 1) → ∀ (H : Heap) (locs : List Loc), va_P D vwCl (wM ad cI (shU (pokeF (pokeX u 3 (0)) 5 f (((S.2 f).length : Int) - 1)) f a9 (j : Int))) H → va_S A ss.heap H locs → ∀ (ls : Array Slot), lv_has ls 6 [(0, .ref (ad 11)), (1, .int (iI (f))), (2, .int (iI (d))), (3, .int (iI 0)), (4, .int (iI ((a9 : Int)))), (5, .int (iI ((j : Int))))] → W pp l ee { frames := 2, cells := 0, slots := 0, locals := 43 } ss mm args below meth cc H locs 0 0 Q (F0 mm 68 ls []) := by
          intro n9
          induction n9 with
          | zero => intro j hms hj1 hj2 H locs hP hS ls hl; exfalso; omega
          | succ n9 ih9 =>
            intro j hms hj1 hj2 H locs hP hS ls hl
            have hD : va_D A (wM ad cI (shU (pokeF (pokeX u 3 (0)) 5 f (((S.2 f).length : Int) - 1)) f a9 (j : Int))) := wM_D hD0
            refine lv_iload hx hb dX4_unlink_68 (lv_at hl 5 rfl) ?_
            refine lv_aload_n hx hb dX4_unlink_70 rfl (lv_at hl 0 rfl) ?_
            refine m_get hx hb hts hin hown hK hP 6 (by decide) (v := .ref (ad 5)) rfl (hts (.fieldLink RX4 29 "HoldServerModel" "links" "[I") (by decide +kernel)) rfl dX4_unlink_71 ?_
            refine lv_iload_n hx hb dX4_unlink_74 rfl (lv_at hl 1 rfl) ?_
            refine m_ld hx hb hK hP (k := 5) (by decide) (v := ((S.2 f).length : Int) - 1) (by omega) (by show _ < ((30 : Nat) : Int); omega) (by rw [shU_o _ _ _ _ (by decide), pokeF_1 _ 5 5 h0 h0, if_pos ⟨rfl, rfl⟩]) dX4_unlink_75 ?_
            refine h_icmp_ge (tgt := 111) hx hb (by omega) (by omega) dX4_unlink_76 (by decide) (fun c_76 => ?_) (fun c_76 => ?_)
            · skip
              have hj9 : (j : Int) = ((S.2 f).length : Int) - 1 := by omega
              have hR := RelM.unlink hR hw h0 h1 ha9
              rw [← he9] at hR
              rw [hj9] at hP hD
              refine lv_aload_n hx hb dX4_unlink_111 rfl (lv_at hl 0 rfl) ?_
              refine m_get hx hb hts hin hown hK hP 6 (by decide) (v := .ref (ad 5)) rfl (hts (.fieldLink RX4 29 "HoldServerModel" "links" "[I") (by decide +kernel)) rfl dX4_unlink_112 ?_
              refine lv_iload_n hx hb dX4_unlink_115 rfl (lv_at hl 1 rfl) ?_
              refine m_ld hx hb hK hP (k := 5) (by decide) (v := ((S.2 f).length : Int) - 1) (by omega) (by show _ < ((30 : Nat) : Int); omega) ((by have q := hR.len (i := f) h0 h1; simp only [sset_2, slks_2, if_pos] at q; rw [q, he9, List.length_eraseIdx_of_lt ha9]; congr 1; omega)) dX4_unlink_116 ?_
              refine h_if_ne (tgt := 162) hx hb (by omega) dX4_unlink_117 (by decide) (fun c_117 => ?_) (fun c_117 => ?_)
              · skip
                refine lv_aload_n hx hb dX4_unlink_162 rfl (lv_at hl 0 rfl) ?_
                refine m_get hx hb hts hin hown hK hP 6 (by decide) (v := .ref (ad 5)) rfl (hts (.fieldLink RX4 29 "HoldServerModel" "links" "[I") (by decide +kernel)) rfl dX4_unlink_163 ?_
                refine lv_iload_n hx hb dX4_unlink_166 rfl (lv_at hl 1 rfl) ?_
                refine m_ld hx hb hK hP (k := 5) (by decide) (v := ((S.2 f).length : Int) - 1) (by omega) (by show _ < ((30 : Nat) : Int); omega) ((by have q := hR.len (i := f) h0 h1; simp only [sset_2, slks_2, if_pos] at q; rw [q, he9, List.length_eraseIdx_of_lt ha9]; congr 1; omega)) dX4_unlink_167 ?_
                exact hret ((((S.2 f).length : Int) - 1)) ((shU (pokeF (pokeX u 3 (0)) 5 f (((S.2 f).length : Int) - 1)) f a9 (((S.2 f).length : Int) - 1))) _ _ _ _ dX4_unlink_168 rfl hP hS (by show spM _ _ _; unfold sp_unlink; rw [iteC_neg (by omega), iteC_neg (fun q => q hm9)]; refine ⟨rfl, rfl, ?_⟩; unfold s_unlink; rw [if_neg (fun q => by rw [he9] at q; have q2 := congrArg List.length q; rw [List.length_eraseIdx_of_lt ha9] at q2; simp at q2; omega)]; exact hR)
              · skip
                refine lv_aload_n hx hb dX4_unlink_120 rfl (lv_at hl 0 rfl) ?_
                refine m_get hx hb hts hin hown hK hP 7 (by decide) (v := .ref (ad 6)) rfl (hts (.fieldLink RX4 32 "HoldServerModel" "kept" "[I") (by decide +kernel)) rfl dX4_unlink_121 ?_
                refine lv_iload_n hx hb dX4_unlink_124 rfl (lv_at hl 1 rfl) ?_
                refine lv_dup2_11 hx hb dX4_unlink_125 rfl rfl ?_
                refine m_ld hx hb hK hP (k := 6) (by decide) (v := S.1 6 f) (by omega) (by show _ < ((30 : Nat) : Int); omega) (hR.fil (k := 6) (by decide) h0 h1) dX4_unlink_126 ?_
                refine lv_aload_n hx hb dX4_unlink_127 rfl (lv_at hl 0 rfl) ?_
                refine m_get hx hb hts hin hown hK hP 8 (by decide) (v := .ref (ad 7)) rfl (hts (.fieldLink RX4 35 "HoldServerModel" "holders" "[I") (by decide +kernel)) rfl dX4_unlink_128 ?_
                refine lv_iload_n hx hb dX4_unlink_131 rfl (lv_at hl 1 rfl) ?_
                refine m_ld hx hb hK hP (k := 7) (by decide) (v := S.1 7 f) (by omega) (by show _ < ((30 : Nat) : Int); omega) (hR.fil (k := 7) (by decide) h0 h1) dX4_unlink_132 ?_
                refine h_if_ne (tgt := 140) hx hb (by omega) dX4_unlink_133 (by decide) (fun c_133 => ?_) (fun c_133 => ?_)
                · skip
                  refine lv_aload_n hx hb dX4_unlink_140 rfl (lv_at hl 0 rfl) ?_
                  refine m_get hx hb hts hin hown hK hP 4 (by decide) (v := .ref (ad 3)) rfl (hts (.fieldLink RX4 23 "HoldServerModel" "size" "[I") (by decide +kernel)) rfl dX4_unlink_141 ?_
                  refine lv_iload_n hx hb dX4_unlink_144 rfl (lv_at hl 1 rfl) ?_
                  refine m_ld hx hb hK hP (k := 3) (by decide) (v := S.1 3 f) (by omega) (by show _ < ((30 : Nat) : Int); omega) (hR.fil (k := 3) (by decide) h0 h1) dX4_unlink_145 ?_
                  refine h_iadd hx hb dX4_unlink_146 ?_
                  refine m_st hx hb hK hP hD hS (k := 6) (by decide) (by omega) (by show _ < ((30 : Nat) : Int); omega) dX4_unlink_147 (fun H locs hP hD hS => ?_)
                  have hR := RelM.setfil hR (k := 6) (by decide) (i := f) (v := ((S.1 6 f) + (S.1 3 f))) h0 h1
                  refine lv_aload_n hx hb dX4_unlink_148 rfl (lv_at hl 0 rfl) ?_
                  refine m_get hx hb hts hin hown hK hP 4 (by decide) (v := .ref (ad 3)) rfl (hts (.fieldLink RX4 23 "HoldServerModel" "size" "[I") (by decide +kernel)) rfl dX4_unlink_149 ?_
                  refine lv_iload_n hx hb dX4_unlink_152 rfl (lv_at hl 1 rfl) ?_
                  refine lv_iconst (v := iI 0) hx hb dX4_unlink_153 rfl ?_
                  refine m_st hx hb hK hP hD hS (k := 3) (by decide) (by omega) (by show _ < ((30 : Nat) : Int); omega) dX4_unlink_154 (fun H locs hP hD hS => ?_)
                  have hR := RelM.setfil hR (k := 3) (by decide) (i := f) (v := 0) h0 h1
                  refine lv_aload_n hx hb dX4_unlink_155 rfl (lv_at hl 0 rfl) ?_
                  refine m_get hx hb hts hin hown hK hP 10 (by decide) (v := .ref (ad 9)) rfl (hts (.fieldLink RX4 41 "HoldServerModel" "back" "[I") (by decide +kernel)) rfl dX4_unlink_156 ?_
                  refine lv_iload_n hx hb dX4_unlink_159 rfl (lv_at hl 1 rfl) ?_
                  refine lv_iconst (v := iI (-1)) hx hb dX4_unlink_160 rfl ?_
                  refine m_st hx hb hK hP hD hS (k := 9) (by decide) (by omega) (by show _ < ((30 : Nat) : Int); omega) dX4_unlink_161 (fun H locs hP hD hS => ?_)
                  have hR := RelM.setfil hR (k := 9) (by decide) (i := f) (v := -1) h0 h1
                  refine lv_aload_n hx hb dX4_unlink_162 rfl (lv_at hl 0 rfl) ?_
                  refine m_get hx hb hts hin hown hK hP 6 (by decide) (v := .ref (ad 5)) rfl (hts (.fieldLink RX4 29 "HoldServerModel" "links" "[I") (by decide +kernel)) rfl dX4_unlink_163 ?_
                  refine lv_iload_n hx hb dX4_unlink_166 rfl (lv_at hl 1 rfl) ?_
                  refine m_ld hx hb hK hP (k := 5) (by decide) (v := ((S.2 f).length : Int) - 1) (by omega) (by show _ < ((30 : Nat) : Int); omega) ((by have q := hR.len (i := f) h0 h1; simp only [sset_2, slks_2, if_pos] at q; rw [q, he9, List.length_eraseIdx_of_lt ha9]; congr 1; omega)) dX4_unlink_167 ?_
                  exact hret ((((S.2 f).length : Int) - 1)) ((pokeF (pokeF (pokeF (shU (pokeF (pokeX u 3 (0)) 5 f (((S.2 f).length : Int) - 1)) f a9 (((S.2 f).length : Int) - 1)) 6 (f) (((S.1 6 f) + (S.1 3 f)))) 3 (f) (0)) 9 (f) ((-1)))) _ _ _ _ dX4_unlink_168 rfl hP hS (by show spM _ _ _; unfold sp_unlink; rw [iteC_neg (by omega), iteC_neg (fun q => q hm9)]; refine ⟨rfl, rfl, ?_⟩; have hn9 : (S.2 f).erase d = [] := List.eq_nil_of_length_eq_zero (by rw [he9, List.length_eraseIdx_of_lt ha9]; omega); unfold s_unlink keepT; rw [if_pos hn9]; rw [if_neg c_133]; rw [hn9] at hR; exact hR)
                · skip
                  refine lv_iconst (v := iI 0) hx hb dX4_unlink_136 rfl ?_
                  refine lv_goto (tgt := 146) hx hb dX4_unlink_137 (by decide) ?_
                  refine h_iadd hx hb dX4_unlink_146 ?_
                  refine m_st hx hb hK hP hD hS (k := 6) (by decide) (by omega) (by show _ < ((30 : Nat) : Int); omega) dX4_unlink_147 (fun H locs hP hD hS => ?_)
                  have hR := RelM.setfil hR (k := 6) (by decide) (i := f) (v := ((S.1 6 f) + 0)) h0 h1
                  refine lv_aload_n hx hb dX4_unlink_148 rfl (lv_at hl 0 rfl) ?_
                  refine m_get hx hb hts hin hown hK hP 4 (by decide) (v := .ref (ad 3)) rfl (hts (.fieldLink RX4 23 "HoldServerModel" "size" "[I") (by decide +kernel)) rfl dX4_unlink_149 ?_
                  refine lv_iload_n hx hb dX4_unlink_152 rfl (lv_at hl 1 rfl) ?_
                  refine lv_iconst (v := iI 0) hx hb dX4_unlink_153 rfl ?_
                  refine m_st hx hb hK hP hD hS (k := 3) (by decide) (by omega) (by show _ < ((30 : Nat) : Int); omega) dX4_unlink_154 (fun H locs hP hD hS => ?_)
                  have hR := RelM.setfil hR (k := 3) (by decide) (i := f) (v := 0) h0 h1
                  refine lv_aload_n hx hb dX4_unlink_155 rfl (lv_at hl 0 rfl) ?_
                  refine m_get hx hb hts hin hown hK hP 10 (by decide) (v := .ref (ad 9)) rfl (hts (.fieldLink RX4 41 "HoldServerModel" "back" "[I") (by decide +kernel)) rfl dX4_unlink_156 ?_
                  refine lv_iload_n hx hb dX4_unlink_159 rfl (lv_at hl 1 rfl) ?_
                  refine lv_iconst (v := iI (-1)) hx hb dX4_unlink_160 rfl ?_
                  refine m_st hx hb hK hP hD hS (k := 9) (by decide) (by omega) (by show _ < ((30 : Nat) : Int); omega) dX4_unlink_161 (fun H locs hP hD hS => ?_)
                  have hR := RelM.setfil hR (k := 9) (by decide) (i := f) (v := -1) h0 h1
                  refine lv_aload_n hx hb dX4_unlink_162 rfl (lv_at hl 0 rfl) ?_
                  refine m_get hx hb hts hin hown hK hP 6 (by decide) (v := .ref (ad 5)) rfl (hts (.fieldLink RX4 29 "HoldServerModel" "links" "[I") (by decide +kernel)) rfl dX4_unlink_163 ?_
                  refine lv_iload_n hx hb dX4_unlink_166 rfl (lv_at hl 1 rfl) ?_
                  refine m_ld hx hb hK hP (k := 5) (by decide) (v := ((S.2 f).length : Int) - 1) (by omega) (by show _ < ((30 : Nat) : Int); omega) ((by have q := hR.len (i := f) h0 h1; simp only [sset_2, slks_2, if_pos] at q; rw [q, he9, List.length_eraseIdx_of_lt ha9]; congr 1; omega)) dX4_unlink_167 ?_
                  exact hret ((((S.2 f).length : Int) - 1)) ((pokeF (pokeF (pokeF (shU (pokeF (pokeX u 3 (0)) 5 f (((S.2 f).length : Int) - 1)) f a9 (((S.2 f).length : Int) - 1)) 6 (f) (((S.1 6 f) + 0))) 3 (f) (0)) 9 (f) ((-1)))) _ _ _ _ dX4_unlink_168 rfl hP hS (by show spM _ _ _; unfold sp_unlink; rw [iteC_neg (by omega), iteC_neg (fun q => q hm9)]; refine ⟨rfl, rfl, ?_⟩; have hn9 : (S.2 f).erase d = [] := List.eq_nil_of_length_eq_zero (by rw [he9, List.length_eraseIdx_of_lt ha9]; omega); unfold s_unlink keepT; rw [if_pos hn9]; rw [if_pos c_133]; rw [hn9] at hR; exact hR)
            · skip
              refine lv_aload_n hx hb dX4_unlink_79 rfl (lv_at hl 0 rfl) ?_
              refine m_get hx hb hts hin hown hK hP 5 (by decide) (v := .ref (ad 4)) rfl (hts (.fieldLink RX4 26 "HoldServerModel" "link" "[I") (by decide +kernel)) rfl dX4_unlink_80 ?_
              refine lv_bipush (v := iI 12) hx hb dX4_unlink_83 (by decide) ?_
              refine lv_iload_n hx hb dX4_unlink_85 rfl (lv_at hl 1 rfl) ?_
              refine h_imul hx hb dX4_unlink_86 ?_
              refine lv_iload hx hb dX4_unlink_87 (lv_at hl 5 rfl) ?_
              refine h_iadd hx hb dX4_unlink_89 ?_
              refine lv_aload_n hx hb dX4_unlink_90 rfl (lv_at hl 0 rfl) ?_
              refine m_get hx hb hts hin hown hK hP 5 (by decide) (v := .ref (ad 4)) rfl (hts (.fieldLink RX4 26 "HoldServerModel" "link" "[I") (by decide +kernel)) rfl dX4_unlink_91 ?_
              refine lv_bipush (v := iI 12) hx hb dX4_unlink_94 (by decide) ?_
              refine lv_iload_n hx hb dX4_unlink_96 rfl (lv_at hl 1 rfl) ?_
              refine h_imul hx hb dX4_unlink_97 ?_
              refine lv_iload hx hb dX4_unlink_98 (lv_at hl 5 rfl) ?_
              refine h_iadd hx hb dX4_unlink_100 ?_
              refine lv_iconst (v := iI 1) hx hb dX4_unlink_101 rfl ?_
              refine h_iadd hx hb dX4_unlink_102 ?_
              refine m_ld hx hb hK hP (k := 4) (by decide) (v := (S.2 f).getD (j + 1) 0) (by omega) (by show _ < ((360 : Nat) : Int); omega) (by rw [shU_4 _ _ _ _ (by omega), if_neg (by omega), pokeF_1 _ 5 4 h0 (by omega), if_neg (by omega), show 12 * f + (j : Int) + 1 = 12 * f + ((j + 1 : Nat) : Int) from by omega]; exact hR.lnk h0 h1 (by omega)) dX4_unlink_103 ?_
              refine m_st hx hb hK hP hD hS (k := 4) (by decide) (by omega) (by show _ < ((360 : Nat) : Int); omega) dX4_unlink_104 (fun H locs hP hD hS => ?_)
              refine lv_iinc (v := iI (((j : Int) + 1))) (lv' := [(5, .int (iI (((j : Int) + 1)))), (0, .ref (ad 11)), (1, .int (iI (f))), (2, .int (iI (d))), (3, .int (iI 0)), (4, .int (iI ((a9 : Int))))]) hx hb dX4_unlink_105 hl (k := 5) rfl (iI_add _ _) (by decide) rfl (fun ls hl => ?_)
              refine lv_goto (tgt := 68) hx hb dX4_unlink_108 (by decide) ?_
              have eU9 := shU_1 (pokeF (pokeX u 3 (0)) 5 f (((S.2 f).length : Int) - 1)) f a9 (j : Int) (x := 12 * f + j) (v := (S.2 f).getD (j + 1) 0) rfl (by omega) (by omega) (by rw [pokeF_1 _ 5 4 h0 (by omega), if_neg (by omega), show 12 * f + (j : Int) + 1 = 12 * f + ((j + 1 : Nat) : Int) from by omega]; exact hR.lnk h0 h1 (by omega))
              exact ih9 (j + 1) (by omega) (by omega) (by omega) H locs (by rw [show ((j + 1 : Nat) : Int) = (j : Int) + 1 from by omega, ← eU9]; exact hP) hS ls (by rw [show ((j + 1 : Nat) : Int) = (j : Int) + 1 from by omega]; exact (lv_sub hl [1, 2, 3, 4, 5, 0] rfl))
        exact lp68 ((S.2 f).length + 1) a9 (by omega) (by omega) (by omega) _ _ (by rw [shU_0]; exact hP) hS ls (lv_sub hl [3, 4, 5, 2, 1, 0] rfl)
      · skip
        refine lv_iconst (v := iI 2) hx hb dX4_unlink_30 rfl ?_
        refine lv_goto (tgt := 35) hx hb dX4_unlink_31 (by decide) ?_
        refine lv_istore_n (lv' := [(3, .int (iI 2)), (0, .ref (ad 11)), (1, .int (iI (f))), (2, .int (iI (d)))]) hx hb dX4_unlink_35 rfl hl (by decide) rfl (fun ls hl => ?_)
        refine lv_aload_n hx hb dX4_unlink_36 rfl (lv_at hl 1 rfl) ?_
        refine lv_iload_n hx hb dX4_unlink_37 rfl (lv_at hl 0 rfl) ?_
        refine m_callv (As := [.int (iI 2)]) ⟨hx, hb, hml, hown, hts⟩ (c_X4_isFine l D ad cI hD0 (u) (2) (by omega)) (cwV 1 hts gX4_unlink_X4_isFine rfl rfl rfl (by decide +kernel) ⟨Nat.le_of_ble_eq_true rfl, Nat.le_of_ble_eq_true rfl⟩) hK hP hS rfl hl.1 rfl (Nat.le_of_ble_eq_true rfl) ⟨Nat.le_of_ble_eq_true rfl, Nat.le_of_ble_eq_true rfl⟩ dX4_unlink_38 (fun r9 u9 H locs hpost hP hS => ?_)
        obtain ⟨rfl, ⟨hc9, rfl⟩ | ⟨hc9, rfl⟩⟩ := hpost
        · exact absurd hc9 (by decide)
        have hR := hR.thr (2)
        have hD : va_D A (wM ad cI (pokeX u 3 (2))) := wM_D hD0
        refine h_if_ne (tgt := 46) hx hb (by omega) dX4_unlink_41 (by decide) (fun c_41 => by exfalso; omega) (fun c_41 => ?_)
        refine lv_iconst (v := iI 0) hx hb dX4_unlink_44 rfl ?_
        exact hret (0) ((pokeX u 3 (2))) _ _ _ _ dX4_unlink_45 rfl hP hS (by show spM _ _ _; unfold sp_unlink; rw [iteC_neg (by omega), iteC_pos (hx_3.elim (fun q => q.2) (fun q => by omega))]; exact ⟨rfl, rfl, hR⟩)
    · skip
      refine h_if_ne (tgt := 20) hx hb (by omega) dX4_unlink_13 (by decide) (fun c_13 => by exfalso; omega) (fun c_13 => ?_)
      refine lv_iconst (v := iI 1) hx hb dX4_unlink_16 rfl ?_
      refine lv_goto (tgt := 35) hx hb dX4_unlink_17 (by decide) ?_
      refine lv_istore_n (lv' := [(3, .int (iI 1)), (0, .ref (ad 11)), (1, .int (iI (f))), (2, .int (iI (d)))]) hx hb dX4_unlink_35 rfl hl (by decide) rfl (fun ls hl => ?_)
      refine lv_aload_n hx hb dX4_unlink_36 rfl (lv_at hl 1 rfl) ?_
      refine lv_iload_n hx hb dX4_unlink_37 rfl (lv_at hl 0 rfl) ?_
      refine m_callv (As := [.int (iI 1)]) ⟨hx, hb, hml, hown, hts⟩ (c_X4_isFine l D ad cI hD0 (u) (1) (by omega)) (cwV 1 hts gX4_unlink_X4_isFine rfl rfl rfl (by decide +kernel) ⟨Nat.le_of_ble_eq_true rfl, Nat.le_of_ble_eq_true rfl⟩) hK hP hS rfl hl.1 rfl (Nat.le_of_ble_eq_true rfl) ⟨Nat.le_of_ble_eq_true rfl, Nat.le_of_ble_eq_true rfl⟩ dX4_unlink_38 (fun r9 u9 H locs hpost hP hS => ?_)
      obtain ⟨rfl, ⟨hc9, rfl⟩ | ⟨hc9, rfl⟩⟩ := hpost
      · exact absurd hc9 (by decide)
      have hR := hR.thr (1)
      have hD : va_D A (wM ad cI (pokeX u 3 (1))) := wM_D hD0
      refine h_if_ne (tgt := 46) hx hb (by omega) dX4_unlink_41 (by decide) (fun c_41 => by exfalso; omega) (fun c_41 => ?_)
      refine lv_iconst (v := iI 0) hx hb dX4_unlink_44 rfl ?_
      exact hret (0) ((pokeX u 3 (1))) _ _ _ _ dX4_unlink_45 rfl hP hS (by show spM _ _ _; unfold sp_unlink; rw [iteC_pos (by omega)]; exact ⟨rfl, rfl, hR⟩)
  · skip
    refine h_if_eq (tgt := 16) hx hb (by omega) dX4_unlink_5 (by decide) (fun c_5 => ?_) (fun c_5 => by exfalso; omega)
    refine lv_iconst (v := iI 1) hx hb dX4_unlink_16 rfl ?_
    refine lv_goto (tgt := 35) hx hb dX4_unlink_17 (by decide) ?_
    refine lv_istore_n (lv' := [(3, .int (iI 1)), (0, .ref (ad 11)), (1, .int (iI (f))), (2, .int (iI (d)))]) hx hb dX4_unlink_35 rfl hl (by decide) rfl (fun ls hl => ?_)
    refine lv_aload_n hx hb dX4_unlink_36 rfl (lv_at hl 1 rfl) ?_
    refine lv_iload_n hx hb dX4_unlink_37 rfl (lv_at hl 0 rfl) ?_
    refine m_callv (As := [.int (iI 1)]) ⟨hx, hb, hml, hown, hts⟩ (c_X4_isFine l D ad cI hD0 (u) (1) (by omega)) (cwV 1 hts gX4_unlink_X4_isFine rfl rfl rfl (by decide +kernel) ⟨Nat.le_of_ble_eq_true rfl, Nat.le_of_ble_eq_true rfl⟩) hK hP hS rfl hl.1 rfl (Nat.le_of_ble_eq_true rfl) ⟨Nat.le_of_ble_eq_true rfl, Nat.le_of_ble_eq_true rfl⟩ dX4_unlink_38 (fun r9 u9 H locs hpost hP hS => ?_)
    obtain ⟨rfl, ⟨hc9, rfl⟩ | ⟨hc9, rfl⟩⟩ := hpost
    · exact absurd hc9 (by decide)
    have hR := hR.thr (1)
    have hD : va_D A (wM ad cI (pokeX u 3 (1))) := wM_D hD0
    refine h_if_ne (tgt := 46) hx hb (by omega) dX4_unlink_41 (by decide) (fun c_41 => by exfalso; omega) (fun c_41 => ?_)
    refine lv_iconst (v := iI 0) hx hb dX4_unlink_44 rfl ?_
    exact hret (0) ((pokeX u 3 (1))) _ _ _ _ dX4_unlink_45 rfl hP hS (by show spM _ _ _; unfold sp_unlink; rw [iteC_pos (by omega)]; exact ⟨rfl, rfl, hR⟩)

set_option maxRecDepth 100000 in
set_option maxHeartbeats 4000000 in
theorem c_X4_write (l : Launch) (D : va_G) (ad : Nat → Nat) (cI : ClassId) {A : Nat → Prop} {u0 : MS} (hD0 : va_D A (wM ad cI u0)) {S : HdS} {n : Int} (hw : wf S n) (u : MS) (hR : RelM S u) (f z : Int)  (r_f : inQ f) (r_z : inQ z)  : mI l yX4_write wsX4_write { frames := 3, cells := 0, slots := 0, locals := 71 } D ad cI A [.ref (ad 11), .int (iI f), .int (iI z)] u (spM (sp_write S f z)) := by
  refine mI_of (cc := cX4_write) (maxL := 4) (ty := .int) (by decide) rfl (Nat.le_of_ble_eq_true rfl) ?_
  intro pp ee ss mm args below meth cc Q hx hb hml hown hts hP hK hS hret ls hl
  have hl : lv_has ls 4 [(0, .ref (ad 11)), (1, .int (iI (f))), (2, .int (iI (z)))] := hl
  have hin : ∀ w ∈ wsX40, w ∈ wsX4_write := fun w h => List.mem_cons_of_mem _ (List.mem_append_right _ h)
  have hD : va_D A (wM ad cI u) := wM_D hD0
  have hn1 := hw.nf
  have hn2 := hw.nd
  have hn3 := hw.day
  refine lv_aload_n hx hb dX4_write_0 rfl (lv_at hl 0 rfl) ?_
  refine lv_iload_n hx hb dX4_write_1 rfl (lv_at hl 1 rfl) ?_
  refine m_callv (As := [.int (iI (f))]) ⟨hx, hb, hml, hown, hts⟩ (c_X4_isFile l D ad cI hD0 hw (u) hR (f) (by omega)) (cwV 1 hts gX4_write_X4_isFile rfl rfl rfl (by decide +kernel) ⟨Nat.le_of_ble_eq_true rfl, Nat.le_of_ble_eq_true rfl⟩) hK hP hS rfl hl.1 rfl (Nat.le_of_ble_eq_true rfl) ⟨Nat.le_of_ble_eq_true rfl, Nat.le_of_ble_eq_true rfl⟩ dX4_write_2 (fun r9 u9 H locs hpost hP hS => ?_)
  obtain ⟨rfl, ⟨hc_1, rfl⟩ | ⟨hc_1, rfl⟩⟩ := hpost
  · skip
    refine h_if_ne (tgt := 12) hx hb (by omega) dX4_write_5 (by decide) (fun c_5 => ?_) (fun c_5 => by exfalso; omega)
    have h0 : 0 ≤ f := by omega
    have h1 : f < S.1 11 1 := by omega
    have hlen9 := hw.len h0 h1
    have hsiz9 := hw.siz h0 h1
    have hdep9 := hw.dep h0 h1
    have hkep9 := hw.kep h0 h1
    have hnum9 := hw.num
    have hhol9 := hw.hol h0 h1
    have husd9 := hw.usd h0 h1
    have hbac9 := hw.bac h0 h1
    refine lv_iload_n hx hb dX4_write_12 rfl (lv_at hl 2 rfl) ?_
    refine lv_iconst (v := iI 1) hx hb dX4_write_13 rfl ?_
    refine lv_sipush (v := iI 1000) hx hb dX4_write_14 (by decide) ?_
    refine m_calls (As := [.int (iI (z)), .int (iI 1), .int (iI 1000)]) ⟨hx, hb, hml, hown, hts⟩ (c_X4_in l D ad cI hD0 (u) (z) (1) (1000) (by omega) (by omega) (by omega)) (va_cwS 3 hts gX4_write_X4_in rfl rfl rfl (by decide +kernel) ⟨Nat.le_of_ble_eq_true rfl, Nat.le_of_ble_eq_true rfl⟩) hK hP hS rfl hl.1 rfl (Nat.le_of_ble_eq_true rfl) ⟨Nat.le_of_ble_eq_true rfl, Nat.le_of_ble_eq_true rfl⟩ dX4_write_17 (fun r9 u9 H locs hpost hP hS => ?_)
    obtain ⟨rfl, ⟨hc_2, rfl⟩ | ⟨hc_2, rfl⟩⟩ := hpost
    · skip
      refine h_if_ne (tgt := 27) hx hb (by omega) dX4_write_20 (by decide) (fun c_20 => ?_) (fun c_20 => by exfalso; omega)
      refine lv_aload_n hx hb dX4_write_27 rfl (lv_at hl 0 rfl) ?_
      refine m_get hx hb hts hin hown hK hP 6 (by decide) (v := .ref (ad 5)) rfl (hts (.fieldLink RX4 29 "HoldServerModel" "links" "[I") (by decide +kernel)) rfl dX4_write_28 ?_
      refine lv_iload_n hx hb dX4_write_31 rfl (lv_at hl 1 rfl) ?_
      refine m_ld hx hb hK hP (k := 5) (by decide) (v := ((S.2 f).length : Int)) (by omega) (by show _ < ((30 : Nat) : Int); omega) (hR.len (by omega) (by omega)) dX4_write_32 ?_
      refine h_if_eq (tgt := 45) hx hb (by omega) dX4_write_33 (by decide) (fun c_33 => ?_) (fun c_33 => ?_)
      · skip
        refine lv_iconst (v := iI 3) hx hb dX4_write_45 rfl ?_
        refine lv_goto (tgt := 50) hx hb dX4_write_46 (by decide) ?_
        refine lv_istore_n (lv' := [(3, .int (iI 3)), (0, .ref (ad 11)), (1, .int (iI (f))), (2, .int (iI (z)))]) hx hb dX4_write_50 rfl hl (by decide) rfl (fun ls hl => ?_)
        refine lv_iload_n hx hb dX4_write_51 rfl (lv_at hl 0 rfl) ?_
        refine h_if_ne (tgt := 93) hx hb (by omega) dX4_write_52 (by decide) (fun c_52 => ?_) (fun c_52 => by exfalso; omega)
        refine lv_aload_n hx hb dX4_write_93 rfl (lv_at hl 1 rfl) ?_
        refine lv_iload_n hx hb dX4_write_94 rfl (lv_at hl 0 rfl) ?_
        refine m_callv (As := [.int (iI 3)]) ⟨hx, hb, hml, hown, hts⟩ (c_X4_isFine l D ad cI hD0 (u) (3) (by omega)) (cwV 1 hts gX4_write_X4_isFine rfl rfl rfl (by decide +kernel) ⟨Nat.le_of_ble_eq_true rfl, Nat.le_of_ble_eq_true rfl⟩) hK hP hS rfl hl.1 rfl (Nat.le_of_ble_eq_true rfl) ⟨Nat.le_of_ble_eq_true rfl, Nat.le_of_ble_eq_true rfl⟩ dX4_write_95 (fun r9 u9 H locs hpost hP hS => ?_)
        obtain ⟨rfl, ⟨hc9, rfl⟩ | ⟨hc9, rfl⟩⟩ := hpost
        · exact absurd hc9 (by decide)
        have hR := hR.thr (3)
        have hD : va_D A (wM ad cI (pokeX u 3 (3))) := wM_D hD0
        refine h_if_ne (tgt := 103) hx hb (by omega) dX4_write_98 (by decide) (fun c_98 => by exfalso; omega) (fun c_98 => ?_)
        refine lv_iconst (v := iI 0) hx hb dX4_write_101 rfl ?_
        exact hret (0) ((pokeX u 3 (3))) _ _ _ _ dX4_write_102 rfl hP hS (by show spM _ _ _; unfold sp_write; rw [iteC_neg (by omega), iteC_neg (by omega), iteC_pos (Or.inl (List.eq_nil_of_length_eq_zero (l := S.2 f) (by omega)))]; exact ⟨rfl, rfl, hR⟩)
      · skip
        refine lv_aload_n hx hb dX4_write_36 rfl (lv_at hl 0 rfl) ?_
        refine lv_iload_n hx hb dX4_write_37 rfl (lv_at hl 1 rfl) ?_
        refine m_callv (As := [.int (iI (f))]) ⟨hx, hb, hml, hown, hts⟩ (c_X4_tierOf l D ad cI hD0 hw (u) hR (f) (by omega) (by omega) (by omega)) (cwV 1 hts gX4_write_X4_tierOf rfl rfl rfl (by decide +kernel) ⟨Nat.le_of_ble_eq_true rfl, Nat.le_of_ble_eq_true rfl⟩) hK hP hS rfl hl.1 rfl (Nat.le_of_ble_eq_true rfl) ⟨Nat.le_of_ble_eq_true rfl, Nat.le_of_ble_eq_true rfl⟩ dX4_write_38 (fun r9 u9 H locs hpost hP hS => ?_)
        obtain ⟨rfl, rfl⟩ := hpost
        have ht9 := tier_in (S := S) (f)
        refine lv_iconst (v := iI 2) hx hb dX4_write_41 rfl ?_
        refine h_icmp_ne (tgt := 49) hx hb (by omega) (by omega) dX4_write_42 (by decide) (fun c_42 => ?_) (fun c_42 => ?_)
        · skip
          refine lv_iconst (v := iI 0) hx hb dX4_write_49 rfl ?_
          refine lv_istore_n (lv' := [(3, .int (iI 0)), (0, .ref (ad 11)), (1, .int (iI (f))), (2, .int (iI (z)))]) hx hb dX4_write_50 rfl hl (by decide) rfl (fun ls hl => ?_)
          refine lv_iload_n hx hb dX4_write_51 rfl (lv_at hl 0 rfl) ?_
          refine h_if_ne (tgt := 93) hx hb (by omega) dX4_write_52 (by decide) (fun c_52 => by exfalso; omega) (fun c_52 => ?_)
          refine lv_iload_n hx hb dX4_write_55 rfl (lv_at hl 3 rfl) ?_
          refine lv_aload_n hx hb dX4_write_56 rfl (lv_at hl 1 rfl) ?_
          refine m_get hx hb hts hin hown hK hP 4 (by decide) (v := .ref (ad 3)) rfl (hts (.fieldLink RX4 23 "HoldServerModel" "size" "[I") (by decide +kernel)) rfl dX4_write_57 ?_
          refine lv_iload_n hx hb dX4_write_60 rfl (lv_at hl 2 rfl) ?_
          refine m_ld hx hb hK hP (k := 3) (by decide) (v := S.1 3 f) (by omega) (by show _ < ((30 : Nat) : Int); omega) (hR.fil (by decide) (by omega) (by omega)) dX4_write_61 ?_
          refine h_icmp_le (tgt := 93) hx hb (by omega) (by omega) dX4_write_62 (by decide) (fun c_62 => ?_) (fun c_62 => ?_)
          · skip
            refine lv_aload_n hx hb dX4_write_93 rfl (lv_at hl 1 rfl) ?_
            refine lv_iload_n hx hb dX4_write_94 rfl (lv_at hl 0 rfl) ?_
            refine m_callv (As := [.int (iI 0)]) ⟨hx, hb, hml, hown, hts⟩ (c_X4_isFine l D ad cI hD0 (u) (0) (by omega)) (cwV 1 hts gX4_write_X4_isFine rfl rfl rfl (by decide +kernel) ⟨Nat.le_of_ble_eq_true rfl, Nat.le_of_ble_eq_true rfl⟩) hK hP hS rfl hl.1 rfl (Nat.le_of_ble_eq_true rfl) ⟨Nat.le_of_ble_eq_true rfl, Nat.le_of_ble_eq_true rfl⟩ dX4_write_95 (fun r9 u9 H locs hpost hP hS => ?_)
            obtain ⟨rfl, ⟨hc9, rfl⟩ | ⟨hc9, rfl⟩⟩ := hpost
            rotate_left
            · exact absurd rfl hc9
            have hR := hR.thr (0)
            have hD : va_D A (wM ad cI (pokeX u 3 (0))) := wM_D hD0
            refine h_if_ne (tgt := 103) hx hb (by omega) dX4_write_98 (by decide) (fun c_98 => ?_) (fun c_98 => by exfalso; omega)
            refine lv_aload_n hx hb dX4_write_103 rfl (lv_at hl 1 rfl) ?_
            refine m_get hx hb hts hin hown hK hP 7 (by decide) (v := .ref (ad 6)) rfl (hts (.fieldLink RX4 32 "HoldServerModel" "kept" "[I") (by decide +kernel)) rfl dX4_write_104 ?_
            refine lv_iload_n hx hb dX4_write_107 rfl (lv_at hl 2 rfl) ?_
            refine lv_dup2_11 hx hb dX4_write_108 rfl rfl ?_
            refine m_ld hx hb hK hP (k := 6) (by decide) (v := S.1 6 f) (by omega) (by show _ < ((30 : Nat) : Int); omega) (hR.fil (k := 6) (by decide) h0 h1) dX4_write_109 ?_
            refine lv_aload_n hx hb dX4_write_110 rfl (lv_at hl 1 rfl) ?_
            refine m_get hx hb hts hin hown hK hP 8 (by decide) (v := .ref (ad 7)) rfl (hts (.fieldLink RX4 35 "HoldServerModel" "holders" "[I") (by decide +kernel)) rfl dX4_write_111 ?_
            refine lv_iload_n hx hb dX4_write_114 rfl (lv_at hl 2 rfl) ?_
            refine m_ld hx hb hK hP (k := 7) (by decide) (v := S.1 7 f) (by omega) (by show _ < ((30 : Nat) : Int); omega) (hR.fil (k := 7) (by decide) h0 h1) dX4_write_115 ?_
            refine h_if_ne (tgt := 123) hx hb (by omega) dX4_write_116 (by decide) (fun c_116 => ?_) (fun c_116 => ?_)
            · skip
              refine lv_aload_n hx hb dX4_write_123 rfl (lv_at hl 1 rfl) ?_
              refine m_get hx hb hts hin hown hK hP 4 (by decide) (v := .ref (ad 3)) rfl (hts (.fieldLink RX4 23 "HoldServerModel" "size" "[I") (by decide +kernel)) rfl dX4_write_124 ?_
              refine lv_iload_n hx hb dX4_write_127 rfl (lv_at hl 2 rfl) ?_
              refine m_ld hx hb hK hP (k := 3) (by decide) (v := S.1 3 f) (by omega) (by show _ < ((30 : Nat) : Int); omega) (hR.fil (k := 3) (by decide) h0 h1) dX4_write_128 ?_
              refine h_iadd hx hb dX4_write_129 ?_
              refine m_st hx hb hK hP hD hS (k := 6) (by decide) (by omega) (by show _ < ((30 : Nat) : Int); omega) dX4_write_130 (fun H locs hP hD hS => ?_)
              have hR := RelM.setfil hR (k := 6) (by decide) (i := f) (v := ((S.1 6 f) + (S.1 3 f))) h0 h1
              refine lv_aload_n hx hb dX4_write_131 rfl (lv_at hl 1 rfl) ?_
              refine m_get hx hb hts hin hown hK hP 4 (by decide) (v := .ref (ad 3)) rfl (hts (.fieldLink RX4 23 "HoldServerModel" "size" "[I") (by decide +kernel)) rfl dX4_write_132 ?_
              refine lv_iload_n hx hb dX4_write_135 rfl (lv_at hl 2 rfl) ?_
              refine lv_iload_n hx hb dX4_write_136 rfl (lv_at hl 3 rfl) ?_
              refine m_st hx hb hK hP hD hS (k := 3) (by decide) (by omega) (by show _ < ((30 : Nat) : Int); omega) dX4_write_137 (fun H locs hP hD hS => ?_)
              have hR := RelM.setfil hR (k := 3) (by decide) (i := f) (v := z) h0 h1
              refine lv_aload_n hx hb dX4_write_138 rfl (lv_at hl 1 rfl) ?_
              refine m_get hx hb hts hin hown hK hP 9 (by decide) (v := .ref (ad 8)) rfl (hts (.fieldLink RX4 38 "HoldServerModel" "used" "[I") (by decide +kernel)) rfl dX4_write_139 ?_
              refine lv_iload_n hx hb dX4_write_142 rfl (lv_at hl 2 rfl) ?_
              refine lv_aload_n hx hb dX4_write_143 rfl (lv_at hl 1 rfl) ?_
              refine m_geti hx hb hts hin hown hK hP 13 (by decide) (v := S.1 11 2) 2 rfl (hR.x2) (hts (.fieldLink RX4 82 "HoldServerModel" "day" "I") (by decide +kernel)) rfl dX4_write_144 ?_
              refine m_st hx hb hK hP hD hS (k := 8) (by decide) (by omega) (by show _ < ((30 : Nat) : Int); omega) dX4_write_147 (fun H locs hP hD hS => ?_)
              have hR := RelM.setfil hR (k := 8) (by decide) (i := f) (v := S.1 11 2) h0 h1
              refine lv_aload_n hx hb dX4_write_148 rfl (lv_at hl 1 rfl) ?_
              refine m_get hx hb hts hin hown hK hP 7 (by decide) (v := .ref (ad 6)) rfl (hts (.fieldLink RX4 32 "HoldServerModel" "kept" "[I") (by decide +kernel)) rfl dX4_write_149 ?_
              refine lv_iload_n hx hb dX4_write_152 rfl (lv_at hl 2 rfl) ?_
              refine m_ld hx hb hK hP (k := 6) (by decide) (v := ((S.1 6 f) + (S.1 3 f))) (by omega) (by show _ < ((30 : Nat) : Int); omega) (by have q := hR.fil (k := 6) (i := f) (by decide) h0 h1; simpa [sset_1] using q) dX4_write_153 ?_
              exact hret ((((S.1 6 f) + (S.1 3 f)))) ((pokeF (pokeF (pokeF (pokeX u 3 (0)) 6 (f) (((S.1 6 f) + (S.1 3 f)))) 3 (f) (z)) 8 (f) ((S.1 11 2)))) _ _ _ _ dX4_write_154 rfl hP hS (by show spM _ _ _; unfold sp_write s_write keepT; rw [iteC_neg (by omega), iteC_neg (by omega), iteC_neg (fun q => q.elim (fun z => by rw [z] at c_33; exact c_33 rfl) (fun z => by omega)), iteC_neg (fun q => by omega)]; rw [if_neg c_116]; exact ⟨rfl, rfl, hR⟩)
            · skip
              refine lv_iconst (v := iI 0) hx hb dX4_write_119 rfl ?_
              refine lv_goto (tgt := 129) hx hb dX4_write_120 (by decide) ?_
              refine h_iadd hx hb dX4_write_129 ?_
              refine m_st hx hb hK hP hD hS (k := 6) (by decide) (by omega) (by show _ < ((30 : Nat) : Int); omega) dX4_write_130 (fun H locs hP hD hS => ?_)
              have hR := RelM.setfil hR (k := 6) (by decide) (i := f) (v := ((S.1 6 f) + 0)) h0 h1
              refine lv_aload_n hx hb dX4_write_131 rfl (lv_at hl 1 rfl) ?_
              refine m_get hx hb hts hin hown hK hP 4 (by decide) (v := .ref (ad 3)) rfl (hts (.fieldLink RX4 23 "HoldServerModel" "size" "[I") (by decide +kernel)) rfl dX4_write_132 ?_
              refine lv_iload_n hx hb dX4_write_135 rfl (lv_at hl 2 rfl) ?_
              refine lv_iload_n hx hb dX4_write_136 rfl (lv_at hl 3 rfl) ?_
              refine m_st hx hb hK hP hD hS (k := 3) (by decide) (by omega) (by show _ < ((30 : Nat) : Int); omega) dX4_write_137 (fun H locs hP hD hS => ?_)
              have hR := RelM.setfil hR (k := 3) (by decide) (i := f) (v := z) h0 h1
              refine lv_aload_n hx hb dX4_write_138 rfl (lv_at hl 1 rfl) ?_
              refine m_get hx hb hts hin hown hK hP 9 (by decide) (v := .ref (ad 8)) rfl (hts (.fieldLink RX4 38 "HoldServerModel" "used" "[I") (by decide +kernel)) rfl dX4_write_139 ?_
              refine lv_iload_n hx hb dX4_write_142 rfl (lv_at hl 2 rfl) ?_
              refine lv_aload_n hx hb dX4_write_143 rfl (lv_at hl 1 rfl) ?_
              refine m_geti hx hb hts hin hown hK hP 13 (by decide) (v := S.1 11 2) 2 rfl (hR.x2) (hts (.fieldLink RX4 82 "HoldServerModel" "day" "I") (by decide +kernel)) rfl dX4_write_144 ?_
              refine m_st hx hb hK hP hD hS (k := 8) (by decide) (by omega) (by show _ < ((30 : Nat) : Int); omega) dX4_write_147 (fun H locs hP hD hS => ?_)
              have hR := RelM.setfil hR (k := 8) (by decide) (i := f) (v := S.1 11 2) h0 h1
              refine lv_aload_n hx hb dX4_write_148 rfl (lv_at hl 1 rfl) ?_
              refine m_get hx hb hts hin hown hK hP 7 (by decide) (v := .ref (ad 6)) rfl (hts (.fieldLink RX4 32 "HoldServerModel" "kept" "[I") (by decide +kernel)) rfl dX4_write_149 ?_
              refine lv_iload_n hx hb dX4_write_152 rfl (lv_at hl 2 rfl) ?_
              refine m_ld hx hb hK hP (k := 6) (by decide) (v := ((S.1 6 f) + 0)) (by omega) (by show _ < ((30 : Nat) : Int); omega) (by have q := hR.fil (k := 6) (i := f) (by decide) h0 h1; simpa [sset_1] using q) dX4_write_153 ?_
              exact hret ((((S.1 6 f) + 0))) ((pokeF (pokeF (pokeF (pokeX u 3 (0)) 6 (f) (((S.1 6 f) + 0))) 3 (f) (z)) 8 (f) ((S.1 11 2)))) _ _ _ _ dX4_write_154 rfl hP hS (by show spM _ _ _; unfold sp_write s_write keepT; rw [iteC_neg (by omega), iteC_neg (by omega), iteC_neg (fun q => q.elim (fun z => by rw [z] at c_33; exact c_33 rfl) (fun z => by omega)), iteC_neg (fun q => by omega)]; rw [if_pos c_116]; exact ⟨rfl, rfl, hR⟩)
          · skip
            have hne9 : S.2 f ≠ [] := fun z9 => by rw [z9] at c_33; exact c_33 rfl
            have hho9 := hw.home h0 h1 hne9
            refine lv_aload_n hx hb dX4_write_65 rfl (lv_at hl 1 rfl) ?_
            refine lv_aload_n hx hb dX4_write_66 rfl (lv_at hl 1 rfl) ?_
            refine m_get hx hb hts hin hown hK hP 3 (by decide) (v := .ref (ad 2)) rfl (hts (.fieldLink RX4 20 "HoldServerModel" "department" "[I") (by decide +kernel)) rfl dX4_write_67 ?_
            refine lv_iload_n hx hb dX4_write_70 rfl (lv_at hl 2 rfl) ?_
            refine m_ld hx hb hK hP (k := 2) (by decide) (v := S.1 2 f) (by omega) (by show _ < ((30 : Nat) : Int); omega) (hR.fil (by decide) (by omega) (by omega)) dX4_write_71 ?_
            refine lv_aload_n hx hb dX4_write_72 rfl (lv_at hl 1 rfl) ?_
            refine lv_iload_n hx hb dX4_write_73 rfl (lv_at hl 2 rfl) ?_
            refine m_callv (As := [.int (iI (f))]) ⟨hx, hb, hml, hown, hts⟩ (c_X4_homeOf l D ad cI hD0 hw (u) hR (f) (by omega) (by omega) (by omega)) (cwV 1 hts gX4_write_X4_homeOf rfl rfl rfl (by decide +kernel) ⟨Nat.le_of_ble_eq_true rfl, Nat.le_of_ble_eq_true rfl⟩) hK hP hS rfl hl.1 rfl (Nat.le_of_ble_eq_true rfl) ⟨Nat.le_of_ble_eq_true rfl, Nat.le_of_ble_eq_true rfl⟩ dX4_write_74 (fun r9 u9 H locs hpost hP hS => ?_)
            obtain ⟨rfl, rfl⟩ := hpost
            refine lv_iload_n hx hb dX4_write_77 rfl (lv_at hl 3 rfl) ?_
            refine lv_aload_n hx hb dX4_write_78 rfl (lv_at hl 1 rfl) ?_
            refine m_get hx hb hts hin hown hK hP 4 (by decide) (v := .ref (ad 3)) rfl (hts (.fieldLink RX4 23 "HoldServerModel" "size" "[I") (by decide +kernel)) rfl dX4_write_79 ?_
            refine lv_iload_n hx hb dX4_write_82 rfl (lv_at hl 2 rfl) ?_
            refine m_ld hx hb hK hP (k := 3) (by decide) (v := S.1 3 f) (by omega) (by show _ < ((30 : Nat) : Int); omega) (hR.fil (by decide) (by omega) (by omega)) dX4_write_83 ?_
            refine h_isub hx hb dX4_write_84 ?_
            refine m_callv (As := [.int (iI ((S.1 2 f))), .int (iI ((homeS S f))), .int (iI ((z - (S.1 3 f))))]) ⟨hx, hb, hml, hown, hts⟩ (c_X4_canGrow l D ad cI hD0 hw (u) hR ((S.1 2 f)) ((homeS S f)) ((z - (S.1 3 f))) (by omega) (by omega) (by omega) (by omega) (by omega) (by omega) (by omega) (by omega) (by omega)) (cwV 3 hts gX4_write_X4_canGrow rfl rfl rfl (by decide +kernel) ⟨Nat.le_of_ble_eq_true rfl, Nat.le_of_ble_eq_true rfl⟩) hK hP hS rfl hl.1 rfl (Nat.le_of_ble_eq_true rfl) ⟨Nat.le_of_ble_eq_true rfl, Nat.le_of_ble_eq_true rfl⟩ dX4_write_85 (fun r9 u9 H locs hpost hP hS => ?_)
            obtain ⟨rfl, ⟨hc_3, rfl⟩ | ⟨hc_3, rfl⟩⟩ := hpost
            · skip
              refine h_if_ne (tgt := 93) hx hb (by omega) dX4_write_88 (by decide) (fun c_88 => ?_) (fun c_88 => by exfalso; omega)
              refine lv_aload_n hx hb dX4_write_93 rfl (lv_at hl 1 rfl) ?_
              refine lv_iload_n hx hb dX4_write_94 rfl (lv_at hl 0 rfl) ?_
              refine m_callv (As := [.int (iI 0)]) ⟨hx, hb, hml, hown, hts⟩ (c_X4_isFine l D ad cI hD0 (u) (0) (by omega)) (cwV 1 hts gX4_write_X4_isFine rfl rfl rfl (by decide +kernel) ⟨Nat.le_of_ble_eq_true rfl, Nat.le_of_ble_eq_true rfl⟩) hK hP hS rfl hl.1 rfl (Nat.le_of_ble_eq_true rfl) ⟨Nat.le_of_ble_eq_true rfl, Nat.le_of_ble_eq_true rfl⟩ dX4_write_95 (fun r9 u9 H locs hpost hP hS => ?_)
              obtain ⟨rfl, ⟨hc9, rfl⟩ | ⟨hc9, rfl⟩⟩ := hpost
              rotate_left
              · exact absurd rfl hc9
              have hR := hR.thr (0)
              have hD : va_D A (wM ad cI (pokeX u 3 (0))) := wM_D hD0
              refine h_if_ne (tgt := 103) hx hb (by omega) dX4_write_98 (by decide) (fun c_98 => ?_) (fun c_98 => by exfalso; omega)
              refine lv_aload_n hx hb dX4_write_103 rfl (lv_at hl 1 rfl) ?_
              refine m_get hx hb hts hin hown hK hP 7 (by decide) (v := .ref (ad 6)) rfl (hts (.fieldLink RX4 32 "HoldServerModel" "kept" "[I") (by decide +kernel)) rfl dX4_write_104 ?_
              refine lv_iload_n hx hb dX4_write_107 rfl (lv_at hl 2 rfl) ?_
              refine lv_dup2_11 hx hb dX4_write_108 rfl rfl ?_
              refine m_ld hx hb hK hP (k := 6) (by decide) (v := S.1 6 f) (by omega) (by show _ < ((30 : Nat) : Int); omega) (hR.fil (k := 6) (by decide) h0 h1) dX4_write_109 ?_
              refine lv_aload_n hx hb dX4_write_110 rfl (lv_at hl 1 rfl) ?_
              refine m_get hx hb hts hin hown hK hP 8 (by decide) (v := .ref (ad 7)) rfl (hts (.fieldLink RX4 35 "HoldServerModel" "holders" "[I") (by decide +kernel)) rfl dX4_write_111 ?_
              refine lv_iload_n hx hb dX4_write_114 rfl (lv_at hl 2 rfl) ?_
              refine m_ld hx hb hK hP (k := 7) (by decide) (v := S.1 7 f) (by omega) (by show _ < ((30 : Nat) : Int); omega) (hR.fil (k := 7) (by decide) h0 h1) dX4_write_115 ?_
              refine h_if_ne (tgt := 123) hx hb (by omega) dX4_write_116 (by decide) (fun c_116 => ?_) (fun c_116 => ?_)
              · skip
                refine lv_aload_n hx hb dX4_write_123 rfl (lv_at hl 1 rfl) ?_
                refine m_get hx hb hts hin hown hK hP 4 (by decide) (v := .ref (ad 3)) rfl (hts (.fieldLink RX4 23 "HoldServerModel" "size" "[I") (by decide +kernel)) rfl dX4_write_124 ?_
                refine lv_iload_n hx hb dX4_write_127 rfl (lv_at hl 2 rfl) ?_
                refine m_ld hx hb hK hP (k := 3) (by decide) (v := S.1 3 f) (by omega) (by show _ < ((30 : Nat) : Int); omega) (hR.fil (k := 3) (by decide) h0 h1) dX4_write_128 ?_
                refine h_iadd hx hb dX4_write_129 ?_
                refine m_st hx hb hK hP hD hS (k := 6) (by decide) (by omega) (by show _ < ((30 : Nat) : Int); omega) dX4_write_130 (fun H locs hP hD hS => ?_)
                have hR := RelM.setfil hR (k := 6) (by decide) (i := f) (v := ((S.1 6 f) + (S.1 3 f))) h0 h1
                refine lv_aload_n hx hb dX4_write_131 rfl (lv_at hl 1 rfl) ?_
                refine m_get hx hb hts hin hown hK hP 4 (by decide) (v := .ref (ad 3)) rfl (hts (.fieldLink RX4 23 "HoldServerModel" "size" "[I") (by decide +kernel)) rfl dX4_write_132 ?_
                refine lv_iload_n hx hb dX4_write_135 rfl (lv_at hl 2 rfl) ?_
                refine lv_iload_n hx hb dX4_write_136 rfl (lv_at hl 3 rfl) ?_
                refine m_st hx hb hK hP hD hS (k := 3) (by decide) (by omega) (by show _ < ((30 : Nat) : Int); omega) dX4_write_137 (fun H locs hP hD hS => ?_)
                have hR := RelM.setfil hR (k := 3) (by decide) (i := f) (v := z) h0 h1
                refine lv_aload_n hx hb dX4_write_138 rfl (lv_at hl 1 rfl) ?_
                refine m_get hx hb hts hin hown hK hP 9 (by decide) (v := .ref (ad 8)) rfl (hts (.fieldLink RX4 38 "HoldServerModel" "used" "[I") (by decide +kernel)) rfl dX4_write_139 ?_
                refine lv_iload_n hx hb dX4_write_142 rfl (lv_at hl 2 rfl) ?_
                refine lv_aload_n hx hb dX4_write_143 rfl (lv_at hl 1 rfl) ?_
                refine m_geti hx hb hts hin hown hK hP 13 (by decide) (v := S.1 11 2) 2 rfl (hR.x2) (hts (.fieldLink RX4 82 "HoldServerModel" "day" "I") (by decide +kernel)) rfl dX4_write_144 ?_
                refine m_st hx hb hK hP hD hS (k := 8) (by decide) (by omega) (by show _ < ((30 : Nat) : Int); omega) dX4_write_147 (fun H locs hP hD hS => ?_)
                have hR := RelM.setfil hR (k := 8) (by decide) (i := f) (v := S.1 11 2) h0 h1
                refine lv_aload_n hx hb dX4_write_148 rfl (lv_at hl 1 rfl) ?_
                refine m_get hx hb hts hin hown hK hP 7 (by decide) (v := .ref (ad 6)) rfl (hts (.fieldLink RX4 32 "HoldServerModel" "kept" "[I") (by decide +kernel)) rfl dX4_write_149 ?_
                refine lv_iload_n hx hb dX4_write_152 rfl (lv_at hl 2 rfl) ?_
                refine m_ld hx hb hK hP (k := 6) (by decide) (v := ((S.1 6 f) + (S.1 3 f))) (by omega) (by show _ < ((30 : Nat) : Int); omega) (by have q := hR.fil (k := 6) (i := f) (by decide) h0 h1; simpa [sset_1] using q) dX4_write_153 ?_
                exact hret ((((S.1 6 f) + (S.1 3 f)))) ((pokeF (pokeF (pokeF (pokeX u 3 (0)) 6 (f) (((S.1 6 f) + (S.1 3 f)))) 3 (f) (z)) 8 (f) ((S.1 11 2)))) _ _ _ _ dX4_write_154 rfl hP hS (by show spM _ _ _; unfold sp_write s_write keepT; rw [iteC_neg (by omega), iteC_neg (by omega), iteC_neg (fun q => q.elim (fun z => by rw [z] at c_33; exact c_33 rfl) (fun z => by omega)), iteC_neg (fun q => q.2 hc_3)]; rw [if_neg c_116]; exact ⟨rfl, rfl, hR⟩)
              · skip
                refine lv_iconst (v := iI 0) hx hb dX4_write_119 rfl ?_
                refine lv_goto (tgt := 129) hx hb dX4_write_120 (by decide) ?_
                refine h_iadd hx hb dX4_write_129 ?_
                refine m_st hx hb hK hP hD hS (k := 6) (by decide) (by omega) (by show _ < ((30 : Nat) : Int); omega) dX4_write_130 (fun H locs hP hD hS => ?_)
                have hR := RelM.setfil hR (k := 6) (by decide) (i := f) (v := ((S.1 6 f) + 0)) h0 h1
                refine lv_aload_n hx hb dX4_write_131 rfl (lv_at hl 1 rfl) ?_
                refine m_get hx hb hts hin hown hK hP 4 (by decide) (v := .ref (ad 3)) rfl (hts (.fieldLink RX4 23 "HoldServerModel" "size" "[I") (by decide +kernel)) rfl dX4_write_132 ?_
                refine lv_iload_n hx hb dX4_write_135 rfl (lv_at hl 2 rfl) ?_
                refine lv_iload_n hx hb dX4_write_136 rfl (lv_at hl 3 rfl) ?_
                refine m_st hx hb hK hP hD hS (k := 3) (by decide) (by omega) (by show _ < ((30 : Nat) : Int); omega) dX4_write_137 (fun H locs hP hD hS => ?_)
                have hR := RelM.setfil hR (k := 3) (by decide) (i := f) (v := z) h0 h1
                refine lv_aload_n hx hb dX4_write_138 rfl (lv_at hl 1 rfl) ?_
                refine m_get hx hb hts hin hown hK hP 9 (by decide) (v := .ref (ad 8)) rfl (hts (.fieldLink RX4 38 "HoldServerModel" "used" "[I") (by decide +kernel)) rfl dX4_write_139 ?_
                refine lv_iload_n hx hb dX4_write_142 rfl (lv_at hl 2 rfl) ?_
                refine lv_aload_n hx hb dX4_write_143 rfl (lv_at hl 1 rfl) ?_
                refine m_geti hx hb hts hin hown hK hP 13 (by decide) (v := S.1 11 2) 2 rfl (hR.x2) (hts (.fieldLink RX4 82 "HoldServerModel" "day" "I") (by decide +kernel)) rfl dX4_write_144 ?_
                refine m_st hx hb hK hP hD hS (k := 8) (by decide) (by omega) (by show _ < ((30 : Nat) : Int); omega) dX4_write_147 (fun H locs hP hD hS => ?_)
                have hR := RelM.setfil hR (k := 8) (by decide) (i := f) (v := S.1 11 2) h0 h1
                refine lv_aload_n hx hb dX4_write_148 rfl (lv_at hl 1 rfl) ?_
                refine m_get hx hb hts hin hown hK hP 7 (by decide) (v := .ref (ad 6)) rfl (hts (.fieldLink RX4 32 "HoldServerModel" "kept" "[I") (by decide +kernel)) rfl dX4_write_149 ?_
                refine lv_iload_n hx hb dX4_write_152 rfl (lv_at hl 2 rfl) ?_
                refine m_ld hx hb hK hP (k := 6) (by decide) (v := ((S.1 6 f) + 0)) (by omega) (by show _ < ((30 : Nat) : Int); omega) (by have q := hR.fil (k := 6) (i := f) (by decide) h0 h1; simpa [sset_1] using q) dX4_write_153 ?_
                exact hret ((((S.1 6 f) + 0))) ((pokeF (pokeF (pokeF (pokeX u 3 (0)) 6 (f) (((S.1 6 f) + 0))) 3 (f) (z)) 8 (f) ((S.1 11 2)))) _ _ _ _ dX4_write_154 rfl hP hS (by show spM _ _ _; unfold sp_write s_write keepT; rw [iteC_neg (by omega), iteC_neg (by omega), iteC_neg (fun q => q.elim (fun z => by rw [z] at c_33; exact c_33 rfl) (fun z => by omega)), iteC_neg (fun q => q.2 hc_3)]; rw [if_pos c_116]; exact ⟨rfl, rfl, hR⟩)
            · skip
              refine h_if_ne (tgt := 93) hx hb (by omega) dX4_write_88 (by decide) (fun c_88 => by exfalso; omega) (fun c_88 => ?_)
              refine lv_iconst (v := iI 3) hx hb dX4_write_91 rfl ?_
              refine lv_istore_n (lv' := [(3, .int (iI 3)), (0, .ref (ad 11)), (1, .int (iI (f))), (2, .int (iI (z)))]) hx hb dX4_write_92 rfl hl (by decide) rfl (fun ls hl => ?_)
              refine lv_aload_n hx hb dX4_write_93 rfl (lv_at hl 1 rfl) ?_
              refine lv_iload_n hx hb dX4_write_94 rfl (lv_at hl 0 rfl) ?_
              refine m_callv (As := [.int (iI 3)]) ⟨hx, hb, hml, hown, hts⟩ (c_X4_isFine l D ad cI hD0 (u) (3) (by omega)) (cwV 1 hts gX4_write_X4_isFine rfl rfl rfl (by decide +kernel) ⟨Nat.le_of_ble_eq_true rfl, Nat.le_of_ble_eq_true rfl⟩) hK hP hS rfl hl.1 rfl (Nat.le_of_ble_eq_true rfl) ⟨Nat.le_of_ble_eq_true rfl, Nat.le_of_ble_eq_true rfl⟩ dX4_write_95 (fun r9 u9 H locs hpost hP hS => ?_)
              obtain ⟨rfl, ⟨hc9, rfl⟩ | ⟨hc9, rfl⟩⟩ := hpost
              · exact absurd hc9 (by decide)
              have hR := hR.thr (3)
              have hD : va_D A (wM ad cI (pokeX u 3 (3))) := wM_D hD0
              refine h_if_ne (tgt := 103) hx hb (by omega) dX4_write_98 (by decide) (fun c_98 => by exfalso; omega) (fun c_98 => ?_)
              refine lv_iconst (v := iI 0) hx hb dX4_write_101 rfl ?_
              exact hret (0) ((pokeX u 3 (3))) _ _ _ _ dX4_write_102 rfl hP hS (by show spM _ _ _; unfold sp_write; rw [iteC_neg (by omega), iteC_neg (by omega), iteC_neg (fun q => q.elim (fun z => by rw [z] at c_33; exact c_33 rfl) (fun z => by omega)), iteC_pos ⟨by omega, hc_3⟩]; exact ⟨rfl, rfl, hR⟩)
        · skip
          refine lv_iconst (v := iI 3) hx hb dX4_write_45 rfl ?_
          refine lv_goto (tgt := 50) hx hb dX4_write_46 (by decide) ?_
          refine lv_istore_n (lv' := [(3, .int (iI 3)), (0, .ref (ad 11)), (1, .int (iI (f))), (2, .int (iI (z)))]) hx hb dX4_write_50 rfl hl (by decide) rfl (fun ls hl => ?_)
          refine lv_iload_n hx hb dX4_write_51 rfl (lv_at hl 0 rfl) ?_
          refine h_if_ne (tgt := 93) hx hb (by omega) dX4_write_52 (by decide) (fun c_52 => ?_) (fun c_52 => by exfalso; omega)
          refine lv_aload_n hx hb dX4_write_93 rfl (lv_at hl 1 rfl) ?_
          refine lv_iload_n hx hb dX4_write_94 rfl (lv_at hl 0 rfl) ?_
          refine m_callv (As := [.int (iI 3)]) ⟨hx, hb, hml, hown, hts⟩ (c_X4_isFine l D ad cI hD0 (u) (3) (by omega)) (cwV 1 hts gX4_write_X4_isFine rfl rfl rfl (by decide +kernel) ⟨Nat.le_of_ble_eq_true rfl, Nat.le_of_ble_eq_true rfl⟩) hK hP hS rfl hl.1 rfl (Nat.le_of_ble_eq_true rfl) ⟨Nat.le_of_ble_eq_true rfl, Nat.le_of_ble_eq_true rfl⟩ dX4_write_95 (fun r9 u9 H locs hpost hP hS => ?_)
          obtain ⟨rfl, ⟨hc9, rfl⟩ | ⟨hc9, rfl⟩⟩ := hpost
          · exact absurd hc9 (by decide)
          have hR := hR.thr (3)
          have hD : va_D A (wM ad cI (pokeX u 3 (3))) := wM_D hD0
          refine h_if_ne (tgt := 103) hx hb (by omega) dX4_write_98 (by decide) (fun c_98 => by exfalso; omega) (fun c_98 => ?_)
          refine lv_iconst (v := iI 0) hx hb dX4_write_101 rfl ?_
          exact hret (0) ((pokeX u 3 (3))) _ _ _ _ dX4_write_102 rfl hP hS (by show spM _ _ _; unfold sp_write; rw [iteC_neg (by omega), iteC_neg (by omega), iteC_pos (Or.inr (by omega))]; exact ⟨rfl, rfl, hR⟩)
    · skip
      refine h_if_ne (tgt := 27) hx hb (by omega) dX4_write_20 (by decide) (fun c_20 => by exfalso; omega) (fun c_20 => ?_)
      refine lv_iconst (v := iI 2) hx hb dX4_write_23 rfl ?_
      refine lv_goto (tgt := 50) hx hb dX4_write_24 (by decide) ?_
      refine lv_istore_n (lv' := [(3, .int (iI 2)), (0, .ref (ad 11)), (1, .int (iI (f))), (2, .int (iI (z)))]) hx hb dX4_write_50 rfl hl (by decide) rfl (fun ls hl => ?_)
      refine lv_iload_n hx hb dX4_write_51 rfl (lv_at hl 0 rfl) ?_
      refine h_if_ne (tgt := 93) hx hb (by omega) dX4_write_52 (by decide) (fun c_52 => ?_) (fun c_52 => by exfalso; omega)
      refine lv_aload_n hx hb dX4_write_93 rfl (lv_at hl 1 rfl) ?_
      refine lv_iload_n hx hb dX4_write_94 rfl (lv_at hl 0 rfl) ?_
      refine m_callv (As := [.int (iI 2)]) ⟨hx, hb, hml, hown, hts⟩ (c_X4_isFine l D ad cI hD0 (u) (2) (by omega)) (cwV 1 hts gX4_write_X4_isFine rfl rfl rfl (by decide +kernel) ⟨Nat.le_of_ble_eq_true rfl, Nat.le_of_ble_eq_true rfl⟩) hK hP hS rfl hl.1 rfl (Nat.le_of_ble_eq_true rfl) ⟨Nat.le_of_ble_eq_true rfl, Nat.le_of_ble_eq_true rfl⟩ dX4_write_95 (fun r9 u9 H locs hpost hP hS => ?_)
      obtain ⟨rfl, ⟨hc9, rfl⟩ | ⟨hc9, rfl⟩⟩ := hpost
      · exact absurd hc9 (by decide)
      have hR := hR.thr (2)
      have hD : va_D A (wM ad cI (pokeX u 3 (2))) := wM_D hD0
      refine h_if_ne (tgt := 103) hx hb (by omega) dX4_write_98 (by decide) (fun c_98 => by exfalso; omega) (fun c_98 => ?_)
      refine lv_iconst (v := iI 0) hx hb dX4_write_101 rfl ?_
      exact hret (0) ((pokeX u 3 (2))) _ _ _ _ dX4_write_102 rfl hP hS (by show spM _ _ _; unfold sp_write; rw [iteC_neg (by omega), iteC_pos (by omega)]; exact ⟨rfl, rfl, hR⟩)
  · skip
    refine h_if_ne (tgt := 12) hx hb (by omega) dX4_write_5 (by decide) (fun c_5 => by exfalso; omega) (fun c_5 => ?_)
    refine lv_iconst (v := iI 1) hx hb dX4_write_8 rfl ?_
    refine lv_goto (tgt := 50) hx hb dX4_write_9 (by decide) ?_
    refine lv_istore_n (lv' := [(3, .int (iI 1)), (0, .ref (ad 11)), (1, .int (iI (f))), (2, .int (iI (z)))]) hx hb dX4_write_50 rfl hl (by decide) rfl (fun ls hl => ?_)
    refine lv_iload_n hx hb dX4_write_51 rfl (lv_at hl 0 rfl) ?_
    refine h_if_ne (tgt := 93) hx hb (by omega) dX4_write_52 (by decide) (fun c_52 => ?_) (fun c_52 => by exfalso; omega)
    refine lv_aload_n hx hb dX4_write_93 rfl (lv_at hl 1 rfl) ?_
    refine lv_iload_n hx hb dX4_write_94 rfl (lv_at hl 0 rfl) ?_
    refine m_callv (As := [.int (iI 1)]) ⟨hx, hb, hml, hown, hts⟩ (c_X4_isFine l D ad cI hD0 (u) (1) (by omega)) (cwV 1 hts gX4_write_X4_isFine rfl rfl rfl (by decide +kernel) ⟨Nat.le_of_ble_eq_true rfl, Nat.le_of_ble_eq_true rfl⟩) hK hP hS rfl hl.1 rfl (Nat.le_of_ble_eq_true rfl) ⟨Nat.le_of_ble_eq_true rfl, Nat.le_of_ble_eq_true rfl⟩ dX4_write_95 (fun r9 u9 H locs hpost hP hS => ?_)
    obtain ⟨rfl, ⟨hc9, rfl⟩ | ⟨hc9, rfl⟩⟩ := hpost
    · exact absurd hc9 (by decide)
    have hR := hR.thr (1)
    have hD : va_D A (wM ad cI (pokeX u 3 (1))) := wM_D hD0
    refine h_if_ne (tgt := 103) hx hb (by omega) dX4_write_98 (by decide) (fun c_98 => by exfalso; omega) (fun c_98 => ?_)
    refine lv_iconst (v := iI 0) hx hb dX4_write_101 rfl ?_
    exact hret (0) ((pokeX u 3 (1))) _ _ _ _ dX4_write_102 rfl hP hS (by show spM _ _ _; unfold sp_write; rw [iteC_pos (by omega)]; exact ⟨rfl, rfl, hR⟩)

set_option maxRecDepth 100000 in
set_option maxHeartbeats 4000000 in
theorem c_X4_read (l : Launch) (D : va_G) (ad : Nat → Nat) (cI : ClassId) {A : Nat → Prop} {u0 : MS} (hD0 : va_D A (wM ad cI u0)) {S : HdS} {n : Int} (hw : wf S n) (u : MS) (hR : RelM S u) (f : Int)  (r_f : inQ f)  : mI l yX4_read wsX4_read { frames := 2, cells := 0, slots := 0, locals := 43 } D ad cI A [.ref (ad 11), .int (iI f)] u (spM (sp_read S f)) := by
  refine mI_of (cc := cX4_read) (maxL := 4) (ty := .int) (by decide) rfl (Nat.le_of_ble_eq_true rfl) ?_
  intro pp ee ss mm args below meth cc Q hx hb hml hown hts hP hK hS hret ls hl
  have hl : lv_has ls 4 [(0, .ref (ad 11)), (1, .int (iI (f)))] := hl
  have hin : ∀ w ∈ wsX40, w ∈ wsX4_read := fun w h => List.mem_cons_of_mem _ (List.mem_append_right _ h)
  have hD : va_D A (wM ad cI u) := wM_D hD0
  have hn1 := hw.nf
  have hn2 := hw.nd
  have hn3 := hw.day
  refine lv_aload_n hx hb dX4_read_0 rfl (lv_at hl 0 rfl) ?_
  refine lv_iload_n hx hb dX4_read_1 rfl (lv_at hl 1 rfl) ?_
  refine m_callv (As := [.int (iI (f))]) ⟨hx, hb, hml, hown, hts⟩ (c_X4_isFile l D ad cI hD0 hw (u) hR (f) (by omega)) (cwV 1 hts gX4_read_X4_isFile rfl rfl rfl (by decide +kernel) ⟨Nat.le_of_ble_eq_true rfl, Nat.le_of_ble_eq_true rfl⟩) hK hP hS rfl hl.1 rfl (Nat.le_of_ble_eq_true rfl) ⟨Nat.le_of_ble_eq_true rfl, Nat.le_of_ble_eq_true rfl⟩ dX4_read_2 (fun r9 u9 H locs hpost hP hS => ?_)
  obtain ⟨rfl, ⟨hc_1, rfl⟩ | ⟨hc_1, rfl⟩⟩ := hpost
  · skip
    refine h_if_ne (tgt := 12) hx hb (by omega) dX4_read_5 (by decide) (fun c_5 => ?_) (fun c_5 => by exfalso; omega)
    have h0 : 0 ≤ f := by omega
    have h1 : f < S.1 11 1 := by omega
    have hlen9 := hw.len h0 h1
    have hsiz9 := hw.siz h0 h1
    have hdep9 := hw.dep h0 h1
    have hkep9 := hw.kep h0 h1
    have hnum9 := hw.num
    have hhol9 := hw.hol h0 h1
    have husd9 := hw.usd h0 h1
    have hbac9 := hw.bac h0 h1
    have hcoi9 := hw.coi (d := S.1 2 f) hdep9.1 hdep9.2
    refine lv_aload_n hx hb dX4_read_12 rfl (lv_at hl 0 rfl) ?_
    refine m_get hx hb hts hin hown hK hP 6 (by decide) (v := .ref (ad 5)) rfl (hts (.fieldLink RX4 29 "HoldServerModel" "links" "[I") (by decide +kernel)) rfl dX4_read_13 ?_
    refine lv_iload_n hx hb dX4_read_16 rfl (lv_at hl 1 rfl) ?_
    refine m_ld hx hb hK hP (k := 5) (by decide) (v := ((S.2 f).length : Int)) (by omega) (by show _ < ((30 : Nat) : Int); omega) (hR.len (by omega) (by omega)) dX4_read_17 ?_
    refine h_if_ne (tgt := 25) hx hb (by omega) dX4_read_18 (by decide) (fun c_18 => ?_) (fun c_18 => ?_)
    · skip
      refine lv_iconst (v := iI 0) hx hb dX4_read_25 rfl ?_
      refine lv_istore_n (lv' := [(2, .int (iI 0)), (0, .ref (ad 11)), (1, .int (iI (f)))]) hx hb dX4_read_26 rfl hl (by decide) rfl (fun ls hl => ?_)
      refine lv_iload_n hx hb dX4_read_27 rfl (lv_at hl 0 rfl) ?_
      refine h_if_ne (tgt := 46) hx hb (by omega) dX4_read_28 (by decide) (fun c_28 => by exfalso; omega) (fun c_28 => ?_)
      refine lv_aload_n hx hb dX4_read_31 rfl (lv_at hl 1 rfl) ?_
      refine m_get hx hb hts hin hown hK hP 4 (by decide) (v := .ref (ad 3)) rfl (hts (.fieldLink RX4 23 "HoldServerModel" "size" "[I") (by decide +kernel)) rfl dX4_read_32 ?_
      refine lv_iload_n hx hb dX4_read_35 rfl (lv_at hl 2 rfl) ?_
      refine m_ld hx hb hK hP (k := 3) (by decide) (v := S.1 3 f) (by omega) (by show _ < ((30 : Nat) : Int); omega) (hR.fil (by decide) (by omega) (by omega)) dX4_read_36 ?_
      refine lv_bipush (v := iI 9) hx hb dX4_read_37 (by decide) ?_
      refine h_iadd hx hb dX4_read_39 ?_
      refine lv_bipush (v := iI 10) hx hb dX4_read_40 (by decide) ?_
      refine h_idiv hx hb (by omega) (by omega) (by omega) (by omega) dX4_read_42 ?_
      refine lv_goto (tgt := 47) hx hb dX4_read_43 (by decide) ?_
      refine lv_istore_n (lv' := [(3, .int (iI ((((S.1 3 f) + 9) / 10)))), (2, .int (iI 0)), (0, .ref (ad 11)), (1, .int (iI (f)))]) hx hb dX4_read_47 rfl hl (by decide) rfl (fun ls hl => ?_)
      refine lv_iload_n hx hb dX4_read_48 rfl (lv_at hl 1 rfl) ?_
      refine h_if_ne (tgt := 88) hx hb (by omega) dX4_read_49 (by decide) (fun c_49 => by exfalso; omega) (fun c_49 => ?_)
      refine lv_aload_n hx hb dX4_read_52 rfl (lv_at hl 2 rfl) ?_
      refine lv_iload_n hx hb dX4_read_53 rfl (lv_at hl 3 rfl) ?_
      refine m_callv (As := [.int (iI (f))]) ⟨hx, hb, hml, hown, hts⟩ (c_X4_tierOf l D ad cI hD0 hw (u) hR (f) (by omega) (by omega) (by omega)) (cwV 1 hts gX4_read_X4_tierOf rfl rfl rfl (by decide +kernel) ⟨Nat.le_of_ble_eq_true rfl, Nat.le_of_ble_eq_true rfl⟩) hK hP hS rfl hl.1 rfl (Nat.le_of_ble_eq_true rfl) ⟨Nat.le_of_ble_eq_true rfl, Nat.le_of_ble_eq_true rfl⟩ dX4_read_54 (fun r9 u9 H locs hpost hP hS => ?_)
      obtain ⟨rfl, rfl⟩ := hpost
      have ht9 := tier_in (S := S) (f)
      refine lv_iconst (v := iI 2) hx hb dX4_read_57 rfl ?_
      refine h_icmp_ne (tgt := 88) hx hb (by omega) (by omega) dX4_read_58 (by decide) (fun c_58 => ?_) (fun c_58 => ?_)
      · skip
        refine lv_aload_n hx hb dX4_read_88 rfl (lv_at hl 2 rfl) ?_
        refine lv_iload_n hx hb dX4_read_89 rfl (lv_at hl 1 rfl) ?_
        refine m_callv (As := [.int (iI 0)]) ⟨hx, hb, hml, hown, hts⟩ (c_X4_isFine l D ad cI hD0 (u) (0) (by omega)) (cwV 1 hts gX4_read_X4_isFine rfl rfl rfl (by decide +kernel) ⟨Nat.le_of_ble_eq_true rfl, Nat.le_of_ble_eq_true rfl⟩) hK hP hS rfl hl.1 rfl (Nat.le_of_ble_eq_true rfl) ⟨Nat.le_of_ble_eq_true rfl, Nat.le_of_ble_eq_true rfl⟩ dX4_read_90 (fun r9 u9 H locs hpost hP hS => ?_)
        obtain ⟨rfl, ⟨hc9, rfl⟩ | ⟨hc9, rfl⟩⟩ := hpost
        rotate_left
        · exact absurd rfl hc9
        have hR := hR.thr (0)
        have hD : va_D A (wM ad cI (pokeX u 3 (0))) := wM_D hD0
        refine h_if_ne (tgt := 98) hx hb (by omega) dX4_read_93 (by decide) (fun c_93 => ?_) (fun c_93 => by exfalso; omega)
        refine lv_aload_n hx hb dX4_read_98 rfl (lv_at hl 2 rfl) ?_
        refine lv_iload_n hx hb dX4_read_99 rfl (lv_at hl 3 rfl) ?_
        refine m_callv (As := [.int (iI (f))]) ⟨hx, hb, hml, hown, hts⟩ (c_X4_tierOf l D ad cI hD0 hw ((pokeX u 3 (0))) hR (f) (by omega) (by omega) (by omega)) (cwV 1 hts gX4_read_X4_tierOf rfl rfl rfl (by decide +kernel) ⟨Nat.le_of_ble_eq_true rfl, Nat.le_of_ble_eq_true rfl⟩) hK hP hS rfl hl.1 rfl (Nat.le_of_ble_eq_true rfl) ⟨Nat.le_of_ble_eq_true rfl, Nat.le_of_ble_eq_true rfl⟩ dX4_read_100 (fun r9 u9 H locs hpost hP hS => ?_)
        obtain ⟨rfl, rfl⟩ := hpost
        have ht9 := tier_in (S := S) (f)
        refine lv_iconst (v := iI 2) hx hb dX4_read_103 rfl ?_
        refine h_icmp_ge (tgt := 119) hx hb (by omega) (by omega) dX4_read_104 (by decide) (fun c_104 => by exfalso; omega) (fun c_104 => ?_)
        refine lv_aload_n hx hb dX4_read_107 rfl (lv_at hl 2 rfl) ?_
        refine m_get hx hb hts hin hown hK hP 9 (by decide) (v := .ref (ad 8)) rfl (hts (.fieldLink RX4 38 "HoldServerModel" "used" "[I") (by decide +kernel)) rfl dX4_read_108 ?_
        refine lv_iload_n hx hb dX4_read_111 rfl (lv_at hl 3 rfl) ?_
        refine lv_aload_n hx hb dX4_read_112 rfl (lv_at hl 2 rfl) ?_
        refine m_geti hx hb hts hin hown hK hP 13 (by decide) (v := S.1 11 2) 2 rfl (hR.x2) (hts (.fieldLink RX4 82 "HoldServerModel" "day" "I") (by decide +kernel)) rfl dX4_read_113 ?_
        refine m_st hx hb hK hP hD hS (k := 8) (by decide) (by omega) (by show _ < ((30 : Nat) : Int); omega) dX4_read_116 (fun H locs hP hD hS => ?_)
        have hR := RelM.setfil hR (k := 8) (by decide) (i := f) (v := S.1 11 2) h0 h1
        refine lv_iconst (v := iI 0) hx hb dX4_read_117 rfl ?_
        exact hret (0) ((pokeF (pokeX u 3 (0)) 8 (f) ((S.1 11 2)))) _ _ _ _ dX4_read_118 rfl hP hS (by show spM _ _ _; unfold sp_read; rw [iteC_neg (by omega), iteC_neg (fun z => by rw [z] at c_18; exact c_18 rfl), iteC_pos (by omega)]; exact ⟨rfl, rfl, hR⟩)
      · skip
        refine lv_aload_n hx hb dX4_read_61 rfl (lv_at hl 2 rfl) ?_
        refine m_get hx hb hts hin hown hK hP 10 (by decide) (v := .ref (ad 9)) rfl (hts (.fieldLink RX4 41 "HoldServerModel" "back" "[I") (by decide +kernel)) rfl dX4_read_62 ?_
        refine lv_iload_n hx hb dX4_read_65 rfl (lv_at hl 3 rfl) ?_
        refine m_ld hx hb hK hP (k := 9) (by decide) (v := S.1 9 f) (by omega) (by show _ < ((30 : Nat) : Int); omega) (hR.fil (by decide) (by omega) (by omega)) dX4_read_66 ?_
        refine lv_iconst (v := iI (-1)) hx hb dX4_read_67 rfl ?_
        refine h_icmp_ne (tgt := 88) hx hb (by omega) (by omega) dX4_read_68 (by decide) (fun c_68 => ?_) (fun c_68 => ?_)
        · skip
          refine lv_aload_n hx hb dX4_read_88 rfl (lv_at hl 2 rfl) ?_
          refine lv_iload_n hx hb dX4_read_89 rfl (lv_at hl 1 rfl) ?_
          refine m_callv (As := [.int (iI 0)]) ⟨hx, hb, hml, hown, hts⟩ (c_X4_isFine l D ad cI hD0 (u) (0) (by omega)) (cwV 1 hts gX4_read_X4_isFine rfl rfl rfl (by decide +kernel) ⟨Nat.le_of_ble_eq_true rfl, Nat.le_of_ble_eq_true rfl⟩) hK hP hS rfl hl.1 rfl (Nat.le_of_ble_eq_true rfl) ⟨Nat.le_of_ble_eq_true rfl, Nat.le_of_ble_eq_true rfl⟩ dX4_read_90 (fun r9 u9 H locs hpost hP hS => ?_)
          obtain ⟨rfl, ⟨hc9, rfl⟩ | ⟨hc9, rfl⟩⟩ := hpost
          rotate_left
          · exact absurd rfl hc9
          have hR := hR.thr (0)
          have hD : va_D A (wM ad cI (pokeX u 3 (0))) := wM_D hD0
          refine h_if_ne (tgt := 98) hx hb (by omega) dX4_read_93 (by decide) (fun c_93 => ?_) (fun c_93 => by exfalso; omega)
          refine lv_aload_n hx hb dX4_read_98 rfl (lv_at hl 2 rfl) ?_
          refine lv_iload_n hx hb dX4_read_99 rfl (lv_at hl 3 rfl) ?_
          refine m_callv (As := [.int (iI (f))]) ⟨hx, hb, hml, hown, hts⟩ (c_X4_tierOf l D ad cI hD0 hw ((pokeX u 3 (0))) hR (f) (by omega) (by omega) (by omega)) (cwV 1 hts gX4_read_X4_tierOf rfl rfl rfl (by decide +kernel) ⟨Nat.le_of_ble_eq_true rfl, Nat.le_of_ble_eq_true rfl⟩) hK hP hS rfl hl.1 rfl (Nat.le_of_ble_eq_true rfl) ⟨Nat.le_of_ble_eq_true rfl, Nat.le_of_ble_eq_true rfl⟩ dX4_read_100 (fun r9 u9 H locs hpost hP hS => ?_)
          obtain ⟨rfl, rfl⟩ := hpost
          have ht9 := tier_in (S := S) (f)
          refine lv_iconst (v := iI 2) hx hb dX4_read_103 rfl ?_
          refine h_icmp_ge (tgt := 119) hx hb (by omega) (by omega) dX4_read_104 (by decide) (fun c_104 => ?_) (fun c_104 => by exfalso; omega)
          refine lv_aload_n hx hb dX4_read_119 rfl (lv_at hl 2 rfl) ?_
          refine m_get hx hb hts hin hown hK hP 10 (by decide) (v := .ref (ad 9)) rfl (hts (.fieldLink RX4 41 "HoldServerModel" "back" "[I") (by decide +kernel)) rfl dX4_read_120 ?_
          refine lv_iload_n hx hb dX4_read_123 rfl (lv_at hl 3 rfl) ?_
          refine m_ld hx hb hK hP (k := 9) (by decide) (v := S.1 9 f) (by omega) (by show _ < ((30 : Nat) : Int); omega) (hR.fil (by decide) (by omega) (by omega)) dX4_read_124 ?_
          refine lv_iconst (v := iI (-1)) hx hb dX4_read_125 rfl ?_
          refine h_icmp_ne (tgt := 156) hx hb (by omega) (by omega) dX4_read_126 (by decide) (fun c_126 => ?_) (fun c_126 => by exfalso; omega)
          refine lv_aload_n hx hb dX4_read_156 rfl (lv_at hl 2 rfl) ?_
          refine m_get hx hb hts hin hown hK hP 10 (by decide) (v := .ref (ad 9)) rfl (hts (.fieldLink RX4 41 "HoldServerModel" "back" "[I") (by decide +kernel)) rfl dX4_read_157 ?_
          refine lv_iload_n hx hb dX4_read_160 rfl (lv_at hl 3 rfl) ?_
          refine m_ld hx hb hK hP (k := 9) (by decide) (v := S.1 9 f) (by omega) (by show _ < ((30 : Nat) : Int); omega) (hR.fil (by decide) h0 h1) dX4_read_161 ?_
          refine lv_aload_n hx hb dX4_read_162 rfl (lv_at hl 2 rfl) ?_
          refine m_geti hx hb hts hin hown hK hP 13 (by decide) (v := S.1 11 2) 2 rfl (hR.x2) (hts (.fieldLink RX4 82 "HoldServerModel" "day" "I") (by decide +kernel)) rfl dX4_read_163 ?_
          refine h_isub hx hb dX4_read_166 ?_
          exact hret (((S.1 9 f) - (S.1 11 2))) ((pokeX u 3 (0))) _ _ _ _ dX4_read_167 rfl hP hS (by show spM _ _ _; unfold sp_read; rw [iteC_neg (by omega), iteC_neg (fun z => by rw [z] at c_18; exact c_18 rfl), iteC_neg (by omega), iteC_neg (by omega)]; exact ⟨rfl, rfl, hR⟩)
        · skip
          refine lv_aload_n hx hb dX4_read_71 rfl (lv_at hl 2 rfl) ?_
          refine m_get hx hb hts hin hown hK hP 12 (by decide) (v := .ref (ad 10)) rfl (hts (.fieldLink RX4 44 "HoldServerModel" "coins" "[I") (by decide +kernel)) rfl dX4_read_72 ?_
          refine lv_aload_n hx hb dX4_read_75 rfl (lv_at hl 2 rfl) ?_
          refine m_get hx hb hts hin hown hK hP 3 (by decide) (v := .ref (ad 2)) rfl (hts (.fieldLink RX4 20 "HoldServerModel" "department" "[I") (by decide +kernel)) rfl dX4_read_76 ?_
          refine lv_iload_n hx hb dX4_read_79 rfl (lv_at hl 3 rfl) ?_
          refine m_ld hx hb hK hP (k := 2) (by decide) (v := S.1 2 f) (by omega) (by show _ < ((30 : Nat) : Int); omega) (hR.fil (by decide) (by omega) (by omega)) dX4_read_80 ?_
          refine m_ld hx hb hK hP (k := 10) (by decide) (v := S.1 10 (S.1 2 f)) (by omega) (by show _ < ((4 : Nat) : Int); omega) (hR.coi (by omega) (by omega)) dX4_read_81 ?_
          refine lv_iload_n hx hb dX4_read_82 rfl (lv_at hl 0 rfl) ?_
          refine h_icmp_ge (tgt := 88) hx hb (by omega) (by omega) dX4_read_83 (by decide) (fun c_83 => ?_) (fun c_83 => ?_)
          · skip
            refine lv_aload_n hx hb dX4_read_88 rfl (lv_at hl 2 rfl) ?_
            refine lv_iload_n hx hb dX4_read_89 rfl (lv_at hl 1 rfl) ?_
            refine m_callv (As := [.int (iI 0)]) ⟨hx, hb, hml, hown, hts⟩ (c_X4_isFine l D ad cI hD0 (u) (0) (by omega)) (cwV 1 hts gX4_read_X4_isFine rfl rfl rfl (by decide +kernel) ⟨Nat.le_of_ble_eq_true rfl, Nat.le_of_ble_eq_true rfl⟩) hK hP hS rfl hl.1 rfl (Nat.le_of_ble_eq_true rfl) ⟨Nat.le_of_ble_eq_true rfl, Nat.le_of_ble_eq_true rfl⟩ dX4_read_90 (fun r9 u9 H locs hpost hP hS => ?_)
            obtain ⟨rfl, ⟨hc9, rfl⟩ | ⟨hc9, rfl⟩⟩ := hpost
            rotate_left
            · exact absurd rfl hc9
            have hR := hR.thr (0)
            have hD : va_D A (wM ad cI (pokeX u 3 (0))) := wM_D hD0
            refine h_if_ne (tgt := 98) hx hb (by omega) dX4_read_93 (by decide) (fun c_93 => ?_) (fun c_93 => by exfalso; omega)
            refine lv_aload_n hx hb dX4_read_98 rfl (lv_at hl 2 rfl) ?_
            refine lv_iload_n hx hb dX4_read_99 rfl (lv_at hl 3 rfl) ?_
            refine m_callv (As := [.int (iI (f))]) ⟨hx, hb, hml, hown, hts⟩ (c_X4_tierOf l D ad cI hD0 hw ((pokeX u 3 (0))) hR (f) (by omega) (by omega) (by omega)) (cwV 1 hts gX4_read_X4_tierOf rfl rfl rfl (by decide +kernel) ⟨Nat.le_of_ble_eq_true rfl, Nat.le_of_ble_eq_true rfl⟩) hK hP hS rfl hl.1 rfl (Nat.le_of_ble_eq_true rfl) ⟨Nat.le_of_ble_eq_true rfl, Nat.le_of_ble_eq_true rfl⟩ dX4_read_100 (fun r9 u9 H locs hpost hP hS => ?_)
            obtain ⟨rfl, rfl⟩ := hpost
            have ht9 := tier_in (S := S) (f)
            refine lv_iconst (v := iI 2) hx hb dX4_read_103 rfl ?_
            refine h_icmp_ge (tgt := 119) hx hb (by omega) (by omega) dX4_read_104 (by decide) (fun c_104 => ?_) (fun c_104 => by exfalso; omega)
            refine lv_aload_n hx hb dX4_read_119 rfl (lv_at hl 2 rfl) ?_
            refine m_get hx hb hts hin hown hK hP 10 (by decide) (v := .ref (ad 9)) rfl (hts (.fieldLink RX4 41 "HoldServerModel" "back" "[I") (by decide +kernel)) rfl dX4_read_120 ?_
            refine lv_iload_n hx hb dX4_read_123 rfl (lv_at hl 3 rfl) ?_
            refine m_ld hx hb hK hP (k := 9) (by decide) (v := S.1 9 f) (by omega) (by show _ < ((30 : Nat) : Int); omega) (hR.fil (by decide) (by omega) (by omega)) dX4_read_124 ?_
            refine lv_iconst (v := iI (-1)) hx hb dX4_read_125 rfl ?_
            refine h_icmp_ne (tgt := 156) hx hb (by omega) (by omega) dX4_read_126 (by decide) (fun c_126 => by exfalso; omega) (fun c_126 => ?_)
            refine lv_aload_n hx hb dX4_read_129 rfl (lv_at hl 2 rfl) ?_
            refine m_get hx hb hts hin hown hK hP 12 (by decide) (v := .ref (ad 10)) rfl (hts (.fieldLink RX4 44 "HoldServerModel" "coins" "[I") (by decide +kernel)) rfl dX4_read_130 ?_
            refine lv_aload_n hx hb dX4_read_133 rfl (lv_at hl 2 rfl) ?_
            refine m_get hx hb hts hin hown hK hP 3 (by decide) (v := .ref (ad 2)) rfl (hts (.fieldLink RX4 20 "HoldServerModel" "department" "[I") (by decide +kernel)) rfl dX4_read_134 ?_
            refine lv_iload_n hx hb dX4_read_137 rfl (lv_at hl 3 rfl) ?_
            refine m_ld hx hb hK hP (k := 2) (by decide) (v := S.1 2 f) (by omega) (by show _ < ((30 : Nat) : Int); omega) (hR.fil (by decide) (by omega) (by omega)) dX4_read_138 ?_
            refine lv_dup2_11 hx hb dX4_read_139 rfl rfl ?_
            refine m_ld hx hb hK hP (k := 10) (by decide) (v := S.1 10 (S.1 2 f)) (by omega) (by show _ < ((4 : Nat) : Int); omega) (hR.coi (by omega) (by omega)) dX4_read_140 ?_
            refine lv_iload_n hx hb dX4_read_141 rfl (lv_at hl 0 rfl) ?_
            refine h_isub hx hb dX4_read_142 ?_
            refine m_st hx hb hK hP hD hS (k := 10) (by decide) (by omega) (by show _ < ((4 : Nat) : Int); omega) dX4_read_143 (fun H locs hP hD hS => ?_)
            have hR := RelM.setcoi hR hn1.1 (i := S.1 2 f) (v := ((S.1 10 (S.1 2 f)) - (((S.1 3 f) + 9) / 10))) hdep9.1
            refine lv_aload_n hx hb dX4_read_144 rfl (lv_at hl 2 rfl) ?_
            refine m_get hx hb hts hin hown hK hP 10 (by decide) (v := .ref (ad 9)) rfl (hts (.fieldLink RX4 41 "HoldServerModel" "back" "[I") (by decide +kernel)) rfl dX4_read_145 ?_
            refine lv_iload_n hx hb dX4_read_148 rfl (lv_at hl 3 rfl) ?_
            refine lv_aload_n hx hb dX4_read_149 rfl (lv_at hl 2 rfl) ?_
            refine m_geti hx hb hts hin hown hK hP 13 (by decide) (v := S.1 11 2) 2 rfl (hR.x2) (hts (.fieldLink RX4 82 "HoldServerModel" "day" "I") (by decide +kernel)) rfl dX4_read_150 ?_
            refine lv_iconst (v := iI 2) hx hb dX4_read_153 rfl ?_
            refine h_iadd hx hb dX4_read_154 ?_
            refine m_st hx hb hK hP hD hS (k := 9) (by decide) (by omega) (by show _ < ((30 : Nat) : Int); omega) dX4_read_155 (fun H locs hP hD hS => ?_)
            have hR := RelM.setfil hR (k := 9) (by decide) (i := f) (v := S.1 11 2 + 2) h0 h1
            refine lv_aload_n hx hb dX4_read_156 rfl (lv_at hl 2 rfl) ?_
            refine m_get hx hb hts hin hown hK hP 10 (by decide) (v := .ref (ad 9)) rfl (hts (.fieldLink RX4 41 "HoldServerModel" "back" "[I") (by decide +kernel)) rfl dX4_read_157 ?_
            refine lv_iload_n hx hb dX4_read_160 rfl (lv_at hl 3 rfl) ?_
            refine m_ld hx hb hK hP (k := 9) (by decide) (v := S.1 11 2 + 2) (by omega) (by show _ < ((30 : Nat) : Int); omega) (by have q := hR.fil (k := 9) (i := f) (by decide) h0 h1; simpa [sset_1] using q) dX4_read_161 ?_
            refine lv_aload_n hx hb dX4_read_162 rfl (lv_at hl 2 rfl) ?_
            refine m_geti hx hb hts hin hown hK hP 13 (by decide) (v := S.1 11 2) 2 rfl (hR.x2) (hts (.fieldLink RX4 82 "HoldServerModel" "day" "I") (by decide +kernel)) rfl dX4_read_163 ?_
            refine h_isub hx hb dX4_read_166 ?_
            exact hret (((S.1 11 2 + 2) - (S.1 11 2))) ((pokeF (pokeF (pokeX u 3 (0)) 10 ((S.1 2 f)) (((S.1 10 (S.1 2 f)) - (((S.1 3 f) + 9) / 10)))) 9 (f) (((S.1 11 2) + 2)))) _ _ _ _ dX4_read_167 rfl hP hS (by show spM _ _ _; unfold sp_read; rw [iteC_neg (by omega), iteC_neg (fun z => by rw [z] at c_18; exact c_18 rfl), iteC_neg (by omega), iteC_pos (by omega), iteC_neg (by unfold priceS; omega)]; exact ⟨congrArg iI (by show S.1 11 2 + 2 - S.1 11 2 = 2; omega), rfl, hR⟩)
          · skip
            refine lv_iconst (v := iI 2) hx hb dX4_read_86 rfl ?_
            refine lv_istore_n (lv' := [(2, .int (iI 2)), (3, .int (iI ((((S.1 3 f) + 9) / 10)))), (0, .ref (ad 11)), (1, .int (iI (f)))]) hx hb dX4_read_87 rfl hl (by decide) rfl (fun ls hl => ?_)
            refine lv_aload_n hx hb dX4_read_88 rfl (lv_at hl 2 rfl) ?_
            refine lv_iload_n hx hb dX4_read_89 rfl (lv_at hl 0 rfl) ?_
            refine m_callv (As := [.int (iI 2)]) ⟨hx, hb, hml, hown, hts⟩ (c_X4_isFine l D ad cI hD0 (u) (2) (by omega)) (cwV 1 hts gX4_read_X4_isFine rfl rfl rfl (by decide +kernel) ⟨Nat.le_of_ble_eq_true rfl, Nat.le_of_ble_eq_true rfl⟩) hK hP hS rfl hl.1 rfl (Nat.le_of_ble_eq_true rfl) ⟨Nat.le_of_ble_eq_true rfl, Nat.le_of_ble_eq_true rfl⟩ dX4_read_90 (fun r9 u9 H locs hpost hP hS => ?_)
            obtain ⟨rfl, ⟨hc9, rfl⟩ | ⟨hc9, rfl⟩⟩ := hpost
            · exact absurd hc9 (by decide)
            have hR := hR.thr (2)
            have hD : va_D A (wM ad cI (pokeX u 3 (2))) := wM_D hD0
            refine h_if_ne (tgt := 98) hx hb (by omega) dX4_read_93 (by decide) (fun c_93 => by exfalso; omega) (fun c_93 => ?_)
            refine lv_iconst (v := iI 0) hx hb dX4_read_96 rfl ?_
            exact hret (0) ((pokeX u 3 (2))) _ _ _ _ dX4_read_97 rfl hP hS (by show spM _ _ _; unfold sp_read priceS; rw [iteC_neg (by omega), iteC_neg (fun z => by rw [z] at c_18; exact c_18 rfl), iteC_neg (by omega), iteC_pos (by omega), iteC_pos (by omega)]; exact ⟨rfl, rfl, hR⟩)
    · skip
      refine lv_iconst (v := iI 2) hx hb dX4_read_21 rfl ?_
      refine lv_goto (tgt := 26) hx hb dX4_read_22 (by decide) ?_
      refine lv_istore_n (lv' := [(2, .int (iI 2)), (0, .ref (ad 11)), (1, .int (iI (f)))]) hx hb dX4_read_26 rfl hl (by decide) rfl (fun ls hl => ?_)
      refine lv_iload_n hx hb dX4_read_27 rfl (lv_at hl 0 rfl) ?_
      refine h_if_ne (tgt := 46) hx hb (by omega) dX4_read_28 (by decide) (fun c_28 => ?_) (fun c_28 => by exfalso; omega)
      refine lv_iconst (v := iI 0) hx hb dX4_read_46 rfl ?_
      refine lv_istore_n (lv' := [(3, .int (iI 0)), (2, .int (iI 2)), (0, .ref (ad 11)), (1, .int (iI (f)))]) hx hb dX4_read_47 rfl hl (by decide) rfl (fun ls hl => ?_)
      refine lv_iload_n hx hb dX4_read_48 rfl (lv_at hl 1 rfl) ?_
      refine h_if_ne (tgt := 88) hx hb (by omega) dX4_read_49 (by decide) (fun c_49 => ?_) (fun c_49 => by exfalso; omega)
      refine lv_aload_n hx hb dX4_read_88 rfl (lv_at hl 2 rfl) ?_
      refine lv_iload_n hx hb dX4_read_89 rfl (lv_at hl 1 rfl) ?_
      refine m_callv (As := [.int (iI 2)]) ⟨hx, hb, hml, hown, hts⟩ (c_X4_isFine l D ad cI hD0 (u) (2) (by omega)) (cwV 1 hts gX4_read_X4_isFine rfl rfl rfl (by decide +kernel) ⟨Nat.le_of_ble_eq_true rfl, Nat.le_of_ble_eq_true rfl⟩) hK hP hS rfl hl.1 rfl (Nat.le_of_ble_eq_true rfl) ⟨Nat.le_of_ble_eq_true rfl, Nat.le_of_ble_eq_true rfl⟩ dX4_read_90 (fun r9 u9 H locs hpost hP hS => ?_)
      obtain ⟨rfl, ⟨hc9, rfl⟩ | ⟨hc9, rfl⟩⟩ := hpost
      · exact absurd hc9 (by decide)
      have hR := hR.thr (2)
      have hD : va_D A (wM ad cI (pokeX u 3 (2))) := wM_D hD0
      refine h_if_ne (tgt := 98) hx hb (by omega) dX4_read_93 (by decide) (fun c_93 => by exfalso; omega) (fun c_93 => ?_)
      refine lv_iconst (v := iI 0) hx hb dX4_read_96 rfl ?_
      exact hret (0) ((pokeX u 3 (2))) _ _ _ _ dX4_read_97 rfl hP hS (by show spM _ _ _; unfold sp_read; rw [iteC_neg (by omega), iteC_pos (List.eq_nil_of_length_eq_zero (l := S.2 f) (by omega))]; exact ⟨rfl, rfl, hR⟩)
  · skip
    refine h_if_ne (tgt := 12) hx hb (by omega) dX4_read_5 (by decide) (fun c_5 => by exfalso; omega) (fun c_5 => ?_)
    refine lv_iconst (v := iI 1) hx hb dX4_read_8 rfl ?_
    refine lv_goto (tgt := 26) hx hb dX4_read_9 (by decide) ?_
    refine lv_istore_n (lv' := [(2, .int (iI 1)), (0, .ref (ad 11)), (1, .int (iI (f)))]) hx hb dX4_read_26 rfl hl (by decide) rfl (fun ls hl => ?_)
    refine lv_iload_n hx hb dX4_read_27 rfl (lv_at hl 0 rfl) ?_
    refine h_if_ne (tgt := 46) hx hb (by omega) dX4_read_28 (by decide) (fun c_28 => ?_) (fun c_28 => by exfalso; omega)
    refine lv_iconst (v := iI 0) hx hb dX4_read_46 rfl ?_
    refine lv_istore_n (lv' := [(3, .int (iI 0)), (2, .int (iI 1)), (0, .ref (ad 11)), (1, .int (iI (f)))]) hx hb dX4_read_47 rfl hl (by decide) rfl (fun ls hl => ?_)
    refine lv_iload_n hx hb dX4_read_48 rfl (lv_at hl 1 rfl) ?_
    refine h_if_ne (tgt := 88) hx hb (by omega) dX4_read_49 (by decide) (fun c_49 => ?_) (fun c_49 => by exfalso; omega)
    refine lv_aload_n hx hb dX4_read_88 rfl (lv_at hl 2 rfl) ?_
    refine lv_iload_n hx hb dX4_read_89 rfl (lv_at hl 1 rfl) ?_
    refine m_callv (As := [.int (iI 1)]) ⟨hx, hb, hml, hown, hts⟩ (c_X4_isFine l D ad cI hD0 (u) (1) (by omega)) (cwV 1 hts gX4_read_X4_isFine rfl rfl rfl (by decide +kernel) ⟨Nat.le_of_ble_eq_true rfl, Nat.le_of_ble_eq_true rfl⟩) hK hP hS rfl hl.1 rfl (Nat.le_of_ble_eq_true rfl) ⟨Nat.le_of_ble_eq_true rfl, Nat.le_of_ble_eq_true rfl⟩ dX4_read_90 (fun r9 u9 H locs hpost hP hS => ?_)
    obtain ⟨rfl, ⟨hc9, rfl⟩ | ⟨hc9, rfl⟩⟩ := hpost
    · exact absurd hc9 (by decide)
    have hR := hR.thr (1)
    have hD : va_D A (wM ad cI (pokeX u 3 (1))) := wM_D hD0
    refine h_if_ne (tgt := 98) hx hb (by omega) dX4_read_93 (by decide) (fun c_93 => by exfalso; omega) (fun c_93 => ?_)
    refine lv_iconst (v := iI 0) hx hb dX4_read_96 rfl ?_
    exact hret (0) ((pokeX u 3 (1))) _ _ _ _ dX4_read_97 rfl hP hS (by show spM _ _ _; unfold sp_read; rw [iteC_pos (by omega)]; exact ⟨rfl, rfl, hR⟩)

set_option maxRecDepth 100000 in
set_option maxHeartbeats 4000000 in
theorem c_X4_many (l : Launch) (D : va_G) (ad : Nat → Nat) (cI : ClassId) {A : Nat → Prop} {u0 : MS} (hD0 : va_D A (wM ad cI u0))  (u : MS)  (h : Int)  (r_h : inQ h)  (h0 : 0 ≤ h) (h1 : h < 32): mI l yX4_many wsX4_many { frames := 0, cells := 0, slots := 0, locals := 0 } D ad cI A [.int (iI h)] u (fun r u2 => u = u2 ∧ r = iI (hCnt h)) := by
  refine mI_of (cc := cX4_many) (maxL := 3) (ty := .int) (by decide) rfl (Nat.le_of_ble_eq_true rfl) ?_
  intro pp ee ss mm args below meth cc Q hx hb hml hown hts hP hK hS hret ls hl
  have hl : lv_has ls 3 [(0, .int (iI (h)))] := hl
  have hD : va_D A (wM ad cI u) := wM_D hD0
  refine lv_iconst (v := iI 0) hx hb dX4_many_0 rfl ?_
  refine lv_istore_n (lv' := [(1, .int (iI 0)), (0, .int (iI (h)))]) hx hb dX4_many_1 rfl hl (by decide) rfl (fun ls hl => ?_)
  refine lv_iconst (v := iI 0) hx hb dX4_many_2 rfl ?_
  refine lv_istore_n (lv' := [(2, .int (iI 0)), (1, .int (iI 0)), (0, .int (iI (h)))]) hx hb dX4_many_3 rfl hl (by decide) rfl (fun ls hl => ?_)
  refine lv_iload_n hx hb dX4_many_4 rfl (lv_at hl 0 rfl) ?_
  refine lv_iconst (v := iI 5) hx hb dX4_many_5 rfl ?_
  refine h_icmp_ge (tgt := 23) hx hb (by omega) (by omega) dX4_many_6 (by decide) (fun c_6 => by exfalso; omega) (fun c_6 => ?_)
  refine lv_iload_n hx hb dX4_many_9 rfl (lv_at hl 1 rfl) ?_
  refine lv_iload_n hx hb dX4_many_10 rfl (lv_at hl 2 rfl) ?_
  refine lv_iload_n hx hb dX4_many_11 rfl (lv_at hl 0 rfl) ?_
  refine lv_ishr hx hb dX4_many_12 ?_
  refine lv_iconst (v := iI 1) hx hb dX4_many_13 rfl ?_
  refine lv_iand hx hb dX4_many_14 ?_
  refine h_top hx (y := iI (h % 2)) (by have q := bit_0 h.toNat (by omega); rwa [Int.toNat_of_nonneg h0] at q) ?_
  refine h_iadd hx hb dX4_many_15 ?_
  refine lv_istore_n (lv' := [(1, .int (iI ((0 + (h % 2))))), (2, .int (iI 0)), (0, .int (iI (h)))]) hx hb dX4_many_16 rfl hl (by decide) rfl (fun ls hl => ?_)
  refine lv_iinc (v := iI (1)) (lv' := [(2, .int (iI 1)), (1, .int (iI ((0 + (h % 2))))), (0, .int (iI (h)))]) hx hb dX4_many_17 hl (k := 1) rfl (by decide) (by decide) rfl (fun ls hl => ?_)
  refine lv_goto (tgt := 4) hx hb dX4_many_20 (by decide) ?_
  refine lv_iload_n hx hb dX4_many_4 rfl (lv_at hl 0 rfl) ?_
  refine lv_iconst (v := iI 5) hx hb dX4_many_5 rfl ?_
  refine h_icmp_ge (tgt := 23) hx hb (by omega) (by omega) dX4_many_6 (by decide) (fun c_6 => by exfalso; omega) (fun c_6 => ?_)
  refine lv_iload_n hx hb dX4_many_9 rfl (lv_at hl 1 rfl) ?_
  refine lv_iload_n hx hb dX4_many_10 rfl (lv_at hl 2 rfl) ?_
  refine lv_iload_n hx hb dX4_many_11 rfl (lv_at hl 0 rfl) ?_
  refine lv_ishr hx hb dX4_many_12 ?_
  refine lv_iconst (v := iI 1) hx hb dX4_many_13 rfl ?_
  refine lv_iand hx hb dX4_many_14 ?_
  refine h_top hx (y := iI (h / 2 % 2)) (by have q := bit_1 h.toNat (by omega); rwa [Int.toNat_of_nonneg h0] at q) ?_
  refine h_iadd hx hb dX4_many_15 ?_
  refine lv_istore_n (lv' := [(1, .int (iI (((0 + (h % 2)) + (h / 2 % 2))))), (2, .int (iI 1)), (0, .int (iI (h)))]) hx hb dX4_many_16 rfl hl (by decide) rfl (fun ls hl => ?_)
  refine lv_iinc (v := iI (2)) (lv' := [(2, .int (iI 2)), (1, .int (iI (((0 + (h % 2)) + (h / 2 % 2))))), (0, .int (iI (h)))]) hx hb dX4_many_17 hl (k := 1) rfl (by decide) (by decide) rfl (fun ls hl => ?_)
  refine lv_goto (tgt := 4) hx hb dX4_many_20 (by decide) ?_
  refine lv_iload_n hx hb dX4_many_4 rfl (lv_at hl 0 rfl) ?_
  refine lv_iconst (v := iI 5) hx hb dX4_many_5 rfl ?_
  refine h_icmp_ge (tgt := 23) hx hb (by omega) (by omega) dX4_many_6 (by decide) (fun c_6 => by exfalso; omega) (fun c_6 => ?_)
  refine lv_iload_n hx hb dX4_many_9 rfl (lv_at hl 1 rfl) ?_
  refine lv_iload_n hx hb dX4_many_10 rfl (lv_at hl 2 rfl) ?_
  refine lv_iload_n hx hb dX4_many_11 rfl (lv_at hl 0 rfl) ?_
  refine lv_ishr hx hb dX4_many_12 ?_
  refine lv_iconst (v := iI 1) hx hb dX4_many_13 rfl ?_
  refine lv_iand hx hb dX4_many_14 ?_
  refine h_top hx (y := iI (h / 4 % 2)) (by have q := bit_2 h.toNat (by omega); rwa [Int.toNat_of_nonneg h0] at q) ?_
  refine h_iadd hx hb dX4_many_15 ?_
  refine lv_istore_n (lv' := [(1, .int (iI ((((0 + (h % 2)) + (h / 2 % 2)) + (h / 4 % 2))))), (2, .int (iI 2)), (0, .int (iI (h)))]) hx hb dX4_many_16 rfl hl (by decide) rfl (fun ls hl => ?_)
  refine lv_iinc (v := iI (3)) (lv' := [(2, .int (iI 3)), (1, .int (iI ((((0 + (h % 2)) + (h / 2 % 2)) + (h / 4 % 2))))), (0, .int (iI (h)))]) hx hb dX4_many_17 hl (k := 1) rfl (by decide) (by decide) rfl (fun ls hl => ?_)
  refine lv_goto (tgt := 4) hx hb dX4_many_20 (by decide) ?_
  refine lv_iload_n hx hb dX4_many_4 rfl (lv_at hl 0 rfl) ?_
  refine lv_iconst (v := iI 5) hx hb dX4_many_5 rfl ?_
  refine h_icmp_ge (tgt := 23) hx hb (by omega) (by omega) dX4_many_6 (by decide) (fun c_6 => by exfalso; omega) (fun c_6 => ?_)
  refine lv_iload_n hx hb dX4_many_9 rfl (lv_at hl 1 rfl) ?_
  refine lv_iload_n hx hb dX4_many_10 rfl (lv_at hl 2 rfl) ?_
  refine lv_iload_n hx hb dX4_many_11 rfl (lv_at hl 0 rfl) ?_
  refine lv_ishr hx hb dX4_many_12 ?_
  refine lv_iconst (v := iI 1) hx hb dX4_many_13 rfl ?_
  refine lv_iand hx hb dX4_many_14 ?_
  refine h_top hx (y := iI (h / 8 % 2)) (by have q := bit_3 h.toNat (by omega); rwa [Int.toNat_of_nonneg h0] at q) ?_
  refine h_iadd hx hb dX4_many_15 ?_
  refine lv_istore_n (lv' := [(1, .int (iI (((((0 + (h % 2)) + (h / 2 % 2)) + (h / 4 % 2)) + (h / 8 % 2))))), (2, .int (iI 3)), (0, .int (iI (h)))]) hx hb dX4_many_16 rfl hl (by decide) rfl (fun ls hl => ?_)
  refine lv_iinc (v := iI (4)) (lv' := [(2, .int (iI 4)), (1, .int (iI (((((0 + (h % 2)) + (h / 2 % 2)) + (h / 4 % 2)) + (h / 8 % 2))))), (0, .int (iI (h)))]) hx hb dX4_many_17 hl (k := 1) rfl (by decide) (by decide) rfl (fun ls hl => ?_)
  refine lv_goto (tgt := 4) hx hb dX4_many_20 (by decide) ?_
  refine lv_iload_n hx hb dX4_many_4 rfl (lv_at hl 0 rfl) ?_
  refine lv_iconst (v := iI 5) hx hb dX4_many_5 rfl ?_
  refine h_icmp_ge (tgt := 23) hx hb (by omega) (by omega) dX4_many_6 (by decide) (fun c_6 => by exfalso; omega) (fun c_6 => ?_)
  refine lv_iload_n hx hb dX4_many_9 rfl (lv_at hl 1 rfl) ?_
  refine lv_iload_n hx hb dX4_many_10 rfl (lv_at hl 2 rfl) ?_
  refine lv_iload_n hx hb dX4_many_11 rfl (lv_at hl 0 rfl) ?_
  refine lv_ishr hx hb dX4_many_12 ?_
  refine lv_iconst (v := iI 1) hx hb dX4_many_13 rfl ?_
  refine lv_iand hx hb dX4_many_14 ?_
  refine h_top hx (y := iI (h / 16 % 2)) (by have q := bit_4 h.toNat (by omega); rwa [Int.toNat_of_nonneg h0] at q) ?_
  refine h_iadd hx hb dX4_many_15 ?_
  refine lv_istore_n (lv' := [(1, .int (iI ((((((0 + (h % 2)) + (h / 2 % 2)) + (h / 4 % 2)) + (h / 8 % 2)) + (h / 16 % 2))))), (2, .int (iI 4)), (0, .int (iI (h)))]) hx hb dX4_many_16 rfl hl (by decide) rfl (fun ls hl => ?_)
  refine lv_iinc (v := iI (5)) (lv' := [(2, .int (iI 5)), (1, .int (iI ((((((0 + (h % 2)) + (h / 2 % 2)) + (h / 4 % 2)) + (h / 8 % 2)) + (h / 16 % 2))))), (0, .int (iI (h)))]) hx hb dX4_many_17 hl (k := 1) rfl (by decide) (by decide) rfl (fun ls hl => ?_)
  refine lv_goto (tgt := 4) hx hb dX4_many_20 (by decide) ?_
  refine lv_iload_n hx hb dX4_many_4 rfl (lv_at hl 0 rfl) ?_
  refine lv_iconst (v := iI 5) hx hb dX4_many_5 rfl ?_
  refine h_icmp_ge (tgt := 23) hx hb (by omega) (by omega) dX4_many_6 (by decide) (fun c_6 => ?_) (fun c_6 => by exfalso; omega)
  refine lv_iload_n hx hb dX4_many_23 rfl (lv_at hl 1 rfl) ?_
  exact hret ((((((0 + (h % 2)) + (h / 2 % 2)) + (h / 4 % 2)) + (h / 8 % 2)) + (h / 16 % 2))) (u) _ _ _ _ dX4_many_24 rfl hP hS ⟨rfl, by unfold hCnt; congr 1; omega⟩

set_option maxRecDepth 100000 in
set_option maxHeartbeats 4000000 in
theorem c_X4_hold (l : Launch) (D : va_G) (ad : Nat → Nat) (cI : ClassId) {A : Nat → Prop} {u0 : MS} (hD0 : va_D A (wM ad cI u0)) {S : HdS} {n : Int} (hw : wf S n) (u : MS) (hR : RelM S u) (m f : Int)  (r_m : inQ m) (r_f : inQ f)  : mI l yX4_hold wsX4_hold { frames := 2, cells := 0, slots := 0, locals := 43 } D ad cI A [.ref (ad 11), .int (iI m), .int (iI f)] u (spM (sp_hold S m f)) := by
  refine mI_of (cc := cX4_hold) (maxL := 3) (ty := .int) (by decide) rfl (Nat.le_of_ble_eq_true rfl) ?_
  intro pp ee ss mm args below meth cc Q hx hb hml hown hts hP hK hS hret ls hl
  have hl : lv_has ls 3 [(0, .ref (ad 11)), (1, .int (iI (m))), (2, .int (iI (f)))] := hl
  have hin : ∀ w ∈ wsX40, w ∈ wsX4_hold := fun w h => List.mem_cons_of_mem _ (List.mem_append_right _ h)
  have hD : va_D A (wM ad cI u) := wM_D hD0
  have hn1 := hw.nf
  have hn2 := hw.nd
  have hn3 := hw.day
  refine lv_aload_n hx hb dX4_hold_0 rfl (lv_at hl 0 rfl) ?_
  refine lv_iload_n hx hb dX4_hold_1 rfl (lv_at hl 1 rfl) ?_
  refine lv_iconst (v := iI 0) hx hb dX4_hold_2 rfl ?_
  refine lv_iconst (v := iI 4) hx hb dX4_hold_3 rfl ?_
  refine m_calls (As := [.int (iI (m)), .int (iI 0), .int (iI 4)]) ⟨hx, hb, hml, hown, hts⟩ (c_X4_in l D ad cI hD0 (u) (m) (0) (4) (by omega) (by omega) (by omega)) (va_cwS 3 hts gX4_hold_X4_in rfl rfl rfl (by decide +kernel) ⟨Nat.le_of_ble_eq_true rfl, Nat.le_of_ble_eq_true rfl⟩) hK hP hS rfl hl.1 rfl (Nat.le_of_ble_eq_true rfl) ⟨Nat.le_of_ble_eq_true rfl, Nat.le_of_ble_eq_true rfl⟩ dX4_hold_4 (fun r9 u9 H locs hpost hP hS => ?_)
  obtain ⟨rfl, ⟨hc_1, rfl⟩ | ⟨hc_1, rfl⟩⟩ := hpost
  · skip
    refine h_if_eq (tgt := 18) hx hb (by omega) dX4_hold_7 (by decide) (fun c_7 => by exfalso; omega) (fun c_7 => ?_)
    refine lv_aload_n hx hb dX4_hold_10 rfl (lv_at hl 0 rfl) ?_
    refine lv_iload_n hx hb dX4_hold_11 rfl (lv_at hl 2 rfl) ?_
    refine m_callv (As := [.int (iI (f))]) ⟨hx, hb, hml, hown, hts⟩ (c_X4_isFile l D ad cI hD0 hw (u) hR (f) (by omega)) (cwV 1 hts gX4_hold_X4_isFile rfl rfl rfl (by decide +kernel) ⟨Nat.le_of_ble_eq_true rfl, Nat.le_of_ble_eq_true rfl⟩) hK hP hS rfl hl.1 rfl (Nat.le_of_ble_eq_true rfl) ⟨Nat.le_of_ble_eq_true rfl, Nat.le_of_ble_eq_true rfl⟩ dX4_hold_12 (fun r9 u9 H locs hpost hP hS => ?_)
    obtain ⟨rfl, ⟨hc_2, rfl⟩ | ⟨hc_2, rfl⟩⟩ := hpost
    · skip
      refine h_if_ne (tgt := 22) hx hb (by omega) dX4_hold_15 (by decide) (fun c_15 => ?_) (fun c_15 => by exfalso; omega)
      have h0 : 0 ≤ f := by omega
      have h1 : f < S.1 11 1 := by omega
      have hlen9 := hw.len h0 h1
      have hsiz9 := hw.siz h0 h1
      have hdep9 := hw.dep h0 h1
      have hkep9 := hw.kep h0 h1
      have hnum9 := hw.num
      have hhol9 := hw.hol h0 h1
      have husd9 := hw.usd h0 h1
      have hbac9 := hw.bac h0 h1
      refine lv_aload_n hx hb dX4_hold_22 rfl (lv_at hl 0 rfl) ?_
      refine m_get hx hb hts hin hown hK hP 6 (by decide) (v := .ref (ad 5)) rfl (hts (.fieldLink RX4 29 "HoldServerModel" "links" "[I") (by decide +kernel)) rfl dX4_hold_23 ?_
      refine lv_iload_n hx hb dX4_hold_26 rfl (lv_at hl 2 rfl) ?_
      refine m_ld hx hb hK hP (k := 5) (by decide) (v := ((S.2 f).length : Int)) (by omega) (by show _ < ((30 : Nat) : Int); omega) (hR.len (by omega) (by omega)) dX4_hold_27 ?_
      refine h_if_ne (tgt := 35) hx hb (by omega) dX4_hold_28 (by decide) (fun c_28 => ?_) (fun c_28 => ?_)
      · skip
        refine lv_iconst (v := iI 0) hx hb dX4_hold_35 rfl ?_
        refine m_callv (As := [.int (iI 0)]) ⟨hx, hb, hml, hown, hts⟩ (c_X4_isFine l D ad cI hD0 (u) (0) (by omega)) (cwV 1 hts gX4_hold_X4_isFine rfl rfl rfl (by decide +kernel) ⟨Nat.le_of_ble_eq_true rfl, Nat.le_of_ble_eq_true rfl⟩) hK hP hS rfl hl.1 rfl (Nat.le_of_ble_eq_true rfl) ⟨Nat.le_of_ble_eq_true rfl, Nat.le_of_ble_eq_true rfl⟩ dX4_hold_36 (fun r9 u9 H locs hpost hP hS => ?_)
        obtain ⟨rfl, ⟨hc9, rfl⟩ | ⟨hc9, rfl⟩⟩ := hpost
        rotate_left
        · exact absurd rfl hc9
        have hR := hR.thr (0)
        have hD : va_D A (wM ad cI (pokeX u 3 (0))) := wM_D hD0
        refine h_if_ne (tgt := 44) hx hb (by omega) dX4_hold_39 (by decide) (fun c_39 => ?_) (fun c_39 => by exfalso; omega)
        refine lv_aload_n hx hb dX4_hold_44 rfl (lv_at hl 0 rfl) ?_
        refine m_get hx hb hts hin hown hK hP 8 (by decide) (v := .ref (ad 7)) rfl (hts (.fieldLink RX4 35 "HoldServerModel" "holders" "[I") (by decide +kernel)) rfl dX4_hold_45 ?_
        refine lv_iload_n hx hb dX4_hold_48 rfl (lv_at hl 2 rfl) ?_
        refine lv_dup2_11 hx hb dX4_hold_49 rfl rfl ?_
        refine m_ld hx hb hK hP (k := 7) (by decide) (v := S.1 7 f) (by omega) (by show _ < ((30 : Nat) : Int); omega) (hR.fil (by decide) (by omega) (by omega)) dX4_hold_50 ?_
        refine lv_iconst (v := iI 1) hx hb dX4_hold_51 rfl ?_
        refine lv_iload_n hx hb dX4_hold_52 rfl (lv_at hl 1 rfl) ?_
        refine lv_ishl hx hb dX4_hold_53 ?_
        refine lv_ior hx hb dX4_hold_54 ?_
        have hor9 := bit_or hhol9.1 hhol9.2 (m := m) (by omega) (by omega)
        refine h_top hx (y := iI (hOr (S.1 7 f) m)) hor9.1 ?_
        refine m_st hx hb hK hP hD hS (k := 7) (by decide) (by omega) (by show _ < ((30 : Nat) : Int); omega) dX4_hold_55 (fun H locs hP hD hS => ?_)
        have hR := RelM.setfil hR (k := 7) (by decide) (i := f) (v := hOr (S.1 7 f) m) h0 h1
        refine lv_aload_n hx hb dX4_hold_56 rfl (lv_at hl 0 rfl) ?_
        refine m_get hx hb hts hin hown hK hP 8 (by decide) (v := .ref (ad 7)) rfl (hts (.fieldLink RX4 35 "HoldServerModel" "holders" "[I") (by decide +kernel)) rfl dX4_hold_57 ?_
        refine lv_iload_n hx hb dX4_hold_60 rfl (lv_at hl 2 rfl) ?_
        refine m_ld hx hb hK hP (k := 7) (by decide) (v := hOr (S.1 7 f) m) (by omega) (by show _ < ((30 : Nat) : Int); omega) (by have q := hR.fil (k := 7) (i := f) (by decide) h0 h1; simpa [sset_1] using q) dX4_hold_61 ?_
        refine m_calls (As := [.int (iI ((hOr (S.1 7 f) m)))]) ⟨hx, hb, hml, hown, hts⟩ (c_X4_many l D ad cI hD0 ((pokeF (pokeX u 3 (0)) 7 (f) ((hOr (S.1 7 f) m)))) ((hOr (S.1 7 f) m)) (by omega) (by omega) (by omega)) (va_cwS 1 hts gX4_hold_X4_many rfl rfl rfl (by decide +kernel) ⟨Nat.le_of_ble_eq_true rfl, Nat.le_of_ble_eq_true rfl⟩) hK hP hS rfl hl.1 rfl (Nat.le_of_ble_eq_true rfl) ⟨Nat.le_of_ble_eq_true rfl, Nat.le_of_ble_eq_true rfl⟩ dX4_hold_62 (fun r9 u9 H locs hpost hP hS => ?_)
        obtain ⟨rfl, rfl⟩ := hpost
        exact hret ((hCnt (hOr (S.1 7 f) m))) ((pokeF (pokeX u 3 (0)) 7 (f) ((hOr (S.1 7 f) m)))) _ _ _ _ dX4_hold_65 rfl hP hS (by show spM _ _ _; unfold sp_hold; rw [iteC_neg (by omega), iteC_neg (fun z => by rw [z] at c_28; exact c_28 rfl)]; exact ⟨rfl, rfl, hR⟩)
      · skip
        refine lv_iconst (v := iI 2) hx hb dX4_hold_31 rfl ?_
        refine lv_goto (tgt := 36) hx hb dX4_hold_32 (by decide) ?_
        refine m_callv (As := [.int (iI 2)]) ⟨hx, hb, hml, hown, hts⟩ (c_X4_isFine l D ad cI hD0 (u) (2) (by omega)) (cwV 1 hts gX4_hold_X4_isFine rfl rfl rfl (by decide +kernel) ⟨Nat.le_of_ble_eq_true rfl, Nat.le_of_ble_eq_true rfl⟩) hK hP hS rfl hl.1 rfl (Nat.le_of_ble_eq_true rfl) ⟨Nat.le_of_ble_eq_true rfl, Nat.le_of_ble_eq_true rfl⟩ dX4_hold_36 (fun r9 u9 H locs hpost hP hS => ?_)
        obtain ⟨rfl, ⟨hc9, rfl⟩ | ⟨hc9, rfl⟩⟩ := hpost
        · exact absurd hc9 (by decide)
        have hR := hR.thr (2)
        have hD : va_D A (wM ad cI (pokeX u 3 (2))) := wM_D hD0
        refine h_if_ne (tgt := 44) hx hb (by omega) dX4_hold_39 (by decide) (fun c_39 => by exfalso; omega) (fun c_39 => ?_)
        refine lv_iconst (v := iI 0) hx hb dX4_hold_42 rfl ?_
        exact hret (0) ((pokeX u 3 (2))) _ _ _ _ dX4_hold_43 rfl hP hS (by show spM _ _ _; unfold sp_hold; rw [iteC_neg (by omega), iteC_pos (List.eq_nil_of_length_eq_zero (l := S.2 f) (by omega))]; exact ⟨rfl, rfl, hR⟩)
    · skip
      refine h_if_ne (tgt := 22) hx hb (by omega) dX4_hold_15 (by decide) (fun c_15 => by exfalso; omega) (fun c_15 => ?_)
      refine lv_iconst (v := iI 1) hx hb dX4_hold_18 rfl ?_
      refine lv_goto (tgt := 36) hx hb dX4_hold_19 (by decide) ?_
      refine m_callv (As := [.int (iI 1)]) ⟨hx, hb, hml, hown, hts⟩ (c_X4_isFine l D ad cI hD0 (u) (1) (by omega)) (cwV 1 hts gX4_hold_X4_isFine rfl rfl rfl (by decide +kernel) ⟨Nat.le_of_ble_eq_true rfl, Nat.le_of_ble_eq_true rfl⟩) hK hP hS rfl hl.1 rfl (Nat.le_of_ble_eq_true rfl) ⟨Nat.le_of_ble_eq_true rfl, Nat.le_of_ble_eq_true rfl⟩ dX4_hold_36 (fun r9 u9 H locs hpost hP hS => ?_)
      obtain ⟨rfl, ⟨hc9, rfl⟩ | ⟨hc9, rfl⟩⟩ := hpost
      · exact absurd hc9 (by decide)
      have hR := hR.thr (1)
      have hD : va_D A (wM ad cI (pokeX u 3 (1))) := wM_D hD0
      refine h_if_ne (tgt := 44) hx hb (by omega) dX4_hold_39 (by decide) (fun c_39 => by exfalso; omega) (fun c_39 => ?_)
      refine lv_iconst (v := iI 0) hx hb dX4_hold_42 rfl ?_
      exact hret (0) ((pokeX u 3 (1))) _ _ _ _ dX4_hold_43 rfl hP hS (by show spM _ _ _; unfold sp_hold; rw [iteC_pos (by omega)]; exact ⟨rfl, rfl, hR⟩)
  · skip
    refine h_if_eq (tgt := 18) hx hb (by omega) dX4_hold_7 (by decide) (fun c_7 => ?_) (fun c_7 => by exfalso; omega)
    refine lv_iconst (v := iI 1) hx hb dX4_hold_18 rfl ?_
    refine lv_goto (tgt := 36) hx hb dX4_hold_19 (by decide) ?_
    refine m_callv (As := [.int (iI 1)]) ⟨hx, hb, hml, hown, hts⟩ (c_X4_isFine l D ad cI hD0 (u) (1) (by omega)) (cwV 1 hts gX4_hold_X4_isFine rfl rfl rfl (by decide +kernel) ⟨Nat.le_of_ble_eq_true rfl, Nat.le_of_ble_eq_true rfl⟩) hK hP hS rfl hl.1 rfl (Nat.le_of_ble_eq_true rfl) ⟨Nat.le_of_ble_eq_true rfl, Nat.le_of_ble_eq_true rfl⟩ dX4_hold_36 (fun r9 u9 H locs hpost hP hS => ?_)
    obtain ⟨rfl, ⟨hc9, rfl⟩ | ⟨hc9, rfl⟩⟩ := hpost
    · exact absurd hc9 (by decide)
    have hR := hR.thr (1)
    have hD : va_D A (wM ad cI (pokeX u 3 (1))) := wM_D hD0
    refine h_if_ne (tgt := 44) hx hb (by omega) dX4_hold_39 (by decide) (fun c_39 => by exfalso; omega) (fun c_39 => ?_)
    refine lv_iconst (v := iI 0) hx hb dX4_hold_42 rfl ?_
    exact hret (0) ((pokeX u 3 (1))) _ _ _ _ dX4_hold_43 rfl hP hS (by show spM _ _ _; unfold sp_hold; rw [iteC_pos (by omega)]; exact ⟨rfl, rfl, hR⟩)

set_option maxRecDepth 100000 in
set_option maxHeartbeats 4000000 in
theorem c_X4_release (l : Launch) (D : va_G) (ad : Nat → Nat) (cI : ClassId) {A : Nat → Prop} {u0 : MS} (hD0 : va_D A (wM ad cI u0)) {S : HdS} {n : Int} (hw : wf S n) (u : MS) (hR : RelM S u) (m : Int)  (r_m : inQ m)  : mI l yX4_release wsX4_release { frames := 1, cells := 0, slots := 0, locals := 22 } D ad cI A [.ref (ad 11), .int (iI m)] u (spM (sp_release S m)) := by
  refine mI_of (cc := cX4_release) (maxL := 4) (ty := .int) (by decide) rfl (Nat.le_of_ble_eq_true rfl) ?_
  intro pp ee ss mm args below meth cc Q hx hb hml hown hts hP hK hS hret ls hl
  have hl : lv_has ls 4 [(0, .ref (ad 11)), (1, .int (iI (m)))] := hl
  have hin : ∀ w ∈ wsX40, w ∈ wsX4_release := fun w h => List.mem_cons_of_mem _ (List.mem_append_right _ h)
  have hD : va_D A (wM ad cI u) := wM_D hD0
  have hn1 := hw.nf
  have hn2 := hw.nd
  have hn3 := hw.day
  have hnum9 := hw.num
  refine lv_iconst (v := iI 0) hx hb dX4_release_0 rfl ?_
  refine lv_istore_n (lv' := [(2, .int (iI 0)), (0, .ref (ad 11)), (1, .int (iI (m)))]) hx hb dX4_release_1 rfl hl (by decide) rfl (fun ls hl => ?_)
  refine lv_aload_n hx hb dX4_release_2 rfl (lv_at hl 1 rfl) ?_
  refine lv_iload_n hx hb dX4_release_3 rfl (lv_at hl 2 rfl) ?_
  refine lv_iconst (v := iI 0) hx hb dX4_release_4 rfl ?_
  refine lv_iconst (v := iI 4) hx hb dX4_release_5 rfl ?_
  refine m_calls (As := [.int (iI (m)), .int (iI 0), .int (iI 4)]) ⟨hx, hb, hml, hown, hts⟩ (c_X4_in l D ad cI hD0 (u) (m) (0) (4) (by omega) (by omega) (by omega)) (va_cwS 3 hts gX4_release_X4_in rfl rfl rfl (by decide +kernel) ⟨Nat.le_of_ble_eq_true rfl, Nat.le_of_ble_eq_true rfl⟩) hK hP hS rfl hl.1 rfl (Nat.le_of_ble_eq_true rfl) ⟨Nat.le_of_ble_eq_true rfl, Nat.le_of_ble_eq_true rfl⟩ dX4_release_6 (fun r9 u9 H locs hpost hP hS => ?_)
  obtain ⟨rfl, ⟨hc_1, rfl⟩ | ⟨hc_1, rfl⟩⟩ := hpost
  · skip
    refine h_if_eq (tgt := 16) hx hb (by omega) dX4_release_9 (by decide) (fun c_9 => by exfalso; omega) (fun c_9 => ?_)
    refine lv_iconst (v := iI 0) hx hb dX4_release_12 rfl ?_
    refine lv_goto (tgt := 17) hx hb dX4_release_13 (by decide) ?_
    refine m_callv (As := [.int (iI 0)]) ⟨hx, hb, hml, hown, hts⟩ (c_X4_isFine l D ad cI hD0 (u) (0) (by omega)) (cwV 1 hts gX4_release_X4_isFine rfl rfl rfl (by decide +kernel) ⟨Nat.le_of_ble_eq_true rfl, Nat.le_of_ble_eq_true rfl⟩) hK hP hS rfl hl.1 rfl (Nat.le_of_ble_eq_true rfl) ⟨Nat.le_of_ble_eq_true rfl, Nat.le_of_ble_eq_true rfl⟩ dX4_release_17 (fun r9 u9 H locs hpost hP hS => ?_)
    obtain ⟨rfl, ⟨hc9, rfl⟩ | ⟨hc9, rfl⟩⟩ := hpost
    rotate_left
    · exact absurd rfl hc9
    have hR := hR.thr (0)
    have hD : va_D A (wM ad cI (pokeX u 3 (0))) := wM_D hD0
    refine h_if_eq (tgt := 100) hx hb (by omega) dX4_release_20 (by decide) (fun c_20 => by exfalso; omega) (fun c_20 => ?_)
    refine lv_iconst (v := iI 0) hx hb dX4_release_23 rfl ?_
    refine lv_istore_n (lv' := [(3, .int (iI 0)), (2, .int (iI 0)), (0, .ref (ad 11)), (1, .int (iI (m)))]) hx hb dX4_release_24 rfl hl (by decide) rfl (fun ls hl => ?_)
    have lp25 : ∀ (n9 : Nat) (j : Nat), S.1 11 1 - j < (n9 : Int) → ((j : Int) ≤ S.1 11 1) → ∀ (u2 : MS) (H : Heap) (locs : List Loc), (RelM (relN S m j) u2) → (u2.2 3 = iI 0) → va_P D vwCl (wM ad cI u2) H → va_S A ss.heap H locs → ∀ (ls : Array Slot), lv_has ls 4 [(0, .ref (ad 11)), (1, .int (iI (m))), (2, .int (iI (dropN S m j))), (3, .int (iI ((j : Int))))] → W pp l ee { frames := 1, cells := 0, slots := 0, locals := 22 } ss mm args below meth cc H locs 0 0 Q (F0 mm 25 ls []) := by
      intro n9
      induction n9 with
      | zero => intro j hms hj u2 H locs hR ht9 hP hS ls hl; exfalso; omega
      | succ n9 ih9 =>
        intro j hms hj u2 H locs hR ht9 hP hS ls hl
        have hD : va_D A (wM ad cI u2) := wM_D hD0
        refine lv_iload_n hx hb dX4_release_25 rfl (lv_at hl 3 rfl) ?_
        refine lv_aload_n hx hb dX4_release_26 rfl (lv_at hl 0 rfl) ?_
        refine m_geti hx hb hts hin hown hK hP 11 (by decide) (v := S.1 11 1) 1 rfl (hR.x1) (hts (.fieldLink RX4 54 "HoldServerModel" "files" "I") (by decide +kernel)) rfl dX4_release_27 ?_
        refine h_icmp_ge (tgt := 100) hx hb (by omega) (by omega) dX4_release_30 (by decide) (fun c_30 => ?_) (fun c_30 => ?_)
        · skip
          refine lv_iload_n hx hb dX4_release_100 rfl (lv_at hl 2 rfl) ?_
          exact hret (dropN S m j) (u2) _ _ _ _ dX4_release_101 rfl hP hS (by show spM _ _ _; unfold sp_release; rw [iteC_neg (by omega), show (S.1 11 1).toNat = j from by omega, show S.1 11 1 = (j : Int) from by omega]; exact ⟨rfl, ht9, hR⟩)
        · skip
          have hhol9 := hw.hol (f := (j : Int)) (by omega) (by omega)
          have hkep9 := hw.kep (f := (j : Int)) (by omega) (by omega)
          refine lv_aload_n hx hb dX4_release_33 rfl (lv_at hl 0 rfl) ?_
          refine m_get hx hb hts hin hown hK hP 8 (by decide) (v := .ref (ad 7)) rfl (hts (.fieldLink RX4 35 "HoldServerModel" "holders" "[I") (by decide +kernel)) rfl dX4_release_34 ?_
          refine lv_iload_n hx hb dX4_release_37 rfl (lv_at hl 3 rfl) ?_
          refine lv_dup2_11 hx hb dX4_release_38 rfl rfl ?_
          refine m_ld hx hb hK hP (k := 7) (by decide) (v := S.1 7 j) (by omega) (by show _ < ((30 : Nat) : Int); omega) (by have q := hR.fil (k := 7) (i := (j : Int)) (by decide) (by omega) (show (j : Int) < S.1 11 1 by omega); rwa [relN_7] at q) dX4_release_39 ?_
          refine lv_iconst (v := iI 1) hx hb dX4_release_40 rfl ?_
          refine lv_iload_n hx hb dX4_release_41 rfl (lv_at hl 1 rfl) ?_
          refine lv_ishl hx hb dX4_release_42 ?_
          refine lv_iconst (v := iI (-1)) hx hb dX4_release_43 rfl ?_
          refine lv_ixor hx hb dX4_release_44 ?_
          refine lv_iand hx hb dX4_release_45 ?_
          have hcl9 := bit_clr hhol9.1 hhol9.2 (m := m) (by omega) (by omega)
          refine h_top hx (y := iI (hClr (S.1 7 j) m)) hcl9.1 ?_
          refine m_st hx hb hK hP hD hS (k := 7) (by decide) (by omega) (by show _ < ((30 : Nat) : Int); omega) dX4_release_46 (fun H locs hP hD hS => ?_)
          have hR := RelM.setfil hR (k := 7) (by decide) (i := (j : Int)) (v := hClr (S.1 7 j) m) (by omega) (show (j : Int) < S.1 11 1 by omega)
          refine lv_iload_n hx hb dX4_release_47 rfl (lv_at hl 2 rfl) ?_
          refine lv_aload_n hx hb dX4_release_48 rfl (lv_at hl 0 rfl) ?_
          refine m_get hx hb hts hin hown hK hP 8 (by decide) (v := .ref (ad 7)) rfl (hts (.fieldLink RX4 35 "HoldServerModel" "holders" "[I") (by decide +kernel)) rfl dX4_release_49 ?_
          refine lv_iload_n hx hb dX4_release_52 rfl (lv_at hl 3 rfl) ?_
          refine m_ld hx hb hK hP (k := 7) (by decide) (v := hClr (S.1 7 j) m) (by omega) (by show _ < ((30 : Nat) : Int); omega) (by have q := hR.fil (k := 7) (i := (j : Int)) (by decide) (by omega) (show (j : Int) < S.1 11 1 by omega); simpa [sset_1] using q) dX4_release_53 ?_
          refine h_if_ne (tgt := 66) hx hb (by omega) dX4_release_54 (by decide) (fun c_54 => ?_) (fun c_54 => ?_)
          · skip
            refine lv_iconst (v := iI 0) hx hb dX4_release_66 rfl ?_
            refine h_iadd hx hb dX4_release_67 ?_
            refine lv_istore_n (lv' := [(2, .int (iI ((dropN S m j + 0)))), (0, .ref (ad 11)), (1, .int (iI (m))), (3, .int (iI ((j : Int))))]) hx hb dX4_release_68 rfl hl (by decide) rfl (fun ls hl => ?_)
            refine lv_aload_n hx hb dX4_release_69 rfl (lv_at hl 1 rfl) ?_
            refine m_get hx hb hts hin hown hK hP 7 (by decide) (v := .ref (ad 6)) rfl (hts (.fieldLink RX4 32 "HoldServerModel" "kept" "[I") (by decide +kernel)) rfl dX4_release_70 ?_
            refine lv_iload_n hx hb dX4_release_73 rfl (lv_at hl 3 rfl) ?_
            refine lv_aload_n hx hb dX4_release_74 rfl (lv_at hl 1 rfl) ?_
            refine m_get hx hb hts hin hown hK hP 8 (by decide) (v := .ref (ad 7)) rfl (hts (.fieldLink RX4 35 "HoldServerModel" "holders" "[I") (by decide +kernel)) rfl dX4_release_75 ?_
            refine lv_iload_n hx hb dX4_release_78 rfl (lv_at hl 3 rfl) ?_
            refine m_ld hx hb hK hP (k := 7) (by decide) (v := hClr (S.1 7 j) m) (by omega) (by show _ < ((30 : Nat) : Int); omega) (by have q := hR.fil (k := 7) (i := (j : Int)) (by decide) (by omega) (show (j : Int) < S.1 11 1 by omega); simpa [sset_1] using q) dX4_release_79 ?_
            refine h_if_ne (tgt := 87) hx hb (by omega) dX4_release_80 (by decide) (fun c_80 => ?_) (fun c_80 => by exfalso; omega)
            refine lv_aload_n hx hb dX4_release_87 rfl (lv_at hl 1 rfl) ?_
            refine m_get hx hb hts hin hown hK hP 7 (by decide) (v := .ref (ad 6)) rfl (hts (.fieldLink RX4 32 "HoldServerModel" "kept" "[I") (by decide +kernel)) rfl dX4_release_88 ?_
            refine lv_iload_n hx hb dX4_release_91 rfl (lv_at hl 3 rfl) ?_
            refine m_ld hx hb hK hP (k := 6) (by decide) (v := S.1 6 j) (by omega) (by show _ < ((30 : Nat) : Int); omega) (by have q := hR.fil (k := 6) (i := (j : Int)) (by decide) (by omega) (show (j : Int) < S.1 11 1 by omega); rwa [sset_1, if_neg (by omega), relN_6] at q) dX4_release_92 ?_
            refine m_st hx hb hK hP hD hS (k := 6) (by decide) (by omega) (by show _ < ((30 : Nat) : Int); omega) dX4_release_93 (fun H locs hP hD hS => ?_)
            refine lv_iinc (v := iI (((j : Int) + 1))) (lv' := [(3, .int (iI (((j : Int) + 1)))), (2, .int (iI ((dropN S m j + 0)))), (0, .ref (ad 11)), (1, .int (iI (m)))]) hx hb dX4_release_94 hl (k := 3) rfl (iI_add _ _) (by decide) rfl (fun ls hl => ?_)
            refine lv_goto (tgt := 25) hx hb dX4_release_97 (by decide) ?_
            have hR := RelM.setfil hR (k := 6) (by decide) (i := (j : Int)) (v := (S.1 6 j)) (by omega) (show (j : Int) < S.1 11 1 by omega)
            rw [relN_succ S m j (by rw [if_neg c_54])] at hR
            have e9 : dropN S m (j + 1) = (dropN S m j + 0) := by show dropN S m j + (if hClr (S.1 7 (j : Int)) m = 0 then S.1 6 (j : Int) else 0) = _; rw [if_neg c_54]
            exact ih9 (j + 1) (by omega) (by omega) _ H locs hR ht9 hP hS ls (by rw [e9, show ((j + 1 : Nat) : Int) = (j : Int) + 1 from by omega]; exact (lv_sub hl [2, 3, 1, 0] rfl))
          · skip
            refine lv_aload_n hx hb dX4_release_57 rfl (lv_at hl 0 rfl) ?_
            refine m_get hx hb hts hin hown hK hP 7 (by decide) (v := .ref (ad 6)) rfl (hts (.fieldLink RX4 32 "HoldServerModel" "kept" "[I") (by decide +kernel)) rfl dX4_release_58 ?_
            refine lv_iload_n hx hb dX4_release_61 rfl (lv_at hl 3 rfl) ?_
            refine m_ld hx hb hK hP (k := 6) (by decide) (v := S.1 6 j) (by omega) (by show _ < ((30 : Nat) : Int); omega) (by have q := hR.fil (k := 6) (i := (j : Int)) (by decide) (by omega) (show (j : Int) < S.1 11 1 by omega); rwa [sset_1, if_neg (by omega), relN_6] at q) dX4_release_62 ?_
            refine lv_goto (tgt := 67) hx hb dX4_release_63 (by decide) ?_
            refine h_iadd hx hb dX4_release_67 ?_
            refine lv_istore_n (lv' := [(2, .int (iI ((dropN S m j + (S.1 6 j))))), (0, .ref (ad 11)), (1, .int (iI (m))), (3, .int (iI ((j : Int))))]) hx hb dX4_release_68 rfl hl (by decide) rfl (fun ls hl => ?_)
            refine lv_aload_n hx hb dX4_release_69 rfl (lv_at hl 1 rfl) ?_
            refine m_get hx hb hts hin hown hK hP 7 (by decide) (v := .ref (ad 6)) rfl (hts (.fieldLink RX4 32 "HoldServerModel" "kept" "[I") (by decide +kernel)) rfl dX4_release_70 ?_
            refine lv_iload_n hx hb dX4_release_73 rfl (lv_at hl 3 rfl) ?_
            refine lv_aload_n hx hb dX4_release_74 rfl (lv_at hl 1 rfl) ?_
            refine m_get hx hb hts hin hown hK hP 8 (by decide) (v := .ref (ad 7)) rfl (hts (.fieldLink RX4 35 "HoldServerModel" "holders" "[I") (by decide +kernel)) rfl dX4_release_75 ?_
            refine lv_iload_n hx hb dX4_release_78 rfl (lv_at hl 3 rfl) ?_
            refine m_ld hx hb hK hP (k := 7) (by decide) (v := hClr (S.1 7 j) m) (by omega) (by show _ < ((30 : Nat) : Int); omega) (by have q := hR.fil (k := 7) (i := (j : Int)) (by decide) (by omega) (show (j : Int) < S.1 11 1 by omega); simpa [sset_1] using q) dX4_release_79 ?_
            refine h_if_ne (tgt := 87) hx hb (by omega) dX4_release_80 (by decide) (fun c_80 => by exfalso; omega) (fun c_80 => ?_)
            refine lv_iconst (v := iI 0) hx hb dX4_release_83 rfl ?_
            refine lv_goto (tgt := 93) hx hb dX4_release_84 (by decide) ?_
            refine m_st hx hb hK hP hD hS (k := 6) (by decide) (by omega) (by show _ < ((30 : Nat) : Int); omega) dX4_release_93 (fun H locs hP hD hS => ?_)
            refine lv_iinc (v := iI (((j : Int) + 1))) (lv' := [(3, .int (iI (((j : Int) + 1)))), (2, .int (iI ((dropN S m j + (S.1 6 j))))), (0, .ref (ad 11)), (1, .int (iI (m)))]) hx hb dX4_release_94 hl (k := 3) rfl (iI_add _ _) (by decide) rfl (fun ls hl => ?_)
            refine lv_goto (tgt := 25) hx hb dX4_release_97 (by decide) ?_
            have hR := RelM.setfil hR (k := 6) (by decide) (i := (j : Int)) (v := 0) (by omega) (show (j : Int) < S.1 11 1 by omega)
            rw [relN_succ S m j (by rw [if_pos c_54])] at hR
            have e9 : dropN S m (j + 1) = (dropN S m j + (S.1 6 j)) := by show dropN S m j + (if hClr (S.1 7 (j : Int)) m = 0 then S.1 6 (j : Int) else 0) = _; rw [if_pos c_54]
            exact ih9 (j + 1) (by omega) (by omega) _ H locs hR ht9 hP hS ls (by rw [e9, show ((j + 1 : Nat) : Int) = (j : Int) + 1 from by omega]; exact (lv_sub hl [2, 3, 1, 0] rfl))
    exact lp25 (S.1 11 1 + 1).toNat 0 (by omega) (by omega) _ _ _ (by rw [show ((0 : Nat) : Int) = 0 from rfl, relN_0]; exact hR) rfl hP hS ls (lv_sub hl [2, 3, 1, 0] rfl)
  · skip
    refine h_if_eq (tgt := 16) hx hb (by omega) dX4_release_9 (by decide) (fun c_9 => ?_) (fun c_9 => by exfalso; omega)
    refine lv_iconst (v := iI 1) hx hb dX4_release_16 rfl ?_
    refine m_callv (As := [.int (iI 1)]) ⟨hx, hb, hml, hown, hts⟩ (c_X4_isFine l D ad cI hD0 (u) (1) (by omega)) (cwV 1 hts gX4_release_X4_isFine rfl rfl rfl (by decide +kernel) ⟨Nat.le_of_ble_eq_true rfl, Nat.le_of_ble_eq_true rfl⟩) hK hP hS rfl hl.1 rfl (Nat.le_of_ble_eq_true rfl) ⟨Nat.le_of_ble_eq_true rfl, Nat.le_of_ble_eq_true rfl⟩ dX4_release_17 (fun r9 u9 H locs hpost hP hS => ?_)
    obtain ⟨rfl, ⟨hc9, rfl⟩ | ⟨hc9, rfl⟩⟩ := hpost
    · exact absurd hc9 (by decide)
    have hR := hR.thr (1)
    have hD : va_D A (wM ad cI (pokeX u 3 (1))) := wM_D hD0
    refine h_if_eq (tgt := 100) hx hb (by omega) dX4_release_20 (by decide) (fun c_20 => ?_) (fun c_20 => by exfalso; omega)
    refine lv_iload_n hx hb dX4_release_100 rfl (lv_at hl 0 rfl) ?_
    exact hret (0) ((pokeX u 3 (1))) _ _ _ _ dX4_release_101 rfl hP hS (by show spM _ _ _; unfold sp_release; rw [iteC_pos (by omega)]; exact ⟨rfl, rfl, hR⟩)

set_option maxRecDepth 100000 in
set_option maxHeartbeats 4000000 in
theorem c_X4_billOf (l : Launch) (D : va_G) (ad : Nat → Nat) (cI : ClassId) {A : Nat → Prop} {u0 : MS} (hD0 : va_D A (wM ad cI u0)) {S : HdS} {n : Int} (hw : wf S n) (u : MS) (hR : RelM S u) (p : Int)  (r_p : inQ p)  : mI l yX4_billOf wsX4_billOf { frames := 1, cells := 0, slots := 0, locals := 22 } D ad cI A [.ref (ad 11), .int (iI p)] u (fun r u2 => u = u2 ∧ r = iI (bil S p)) := by
  refine mI_of (cc := cX4_billOf) (maxL := 4) (ty := .int) (by decide) rfl (Nat.le_of_ble_eq_true rfl) ?_
  intro pp ee ss mm args below meth cc Q hx hb hml hown hts hP hK hS hret ls hl
  have hl : lv_has ls 4 [(0, .ref (ad 11)), (1, .int (iI (p)))] := hl
  have hin : ∀ w ∈ wsX40, w ∈ wsX4_billOf := fun w h => List.mem_cons_of_mem _ (List.mem_append_right _ h)
  have hD : va_D A (wM ad cI u) := wM_D hD0
  have hn1 := hw.nf
  have hn2 := hw.nd
  have hn3 := hw.day
  have hnum9 := hw.num
  refine lv_iconst (v := iI 0) hx hb dX4_billOf_0 rfl ?_
  refine lv_istore_n (lv' := [(2, .int (iI 0)), (0, .ref (ad 11)), (1, .int (iI (p)))]) hx hb dX4_billOf_1 rfl hl (by decide) rfl (fun ls hl => ?_)
  refine lv_iconst (v := iI 0) hx hb dX4_billOf_2 rfl ?_
  refine lv_istore_n (lv' := [(3, .int (iI 0)), (2, .int (iI 0)), (0, .ref (ad 11)), (1, .int (iI (p)))]) hx hb dX4_billOf_3 rfl hl (by decide) rfl (fun ls hl => ?_)
  have lp4 : ∀ (n9 : Nat) (j : Nat), S.1 11 1 - j < (n9 : Int) → ((j : Int) ≤ S.1 11 1) → ∀ (H : Heap) (locs : List Loc), va_P D vwCl (wM ad cI u) H → va_S A ss.heap H locs → ∀ (ls : Array Slot), lv_has ls 4 [(0, .ref (ad 11)), (1, .int (iI (p))), (2, .int (iI (bilN S p j))), (3, .int (iI ((j : Int))))] → W pp l ee { frames := 1, cells := 0, slots := 0, locals := 22 } ss mm args below meth cc H locs 0 0 Q (F0 mm 4 ls []) := by
    intro n9
    induction n9 with
    | zero => intro j hms hj H locs hP hS ls hl; exfalso; omega
    | succ n9 ih9 =>
      intro j hms hj H locs hP hS ls hl
      refine lv_iload_n hx hb dX4_billOf_4 rfl (lv_at hl 3 rfl) ?_
      refine lv_aload_n hx hb dX4_billOf_5 rfl (lv_at hl 0 rfl) ?_
      refine m_geti hx hb hts hin hown hK hP 11 (by decide) (v := S.1 11 1) 1 rfl (hR.x1) (hts (.fieldLink RX4 54 "HoldServerModel" "files" "I") (by decide +kernel)) rfl dX4_billOf_6 ?_
      refine h_icmp_ge (tgt := 65) hx hb (by omega) (by omega) dX4_billOf_9 (by decide) (fun c_9 => ?_) (fun c_9 => ?_)
      · skip
        have hbi9 := bilN_in hw p j (by omega)
        refine lv_iload_n hx hb dX4_billOf_65 rfl (lv_at hl 2 rfl) ?_
        refine lv_bipush (v := iI 99) hx hb dX4_billOf_66 (by decide) ?_
        refine h_iadd hx hb dX4_billOf_68 ?_
        refine lv_bipush (v := iI 100) hx hb dX4_billOf_69 (by decide) ?_
        refine h_idiv hx hb (by omega) (by omega) (by omega) (by omega) dX4_billOf_71 ?_
        exact hret (((bilN S p j + 99) / 100)) (u) _ _ _ _ dX4_billOf_72 rfl hP hS ⟨rfl, by unfold bil; rw [show (S.1 11 1).toNat = j from by omega]⟩
      · skip
        have hdep9 := hw.dep (f := (j : Int)) (by omega) (by omega)
        have hlen9 := hw.len (f := (j : Int)) (by omega) (by omega)
        refine lv_aload_n hx hb dX4_billOf_12 rfl (lv_at hl 0 rfl) ?_
        refine m_get hx hb hts hin hown hK hP 3 (by decide) (v := .ref (ad 2)) rfl (hts (.fieldLink RX4 20 "HoldServerModel" "department" "[I") (by decide +kernel)) rfl dX4_billOf_13 ?_
        refine lv_iload_n hx hb dX4_billOf_16 rfl (lv_at hl 3 rfl) ?_
        refine m_ld hx hb hK hP (k := 2) (by decide) (v := S.1 2 (j : Int)) (by omega) (by show _ < ((30 : Nat) : Int); omega) (hR.fil (by decide) (by omega) (by omega)) dX4_billOf_17 ?_
        refine lv_iload_n hx hb dX4_billOf_18 rfl (lv_at hl 1 rfl) ?_
        refine h_icmp_ne (tgt := 59) hx hb (by omega) (by omega) dX4_billOf_19 (by decide) (fun c_19 => ?_) (fun c_19 => ?_)
        · skip
          refine lv_iinc (v := iI (((j : Int) + 1))) (lv' := [(3, .int (iI (((j : Int) + 1)))), (0, .ref (ad 11)), (1, .int (iI (p))), (2, .int (iI (bilN S p j)))]) hx hb dX4_billOf_59 hl (k := 3) rfl (iI_add _ _) (by decide) rfl (fun ls hl => ?_)
          refine lv_goto (tgt := 4) hx hb dX4_billOf_62 (by decide) ?_
          have e9 : bilN S p (j + 1) = bilN S p j := by show bilN S p j + (if S.1 2 (j : Int) = p then bilT S (j : Int) else 0) = _; rw [if_neg c_19, Int.add_zero]
          exact ih9 (j + 1) (by omega) (by omega) H locs hP hS ls (by rw [e9, show ((j + 1 : Nat) : Int) = (j : Int) + 1 from by omega]; exact (lv_sub hl [1, 2, 3, 0] rfl))
        · skip
          refine lv_iload_n hx hb dX4_billOf_22 rfl (lv_at hl 2 rfl) ?_
          refine lv_aload_n hx hb dX4_billOf_23 rfl (lv_at hl 0 rfl) ?_
          refine m_get hx hb hts hin hown hK hP 7 (by decide) (v := .ref (ad 6)) rfl (hts (.fieldLink RX4 32 "HoldServerModel" "kept" "[I") (by decide +kernel)) rfl dX4_billOf_24 ?_
          refine lv_iload_n hx hb dX4_billOf_27 rfl (lv_at hl 3 rfl) ?_
          refine m_ld hx hb hK hP (k := 6) (by decide) (v := S.1 6 (j : Int)) (by omega) (by show _ < ((30 : Nat) : Int); omega) (hR.fil (by decide) (by omega) (by omega)) dX4_billOf_28 ?_
          refine lv_aload_n hx hb dX4_billOf_29 rfl (lv_at hl 0 rfl) ?_
          refine m_get hx hb hts hin hown hK hP 6 (by decide) (v := .ref (ad 5)) rfl (hts (.fieldLink RX4 29 "HoldServerModel" "links" "[I") (by decide +kernel)) rfl dX4_billOf_30 ?_
          refine lv_iload_n hx hb dX4_billOf_33 rfl (lv_at hl 3 rfl) ?_
          refine m_ld hx hb hK hP (k := 5) (by decide) (v := ((S.2 (j : Int)).length : Int)) (by omega) (by show _ < ((30 : Nat) : Int); omega) (hR.len (by omega) (by omega)) dX4_billOf_34 ?_
          refine h_if_ne (tgt := 42) hx hb (by omega) dX4_billOf_35 (by decide) (fun c_35 => ?_) (fun c_35 => ?_)
          · skip
            refine lv_iconst (v := iI 3) hx hb dX4_billOf_42 rfl ?_
            refine lv_aload_n hx hb dX4_billOf_43 rfl (lv_at hl 0 rfl) ?_
            refine lv_iload_n hx hb dX4_billOf_44 rfl (lv_at hl 3 rfl) ?_
            refine m_callv (As := [.int (iI ((j : Int)))]) ⟨hx, hb, hml, hown, hts⟩ (c_X4_tierOf l D ad cI hD0 hw (u) hR ((j : Int)) (by omega) (by omega) (by omega)) (cwV 1 hts gX4_billOf_X4_tierOf rfl rfl rfl (by decide +kernel) ⟨Nat.le_of_ble_eq_true rfl, Nat.le_of_ble_eq_true rfl⟩) hK hP hS rfl hl.1 rfl (Nat.le_of_ble_eq_true rfl) ⟨Nat.le_of_ble_eq_true rfl, Nat.le_of_ble_eq_true rfl⟩ dX4_billOf_45 (fun r9 u9 H locs hpost hP hS => ?_)
            obtain ⟨rfl, rfl⟩ := hpost
            have ht9 := tier_in (S := S) ((j : Int))
            refine h_isub hx hb dX4_billOf_48 ?_
            refine lv_aload_n hx hb dX4_billOf_49 rfl (lv_at hl 0 rfl) ?_
            refine m_get hx hb hts hin hown hK hP 4 (by decide) (v := .ref (ad 3)) rfl (hts (.fieldLink RX4 23 "HoldServerModel" "size" "[I") (by decide +kernel)) rfl dX4_billOf_50 ?_
            refine lv_iload_n hx hb dX4_billOf_53 rfl (lv_at hl 3 rfl) ?_
            refine m_ld hx hb hK hP (k := 3) (by decide) (v := S.1 3 (j : Int)) (by omega) (by show _ < ((30 : Nat) : Int); omega) (hR.fil (by decide) (by omega) (by omega)) dX4_billOf_54 ?_
            refine h_imul hx hb dX4_billOf_55 ?_
            refine h_iadd hx hb dX4_billOf_56 ?_
            refine h_iadd hx hb dX4_billOf_57 ?_
            refine lv_istore_n (lv' := [(2, .int (iI ((bilN S p j + ((S.1 6 (j : Int)) + ((3 - (tierS S (j : Int))) * (S.1 3 (j : Int)))))))), (0, .ref (ad 11)), (1, .int (iI (p))), (3, .int (iI ((j : Int))))]) hx hb dX4_billOf_58 rfl hl (by decide) rfl (fun ls hl => ?_)
            refine lv_iinc (v := iI (((j : Int) + 1))) (lv' := [(3, .int (iI (((j : Int) + 1)))), (2, .int (iI ((bilN S p j + ((S.1 6 (j : Int)) + ((3 - (tierS S (j : Int))) * (S.1 3 (j : Int)))))))), (0, .ref (ad 11)), (1, .int (iI (p)))]) hx hb dX4_billOf_59 hl (k := 3) rfl (iI_add _ _) (by decide) rfl (fun ls hl => ?_)
            refine lv_goto (tgt := 4) hx hb dX4_billOf_62 (by decide) ?_
            have e9 : bilN S p (j + 1) = (bilN S p j + ((S.1 6 (j : Int)) + ((3 - (tierS S (j : Int))) * (S.1 3 (j : Int))))) := by show bilN S p j + (if S.1 2 (j : Int) = p then bilT S (j : Int) else 0) = _; rw [if_pos c_19]; unfold bilT; rw [if_neg (fun q => by rw [q] at c_35; exact c_35 rfl)]
            exact ih9 (j + 1) (by omega) (by omega) H locs hP hS ls (by rw [e9, show ((j + 1 : Nat) : Int) = (j : Int) + 1 from by omega]; exact (lv_sub hl [2, 3, 1, 0] rfl))
          · skip
            refine lv_iconst (v := iI 0) hx hb dX4_billOf_38 rfl ?_
            refine lv_goto (tgt := 56) hx hb dX4_billOf_39 (by decide) ?_
            refine h_iadd hx hb dX4_billOf_56 ?_
            refine h_iadd hx hb dX4_billOf_57 ?_
            refine lv_istore_n (lv' := [(2, .int (iI ((bilN S p j + ((S.1 6 (j : Int)) + 0))))), (0, .ref (ad 11)), (1, .int (iI (p))), (3, .int (iI ((j : Int))))]) hx hb dX4_billOf_58 rfl hl (by decide) rfl (fun ls hl => ?_)
            refine lv_iinc (v := iI (((j : Int) + 1))) (lv' := [(3, .int (iI (((j : Int) + 1)))), (2, .int (iI ((bilN S p j + ((S.1 6 (j : Int)) + 0))))), (0, .ref (ad 11)), (1, .int (iI (p)))]) hx hb dX4_billOf_59 hl (k := 3) rfl (iI_add _ _) (by decide) rfl (fun ls hl => ?_)
            refine lv_goto (tgt := 4) hx hb dX4_billOf_62 (by decide) ?_
            have e9 : bilN S p (j + 1) = (bilN S p j + ((S.1 6 (j : Int)) + 0)) := by show bilN S p j + (if S.1 2 (j : Int) = p then bilT S (j : Int) else 0) = _; rw [if_pos c_19]; unfold bilT; rw [if_pos (List.eq_nil_of_length_eq_zero (l := S.2 (j : Int)) (by omega))]
            exact ih9 (j + 1) (by omega) (by omega) H locs hP hS ls (by rw [e9, show ((j + 1 : Nat) : Int) = (j : Int) + 1 from by omega]; exact (lv_sub hl [2, 3, 1, 0] rfl))
  exact lp4 (S.1 11 1 + 1).toNat 0 (by omega) (by omega) _ _ hP hS ls (lv_sub hl [2, 3, 1, 0] rfl)

set_option maxRecDepth 100000 in
set_option maxHeartbeats 4000000 in
theorem c_X4_bill (l : Launch) (D : va_G) (ad : Nat → Nat) (cI : ClassId) {A : Nat → Prop} {u0 : MS} (hD0 : va_D A (wM ad cI u0)) {S : HdS} {n : Int} (hw : wf S n) (u : MS) (hR : RelM S u) (p : Int)  (r_p : inQ p)  : mI l yX4_bill wsX4_bill { frames := 2, cells := 0, slots := 0, locals := 45 } D ad cI A [.ref (ad 11), .int (iI p)] u (spM (sp_dpt S p (bil S p))) := by
  refine mI_of (cc := cX4_bill) (maxL := 2) (ty := .int) (by decide) rfl (Nat.le_of_ble_eq_true rfl) ?_
  intro pp ee ss mm args below meth cc Q hx hb hml hown hts hP hK hS hret ls hl
  have hl : lv_has ls 2 [(0, .ref (ad 11)), (1, .int (iI (p)))] := hl
  have hin : ∀ w ∈ wsX40, w ∈ wsX4_bill := fun w h => List.mem_cons_of_mem _ (List.mem_append_right _ h)
  have hD : va_D A (wM ad cI u) := wM_D hD0
  refine lv_aload_n hx hb dX4_bill_0 rfl (lv_at hl 0 rfl) ?_
  refine lv_iload_n hx hb dX4_bill_1 rfl (lv_at hl 1 rfl) ?_
  refine m_calls (As := [.int (iI (p))]) ⟨hx, hb, hml, hown, hts⟩ (c_X4_isDepartment l D ad cI hD0 (u) (p) (by omega)) (va_cwS 1 hts gX4_bill_X4_isDepartment rfl rfl rfl (by decide +kernel) ⟨Nat.le_of_ble_eq_true rfl, Nat.le_of_ble_eq_true rfl⟩) hK hP hS rfl hl.1 rfl (Nat.le_of_ble_eq_true rfl) ⟨Nat.le_of_ble_eq_true rfl, Nat.le_of_ble_eq_true rfl⟩ dX4_bill_2 (fun r9 u9 H locs hpost hP hS => ?_)
  obtain ⟨rfl, ⟨hc_1, rfl⟩ | ⟨hc_1, rfl⟩⟩ := hpost
  · skip
    refine h_if_eq (tgt := 12) hx hb (by omega) dX4_bill_5 (by decide) (fun c_5 => by exfalso; omega) (fun c_5 => ?_)
    refine lv_iconst (v := iI 0) hx hb dX4_bill_8 rfl ?_
    refine lv_goto (tgt := 13) hx hb dX4_bill_9 (by decide) ?_
    refine m_callv (As := [.int (iI 0)]) ⟨hx, hb, hml, hown, hts⟩ (c_X4_isFine l D ad cI hD0 (u) (0) (by omega)) (cwV 1 hts gX4_bill_X4_isFine rfl rfl rfl (by decide +kernel) ⟨Nat.le_of_ble_eq_true rfl, Nat.le_of_ble_eq_true rfl⟩) hK hP hS rfl hl.1 rfl (Nat.le_of_ble_eq_true rfl) ⟨Nat.le_of_ble_eq_true rfl, Nat.le_of_ble_eq_true rfl⟩ dX4_bill_13 (fun r9 u9 H locs hpost hP hS => ?_)
    obtain ⟨rfl, ⟨hc9, rfl⟩ | ⟨hc9, rfl⟩⟩ := hpost
    rotate_left
    · exact absurd rfl hc9
    have hR := hR.thr (0)
    have hD : va_D A (wM ad cI (pokeX u 3 (0))) := wM_D hD0
    refine h_if_eq (tgt := 27) hx hb (by omega) dX4_bill_16 (by decide) (fun c_16 => by exfalso; omega) (fun c_16 => ?_)
    refine lv_aload_n hx hb dX4_bill_19 rfl (lv_at hl 0 rfl) ?_
    refine lv_iload_n hx hb dX4_bill_20 rfl (lv_at hl 1 rfl) ?_
    refine m_callv (As := [.int (iI (p))]) ⟨hx, hb, hml, hown, hts⟩ (c_X4_billOf l D ad cI hD0 hw ((pokeX u 3 (0))) hR (p) (by omega)) (cwV 1 hts gX4_bill_X4_billOf rfl rfl rfl (by decide +kernel) ⟨Nat.le_of_ble_eq_true rfl, Nat.le_of_ble_eq_true rfl⟩) hK hP hS rfl hl.1 rfl (Nat.le_of_ble_eq_true rfl) ⟨Nat.le_of_ble_eq_true rfl, Nat.le_of_ble_eq_true rfl⟩ dX4_bill_21 (fun r9 u9 H locs hpost hP hS => ?_)
    obtain ⟨rfl, rfl⟩ := hpost
    refine lv_goto (tgt := 28) hx hb dX4_bill_24 (by decide) ?_
    exact hret ((bil S p)) ((pokeX u 3 (0))) _ _ _ _ dX4_bill_28 rfl hP hS (by show spM _ _ _; unfold sp_dpt; rw [iteC_neg (by omega)]; exact ⟨rfl, rfl, hR⟩)
  · skip
    refine h_if_eq (tgt := 12) hx hb (by omega) dX4_bill_5 (by decide) (fun c_5 => ?_) (fun c_5 => by exfalso; omega)
    refine lv_iconst (v := iI 1) hx hb dX4_bill_12 rfl ?_
    refine m_callv (As := [.int (iI 1)]) ⟨hx, hb, hml, hown, hts⟩ (c_X4_isFine l D ad cI hD0 (u) (1) (by omega)) (cwV 1 hts gX4_bill_X4_isFine rfl rfl rfl (by decide +kernel) ⟨Nat.le_of_ble_eq_true rfl, Nat.le_of_ble_eq_true rfl⟩) hK hP hS rfl hl.1 rfl (Nat.le_of_ble_eq_true rfl) ⟨Nat.le_of_ble_eq_true rfl, Nat.le_of_ble_eq_true rfl⟩ dX4_bill_13 (fun r9 u9 H locs hpost hP hS => ?_)
    obtain ⟨rfl, ⟨hc9, rfl⟩ | ⟨hc9, rfl⟩⟩ := hpost
    · exact absurd hc9 (by decide)
    have hR := hR.thr (1)
    have hD : va_D A (wM ad cI (pokeX u 3 (1))) := wM_D hD0
    refine h_if_eq (tgt := 27) hx hb (by omega) dX4_bill_16 (by decide) (fun c_16 => ?_) (fun c_16 => by exfalso; omega)
    refine lv_iconst (v := iI 0) hx hb dX4_bill_27 rfl ?_
    exact hret (0) ((pokeX u 3 (1))) _ _ _ _ dX4_bill_28 rfl hP hS (by show spM _ _ _; unfold sp_dpt; rw [iteC_pos (by omega)]; exact ⟨rfl, rfl, hR⟩)

set_option maxRecDepth 100000 in
set_option maxHeartbeats 4000000 in
theorem c_X4_goesDay (l : Launch) (D : va_G) (ad : Nat → Nat) (cI : ClassId) {A : Nat → Prop} {u0 : MS} (hD0 : va_D A (wM ad cI u0)) {S : HdS} {n : Int} (hw : wf S n) (u : MS) (hR : RelM S u)    (hday : S.1 11 2 < 10000): mI l yX4_goesDay wsX4_goesDay { frames := 2, cells := 0, slots := 0, locals := 45 } D ad cI A [.ref (ad 11)] u (fun r u2 => u2.2 3 = u.2 3 ∧ RelM (dayS S) u2 ∧ r = iI (paidN S 4)) := by
  refine mI_of (cc := cX4_goesDay) (maxL := 4) (ty := .int) (by decide) rfl (Nat.le_of_ble_eq_true rfl) ?_
  intro pp ee ss mm args below meth cc Q hx hb hml hown hts hP hK hS hret ls hl
  have hl : lv_has ls 4 [(0, .ref (ad 11))] := hl
  have hin : ∀ w ∈ wsX40, w ∈ wsX4_goesDay := fun w h => List.mem_cons_of_mem _ (List.mem_append_right _ h)
  have hD : va_D A (wM ad cI u) := wM_D hD0
  have hn1 := hw.nf
  have hn2 := hw.nd
  have hn3 := hw.day
  have hnum9 := hw.num
  refine lv_iconst (v := iI 0) hx hb dX4_goesDay_0 rfl ?_
  refine lv_istore_n (lv' := [(1, .int (iI 0)), (0, .ref (ad 11))]) hx hb dX4_goesDay_1 rfl hl (by decide) rfl (fun ls hl => ?_)
  refine lv_iconst (v := iI 0) hx hb dX4_goesDay_2 rfl ?_
  refine lv_istore_n (lv' := [(2, .int (iI 0)), (1, .int (iI 0)), (0, .ref (ad 11))]) hx hb dX4_goesDay_3 rfl hl (by decide) rfl (fun ls hl => ?_)
  have lp4 : ∀ (n9 : Nat) (j : Nat), 4 - j < (n9 : Int) → ((j : Int) ≤ 4) → ∀ (u2 : MS) (H : Heap) (locs : List Loc), (RelM (payN S j) u2) → (u2.2 3 = u.2 3) → va_P D vwCl (wM ad cI u2) H → va_S A ss.heap H locs → ∀ (ls : Array Slot), lv_has ls 4 [(0, .ref (ad 11)), (1, .int (iI (paidN S j))), (2, .int (iI ((j : Int))))] → W pp l ee { frames := 2, cells := 0, slots := 0, locals := 45 } ss mm args below meth cc H locs 0 0 Q (F0 mm 4 ls []) := by
    intro n9
    induction n9 with
    | zero => intro j hms hj u2 H locs hR ht9 hP hS ls hl; exfalso; omega
    | succ n9 ih9 =>
      intro j hms hj u2 H locs hR ht9 hP hS ls hl
      have hD : va_D A (wM ad cI u2) := wM_D hD0
      have hw2 : wf (payN S (j : Int)) n := wf_payN hw (by omega)
      have hbi9 := bil_in hw (j : Int)
      refine lv_iload_n hx hb dX4_goesDay_4 rfl (lv_at hl 2 rfl) ?_
      refine lv_iconst (v := iI 4) hx hb dX4_goesDay_5 rfl ?_
      refine h_icmp_ge (tgt := 58) hx hb (by omega) (by omega) dX4_goesDay_6 (by decide) (fun c_6 => ?_) (fun c_6 => ?_)
      · skip
        have hj4 : j = 4 := by omega
        subst hj4
        have hR : RelM (payN S 4) u2 := hR
        refine lv_aload_n hx hb dX4_goesDay_58 rfl (lv_at hl 0 rfl) ?_
        refine lv_dup hx hb dX4_goesDay_59 rfl ?_
        refine m_geti hx hb hts hin hown hK hP 13 (by decide) (v := S.1 11 2) 2 rfl (by rw [hR.x2]; rfl) (hts (.fieldLink RX4 82 "HoldServerModel" "day" "I") (by decide +kernel)) rfl dX4_goesDay_60 ?_
        refine lv_iconst (v := iI 1) hx hb dX4_goesDay_63 rfl ?_
        refine h_iadd hx hb dX4_goesDay_64 ?_
        refine m_put hx hb hts hin hown hK hP hD hS 2 (by decide) (hts (.fieldLink RX4 82 "HoldServerModel" "day" "I") (by decide +kernel)) rfl dX4_goesDay_65 (fun H locs hP hD hS => ?_)
        have hR := RelM.setday hR (v := S.1 11 2 + 1)
        rw [show S.1 11 2 + 1 = (payN S 4).1 11 2 + 1 from rfl, ← dueN_0] at hR
        refine lv_iconst (v := iI 0) hx hb dX4_goesDay_68 rfl ?_
        refine lv_istore_n (lv' := [(2, .int (iI 0)), (0, .ref (ad 11)), (1, .int (iI (paidN S 4)))]) hx hb dX4_goesDay_69 rfl hl (by decide) rfl (fun ls hl => ?_)
        have lp70 : ∀ (n9 : Nat) (i : Nat), S.1 11 1 - i < (n9 : Int) → ((i : Int) ≤ S.1 11 1) → ∀ (u2 : MS) (H : Heap) (locs : List Loc), (RelM (dueN (payN S 4) i) u2) → (u2.2 3 = u.2 3) → va_P D vwCl (wM ad cI u2) H → va_S A ss.heap H locs → ∀ (ls : Array Slot), lv_has ls 4 [(0, .ref (ad 11)), (1, .int (iI (paidN S 4))), (2, .int (iI ((i : Int))))] → W pp l ee { frames := 2, cells := 0, slots := 0, locals := 45 } ss mm args below meth cc H locs 0 0 Q (F0 mm 70 ls []) := by
          intro n9
          induction n9 with
          | zero => intro i hms hi u2 H locs hR ht9 hP hS ls hl; exfalso; omega
          | succ n9 ih9 =>
            intro i hms hi u2 H locs hR ht9 hP hS ls hl
            have hD : va_D A (wM ad cI u2) := wM_D hD0
            refine lv_iload_n hx hb dX4_goesDay_70 rfl (lv_at hl 2 rfl) ?_
            refine lv_aload_n hx hb dX4_goesDay_71 rfl (lv_at hl 0 rfl) ?_
            refine m_geti hx hb hts hin hown hK hP 11 (by decide) (v := S.1 11 1) 1 rfl (by rw [hR.x1]; rfl) (hts (.fieldLink RX4 54 "HoldServerModel" "files" "I") (by decide +kernel)) rfl dX4_goesDay_72 ?_
            refine h_icmp_ge (tgt := 114) hx hb (by omega) (by omega) dX4_goesDay_75 (by decide) (fun c_75 => ?_) (fun c_75 => ?_)
            · skip
              refine lv_iload_n hx hb dX4_goesDay_114 rfl (lv_at hl 1 rfl) ?_
              exact hret (paidN S 4) (u2) _ _ _ _ dX4_goesDay_115 rfl hP hS ⟨ht9, by unfold dayS; rw [show S.1 11 1 = (i : Int) from by omega]; exact hR, rfl⟩
            · skip
              have hbac9 := hw.bac (f := (i : Int)) (by omega) (by omega)
              refine lv_aload_n hx hb dX4_goesDay_78 rfl (lv_at hl 0 rfl) ?_
              refine m_get hx hb hts hin hown hK hP 10 (by decide) (v := .ref (ad 9)) rfl (hts (.fieldLink RX4 41 "HoldServerModel" "back" "[I") (by decide +kernel)) rfl dX4_goesDay_79 ?_
              refine lv_iload_n hx hb dX4_goesDay_82 rfl (lv_at hl 2 rfl) ?_
              refine m_ld hx hb hK hP (k := 9) (by decide) (v := S.1 9 (i : Int)) (by omega) (by show _ < ((30 : Nat) : Int); omega) (by have q := hR.fil (k := 9) (i := (i : Int)) (by decide) (by omega) (show (i : Int) < S.1 11 1 by omega); rwa [dueN_9] at q) dX4_goesDay_83 ?_
              refine lv_aload_n hx hb dX4_goesDay_84 rfl (lv_at hl 0 rfl) ?_
              refine m_geti hx hb hts hin hown hK hP 13 (by decide) (v := S.1 11 2 + 1) 2 rfl (by rw [hR.x2]; rfl) (hts (.fieldLink RX4 82 "HoldServerModel" "day" "I") (by decide +kernel)) rfl dX4_goesDay_85 ?_
              refine h_icmp_ne (tgt := 108) hx hb (by omega) (by omega) dX4_goesDay_88 (by decide) (fun c_88 => ?_) (fun c_88 => ?_)
              · skip
                refine lv_iinc (v := iI (((i : Int) + 1))) (lv' := [(2, .int (iI (((i : Int) + 1)))), (0, .ref (ad 11)), (1, .int (iI (paidN S 4)))]) hx hb dX4_goesDay_108 hl (k := 2) rfl (iI_add _ _) (by decide) rfl (fun ls hl => ?_)
                refine lv_goto (tgt := 70) hx hb dX4_goesDay_111 (by decide) ?_
                have hR : RelM (dueN (payN S 4) ((i + 1 : Nat) : Int)) u2 := by rw [dueN_skip (payN S 4) i (fun q => c_88 q)]; exact hR
                exact ih9 (i + 1) (by omega) (by omega) _ H locs hR ht9 hP hS ls (by rw [show ((i + 1 : Nat) : Int) = (i : Int) + 1 from by omega]; exact (lv_sub hl [1, 2, 0] rfl))
              · skip
                refine lv_aload_n hx hb dX4_goesDay_91 rfl (lv_at hl 0 rfl) ?_
                refine m_get hx hb hts hin hown hK hP 9 (by decide) (v := .ref (ad 8)) rfl (hts (.fieldLink RX4 38 "HoldServerModel" "used" "[I") (by decide +kernel)) rfl dX4_goesDay_92 ?_
                refine lv_iload_n hx hb dX4_goesDay_95 rfl (lv_at hl 2 rfl) ?_
                refine lv_aload_n hx hb dX4_goesDay_96 rfl (lv_at hl 0 rfl) ?_
                refine m_geti hx hb hts hin hown hK hP 13 (by decide) (v := S.1 11 2 + 1) 2 rfl (by rw [hR.x2]; rfl) (hts (.fieldLink RX4 82 "HoldServerModel" "day" "I") (by decide +kernel)) rfl dX4_goesDay_97 ?_
                refine m_st hx hb hK hP hD hS (k := 8) (by decide) (by omega) (by show _ < ((30 : Nat) : Int); omega) dX4_goesDay_100 (fun H locs hP hD hS => ?_)
                refine lv_aload_n hx hb dX4_goesDay_101 rfl (lv_at hl 0 rfl) ?_
                refine m_get hx hb hts hin hown hK hP 10 (by decide) (v := .ref (ad 9)) rfl (hts (.fieldLink RX4 41 "HoldServerModel" "back" "[I") (by decide +kernel)) rfl dX4_goesDay_102 ?_
                refine lv_iload_n hx hb dX4_goesDay_105 rfl (lv_at hl 2 rfl) ?_
                refine lv_iconst (v := iI (-1)) hx hb dX4_goesDay_106 rfl ?_
                refine m_st hx hb hK hP hD hS (k := 9) (by decide) (by omega) (by show _ < ((30 : Nat) : Int); omega) dX4_goesDay_107 (fun H locs hP hD hS => ?_)
                refine lv_iinc (v := iI (((i : Int) + 1))) (lv' := [(2, .int (iI (((i : Int) + 1)))), (0, .ref (ad 11)), (1, .int (iI (paidN S 4)))]) hx hb dX4_goesDay_108 hl (k := 2) rfl (iI_add _ _) (by decide) rfl (fun ls hl => ?_)
                refine lv_goto (tgt := 70) hx hb dX4_goesDay_111 (by decide) ?_
                have hR := RelM.setfil hR (k := 8) (by decide) (i := (i : Int)) (v := S.1 11 2 + 1) (by omega) (show (i : Int) < S.1 11 1 by omega)
                have hR := RelM.setfil hR (k := 9) (by decide) (i := (i : Int)) (v := -1) (by omega) (show (i : Int) < S.1 11 1 by omega)
                rw [show S.1 11 2 + 1 = (payN S 4).1 11 2 + 1 from rfl, dueN_step (payN S 4) i c_88] at hR
                exact ih9 (i + 1) (by omega) (by omega) _ H locs hR ht9 hP hS ls (by rw [show ((i + 1 : Nat) : Int) = (i : Int) + 1 from by omega]; exact (lv_sub hl [1, 2, 0] rfl))
        exact lp70 (S.1 11 1 + 1).toNat 0 (by omega) (by omega) _ _ _ hR ht9 hP hS ls (lv_sub hl [1, 2, 0] rfl)
      · skip
        have hcoi9 := hw.coi (d := (j : Int)) (by omega) (by omega)
        refine lv_aload_n hx hb dX4_goesDay_9 rfl (lv_at hl 0 rfl) ?_
        refine lv_iload_n hx hb dX4_goesDay_10 rfl (lv_at hl 2 rfl) ?_
        refine m_callv (As := [.int (iI ((j : Int)))]) ⟨hx, hb, hml, hown, hts⟩ (c_X4_billOf l D ad cI hD0 hw2 u2 hR (j : Int) (by omega)) (cwV 1 hts gX4_goesDay_X4_billOf rfl rfl rfl (by decide +kernel) ⟨Nat.le_of_ble_eq_true rfl, Nat.le_of_ble_eq_true rfl⟩) hK hP hS rfl hl.1 rfl (Nat.le_of_ble_eq_true rfl) ⟨Nat.le_of_ble_eq_true rfl, Nat.le_of_ble_eq_true rfl⟩ dX4_goesDay_11 (fun r9 u9 H locs hpost hP hS => ?_)
        obtain ⟨rfl, rfl⟩ := hpost
        rw [bil_payN S (j : Int) (j : Int)]
        refine lv_aload_n hx hb dX4_goesDay_14 rfl (lv_at hl 0 rfl) ?_
        refine m_get hx hb hts hin hown hK hP 12 (by decide) (v := .ref (ad 10)) rfl (hts (.fieldLink RX4 44 "HoldServerModel" "coins" "[I") (by decide +kernel)) rfl dX4_goesDay_15 ?_
        refine lv_iload_n hx hb dX4_goesDay_18 rfl (lv_at hl 2 rfl) ?_
        refine m_ld hx hb hK hP (k := 10) (by decide) (v := S.1 10 (j : Int)) (by omega) (by show _ < ((4 : Nat) : Int); omega) (by have q := hR.coi (i := (j : Int)) (by omega) (by omega); rwa [payN_ge S (by omega)] at q) dX4_goesDay_19 ?_
        refine h_icmp_ge (tgt := 31) hx hb (by omega) (by omega) dX4_goesDay_20 (by decide) (fun c_20 => ?_) (fun c_20 => ?_)
        · skip
          refine lv_aload_n hx hb dX4_goesDay_31 rfl (lv_at hl 0 rfl) ?_
          refine m_get hx hb hts hin hown hK hP 12 (by decide) (v := .ref (ad 10)) rfl (hts (.fieldLink RX4 44 "HoldServerModel" "coins" "[I") (by decide +kernel)) rfl dX4_goesDay_32 ?_
          refine lv_iload_n hx hb dX4_goesDay_35 rfl (lv_at hl 2 rfl) ?_
          refine m_ld hx hb hK hP (k := 10) (by decide) (v := S.1 10 (j : Int)) (by omega) (by show _ < ((4 : Nat) : Int); omega) (by have q := hR.coi (i := (j : Int)) (by omega) (by omega); rwa [payN_ge S (by omega)] at q) dX4_goesDay_36 ?_
          refine lv_istore_n (lv' := [(3, .int (iI ((S.1 10 (j : Int))))), (0, .ref (ad 11)), (1, .int (iI (paidN S j))), (2, .int (iI ((j : Int))))]) hx hb dX4_goesDay_37 rfl hl (by decide) rfl (fun ls hl => ?_)
          have hpay9 : payS S (j : Int) = (S.1 10 (j : Int)) := by unfold payS; rw [if_neg (by omega)]
          refine lv_aload_n hx hb dX4_goesDay_38 rfl (lv_at hl 1 rfl) ?_
          refine m_get hx hb hts hin hown hK hP 12 (by decide) (v := .ref (ad 10)) rfl (hts (.fieldLink RX4 44 "HoldServerModel" "coins" "[I") (by decide +kernel)) rfl dX4_goesDay_39 ?_
          refine lv_iload_n hx hb dX4_goesDay_42 rfl (lv_at hl 3 rfl) ?_
          refine lv_dup2_11 hx hb dX4_goesDay_43 rfl rfl ?_
          refine m_ld hx hb hK hP (k := 10) (by decide) (v := S.1 10 (j : Int)) (by omega) (by show _ < ((4 : Nat) : Int); omega) (by have q := hR.coi (i := (j : Int)) (by omega) (by omega); rwa [payN_ge S (by omega)] at q) dX4_goesDay_44 ?_
          refine lv_iload_n hx hb dX4_goesDay_45 rfl (lv_at hl 0 rfl) ?_
          refine h_isub hx hb dX4_goesDay_46 ?_
          refine m_st hx hb hK hP hD hS (k := 10) (by decide) (by omega) (by show _ < ((4 : Nat) : Int); omega) dX4_goesDay_47 (fun H locs hP hD hS => ?_)
          refine lv_iload_n hx hb dX4_goesDay_48 rfl (lv_at hl 2 rfl) ?_
          refine lv_iload_n hx hb dX4_goesDay_49 rfl (lv_at hl 0 rfl) ?_
          refine h_iadd hx hb dX4_goesDay_50 ?_
          refine lv_istore_n (lv' := [(1, .int (iI ((paidN S j + (S.1 10 (j : Int)))))), (3, .int (iI ((S.1 10 (j : Int))))), (0, .ref (ad 11)), (2, .int (iI ((j : Int))))]) hx hb dX4_goesDay_51 rfl hl (by decide) rfl (fun ls hl => ?_)
          refine lv_iinc (v := iI (((j : Int) + 1))) (lv' := [(2, .int (iI (((j : Int) + 1)))), (1, .int (iI ((paidN S j + (S.1 10 (j : Int)))))), (3, .int (iI ((S.1 10 (j : Int))))), (0, .ref (ad 11))]) hx hb dX4_goesDay_52 hl (k := 3) rfl (iI_add _ _) (by decide) rfl (fun ls hl => ?_)
          refine lv_goto (tgt := 4) hx hb dX4_goesDay_55 (by decide) ?_
          have hR := RelM.setcoi hR hn1.1 (i := (j : Int)) (v := ((S.1 10 (j : Int)) - (S.1 10 (j : Int)))) (by omega)
          rw [payN_succ S j (by rw [hpay9])] at hR
          have e9 : paidN S (j + 1) = (paidN S j + (S.1 10 (j : Int))) := by show paidN S j + payS S (j : Int) = _; rw [hpay9]
          exact ih9 (j + 1) (by omega) (by omega) _ H locs hR ht9 hP hS ls (by rw [e9, show ((j + 1 : Nat) : Int) = (j : Int) + 1 from by omega]; exact (lv_sub hl [3, 1, 0] rfl))
        · skip
          refine lv_aload_n hx hb dX4_goesDay_23 rfl (lv_at hl 0 rfl) ?_
          refine lv_iload_n hx hb dX4_goesDay_24 rfl (lv_at hl 2 rfl) ?_
          refine m_callv (As := [.int (iI ((j : Int)))]) ⟨hx, hb, hml, hown, hts⟩ (c_X4_billOf l D ad cI hD0 hw2 u2 hR (j : Int) (by omega)) (cwV 1 hts gX4_goesDay_X4_billOf rfl rfl rfl (by decide +kernel) ⟨Nat.le_of_ble_eq_true rfl, Nat.le_of_ble_eq_true rfl⟩) hK hP hS rfl hl.1 rfl (Nat.le_of_ble_eq_true rfl) ⟨Nat.le_of_ble_eq_true rfl, Nat.le_of_ble_eq_true rfl⟩ dX4_goesDay_25 (fun r9 u9 H locs hpost hP hS => ?_)
          obtain ⟨rfl, rfl⟩ := hpost
          rw [bil_payN S (j : Int) (j : Int)]
          refine lv_goto (tgt := 37) hx hb dX4_goesDay_28 (by decide) ?_
          refine lv_istore_n (lv' := [(3, .int (iI ((bil S (j : Int))))), (0, .ref (ad 11)), (1, .int (iI (paidN S j))), (2, .int (iI ((j : Int))))]) hx hb dX4_goesDay_37 rfl hl (by decide) rfl (fun ls hl => ?_)
          have hpay9 : payS S (j : Int) = (bil S (j : Int)) := by unfold payS; rw [if_pos (by omega)]
          refine lv_aload_n hx hb dX4_goesDay_38 rfl (lv_at hl 1 rfl) ?_
          refine m_get hx hb hts hin hown hK hP 12 (by decide) (v := .ref (ad 10)) rfl (hts (.fieldLink RX4 44 "HoldServerModel" "coins" "[I") (by decide +kernel)) rfl dX4_goesDay_39 ?_
          refine lv_iload_n hx hb dX4_goesDay_42 rfl (lv_at hl 3 rfl) ?_
          refine lv_dup2_11 hx hb dX4_goesDay_43 rfl rfl ?_
          refine m_ld hx hb hK hP (k := 10) (by decide) (v := S.1 10 (j : Int)) (by omega) (by show _ < ((4 : Nat) : Int); omega) (by have q := hR.coi (i := (j : Int)) (by omega) (by omega); rwa [payN_ge S (by omega)] at q) dX4_goesDay_44 ?_
          refine lv_iload_n hx hb dX4_goesDay_45 rfl (lv_at hl 0 rfl) ?_
          refine h_isub hx hb dX4_goesDay_46 ?_
          refine m_st hx hb hK hP hD hS (k := 10) (by decide) (by omega) (by show _ < ((4 : Nat) : Int); omega) dX4_goesDay_47 (fun H locs hP hD hS => ?_)
          refine lv_iload_n hx hb dX4_goesDay_48 rfl (lv_at hl 2 rfl) ?_
          refine lv_iload_n hx hb dX4_goesDay_49 rfl (lv_at hl 0 rfl) ?_
          refine h_iadd hx hb dX4_goesDay_50 ?_
          refine lv_istore_n (lv' := [(1, .int (iI ((paidN S j + (bil S (j : Int)))))), (3, .int (iI ((bil S (j : Int))))), (0, .ref (ad 11)), (2, .int (iI ((j : Int))))]) hx hb dX4_goesDay_51 rfl hl (by decide) rfl (fun ls hl => ?_)
          refine lv_iinc (v := iI (((j : Int) + 1))) (lv' := [(2, .int (iI (((j : Int) + 1)))), (1, .int (iI ((paidN S j + (bil S (j : Int)))))), (3, .int (iI ((bil S (j : Int))))), (0, .ref (ad 11))]) hx hb dX4_goesDay_52 hl (k := 3) rfl (iI_add _ _) (by decide) rfl (fun ls hl => ?_)
          refine lv_goto (tgt := 4) hx hb dX4_goesDay_55 (by decide) ?_
          have hR := RelM.setcoi hR hn1.1 (i := (j : Int)) (v := ((S.1 10 (j : Int)) - (bil S (j : Int)))) (by omega)
          rw [payN_succ S j (by rw [hpay9])] at hR
          have e9 : paidN S (j + 1) = (paidN S j + (bil S (j : Int))) := by show paidN S j + payS S (j : Int) = _; rw [hpay9]
          exact ih9 (j + 1) (by omega) (by omega) _ H locs hR ht9 hP hS ls (by rw [e9, show ((j + 1 : Nat) : Int) = (j : Int) + 1 from by omega]; exact (lv_sub hl [3, 1, 0] rfl))
  exact lp4 5 0 (by omega) (by omega) _ _ _ (by rw [show ((0 : Nat) : Int) = 0 from rfl, payN_0]; exact hR) rfl hP hS ls (lv_sub hl [2, 1, 0] rfl)

set_option maxRecDepth 100000 in
set_option maxHeartbeats 4000000 in
theorem c_X4_pass (l : Launch) (D : va_G) (ad : Nat → Nat) (cI : ClassId) {A : Nat → Prop} {u0 : MS} (hD0 : va_D A (wM ad cI u0)) {S : HdS} {n : Int} (hw : wf S n) (u : MS) (hR : RelM S u) (k : Int)  (r_k : inQ k)  : mI l yX4_pass wsX4_pass { frames := 3, cells := 0, slots := 0, locals := 68 } D ad cI A [.ref (ad 11), .int (iI k)] u (spM (sp_pass S k)) := by
  refine mI_of (cc := cX4_pass) (maxL := 4) (ty := .int) (by decide) rfl (Nat.le_of_ble_eq_true rfl) ?_
  intro pp ee ss mm args below meth cc Q hx hb hml hown hts hP hK hS hret ls hl
  have hl : lv_has ls 4 [(0, .ref (ad 11)), (1, .int (iI (k)))] := hl
  have hin : ∀ w ∈ wsX40, w ∈ wsX4_pass := fun w h => List.mem_cons_of_mem _ (List.mem_append_right _ h)
  have hD : va_D A (wM ad cI u) := wM_D hD0
  have hn1 := hw.nf
  have hn2 := hw.nd
  have hn3 := hw.day
  refine lv_aload_n hx hb dX4_pass_0 rfl (lv_at hl 0 rfl) ?_
  refine lv_iload_n hx hb dX4_pass_1 rfl (lv_at hl 1 rfl) ?_
  refine lv_iconst (v := iI 1) hx hb dX4_pass_2 rfl ?_
  refine lv_bipush (v := iI 100) hx hb dX4_pass_3 (by decide) ?_
  refine m_calls (As := [.int (iI (k)), .int (iI 1), .int (iI 100)]) ⟨hx, hb, hml, hown, hts⟩ (c_X4_in l D ad cI hD0 (u) (k) (1) (100) (by omega) (by omega) (by omega)) (va_cwS 3 hts gX4_pass_X4_in rfl rfl rfl (by decide +kernel) ⟨Nat.le_of_ble_eq_true rfl, Nat.le_of_ble_eq_true rfl⟩) hK hP hS rfl hl.1 rfl (Nat.le_of_ble_eq_true rfl) ⟨Nat.le_of_ble_eq_true rfl, Nat.le_of_ble_eq_true rfl⟩ dX4_pass_5 (fun r9 u9 H locs hpost hP hS => ?_)
  obtain ⟨rfl, ⟨hc_1, rfl⟩ | ⟨hc_1, rfl⟩⟩ := hpost
  · skip
    refine h_if_ne (tgt := 15) hx hb (by omega) dX4_pass_8 (by decide) (fun c_8 => ?_) (fun c_8 => by exfalso; omega)
    refine lv_aload_n hx hb dX4_pass_15 rfl (lv_at hl 0 rfl) ?_
    refine m_geti hx hb hts hin hown hK hP 13 (by decide) (v := S.1 11 2) 2 rfl (hR.x2) (hts (.fieldLink RX4 82 "HoldServerModel" "day" "I") (by decide +kernel)) rfl dX4_pass_16 ?_
    refine lv_iload_n hx hb dX4_pass_19 rfl (lv_at hl 1 rfl) ?_
    refine h_iadd hx hb dX4_pass_20 ?_
    refine lv_sipush (v := iI 10000) hx hb dX4_pass_21 (by decide) ?_
    refine h_icmp_le (tgt := 31) hx hb (by omega) (by omega) dX4_pass_24 (by decide) (fun c_24 => ?_) (fun c_24 => ?_)
    · skip
      refine lv_iconst (v := iI 0) hx hb dX4_pass_31 rfl ?_
      refine m_callv (As := [.int (iI 0)]) ⟨hx, hb, hml, hown, hts⟩ (c_X4_isFine l D ad cI hD0 (u) (0) (by omega)) (cwV 1 hts gX4_pass_X4_isFine rfl rfl rfl (by decide +kernel) ⟨Nat.le_of_ble_eq_true rfl, Nat.le_of_ble_eq_true rfl⟩) hK hP hS rfl hl.1 rfl (Nat.le_of_ble_eq_true rfl) ⟨Nat.le_of_ble_eq_true rfl, Nat.le_of_ble_eq_true rfl⟩ dX4_pass_32 (fun r9 u9 H locs hpost hP hS => ?_)
      obtain ⟨rfl, ⟨hc9, rfl⟩ | ⟨hc9, rfl⟩⟩ := hpost
      rotate_left
      · exact absurd rfl hc9
      have hR := hR.thr (0)
      have hD : va_D A (wM ad cI (pokeX u 3 (0))) := wM_D hD0
      refine h_if_ne (tgt := 40) hx hb (by omega) dX4_pass_35 (by decide) (fun c_35 => ?_) (fun c_35 => by exfalso; omega)
      refine lv_iconst (v := iI 0) hx hb dX4_pass_40 rfl ?_
      refine lv_istore_n (lv' := [(2, .int (iI 0)), (0, .ref (ad 11)), (1, .int (iI (k)))]) hx hb dX4_pass_41 rfl hl (by decide) rfl (fun ls hl => ?_)
      refine lv_iconst (v := iI 0) hx hb dX4_pass_42 rfl ?_
      refine lv_istore_n (lv' := [(3, .int (iI 0)), (2, .int (iI 0)), (0, .ref (ad 11)), (1, .int (iI (k)))]) hx hb dX4_pass_43 rfl hl (by decide) rfl (fun ls hl => ?_)
      have lp44 : ∀ (n9 : Nat) (j : Nat), k - j < (n9 : Int) → ((j : Int) ≤ k) → ∀ (u2 : MS) (H : Heap) (locs : List Loc), (RelM (passN S j).1 u2) → (u2.2 3 = iI 0) → va_P D vwCl (wM ad cI u2) H → va_S A ss.heap H locs → ∀ (ls : Array Slot), lv_has ls 4 [(0, .ref (ad 11)), (1, .int (iI (k))), (2, .int (iI ((passN S j).2))), (3, .int (iI ((j : Int))))] → W pp l ee { frames := 3, cells := 0, slots := 0, locals := 68 } ss mm args below meth cc H locs 0 0 Q (F0 mm 44 ls []) := by
        intro n9
        induction n9 with
        | zero => intro j hms hj u2 H locs hR ht9 hP hS ls hl; exfalso; omega
        | succ n9 ih9 =>
          intro j hms hj u2 H locs hR ht9 hP hS ls hl
          have hp9 := passN_wf hw j (by omega)
          refine lv_iload_n hx hb dX4_pass_44 rfl (lv_at hl 3 rfl) ?_
          refine lv_iload_n hx hb dX4_pass_45 rfl (lv_at hl 1 rfl) ?_
          refine h_icmp_ge (tgt := 62) hx hb (by omega) (by omega) dX4_pass_46 (by decide) (fun c_46 => ?_) (fun c_46 => ?_)
          · skip
            refine lv_iload_n hx hb dX4_pass_62 rfl (lv_at hl 2 rfl) ?_
            exact hret ((passN S j).2) (u2) _ _ _ _ dX4_pass_63 rfl hP hS (by show spM _ _ _; unfold sp_pass; rw [iteC_neg (by omega), iteC_neg (by omega), show k.toNat = j from by omega]; exact ⟨rfl, ht9, hR⟩)
          · skip
            refine lv_iload_n hx hb dX4_pass_49 rfl (lv_at hl 2 rfl) ?_
            refine lv_aload_n hx hb dX4_pass_50 rfl (lv_at hl 0 rfl) ?_
            refine m_callv (As := []) ⟨hx, hb, hml, hown, hts⟩ (c_X4_goesDay l D ad cI hD0 hp9.1 u2 hR (by rw [hp9.2]; omega)) (cwV 0 hts gX4_pass_X4_goesDay rfl rfl rfl (by decide +kernel) ⟨Nat.le_of_ble_eq_true rfl, Nat.le_of_ble_eq_true rfl⟩) hK hP hS rfl hl.1 rfl (Nat.le_of_ble_eq_true rfl) ⟨Nat.le_of_ble_eq_true rfl, Nat.le_of_ble_eq_true rfl⟩ dX4_pass_51 (fun r9 u9 H locs hpost hP hS => ?_)
            obtain ⟨ht8, hR, rfl⟩ := hpost
            have hD : va_D A (wM ad cI u9) := wM_D hD0
            refine h_iadd hx hb dX4_pass_54 ?_
            refine lv_istore_n (lv' := [(2, .int (iI (((passN S j).2 + paidN (passN S j).1 4)))), (0, .ref (ad 11)), (1, .int (iI (k))), (3, .int (iI ((j : Int))))]) hx hb dX4_pass_55 rfl hl (by decide) rfl (fun ls hl => ?_)
            refine lv_iinc (v := iI (((j : Int) + 1))) (lv' := [(3, .int (iI (((j : Int) + 1)))), (2, .int (iI (((passN S j).2 + paidN (passN S j).1 4)))), (0, .ref (ad 11)), (1, .int (iI (k)))]) hx hb dX4_pass_56 hl (k := 3) rfl (iI_add _ _) (by decide) rfl (fun ls hl => ?_)
            refine lv_goto (tgt := 44) hx hb dX4_pass_59 (by decide) ?_
            exact ih9 (j + 1) (by omega) (by omega) _ H locs hR (ht8.trans ht9) hP hS ls (by rw [show ((j + 1 : Nat) : Int) = (j : Int) + 1 from by omega]; exact (lv_sub hl [2, 3, 1, 0] rfl))
      exact lp44 (k + 1).toNat 0 (by omega) (by omega) _ _ _ hR rfl hP hS ls (lv_sub hl [2, 3, 1, 0] rfl)
    · skip
      refine lv_iconst (v := iI 2) hx hb dX4_pass_27 rfl ?_
      refine lv_goto (tgt := 32) hx hb dX4_pass_28 (by decide) ?_
      refine m_callv (As := [.int (iI 2)]) ⟨hx, hb, hml, hown, hts⟩ (c_X4_isFine l D ad cI hD0 (u) (2) (by omega)) (cwV 1 hts gX4_pass_X4_isFine rfl rfl rfl (by decide +kernel) ⟨Nat.le_of_ble_eq_true rfl, Nat.le_of_ble_eq_true rfl⟩) hK hP hS rfl hl.1 rfl (Nat.le_of_ble_eq_true rfl) ⟨Nat.le_of_ble_eq_true rfl, Nat.le_of_ble_eq_true rfl⟩ dX4_pass_32 (fun r9 u9 H locs hpost hP hS => ?_)
      obtain ⟨rfl, ⟨hc9, rfl⟩ | ⟨hc9, rfl⟩⟩ := hpost
      · exact absurd hc9 (by decide)
      have hR := hR.thr (2)
      have hD : va_D A (wM ad cI (pokeX u 3 (2))) := wM_D hD0
      refine h_if_ne (tgt := 40) hx hb (by omega) dX4_pass_35 (by decide) (fun c_35 => by exfalso; omega) (fun c_35 => ?_)
      refine lv_iconst (v := iI 0) hx hb dX4_pass_38 rfl ?_
      exact hret (0) ((pokeX u 3 (2))) _ _ _ _ dX4_pass_39 rfl hP hS (by show spM _ _ _; unfold sp_pass; rw [iteC_neg (by omega), iteC_pos (by omega)]; exact ⟨rfl, rfl, hR⟩)
  · skip
    refine h_if_ne (tgt := 15) hx hb (by omega) dX4_pass_8 (by decide) (fun c_8 => by exfalso; omega) (fun c_8 => ?_)
    refine lv_iconst (v := iI 1) hx hb dX4_pass_11 rfl ?_
    refine lv_goto (tgt := 32) hx hb dX4_pass_12 (by decide) ?_
    refine m_callv (As := [.int (iI 1)]) ⟨hx, hb, hml, hown, hts⟩ (c_X4_isFine l D ad cI hD0 (u) (1) (by omega)) (cwV 1 hts gX4_pass_X4_isFine rfl rfl rfl (by decide +kernel) ⟨Nat.le_of_ble_eq_true rfl, Nat.le_of_ble_eq_true rfl⟩) hK hP hS rfl hl.1 rfl (Nat.le_of_ble_eq_true rfl) ⟨Nat.le_of_ble_eq_true rfl, Nat.le_of_ble_eq_true rfl⟩ dX4_pass_32 (fun r9 u9 H locs hpost hP hS => ?_)
    obtain ⟨rfl, ⟨hc9, rfl⟩ | ⟨hc9, rfl⟩⟩ := hpost
    · exact absurd hc9 (by decide)
    have hR := hR.thr (1)
    have hD : va_D A (wM ad cI (pokeX u 3 (1))) := wM_D hD0
    refine h_if_ne (tgt := 40) hx hb (by omega) dX4_pass_35 (by decide) (fun c_35 => by exfalso; omega) (fun c_35 => ?_)
    refine lv_iconst (v := iI 0) hx hb dX4_pass_38 rfl ?_
    exact hret (0) ((pokeX u 3 (1))) _ _ _ _ dX4_pass_39 rfl hP hS (by show spM _ _ _; unfold sp_pass; rw [iteC_pos (by omega)]; exact ⟨rfl, rfl, hR⟩)
