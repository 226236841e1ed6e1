set_option maxRecDepth 100000 in
set_option maxHeartbeats 4000000 in
theorem c_X4_usage (l : Launch) (D : va_G) (ad : Nat → Nat) (cI : ClassId) {A : Nat → Prop} {u0 : MS} (hD0 : va_D A (wM ad cI u0)) {S : HdS} {n : Int} (hw : wf S n) (u : MS) (hR : RelM S u) (d : Int)  (r_d : inQ d)  : mI l yX4_usage wsX4_usage { frames := 2, cells := 0, slots := 0, locals := 46 } D ad cI A [.ref (ad 11), .int (iI d)] u (spM (sp_dir S d (usg S d))) := by
  refine mI_of (cc := cX4_usage) (maxL := 2) (ty := .int) (by decide) rfl (Nat.le_of_ble_eq_true rfl) ?_
  intro pp ee ss mm args below meth cc Q hx hb hml hown hts hP hK hS hret ls hl
  have hl : lv_has ls 2 [(0, .ref (ad 11)), (1, .int (iI (d)))] := hl
  have hin : ∀ w ∈ wsX40, w ∈ wsX4_usage := fun w h => List.mem_cons_of_mem _ (List.mem_append_right _ h)
  have hD : va_D A (wM ad cI u) := wM_D hD0
  have hn1 := hw.nd
  refine lv_aload_n hx hb dX4_usage_0 rfl (lv_at hl 0 rfl) ?_
  refine lv_aload_n hx hb dX4_usage_1 rfl (lv_at hl 0 rfl) ?_
  refine lv_iload_n hx hb dX4_usage_2 rfl (lv_at hl 1 rfl) ?_
  refine m_callv (As := [.int (iI (d))]) ⟨hx, hb, hml, hown, hts⟩ (c_X4_isDirectory l D ad cI hD0 hw (u) hR (d) (by omega)) (cwV 1 hts gX4_usage_X4_isDirectory rfl rfl rfl (by decide +kernel) ⟨Nat.le_of_ble_eq_true rfl, Nat.le_of_ble_eq_true rfl⟩) hK hP hS rfl hl.1 rfl (Nat.le_of_ble_eq_true rfl) ⟨Nat.le_of_ble_eq_true rfl, Nat.le_of_ble_eq_true rfl⟩ dX4_usage_3 (fun r9 u9 H locs hpost hP hS => ?_)
  obtain ⟨rfl, ⟨hc_1, rfl⟩ | ⟨hc_1, rfl⟩⟩ := hpost
  · skip
    refine h_if_eq (tgt := 13) hx hb (by omega) dX4_usage_6 (by decide) (fun c_6 => by exfalso; omega) (fun c_6 => ?_)
    refine lv_iconst (v := iI 0) hx hb dX4_usage_9 rfl ?_
    refine lv_goto (tgt := 14) hx hb dX4_usage_10 (by decide) ?_
    refine m_callv (As := [.int (iI 0)]) ⟨hx, hb, hml, hown, hts⟩ (c_X4_isFine l D ad cI hD0 (u) (0) (by omega)) (cwV 1 hts gX4_usage_X4_isFine rfl rfl rfl (by decide +kernel) ⟨Nat.le_of_ble_eq_true rfl, Nat.le_of_ble_eq_true rfl⟩) hK hP hS rfl hl.1 rfl (Nat.le_of_ble_eq_true rfl) ⟨Nat.le_of_ble_eq_true rfl, Nat.le_of_ble_eq_true rfl⟩ dX4_usage_14 (fun r9 u9 H locs hpost hP hS => ?_)
    obtain ⟨rfl, ⟨hc9, rfl⟩ | ⟨hc9, rfl⟩⟩ := hpost
    rotate_left
    · exact absurd rfl hc9
    have hR := hR.thr (0)
    have hD : va_D A (wM ad cI (pokeX u 3 (0))) := wM_D hD0
    refine h_if_eq (tgt := 28) hx hb (by omega) dX4_usage_17 (by decide) (fun c_17 => by exfalso; omega) (fun c_17 => ?_)
    refine lv_aload_n hx hb dX4_usage_20 rfl (lv_at hl 0 rfl) ?_
    refine lv_iload_n hx hb dX4_usage_21 rfl (lv_at hl 1 rfl) ?_
    refine m_callv (As := [.int (iI (d))]) ⟨hx, hb, hml, hown, hts⟩ (c_X4_usageOf l D ad cI hD0 hw ((pokeX u 3 (0))) hR (d) (by omega) (by omega) (by omega)) (cwV 1 hts gX4_usage_X4_usageOf rfl rfl rfl (by decide +kernel) ⟨Nat.le_of_ble_eq_true rfl, Nat.le_of_ble_eq_true rfl⟩) hK hP hS rfl hl.1 rfl (Nat.le_of_ble_eq_true rfl) ⟨Nat.le_of_ble_eq_true rfl, Nat.le_of_ble_eq_true rfl⟩ dX4_usage_22 (fun r9 u9 H locs hpost hP hS => ?_)
    obtain ⟨rfl, rfl⟩ := hpost
    refine lv_goto (tgt := 29) hx hb dX4_usage_25 (by decide) ?_
    exact hret ((usg S d)) ((pokeX u 3 (0))) _ _ _ _ dX4_usage_29 rfl hP hS (by show spM _ _ _; unfold sp_dir; rw [iteC_neg (by omega)]; exact ⟨rfl, rfl, hR⟩)
  · skip
    refine h_if_eq (tgt := 13) hx hb (by omega) dX4_usage_6 (by decide) (fun c_6 => ?_) (fun c_6 => by exfalso; omega)
    refine lv_iconst (v := iI 1) hx hb dX4_usage_13 rfl ?_
    refine m_callv (As := [.int (iI 1)]) ⟨hx, hb, hml, hown, hts⟩ (c_X4_isFine l D ad cI hD0 (u) (1) (by omega)) (cwV 1 hts gX4_usage_X4_isFine rfl rfl rfl (by decide +kernel) ⟨Nat.le_of_ble_eq_true rfl, Nat.le_of_ble_eq_true rfl⟩) hK hP hS rfl hl.1 rfl (Nat.le_of_ble_eq_true rfl) ⟨Nat.le_of_ble_eq_true rfl, Nat.le_of_ble_eq_true rfl⟩ dX4_usage_14 (fun r9 u9 H locs hpost hP hS => ?_)
    obtain ⟨rfl, ⟨hc9, rfl⟩ | ⟨hc9, rfl⟩⟩ := hpost
    · exact absurd hc9 (by decide)
    have hR := hR.thr (1)
    have hD : va_D A (wM ad cI (pokeX u 3 (1))) := wM_D hD0
    refine h_if_eq (tgt := 28) hx hb (by omega) dX4_usage_17 (by decide) (fun c_17 => ?_) (fun c_17 => by exfalso; omega)
    refine lv_iconst (v := iI 0) hx hb dX4_usage_28 rfl ?_
    exact hret (0) ((pokeX u 3 (1))) _ _ _ _ dX4_usage_29 rfl hP hS (by show spM _ _ _; unfold sp_dir; rw [iteC_pos (by omega)]; exact ⟨rfl, rfl, hR⟩)

set_option maxRecDepth 100000 in
set_option maxHeartbeats 4000000 in
theorem c_X4_usageByWalking (l : Launch) (D : va_G) (ad : Nat → Nat) (cI : ClassId) {A : Nat → Prop} {u0 : MS} (hD0 : va_D A (wM ad cI u0)) {S : HdS} {n : Int} (hw : wf S n) (u : MS) (hR : RelM S u) (d : Int)  (r_d : inQ d)  : mI l yX4_usageByWalking wsX4_usageByWalking { frames := 2, cells := 0, slots := 0, locals := 46 } D ad cI A [.ref (ad 11), .int (iI d)] u (spM (sp_dir S d (usg S d))) := by
  refine mI_of (cc := cX4_usageByWalking) (maxL := 2) (ty := .int) (by decide) rfl (Nat.le_of_ble_eq_true rfl) ?_
  intro pp ee ss mm args below meth cc Q hx hb hml hown hts hP hK hS hret ls hl
  have hl : lv_has ls 2 [(0, .ref (ad 11)), (1, .int (iI (d)))] := hl
  have hin : ∀ w ∈ wsX40, w ∈ wsX4_usageByWalking := fun w h => List.mem_cons_of_mem _ (List.mem_append_right _ h)
  have hD : va_D A (wM ad cI u) := wM_D hD0
  have hn1 := hw.nd
  refine lv_aload_n hx hb dX4_usageByWalking_0 rfl (lv_at hl 0 rfl) ?_
  refine lv_aload_n hx hb dX4_usageByWalking_1 rfl (lv_at hl 0 rfl) ?_
  refine lv_iload_n hx hb dX4_usageByWalking_2 rfl (lv_at hl 1 rfl) ?_
  refine m_callv (As := [.int (iI (d))]) ⟨hx, hb, hml, hown, hts⟩ (c_X4_isDirectory l D ad cI hD0 hw (u) hR (d) (by omega)) (cwV 1 hts gX4_usageByWalking_X4_isDirectory rfl rfl rfl (by decide +kernel) ⟨Nat.le_of_ble_eq_true rfl, Nat.le_of_ble_eq_true rfl⟩) hK hP hS rfl hl.1 rfl (Nat.le_of_ble_eq_true rfl) ⟨Nat.le_of_ble_eq_true rfl, Nat.le_of_ble_eq_true rfl⟩ dX4_usageByWalking_3 (fun r9 u9 H locs hpost hP hS => ?_)
  obtain ⟨rfl, ⟨hc_1, rfl⟩ | ⟨hc_1, rfl⟩⟩ := hpost
  · skip
    refine h_if_eq (tgt := 13) hx hb (by omega) dX4_usageByWalking_6 (by decide) (fun c_6 => by exfalso; omega) (fun c_6 => ?_)
    refine lv_iconst (v := iI 0) hx hb dX4_usageByWalking_9 rfl ?_
    refine lv_goto (tgt := 14) hx hb dX4_usageByWalking_10 (by decide) ?_
    refine m_callv (As := [.int (iI 0)]) ⟨hx, hb, hml, hown, hts⟩ (c_X4_isFine l D ad cI hD0 (u) (0) (by omega)) (cwV 1 hts gX4_usageByWalking_X4_isFine rfl rfl rfl (by decide +kernel) ⟨Nat.le_of_ble_eq_true rfl, Nat.le_of_ble_eq_true rfl⟩) hK hP hS rfl hl.1 rfl (Nat.le_of_ble_eq_true rfl) ⟨Nat.le_of_ble_eq_true rfl, Nat.le_of_ble_eq_true rfl⟩ dX4_usageByWalking_14 (fun r9 u9 H locs hpost hP hS => ?_)
    obtain ⟨rfl, ⟨hc9, rfl⟩ | ⟨hc9, rfl⟩⟩ := hpost
    rotate_left
    · exact absurd rfl hc9
    have hR := hR.thr (0)
    have hD : va_D A (wM ad cI (pokeX u 3 (0))) := wM_D hD0
    refine h_if_eq (tgt := 28) hx hb (by omega) dX4_usageByWalking_17 (by decide) (fun c_17 => by exfalso; omega) (fun c_17 => ?_)
    refine lv_aload_n hx hb dX4_usageByWalking_20 rfl (lv_at hl 0 rfl) ?_
    refine lv_iload_n hx hb dX4_usageByWalking_21 rfl (lv_at hl 1 rfl) ?_
    refine m_callv (As := [.int (iI (d))]) ⟨hx, hb, hml, hown, hts⟩ (c_X4_usageOf l D ad cI hD0 hw ((pokeX u 3 (0))) hR (d) (by omega) (by omega) (by omega)) (cwV 1 hts gX4_usageByWalking_X4_usageOf rfl rfl rfl (by decide +kernel) ⟨Nat.le_of_ble_eq_true rfl, Nat.le_of_ble_eq_true rfl⟩) hK hP hS rfl hl.1 rfl (Nat.le_of_ble_eq_true rfl) ⟨Nat.le_of_ble_eq_true rfl, Nat.le_of_ble_eq_true rfl⟩ dX4_usageByWalking_22 (fun r9 u9 H locs hpost hP hS => ?_)
    obtain ⟨rfl, rfl⟩ := hpost
    refine lv_goto (tgt := 29) hx hb dX4_usageByWalking_25 (by decide) ?_
    exact hret ((usg S d)) ((pokeX u 3 (0))) _ _ _ _ dX4_usageByWalking_29 rfl hP hS (by show spM _ _ _; unfold sp_dir; rw [iteC_neg (by omega)]; exact ⟨rfl, rfl, hR⟩)
  · skip
    refine h_if_eq (tgt := 13) hx hb (by omega) dX4_usageByWalking_6 (by decide) (fun c_6 => ?_) (fun c_6 => by exfalso; omega)
    refine lv_iconst (v := iI 1) hx hb dX4_usageByWalking_13 rfl ?_
    refine m_callv (As := [.int (iI 1)]) ⟨hx, hb, hml, hown, hts⟩ (c_X4_isFine l D ad cI hD0 (u) (1) (by omega)) (cwV 1 hts gX4_usageByWalking_X4_isFine rfl rfl rfl (by decide +kernel) ⟨Nat.le_of_ble_eq_true rfl, Nat.le_of_ble_eq_true rfl⟩) hK hP hS rfl hl.1 rfl (Nat.le_of_ble_eq_true rfl) ⟨Nat.le_of_ble_eq_true rfl, Nat.le_of_ble_eq_true rfl⟩ dX4_usageByWalking_14 (fun r9 u9 H locs hpost hP hS => ?_)
    obtain ⟨rfl, ⟨hc9, rfl⟩ | ⟨hc9, rfl⟩⟩ := hpost
    · exact absurd hc9 (by decide)
    have hR := hR.thr (1)
    have hD : va_D A (wM ad cI (pokeX u 3 (1))) := wM_D hD0
    refine h_if_eq (tgt := 28) hx hb (by omega) dX4_usageByWalking_17 (by decide) (fun c_17 => ?_) (fun c_17 => by exfalso; omega)
    refine lv_iconst (v := iI 0) hx hb dX4_usageByWalking_28 rfl ?_
    exact hret (0) ((pokeX u 3 (1))) _ _ _ _ dX4_usageByWalking_29 rfl hP hS (by show spM _ _ _; unfold sp_dir; rw [iteC_pos (by omega)]; exact ⟨rfl, rfl, hR⟩)

set_option maxRecDepth 100000 in
set_option maxHeartbeats 4000000 in
theorem c_X4_size (l : Launch) (D : va_G) (ad : Nat → Nat) (cI : ClassId) {A : Nat → Prop} {u0 : MS} (hD0 : va_D A (wM ad cI u0)) {S : HdS} {n : Int} (hw : wf S n) (u : MS) (hR : RelM S u) (f : Int)  (r_f : inQ f)  : mI l yX4_size wsX4_size { frames := 2, cells := 0, slots := 0, locals := 43 } D ad cI A [.ref (ad 11), .int (iI f)] u (spM (sp_fil S f (S.1 3 f))) := by
  refine mI_of (cc := cX4_size) (maxL := 2) (ty := .int) (by decide) rfl (Nat.le_of_ble_eq_true rfl) ?_
  intro pp ee ss mm args below meth cc Q hx hb hml hown hts hP hK hS hret ls hl
  have hl : lv_has ls 2 [(0, .ref (ad 11)), (1, .int (iI (f)))] := hl
  have hin : ∀ w ∈ wsX40, w ∈ wsX4_size := fun w h => List.mem_cons_of_mem _ (List.mem_append_right _ h)
  have hD : va_D A (wM ad cI u) := wM_D hD0
  have hn1 := hw.nf
  refine lv_aload_n hx hb dX4_size_0 rfl (lv_at hl 0 rfl) ?_
  refine lv_aload_n hx hb dX4_size_1 rfl (lv_at hl 0 rfl) ?_
  refine lv_iload_n hx hb dX4_size_2 rfl (lv_at hl 1 rfl) ?_
  refine m_callv (As := [.int (iI (f))]) ⟨hx, hb, hml, hown, hts⟩ (c_X4_isFile l D ad cI hD0 hw (u) hR (f) (by omega)) (cwV 1 hts gX4_size_X4_isFile rfl rfl rfl (by decide +kernel) ⟨Nat.le_of_ble_eq_true rfl, Nat.le_of_ble_eq_true rfl⟩) hK hP hS rfl hl.1 rfl (Nat.le_of_ble_eq_true rfl) ⟨Nat.le_of_ble_eq_true rfl, Nat.le_of_ble_eq_true rfl⟩ dX4_size_3 (fun r9 u9 H locs hpost hP hS => ?_)
  obtain ⟨rfl, ⟨hc_1, rfl⟩ | ⟨hc_1, rfl⟩⟩ := hpost
  · skip
    refine h_if_eq (tgt := 13) hx hb (by omega) dX4_size_6 (by decide) (fun c_6 => by exfalso; omega) (fun c_6 => ?_)
    refine lv_iconst (v := iI 0) hx hb dX4_size_9 rfl ?_
    refine lv_goto (tgt := 14) hx hb dX4_size_10 (by decide) ?_
    refine m_callv (As := [.int (iI 0)]) ⟨hx, hb, hml, hown, hts⟩ (c_X4_isFine l D ad cI hD0 (u) (0) (by omega)) (cwV 1 hts gX4_size_X4_isFine rfl rfl rfl (by decide +kernel) ⟨Nat.le_of_ble_eq_true rfl, Nat.le_of_ble_eq_true rfl⟩) hK hP hS rfl hl.1 rfl (Nat.le_of_ble_eq_true rfl) ⟨Nat.le_of_ble_eq_true rfl, Nat.le_of_ble_eq_true rfl⟩ dX4_size_14 (fun r9 u9 H locs hpost hP hS => ?_)
    obtain ⟨rfl, ⟨hc9, rfl⟩ | ⟨hc9, rfl⟩⟩ := hpost
    rotate_left
    · exact absurd rfl hc9
    have hR := hR.thr (0)
    have hD : va_D A (wM ad cI (pokeX u 3 (0))) := wM_D hD0
    refine h_if_eq (tgt := 29) hx hb (by omega) dX4_size_17 (by decide) (fun c_17 => by exfalso; omega) (fun c_17 => ?_)
    refine lv_aload_n hx hb dX4_size_20 rfl (lv_at hl 0 rfl) ?_
    refine m_get hx hb hts hin hown hK hP 4 (by decide) (v := .ref (ad 3)) rfl (hts (.fieldLink RX4 23 "HoldServerModel" "size" "[I") (by decide +kernel)) rfl dX4_size_21 ?_
    refine lv_iload_n hx hb dX4_size_24 rfl (lv_at hl 1 rfl) ?_
    refine m_ld hx hb hK hP (k := 3) (by decide) (v := S.1 3 f) (by omega) (by show _ < ((30 : Nat) : Int); omega) (hR.fil (by decide) (by omega) (by omega)) dX4_size_25 ?_
    refine lv_goto (tgt := 30) hx hb dX4_size_26 (by decide) ?_
    exact hret ((S.1 3 f)) ((pokeX u 3 (0))) _ _ _ _ dX4_size_30 rfl hP hS (by show spM _ _ _; unfold sp_fil; rw [iteC_neg (by omega)]; exact ⟨rfl, rfl, hR⟩)
  · skip
    refine h_if_eq (tgt := 13) hx hb (by omega) dX4_size_6 (by decide) (fun c_6 => ?_) (fun c_6 => by exfalso; omega)
    refine lv_iconst (v := iI 1) hx hb dX4_size_13 rfl ?_
    refine m_callv (As := [.int (iI 1)]) ⟨hx, hb, hml, hown, hts⟩ (c_X4_isFine l D ad cI hD0 (u) (1) (by omega)) (cwV 1 hts gX4_size_X4_isFine rfl rfl rfl (by decide +kernel) ⟨Nat.le_of_ble_eq_true rfl, Nat.le_of_ble_eq_true rfl⟩) hK hP hS rfl hl.1 rfl (Nat.le_of_ble_eq_true rfl) ⟨Nat.le_of_ble_eq_true rfl, Nat.le_of_ble_eq_true rfl⟩ dX4_size_14 (fun r9 u9 H locs hpost hP hS => ?_)
    obtain ⟨rfl, ⟨hc9, rfl⟩ | ⟨hc9, rfl⟩⟩ := hpost
    · exact absurd hc9 (by decide)
    have hR := hR.thr (1)
    have hD : va_D A (wM ad cI (pokeX u 3 (1))) := wM_D hD0
    refine h_if_eq (tgt := 29) hx hb (by omega) dX4_size_17 (by decide) (fun c_17 => ?_) (fun c_17 => by exfalso; omega)
    refine lv_iconst (v := iI 0) hx hb dX4_size_29 rfl ?_
    exact hret (0) ((pokeX u 3 (1))) _ _ _ _ dX4_size_30 rfl hP hS (by show spM _ _ _; unfold sp_fil; rw [iteC_pos (by omega)]; exact ⟨rfl, rfl, hR⟩)

set_option maxRecDepth 100000 in
set_option maxHeartbeats 4000000 in
theorem c_X4_kept (l : Launch) (D : va_G) (ad : Nat → Nat) (cI : ClassId) {A : Nat → Prop} {u0 : MS} (hD0 : va_D A (wM ad cI u0)) {S : HdS} {n : Int} (hw : wf S n) (u : MS) (hR : RelM S u) (f : Int)  (r_f : inQ f)  : mI l yX4_kept wsX4_kept { frames := 2, cells := 0, slots := 0, locals := 43 } D ad cI A [.ref (ad 11), .int (iI f)] u (spM (sp_fil S f (S.1 6 f))) := by
  refine mI_of (cc := cX4_kept) (maxL := 2) (ty := .int) (by decide) rfl (Nat.le_of_ble_eq_true rfl) ?_
  intro pp ee ss mm args below meth cc Q hx hb hml hown hts hP hK hS hret ls hl
  have hl : lv_has ls 2 [(0, .ref (ad 11)), (1, .int (iI (f)))] := hl
  have hin : ∀ w ∈ wsX40, w ∈ wsX4_kept := fun w h => List.mem_cons_of_mem _ (List.mem_append_right _ h)
  have hD : va_D A (wM ad cI u) := wM_D hD0
  have hn1 := hw.nf
  refine lv_aload_n hx hb dX4_kept_0 rfl (lv_at hl 0 rfl) ?_
  refine lv_aload_n hx hb dX4_kept_1 rfl (lv_at hl 0 rfl) ?_
  refine lv_iload_n hx hb dX4_kept_2 rfl (lv_at hl 1 rfl) ?_
  refine m_callv (As := [.int (iI (f))]) ⟨hx, hb, hml, hown, hts⟩ (c_X4_isFile l D ad cI hD0 hw (u) hR (f) (by omega)) (cwV 1 hts gX4_kept_X4_isFile rfl rfl rfl (by decide +kernel) ⟨Nat.le_of_ble_eq_true rfl, Nat.le_of_ble_eq_true rfl⟩) hK hP hS rfl hl.1 rfl (Nat.le_of_ble_eq_true rfl) ⟨Nat.le_of_ble_eq_true rfl, Nat.le_of_ble_eq_true rfl⟩ dX4_kept_3 (fun r9 u9 H locs hpost hP hS => ?_)
  obtain ⟨rfl, ⟨hc_1, rfl⟩ | ⟨hc_1, rfl⟩⟩ := hpost
  · skip
    refine h_if_eq (tgt := 13) hx hb (by omega) dX4_kept_6 (by decide) (fun c_6 => by exfalso; omega) (fun c_6 => ?_)
    refine lv_iconst (v := iI 0) hx hb dX4_kept_9 rfl ?_
    refine lv_goto (tgt := 14) hx hb dX4_kept_10 (by decide) ?_
    refine m_callv (As := [.int (iI 0)]) ⟨hx, hb, hml, hown, hts⟩ (c_X4_isFine l D ad cI hD0 (u) (0) (by omega)) (cwV 1 hts gX4_kept_X4_isFine rfl rfl rfl (by decide +kernel) ⟨Nat.le_of_ble_eq_true rfl, Nat.le_of_ble_eq_true rfl⟩) hK hP hS rfl hl.1 rfl (Nat.le_of_ble_eq_true rfl) ⟨Nat.le_of_ble_eq_true rfl, Nat.le_of_ble_eq_true rfl⟩ dX4_kept_14 (fun r9 u9 H locs hpost hP hS => ?_)
    obtain ⟨rfl, ⟨hc9, rfl⟩ | ⟨hc9, rfl⟩⟩ := hpost
    rotate_left
    · exact absurd rfl hc9
    have hR := hR.thr (0)
    have hD : va_D A (wM ad cI (pokeX u 3 (0))) := wM_D hD0
    refine h_if_eq (tgt := 29) hx hb (by omega) dX4_kept_17 (by decide) (fun c_17 => by exfalso; omega) (fun c_17 => ?_)
    refine lv_aload_n hx hb dX4_kept_20 rfl (lv_at hl 0 rfl) ?_
    refine m_get hx hb hts hin hown hK hP 7 (by decide) (v := .ref (ad 6)) rfl (hts (.fieldLink RX4 32 "HoldServerModel" "kept" "[I") (by decide +kernel)) rfl dX4_kept_21 ?_
    refine lv_iload_n hx hb dX4_kept_24 rfl (lv_at hl 1 rfl) ?_
    refine m_ld hx hb hK hP (k := 6) (by decide) (v := S.1 6 f) (by omega) (by show _ < ((30 : Nat) : Int); omega) (hR.fil (by decide) (by omega) (by omega)) dX4_kept_25 ?_
    refine lv_goto (tgt := 30) hx hb dX4_kept_26 (by decide) ?_
    exact hret ((S.1 6 f)) ((pokeX u 3 (0))) _ _ _ _ dX4_kept_30 rfl hP hS (by show spM _ _ _; unfold sp_fil; rw [iteC_neg (by omega)]; exact ⟨rfl, rfl, hR⟩)
  · skip
    refine h_if_eq (tgt := 13) hx hb (by omega) dX4_kept_6 (by decide) (fun c_6 => ?_) (fun c_6 => by exfalso; omega)
    refine lv_iconst (v := iI 1) hx hb dX4_kept_13 rfl ?_
    refine m_callv (As := [.int (iI 1)]) ⟨hx, hb, hml, hown, hts⟩ (c_X4_isFine l D ad cI hD0 (u) (1) (by omega)) (cwV 1 hts gX4_kept_X4_isFine rfl rfl rfl (by decide +kernel) ⟨Nat.le_of_ble_eq_true rfl, Nat.le_of_ble_eq_true rfl⟩) hK hP hS rfl hl.1 rfl (Nat.le_of_ble_eq_true rfl) ⟨Nat.le_of_ble_eq_true rfl, Nat.le_of_ble_eq_true rfl⟩ dX4_kept_14 (fun r9 u9 H locs hpost hP hS => ?_)
    obtain ⟨rfl, ⟨hc9, rfl⟩ | ⟨hc9, rfl⟩⟩ := hpost
    · exact absurd hc9 (by decide)
    have hR := hR.thr (1)
    have hD : va_D A (wM ad cI (pokeX u 3 (1))) := wM_D hD0
    refine h_if_eq (tgt := 29) hx hb (by omega) dX4_kept_17 (by decide) (fun c_17 => ?_) (fun c_17 => by exfalso; omega)
    refine lv_iconst (v := iI 0) hx hb dX4_kept_29 rfl ?_
    exact hret (0) ((pokeX u 3 (1))) _ _ _ _ dX4_kept_30 rfl hP hS (by show spM _ _ _; unfold sp_fil; rw [iteC_pos (by omega)]; exact ⟨rfl, rfl, hR⟩)

set_option maxRecDepth 100000 in
set_option maxHeartbeats 4000000 in
theorem c_X4_holders (l : Launch) (D : va_G) (ad : Nat → Nat) (cI : ClassId) {A : Nat → Prop} {u0 : MS} (hD0 : va_D A (wM ad cI u0)) {S : HdS} {n : Int} (hw : wf S n) (u : MS) (hR : RelM S u) (f : Int)  (r_f : inQ f)  : mI l yX4_holders wsX4_holders { frames := 2, cells := 0, slots := 0, locals := 43 } D ad cI A [.ref (ad 11), .int (iI f)] u (spM (sp_fil S f (S.1 7 f))) := by
  refine mI_of (cc := cX4_holders) (maxL := 2) (ty := .int) (by decide) rfl (Nat.le_of_ble_eq_true rfl) ?_
  intro pp ee ss mm args below meth cc Q hx hb hml hown hts hP hK hS hret ls hl
  have hl : lv_has ls 2 [(0, .ref (ad 11)), (1, .int (iI (f)))] := hl
  have hin : ∀ w ∈ wsX40, w ∈ wsX4_holders := fun w h => List.mem_cons_of_mem _ (List.mem_append_right _ h)
  have hD : va_D A (wM ad cI u) := wM_D hD0
  have hn1 := hw.nf
  refine lv_aload_n hx hb dX4_holders_0 rfl (lv_at hl 0 rfl) ?_
  refine lv_aload_n hx hb dX4_holders_1 rfl (lv_at hl 0 rfl) ?_
  refine lv_iload_n hx hb dX4_holders_2 rfl (lv_at hl 1 rfl) ?_
  refine m_callv (As := [.int (iI (f))]) ⟨hx, hb, hml, hown, hts⟩ (c_X4_isFile l D ad cI hD0 hw (u) hR (f) (by omega)) (cwV 1 hts gX4_holders_X4_isFile rfl rfl rfl (by decide +kernel) ⟨Nat.le_of_ble_eq_true rfl, Nat.le_of_ble_eq_true rfl⟩) hK hP hS rfl hl.1 rfl (Nat.le_of_ble_eq_true rfl) ⟨Nat.le_of_ble_eq_true rfl, Nat.le_of_ble_eq_true rfl⟩ dX4_holders_3 (fun r9 u9 H locs hpost hP hS => ?_)
  obtain ⟨rfl, ⟨hc_1, rfl⟩ | ⟨hc_1, rfl⟩⟩ := hpost
  · skip
    refine h_if_eq (tgt := 13) hx hb (by omega) dX4_holders_6 (by decide) (fun c_6 => by exfalso; omega) (fun c_6 => ?_)
    refine lv_iconst (v := iI 0) hx hb dX4_holders_9 rfl ?_
    refine lv_goto (tgt := 14) hx hb dX4_holders_10 (by decide) ?_
    refine m_callv (As := [.int (iI 0)]) ⟨hx, hb, hml, hown, hts⟩ (c_X4_isFine l D ad cI hD0 (u) (0) (by omega)) (cwV 1 hts gX4_holders_X4_isFine rfl rfl rfl (by decide +kernel) ⟨Nat.le_of_ble_eq_true rfl, Nat.le_of_ble_eq_true rfl⟩) hK hP hS rfl hl.1 rfl (Nat.le_of_ble_eq_true rfl) ⟨Nat.le_of_ble_eq_true rfl, Nat.le_of_ble_eq_true rfl⟩ dX4_holders_14 (fun r9 u9 H locs hpost hP hS => ?_)
    obtain ⟨rfl, ⟨hc9, rfl⟩ | ⟨hc9, rfl⟩⟩ := hpost
    rotate_left
    · exact absurd rfl hc9
    have hR := hR.thr (0)
    have hD : va_D A (wM ad cI (pokeX u 3 (0))) := wM_D hD0
    refine h_if_eq (tgt := 29) hx hb (by omega) dX4_holders_17 (by decide) (fun c_17 => by exfalso; omega) (fun c_17 => ?_)
    refine lv_aload_n hx hb dX4_holders_20 rfl (lv_at hl 0 rfl) ?_
    refine m_get hx hb hts hin hown hK hP 8 (by decide) (v := .ref (ad 7)) rfl (hts (.fieldLink RX4 35 "HoldServerModel" "holders" "[I") (by decide +kernel)) rfl dX4_holders_21 ?_
    refine lv_iload_n hx hb dX4_holders_24 rfl (lv_at hl 1 rfl) ?_
    refine m_ld hx hb hK hP (k := 7) (by decide) (v := S.1 7 f) (by omega) (by show _ < ((30 : Nat) : Int); omega) (hR.fil (by decide) (by omega) (by omega)) dX4_holders_25 ?_
    refine lv_goto (tgt := 30) hx hb dX4_holders_26 (by decide) ?_
    exact hret ((S.1 7 f)) ((pokeX u 3 (0))) _ _ _ _ dX4_holders_30 rfl hP hS (by show spM _ _ _; unfold sp_fil; rw [iteC_neg (by omega)]; exact ⟨rfl, rfl, hR⟩)
  · skip
    refine h_if_eq (tgt := 13) hx hb (by omega) dX4_holders_6 (by decide) (fun c_6 => ?_) (fun c_6 => by exfalso; omega)
    refine lv_iconst (v := iI 1) hx hb dX4_holders_13 rfl ?_
    refine m_callv (As := [.int (iI 1)]) ⟨hx, hb, hml, hown, hts⟩ (c_X4_isFine l D ad cI hD0 (u) (1) (by omega)) (cwV 1 hts gX4_holders_X4_isFine rfl rfl rfl (by decide +kernel) ⟨Nat.le_of_ble_eq_true rfl, Nat.le_of_ble_eq_true rfl⟩) hK hP hS rfl hl.1 rfl (Nat.le_of_ble_eq_true rfl) ⟨Nat.le_of_ble_eq_true rfl, Nat.le_of_ble_eq_true rfl⟩ dX4_holders_14 (fun r9 u9 H locs hpost hP hS => ?_)
    obtain ⟨rfl, ⟨hc9, rfl⟩ | ⟨hc9, rfl⟩⟩ := hpost
    · exact absurd hc9 (by decide)
    have hR := hR.thr (1)
    have hD : va_D A (wM ad cI (pokeX u 3 (1))) := wM_D hD0
    refine h_if_eq (tgt := 29) hx hb (by omega) dX4_holders_17 (by decide) (fun c_17 => ?_) (fun c_17 => by exfalso; omega)
    refine lv_iconst (v := iI 0) hx hb dX4_holders_29 rfl ?_
    exact hret (0) ((pokeX u 3 (1))) _ _ _ _ dX4_holders_30 rfl hP hS (by show spM _ _ _; unfold sp_fil; rw [iteC_pos (by omega)]; exact ⟨rfl, rfl, hR⟩)

set_option maxRecDepth 100000 in
set_option maxHeartbeats 4000000 in
theorem c_X4_home (l : Launch) (D : va_G) (ad : Nat → Nat) (cI : ClassId) {A : Nat → Prop} {u0 : MS} (hD0 : va_D A (wM ad cI u0)) {S : HdS} {n : Int} (hw : wf S n) (u : MS) (hR : RelM S u) (f : Int)  (r_f : inQ f)  : mI l yX4_home wsX4_home { frames := 2, cells := 0, slots := 0, locals := 43 } D ad cI A [.ref (ad 11), .int (iI f)] u (spM (sp_fil S f (homeS S f))) := by
  refine mI_of (cc := cX4_home) (maxL := 2) (ty := .int) (by decide) rfl (Nat.le_of_ble_eq_true rfl) ?_
  intro pp ee ss mm args below meth cc Q hx hb hml hown hts hP hK hS hret ls hl
  have hl : lv_has ls 2 [(0, .ref (ad 11)), (1, .int (iI (f)))] := hl
  have hin : ∀ w ∈ wsX40, w ∈ wsX4_home := fun w h => List.mem_cons_of_mem _ (List.mem_append_right _ h)
  have hD : va_D A (wM ad cI u) := wM_D hD0
  have hn1 := hw.nf
  refine lv_aload_n hx hb dX4_home_0 rfl (lv_at hl 0 rfl) ?_
  refine lv_aload_n hx hb dX4_home_1 rfl (lv_at hl 0 rfl) ?_
  refine lv_iload_n hx hb dX4_home_2 rfl (lv_at hl 1 rfl) ?_
  refine m_callv (As := [.int (iI (f))]) ⟨hx, hb, hml, hown, hts⟩ (c_X4_isFile l D ad cI hD0 hw (u) hR (f) (by omega)) (cwV 1 hts gX4_home_X4_isFile rfl rfl rfl (by decide +kernel) ⟨Nat.le_of_ble_eq_true rfl, Nat.le_of_ble_eq_true rfl⟩) hK hP hS rfl hl.1 rfl (Nat.le_of_ble_eq_true rfl) ⟨Nat.le_of_ble_eq_true rfl, Nat.le_of_ble_eq_true rfl⟩ dX4_home_3 (fun r9 u9 H locs hpost hP hS => ?_)
  obtain ⟨rfl, ⟨hc_1, rfl⟩ | ⟨hc_1, rfl⟩⟩ := hpost
  · skip
    refine h_if_eq (tgt := 13) hx hb (by omega) dX4_home_6 (by decide) (fun c_6 => by exfalso; omega) (fun c_6 => ?_)
    refine lv_iconst (v := iI 0) hx hb dX4_home_9 rfl ?_
    refine lv_goto (tgt := 14) hx hb dX4_home_10 (by decide) ?_
    refine m_callv (As := [.int (iI 0)]) ⟨hx, hb, hml, hown, hts⟩ (c_X4_isFine l D ad cI hD0 (u) (0) (by omega)) (cwV 1 hts gX4_home_X4_isFine rfl rfl rfl (by decide +kernel) ⟨Nat.le_of_ble_eq_true rfl, Nat.le_of_ble_eq_true rfl⟩) hK hP hS rfl hl.1 rfl (Nat.le_of_ble_eq_true rfl) ⟨Nat.le_of_ble_eq_true rfl, Nat.le_of_ble_eq_true rfl⟩ dX4_home_14 (fun r9 u9 H locs hpost hP hS => ?_)
    obtain ⟨rfl, ⟨hc9, rfl⟩ | ⟨hc9, rfl⟩⟩ := hpost
    rotate_left
    · exact absurd rfl hc9
    have hR := hR.thr (0)
    have hD : va_D A (wM ad cI (pokeX u 3 (0))) := wM_D hD0
    refine h_if_eq (tgt := 28) hx hb (by omega) dX4_home_17 (by decide) (fun c_17 => by exfalso; omega) (fun c_17 => ?_)
    refine lv_aload_n hx hb dX4_home_20 rfl (lv_at hl 0 rfl) ?_
    refine lv_iload_n hx hb dX4_home_21 rfl (lv_at hl 1 rfl) ?_
    refine m_callv (As := [.int (iI (f))]) ⟨hx, hb, hml, hown, hts⟩ (c_X4_homeOf l D ad cI hD0 hw ((pokeX u 3 (0))) hR (f) (by omega) (by omega) (by omega)) (cwV 1 hts gX4_home_X4_homeOf rfl rfl rfl (by decide +kernel) ⟨Nat.le_of_ble_eq_true rfl, Nat.le_of_ble_eq_true rfl⟩) hK hP hS rfl hl.1 rfl (Nat.le_of_ble_eq_true rfl) ⟨Nat.le_of_ble_eq_true rfl, Nat.le_of_ble_eq_true rfl⟩ dX4_home_22 (fun r9 u9 H locs hpost hP hS => ?_)
    obtain ⟨rfl, rfl⟩ := hpost
    refine lv_goto (tgt := 29) hx hb dX4_home_25 (by decide) ?_
    exact hret ((homeS S f)) ((pokeX u 3 (0))) _ _ _ _ dX4_home_29 rfl hP hS (by show spM _ _ _; unfold sp_fil; rw [iteC_neg (by omega)]; exact ⟨rfl, rfl, hR⟩)
  · skip
    refine h_if_eq (tgt := 13) hx hb (by omega) dX4_home_6 (by decide) (fun c_6 => ?_) (fun c_6 => by exfalso; omega)
    refine lv_iconst (v := iI 1) hx hb dX4_home_13 rfl ?_
    refine m_callv (As := [.int (iI 1)]) ⟨hx, hb, hml, hown, hts⟩ (c_X4_isFine l D ad cI hD0 (u) (1) (by omega)) (cwV 1 hts gX4_home_X4_isFine rfl rfl rfl (by decide +kernel) ⟨Nat.le_of_ble_eq_true rfl, Nat.le_of_ble_eq_true rfl⟩) hK hP hS rfl hl.1 rfl (Nat.le_of_ble_eq_true rfl) ⟨Nat.le_of_ble_eq_true rfl, Nat.le_of_ble_eq_true rfl⟩ dX4_home_14 (fun r9 u9 H locs hpost hP hS => ?_)
    obtain ⟨rfl, ⟨hc9, rfl⟩ | ⟨hc9, rfl⟩⟩ := hpost
    · exact absurd hc9 (by decide)
    have hR := hR.thr (1)
    have hD : va_D A (wM ad cI (pokeX u 3 (1))) := wM_D hD0
    refine h_if_eq (tgt := 28) hx hb (by omega) dX4_home_17 (by decide) (fun c_17 => ?_) (fun c_17 => by exfalso; omega)
    refine lv_iconst (v := iI 0) hx hb dX4_home_28 rfl ?_
    exact hret (0) ((pokeX u 3 (1))) _ _ _ _ dX4_home_29 rfl hP hS (by show spM _ _ _; unfold sp_fil; rw [iteC_pos (by omega)]; exact ⟨rfl, rfl, hR⟩)

set_option maxRecDepth 100000 in
set_option maxHeartbeats 4000000 in
theorem c_X4_tier (l : Launch) (D : va_G) (ad : Nat → Nat) (cI : ClassId) {A : Nat → Prop} {u0 : MS} (hD0 : va_D A (wM ad cI u0)) {S : HdS} {n : Int} (hw : wf S n) (u : MS) (hR : RelM S u) (f : Int)  (r_f : inQ f)  : mI l yX4_tier wsX4_tier { frames := 2, cells := 0, slots := 0, locals := 43 } D ad cI A [.ref (ad 11), .int (iI f)] u (spM (sp_fil S f (tierS S f))) := by
  refine mI_of (cc := cX4_tier) (maxL := 2) (ty := .int) (by decide) rfl (Nat.le_of_ble_eq_true rfl) ?_
  intro pp ee ss mm args below meth cc Q hx hb hml hown hts hP hK hS hret ls hl
  have hl : lv_has ls 2 [(0, .ref (ad 11)), (1, .int (iI (f)))] := hl
  have hin : ∀ w ∈ wsX40, w ∈ wsX4_tier := fun w h => List.mem_cons_of_mem _ (List.mem_append_right _ h)
  have hD : va_D A (wM ad cI u) := wM_D hD0
  have hn1 := hw.nf
  refine lv_aload_n hx hb dX4_tier_0 rfl (lv_at hl 0 rfl) ?_
  refine lv_aload_n hx hb dX4_tier_1 rfl (lv_at hl 0 rfl) ?_
  refine lv_iload_n hx hb dX4_tier_2 rfl (lv_at hl 1 rfl) ?_
  refine m_callv (As := [.int (iI (f))]) ⟨hx, hb, hml, hown, hts⟩ (c_X4_isFile l D ad cI hD0 hw (u) hR (f) (by omega)) (cwV 1 hts gX4_tier_X4_isFile rfl rfl rfl (by decide +kernel) ⟨Nat.le_of_ble_eq_true rfl, Nat.le_of_ble_eq_true rfl⟩) hK hP hS rfl hl.1 rfl (Nat.le_of_ble_eq_true rfl) ⟨Nat.le_of_ble_eq_true rfl, Nat.le_of_ble_eq_true rfl⟩ dX4_tier_3 (fun r9 u9 H locs hpost hP hS => ?_)
  obtain ⟨rfl, ⟨hc_1, rfl⟩ | ⟨hc_1, rfl⟩⟩ := hpost
  · skip
    refine h_if_eq (tgt := 13) hx hb (by omega) dX4_tier_6 (by decide) (fun c_6 => by exfalso; omega) (fun c_6 => ?_)
    refine lv_iconst (v := iI 0) hx hb dX4_tier_9 rfl ?_
    refine lv_goto (tgt := 14) hx hb dX4_tier_10 (by decide) ?_
    refine m_callv (As := [.int (iI 0)]) ⟨hx, hb, hml, hown, hts⟩ (c_X4_isFine l D ad cI hD0 (u) (0) (by omega)) (cwV 1 hts gX4_tier_X4_isFine rfl rfl rfl (by decide +kernel) ⟨Nat.le_of_ble_eq_true rfl, Nat.le_of_ble_eq_true rfl⟩) hK hP hS rfl hl.1 rfl (Nat.le_of_ble_eq_true rfl) ⟨Nat.le_of_ble_eq_true rfl, Nat.le_of_ble_eq_true rfl⟩ dX4_tier_14 (fun r9 u9 H locs hpost hP hS => ?_)
    obtain ⟨rfl, ⟨hc9, rfl⟩ | ⟨hc9, rfl⟩⟩ := hpost
    rotate_left
    · exact absurd rfl hc9
    have hR := hR.thr (0)
    have hD : va_D A (wM ad cI (pokeX u 3 (0))) := wM_D hD0
    refine h_if_eq (tgt := 28) hx hb (by omega) dX4_tier_17 (by decide) (fun c_17 => by exfalso; omega) (fun c_17 => ?_)
    refine lv_aload_n hx hb dX4_tier_20 rfl (lv_at hl 0 rfl) ?_
    refine lv_iload_n hx hb dX4_tier_21 rfl (lv_at hl 1 rfl) ?_
    refine m_callv (As := [.int (iI (f))]) ⟨hx, hb, hml, hown, hts⟩ (c_X4_tierOf l D ad cI hD0 hw ((pokeX u 3 (0))) hR (f) (by omega) (by omega) (by omega)) (cwV 1 hts gX4_tier_X4_tierOf rfl rfl rfl (by decide +kernel) ⟨Nat.le_of_ble_eq_true rfl, Nat.le_of_ble_eq_true rfl⟩) hK hP hS rfl hl.1 rfl (Nat.le_of_ble_eq_true rfl) ⟨Nat.le_of_ble_eq_true rfl, Nat.le_of_ble_eq_true rfl⟩ dX4_tier_22 (fun r9 u9 H locs hpost hP hS => ?_)
    obtain ⟨rfl, rfl⟩ := hpost
    have ht9 := tier_in (S := S) (f)
    refine lv_goto (tgt := 29) hx hb dX4_tier_25 (by decide) ?_
    exact hret ((tierS S f)) ((pokeX u 3 (0))) _ _ _ _ dX4_tier_29 rfl hP hS (by show spM _ _ _; unfold sp_fil; rw [iteC_neg (by omega)]; exact ⟨rfl, rfl, hR⟩)
  · skip
    refine h_if_eq (tgt := 13) hx hb (by omega) dX4_tier_6 (by decide) (fun c_6 => ?_) (fun c_6 => by exfalso; omega)
    refine lv_iconst (v := iI 1) hx hb dX4_tier_13 rfl ?_
    refine m_callv (As := [.int (iI 1)]) ⟨hx, hb, hml, hown, hts⟩ (c_X4_isFine l D ad cI hD0 (u) (1) (by omega)) (cwV 1 hts gX4_tier_X4_isFine rfl rfl rfl (by decide +kernel) ⟨Nat.le_of_ble_eq_true rfl, Nat.le_of_ble_eq_true rfl⟩) hK hP hS rfl hl.1 rfl (Nat.le_of_ble_eq_true rfl) ⟨Nat.le_of_ble_eq_true rfl, Nat.le_of_ble_eq_true rfl⟩ dX4_tier_14 (fun r9 u9 H locs hpost hP hS => ?_)
    obtain ⟨rfl, ⟨hc9, rfl⟩ | ⟨hc9, rfl⟩⟩ := hpost
    · exact absurd hc9 (by decide)
    have hR := hR.thr (1)
    have hD : va_D A (wM ad cI (pokeX u 3 (1))) := wM_D hD0
    refine h_if_eq (tgt := 28) hx hb (by omega) dX4_tier_17 (by decide) (fun c_17 => ?_) (fun c_17 => by exfalso; omega)
    refine lv_iconst (v := iI 0) hx hb dX4_tier_28 rfl ?_
    exact hret (0) ((pokeX u 3 (1))) _ _ _ _ dX4_tier_29 rfl hP hS (by show spM _ _ _; unfold sp_fil; rw [iteC_pos (by omega)]; exact ⟨rfl, rfl, hR⟩)

set_option maxRecDepth 100000 in
set_option maxHeartbeats 4000000 in
theorem c_X4_coins (l : Launch) (D : va_G) (ad : Nat → Nat) (cI : ClassId) {A : Nat → Prop} {u0 : MS} (hD0 : va_D A (wM ad cI u0)) {S : HdS} {n : Int} (hw : wf S n) (u : MS) (hR : RelM S u) (p : Int)  (r_p : inQ p)  : mI l yX4_coins wsX4_coins { frames := 2, cells := 0, slots := 0, locals := 42 } D ad cI A [.ref (ad 11), .int (iI p)] u (spM (sp_dpt S p (S.1 10 p))) := by
  refine mI_of (cc := cX4_coins) (maxL := 2) (ty := .int) (by decide) rfl (Nat.le_of_ble_eq_true rfl) ?_
  intro pp ee ss mm args below meth cc Q hx hb hml hown hts hP hK hS hret ls hl
  have hl : lv_has ls 2 [(0, .ref (ad 11)), (1, .int (iI (p)))] := hl
  have hin : ∀ w ∈ wsX40, w ∈ wsX4_coins := fun w h => List.mem_cons_of_mem _ (List.mem_append_right _ h)
  have hD : va_D A (wM ad cI u) := wM_D hD0
  refine lv_aload_n hx hb dX4_coins_0 rfl (lv_at hl 0 rfl) ?_
  refine lv_iload_n hx hb dX4_coins_1 rfl (lv_at hl 1 rfl) ?_
  refine m_calls (As := [.int (iI (p))]) ⟨hx, hb, hml, hown, hts⟩ (c_X4_isDepartment l D ad cI hD0 (u) (p) (by omega)) (va_cwS 1 hts gX4_coins_X4_isDepartment rfl rfl rfl (by decide +kernel) ⟨Nat.le_of_ble_eq_true rfl, Nat.le_of_ble_eq_true rfl⟩) hK hP hS rfl hl.1 rfl (Nat.le_of_ble_eq_true rfl) ⟨Nat.le_of_ble_eq_true rfl, Nat.le_of_ble_eq_true rfl⟩ dX4_coins_2 (fun r9 u9 H locs hpost hP hS => ?_)
  obtain ⟨rfl, ⟨hc_1, rfl⟩ | ⟨hc_1, rfl⟩⟩ := hpost
  · skip
    refine h_if_eq (tgt := 12) hx hb (by omega) dX4_coins_5 (by decide) (fun c_5 => by exfalso; omega) (fun c_5 => ?_)
    refine lv_iconst (v := iI 0) hx hb dX4_coins_8 rfl ?_
    refine lv_goto (tgt := 13) hx hb dX4_coins_9 (by decide) ?_
    refine m_callv (As := [.int (iI 0)]) ⟨hx, hb, hml, hown, hts⟩ (c_X4_isFine l D ad cI hD0 (u) (0) (by omega)) (cwV 1 hts gX4_coins_X4_isFine rfl rfl rfl (by decide +kernel) ⟨Nat.le_of_ble_eq_true rfl, Nat.le_of_ble_eq_true rfl⟩) hK hP hS rfl hl.1 rfl (Nat.le_of_ble_eq_true rfl) ⟨Nat.le_of_ble_eq_true rfl, Nat.le_of_ble_eq_true rfl⟩ dX4_coins_13 (fun r9 u9 H locs hpost hP hS => ?_)
    obtain ⟨rfl, ⟨hc9, rfl⟩ | ⟨hc9, rfl⟩⟩ := hpost
    rotate_left
    · exact absurd rfl hc9
    have hR := hR.thr (0)
    have hD : va_D A (wM ad cI (pokeX u 3 (0))) := wM_D hD0
    refine h_if_eq (tgt := 28) hx hb (by omega) dX4_coins_16 (by decide) (fun c_16 => by exfalso; omega) (fun c_16 => ?_)
    refine lv_aload_n hx hb dX4_coins_19 rfl (lv_at hl 0 rfl) ?_
    refine m_get hx hb hts hin hown hK hP 12 (by decide) (v := .ref (ad 10)) rfl (hts (.fieldLink RX4 44 "HoldServerModel" "coins" "[I") (by decide +kernel)) rfl dX4_coins_20 ?_
    refine lv_iload_n hx hb dX4_coins_23 rfl (lv_at hl 1 rfl) ?_
    refine m_ld hx hb hK hP (k := 10) (by decide) (v := S.1 10 p) (by omega) (by show _ < ((4 : Nat) : Int); omega) (hR.coi (by omega) (by omega)) dX4_coins_24 ?_
    refine lv_goto (tgt := 29) hx hb dX4_coins_25 (by decide) ?_
    exact hret ((S.1 10 p)) ((pokeX u 3 (0))) _ _ _ _ dX4_coins_29 rfl hP hS (by show spM _ _ _; unfold sp_dpt; rw [iteC_neg (by omega)]; exact ⟨rfl, rfl, hR⟩)
  · skip
    refine h_if_eq (tgt := 12) hx hb (by omega) dX4_coins_5 (by decide) (fun c_5 => ?_) (fun c_5 => by exfalso; omega)
    refine lv_iconst (v := iI 1) hx hb dX4_coins_12 rfl ?_
    refine m_callv (As := [.int (iI 1)]) ⟨hx, hb, hml, hown, hts⟩ (c_X4_isFine l D ad cI hD0 (u) (1) (by omega)) (cwV 1 hts gX4_coins_X4_isFine rfl rfl rfl (by decide +kernel) ⟨Nat.le_of_ble_eq_true rfl, Nat.le_of_ble_eq_true rfl⟩) hK hP hS rfl hl.1 rfl (Nat.le_of_ble_eq_true rfl) ⟨Nat.le_of_ble_eq_true rfl, Nat.le_of_ble_eq_true rfl⟩ dX4_coins_13 (fun r9 u9 H locs hpost hP hS => ?_)
    obtain ⟨rfl, ⟨hc9, rfl⟩ | ⟨hc9, rfl⟩⟩ := hpost
    · exact absurd hc9 (by decide)
    have hR := hR.thr (1)
    have hD : va_D A (wM ad cI (pokeX u 3 (1))) := wM_D hD0
    refine h_if_eq (tgt := 28) hx hb (by omega) dX4_coins_16 (by decide) (fun c_16 => ?_) (fun c_16 => by exfalso; omega)
    refine lv_iconst (v := iI 0) hx hb dX4_coins_28 rfl ?_
    exact hret (0) ((pokeX u 3 (1))) _ _ _ _ dX4_coins_29 rfl hP hS (by show spM _ _ _; unfold sp_dpt; rw [iteC_pos (by omega)]; exact ⟨rfl, rfl, hR⟩)

set_option maxRecDepth 100000 in
set_option maxHeartbeats 4000000 in
theorem c_X4_day (l : Launch) (D : va_G) (ad : Nat → Nat) (cI : ClassId) {A : Nat → Prop} {u0 : MS} (hD0 : va_D A (wM ad cI u0)) {S : HdS} {n : Int} (hw : wf S n) (u : MS) (hR : RelM S u)    : mI l yX4_day wsX4_day { frames := 0, cells := 0, slots := 0, locals := 0 } D ad cI A [.ref (ad 11)] u (spM (0, S.1 11 2, S)) := by
  refine mI_of (cc := cX4_day) (maxL := 1) (ty := .int) (by decide) rfl (Nat.le_of_ble_eq_true rfl) ?_
  intro pp ee ss mm args below meth cc Q hx hb hml hown hts hP hK hS hret ls hl
  have hl : lv_has ls 1 [(0, .ref (ad 11))] := hl
  have hin : ∀ w ∈ wsX40, w ∈ wsX4_day := fun w h => List.mem_cons_of_mem _ (List.mem_append_right _ h)
  have hD : va_D A (wM ad cI u) := wM_D hD0
  refine lv_aload_n hx hb dX4_day_0 rfl (lv_at hl 0 rfl) ?_
  refine lv_iconst (v := iI 0) hx hb dX4_day_1 rfl ?_
  refine m_put hx hb hts hin hown hK hP hD hS 3 (by decide) (hts (.fieldLink RX4 47 "HoldServerModel" "thrown" "I") (by decide +kernel)) rfl dX4_day_2 (fun H locs hP hD hS => ?_)
  refine lv_aload_n hx hb dX4_day_5 rfl (lv_at hl 0 rfl) ?_
  refine m_geti hx hb hts hin hown hK hP 13 (by decide) (v := S.1 11 2) 2 rfl (hR.x2) (hts (.fieldLink RX4 82 "HoldServerModel" "day" "I") (by decide +kernel)) rfl dX4_day_6 ?_
  exact hret ((S.1 11 2)) ((pokeX u 3 (0))) _ _ _ _ dX4_day_9 rfl hP hS ⟨rfl, rfl, hR⟩

set_option maxRecDepth 100000 in
set_option maxHeartbeats 4000000 in
theorem c_X4_directories (l : Launch) (D : va_G) (ad : Nat → Nat) (cI : ClassId) {A : Nat → Prop} {u0 : MS} (hD0 : va_D A (wM ad cI u0)) {S : HdS} {n : Int} (hw : wf S n) (u : MS) (hR : RelM S u)    : mI l yX4_directories wsX4_directories { frames := 0, cells := 0, slots := 0, locals := 0 } D ad cI A [.ref (ad 11)] u (spM (0, S.1 11 0, S)) := by
  refine mI_of (cc := cX4_directories) (maxL := 1) (ty := .int) (by decide) rfl (Nat.le_of_ble_eq_true rfl) ?_
  intro pp ee ss mm args below meth cc Q hx hb hml hown hts hP hK hS hret ls hl
  have hl : lv_has ls 1 [(0, .ref (ad 11))] := hl
  have hin : ∀ w ∈ wsX40, w ∈ wsX4_directories := fun w h => List.mem_cons_of_mem _ (List.mem_append_right _ h)
  have hD : va_D A (wM ad cI u) := wM_D hD0
  refine lv_aload_n hx hb dX4_directories_0 rfl (lv_at hl 0 rfl) ?_
  refine lv_iconst (v := iI 0) hx hb dX4_directories_1 rfl ?_
  refine m_put hx hb hts hin hown hK hP hD hS 3 (by decide) (hts (.fieldLink RX4 47 "HoldServerModel" "thrown" "I") (by decide +kernel)) rfl dX4_directories_2 (fun H locs hP hD hS => ?_)
  refine lv_aload_n hx hb dX4_directories_5 rfl (lv_at hl 0 rfl) ?_
  refine m_geti hx hb hts hin hown hK hP 2 (by decide) (v := S.1 11 0) 0 rfl (hR.x0) (hts (.fieldLink RX4 16 "HoldServerModel" "directories" "I") (by decide +kernel)) rfl dX4_directories_6 ?_
  exact hret ((S.1 11 0)) ((pokeX u 3 (0))) _ _ _ _ dX4_directories_9 rfl hP hS ⟨rfl, rfl, hR⟩

set_option maxRecDepth 100000 in
set_option maxHeartbeats 4000000 in
theorem c_X4_files (l : Launch) (D : va_G) (ad : Nat → Nat) (cI : ClassId) {A : Nat → Prop} {u0 : MS} (hD0 : va_D A (wM ad cI u0)) {S : HdS} {n : Int} (hw : wf S n) (u : MS) (hR : RelM S u)    : mI l yX4_files wsX4_files { frames := 0, cells := 0, slots := 0, locals := 0 } D ad cI A [.ref (ad 11)] u (spM (0, S.1 11 1, S)) := by
  refine mI_of (cc := cX4_files) (maxL := 1) (ty := .int) (by decide) rfl (Nat.le_of_ble_eq_true rfl) ?_
  intro pp ee ss mm args below meth cc Q hx hb hml hown hts hP hK hS hret ls hl
  have hl : lv_has ls 1 [(0, .ref (ad 11))] := hl
  have hin : ∀ w ∈ wsX40, w ∈ wsX4_files := fun w h => List.mem_cons_of_mem _ (List.mem_append_right _ h)
  have hD : va_D A (wM ad cI u) := wM_D hD0
  refine lv_aload_n hx hb dX4_files_0 rfl (lv_at hl 0 rfl) ?_
  refine lv_iconst (v := iI 0) hx hb dX4_files_1 rfl ?_
  refine m_put hx hb hts hin hown hK hP hD hS 3 (by decide) (hts (.fieldLink RX4 47 "HoldServerModel" "thrown" "I") (by decide +kernel)) rfl dX4_files_2 (fun H locs hP hD hS => ?_)
  refine lv_aload_n hx hb dX4_files_5 rfl (lv_at hl 0 rfl) ?_
  refine m_geti hx hb hts hin hown hK hP 11 (by decide) (v := S.1 11 1) 1 rfl (hR.x1) (hts (.fieldLink RX4 54 "HoldServerModel" "files" "I") (by decide +kernel)) rfl dX4_files_6 ?_
  exact hret ((S.1 11 1)) ((pokeX u 3 (0))) _ _ _ _ dX4_files_9 rfl hP hS ⟨rfl, rfl, hR⟩

set_option maxRecDepth 100000 in
set_option maxHeartbeats 4000000 in
theorem c_X4_setQuota (l : Launch) (D : va_G) (ad : Nat → Nat) (cI : ClassId) {A : Nat → Prop} {u0 : MS} (hD0 : va_D A (wM ad cI u0)) {S : HdS} {n : Int} (hw : wf S n) (u : MS) (hR : RelM S u) (d q : Int)  (r_d : inQ d) (r_q : inQ q)  : mI l yX4_setQuota wsX4_setQuota { frames := 2, cells := 0, slots := 0, locals := 43 } D ad cI A [.ref (ad 11), .int (iI d), .int (iI q)] u (spM (sp_setQuota S d q)) := by
  refine mI_of (cc := cX4_setQuota) (maxL := 4) (ty := .int) (by decide) rfl (Nat.le_of_ble_eq_true rfl) ?_
  intro pp ee ss mm args below meth cc Q hx hb hml hown hts hP hK hS hret ls hl
  have hl : lv_has ls 4 [(0, .ref (ad 11)), (1, .int (iI (d))), (2, .int (iI (q)))] := hl
  have hin : ∀ w ∈ wsX40, w ∈ wsX4_setQuota := fun w h => List.mem_cons_of_mem _ (List.mem_append_right _ h)
  have hD : va_D A (wM ad cI u) := wM_D hD0
  have hn1 := hw.nd
  have hn2 := hw.nf
  refine lv_aload_n hx hb dX4_setQuota_0 rfl (lv_at hl 0 rfl) ?_
  refine lv_aload_n hx hb dX4_setQuota_1 rfl (lv_at hl 0 rfl) ?_
  refine lv_iload_n hx hb dX4_setQuota_2 rfl (lv_at hl 1 rfl) ?_
  refine m_callv (As := [.int (iI (d))]) ⟨hx, hb, hml, hown, hts⟩ (c_X4_isDirectory l D ad cI hD0 hw (u) hR (d) (by omega)) (cwV 1 hts gX4_setQuota_X4_isDirectory rfl rfl rfl (by decide +kernel) ⟨Nat.le_of_ble_eq_true rfl, Nat.le_of_ble_eq_true rfl⟩) hK hP hS rfl hl.1 rfl (Nat.le_of_ble_eq_true rfl) ⟨Nat.le_of_ble_eq_true rfl, Nat.le_of_ble_eq_true rfl⟩ dX4_setQuota_3 (fun r9 u9 H locs hpost hP hS => ?_)
  obtain ⟨rfl, ⟨hc_1, rfl⟩ | ⟨hc_1, rfl⟩⟩ := hpost
  · skip
    refine h_if_ne (tgt := 13) hx hb (by omega) dX4_setQuota_6 (by decide) (fun c_6 => ?_) (fun c_6 => by exfalso; omega)
    refine lv_iload_n hx hb dX4_setQuota_13 rfl (lv_at hl 2 rfl) ?_
    refine lv_iconst (v := iI (-1)) hx hb dX4_setQuota_14 rfl ?_
    refine lv_ldc (v := iI 100000) hx hb hown (hts (.constant RX4 61 (iI 100000)) (by decide +kernel)) dX4_setQuota_15 ?_
    refine m_calls (As := [.int (iI (q)), .int (iI (-1)), .int (iI 100000)]) ⟨hx, hb, hml, hown, hts⟩ (c_X4_in l D ad cI hD0 (u) (q) ((-1)) (100000) (by omega) (by omega) (by omega)) (va_cwS 3 hts gX4_setQuota_X4_in rfl rfl rfl (by decide +kernel) ⟨Nat.le_of_ble_eq_true rfl, Nat.le_of_ble_eq_true rfl⟩) hK hP hS rfl hl.1 rfl (Nat.le_of_ble_eq_true rfl) ⟨Nat.le_of_ble_eq_true rfl, Nat.le_of_ble_eq_true rfl⟩ dX4_setQuota_17 (fun r9 u9 H locs hpost hP hS => ?_)
    obtain ⟨rfl, ⟨hc_2, rfl⟩ | ⟨hc_2, rfl⟩⟩ := hpost
    · skip
      refine h_if_ne (tgt := 27) hx hb (by omega) dX4_setQuota_20 (by decide) (fun c_20 => ?_) (fun c_20 => by exfalso; omega)
      refine lv_iconst (v := iI 0) hx hb dX4_setQuota_27 rfl ?_
      refine m_callv (As := [.int (iI 0)]) ⟨hx, hb, hml, hown, hts⟩ (c_X4_isFine l D ad cI hD0 (u) (0) (by omega)) (cwV 1 hts gX4_setQuota_X4_isFine rfl rfl rfl (by decide +kernel) ⟨Nat.le_of_ble_eq_true rfl, Nat.le_of_ble_eq_true rfl⟩) hK hP hS rfl hl.1 rfl (Nat.le_of_ble_eq_true rfl) ⟨Nat.le_of_ble_eq_true rfl, Nat.le_of_ble_eq_true rfl⟩ dX4_setQuota_28 (fun r9 u9 H locs hpost hP hS => ?_)
      obtain ⟨rfl, ⟨hc9, rfl⟩ | ⟨hc9, rfl⟩⟩ := hpost
      rotate_left
      · exact absurd rfl hc9
      have hR := hR.thr (0)
      have hD : va_D A (wM ad cI (pokeX u 3 (0))) := wM_D hD0
      refine h_if_ne (tgt := 36) hx hb (by omega) dX4_setQuota_31 (by decide) (fun c_31 => ?_) (fun c_31 => by exfalso; omega)
      refine lv_aload_n hx hb dX4_setQuota_36 rfl (lv_at hl 0 rfl) ?_
      refine m_get hx hb hts hin hown hK hP 1 (by decide) (v := .ref (ad 1)) rfl (hts (.fieldLink RX4 13 "HoldServerModel" "quota" "[I") (by decide +kernel)) rfl dX4_setQuota_37 ?_
      refine lv_iload_n hx hb dX4_setQuota_40 rfl (lv_at hl 1 rfl) ?_
      refine m_ld hx hb hK hP (k := 1) (by decide) (v := S.1 1 d) (by omega) (by show _ < ((12 : Nat) : Int); omega) (hR.dir (by decide) (by omega) (by omega)) dX4_setQuota_41 ?_
      refine lv_istore_n (lv' := [(3, .int (iI ((S.1 1 d)))), (0, .ref (ad 11)), (1, .int (iI (d))), (2, .int (iI (q)))]) hx hb dX4_setQuota_42 rfl hl (by decide) rfl (fun ls hl => ?_)
      refine lv_aload_n hx hb dX4_setQuota_43 rfl (lv_at hl 1 rfl) ?_
      refine m_get hx hb hts hin hown hK hP 1 (by decide) (v := .ref (ad 1)) rfl (hts (.fieldLink RX4 13 "HoldServerModel" "quota" "[I") (by decide +kernel)) rfl dX4_setQuota_44 ?_
      refine lv_iload_n hx hb dX4_setQuota_47 rfl (lv_at hl 2 rfl) ?_
      refine lv_iload_n hx hb dX4_setQuota_48 rfl (lv_at hl 3 rfl) ?_
      refine m_st hx hb hK hP hD hS (k := 1) (by decide) (by omega) (by show _ < ((12 : Nat) : Int); omega) dX4_setQuota_49 (fun H locs hP hD hS => ?_)
      have hR := RelM.setdir hR hn2.1 (k := 1) (by decide) (i := d) (v := q) (by omega) (by omega)
      refine lv_iload_n hx hb dX4_setQuota_50 rfl (lv_at hl 0 rfl) ?_
      exact hret ((S.1 1 d)) ((pokeF (pokeX u 3 (0)) 1 (d) (q))) _ _ _ _ dX4_setQuota_51 rfl hP hS (by show spM _ _ _; unfold sp_setQuota; rw [iteC_neg (by omega), iteC_neg (by omega)]; exact ⟨rfl, rfl, hR⟩)
    · skip
      refine h_if_ne (tgt := 27) hx hb (by omega) dX4_setQuota_20 (by decide) (fun c_20 => by exfalso; omega) (fun c_20 => ?_)
      refine lv_iconst (v := iI 2) hx hb dX4_setQuota_23 rfl ?_
      refine lv_goto (tgt := 28) hx hb dX4_setQuota_24 (by decide) ?_
      refine m_callv (As := [.int (iI 2)]) ⟨hx, hb, hml, hown, hts⟩ (c_X4_isFine l D ad cI hD0 (u) (2) (by omega)) (cwV 1 hts gX4_setQuota_X4_isFine rfl rfl rfl (by decide +kernel) ⟨Nat.le_of_ble_eq_true rfl, Nat.le_of_ble_eq_true rfl⟩) hK hP hS rfl hl.1 rfl (Nat.le_of_ble_eq_true rfl) ⟨Nat.le_of_ble_eq_true rfl, Nat.le_of_ble_eq_true rfl⟩ dX4_setQuota_28 (fun r9 u9 H locs hpost hP hS => ?_)
      obtain ⟨rfl, ⟨hc9, rfl⟩ | ⟨hc9, rfl⟩⟩ := hpost
      · exact absurd hc9 (by decide)
      have hR := hR.thr (2)
      have hD : va_D A (wM ad cI (pokeX u 3 (2))) := wM_D hD0
      refine h_if_ne (tgt := 36) hx hb (by omega) dX4_setQuota_31 (by decide) (fun c_31 => by exfalso; omega) (fun c_31 => ?_)
      refine lv_iconst (v := iI 0) hx hb dX4_setQuota_34 rfl ?_
      exact hret (0) ((pokeX u 3 (2))) _ _ _ _ dX4_setQuota_35 rfl hP hS (by show spM _ _ _; unfold sp_setQuota; rw [iteC_neg (by omega), iteC_pos (by omega)]; exact ⟨rfl, rfl, hR⟩)
  · skip
    refine h_if_ne (tgt := 13) hx hb (by omega) dX4_setQuota_6 (by decide) (fun c_6 => by exfalso; omega) (fun c_6 => ?_)
    refine lv_iconst (v := iI 1) hx hb dX4_setQuota_9 rfl ?_
    refine lv_goto (tgt := 28) hx hb dX4_setQuota_10 (by decide) ?_
    refine m_callv (As := [.int (iI 1)]) ⟨hx, hb, hml, hown, hts⟩ (c_X4_isFine l D ad cI hD0 (u) (1) (by omega)) (cwV 1 hts gX4_setQuota_X4_isFine rfl rfl rfl (by decide +kernel) ⟨Nat.le_of_ble_eq_true rfl, Nat.le_of_ble_eq_true rfl⟩) hK hP hS rfl hl.1 rfl (Nat.le_of_ble_eq_true rfl) ⟨Nat.le_of_ble_eq_true rfl, Nat.le_of_ble_eq_true rfl⟩ dX4_setQuota_28 (fun r9 u9 H locs hpost hP hS => ?_)
    obtain ⟨rfl, ⟨hc9, rfl⟩ | ⟨hc9, rfl⟩⟩ := hpost
    · exact absurd hc9 (by decide)
    have hR := hR.thr (1)
    have hD : va_D A (wM ad cI (pokeX u 3 (1))) := wM_D hD0
    refine h_if_ne (tgt := 36) hx hb (by omega) dX4_setQuota_31 (by decide) (fun c_31 => by exfalso; omega) (fun c_31 => ?_)
    refine lv_iconst (v := iI 0) hx hb dX4_setQuota_34 rfl ?_
    exact hret (0) ((pokeX u 3 (1))) _ _ _ _ dX4_setQuota_35 rfl hP hS (by show spM _ _ _; unfold sp_setQuota; rw [iteC_pos (by omega)]; exact ⟨rfl, rfl, hR⟩)

set_option maxRecDepth 100000 in
set_option maxHeartbeats 4000000 in
theorem c_X4_fund (l : Launch) (D : va_G) (ad : Nat → Nat) (cI : ClassId) {A : Nat → Prop} {u0 : MS} (hD0 : va_D A (wM ad cI u0)) {S : HdS} {n : Int} (hw : wf S n) (u : MS) (hR : RelM S u) (p c : Int)  (r_p : inQ p) (r_c : inQ c)  : mI l yX4_fund wsX4_fund { frames := 2, cells := 0, slots := 0, locals := 42 } D ad cI A [.ref (ad 11), .int (iI p), .int (iI c)] u (spM (sp_fund S p c)) := by
  refine mI_of (cc := cX4_fund) (maxL := 4) (ty := .int) (by decide) rfl (Nat.le_of_ble_eq_true rfl) ?_
  intro pp ee ss mm args below meth cc Q hx hb hml hown hts hP hK hS hret ls hl
  have hl : lv_has ls 4 [(0, .ref (ad 11)), (1, .int (iI (p))), (2, .int (iI (c)))] := hl
  have hin : ∀ w ∈ wsX40, w ∈ wsX4_fund := fun w h => List.mem_cons_of_mem _ (List.mem_append_right _ h)
  have hD : va_D A (wM ad cI u) := wM_D hD0
  have hn2 := hw.nf
  refine lv_iload_n hx hb dX4_fund_0 rfl (lv_at hl 1 rfl) ?_
  refine m_calls (As := [.int (iI (p))]) ⟨hx, hb, hml, hown, hts⟩ (c_X4_isDepartment l D ad cI hD0 (u) (p) (by omega)) (va_cwS 1 hts gX4_fund_X4_isDepartment rfl rfl rfl (by decide +kernel) ⟨Nat.le_of_ble_eq_true rfl, Nat.le_of_ble_eq_true rfl⟩) hK hP hS rfl hl.1 rfl (Nat.le_of_ble_eq_true rfl) ⟨Nat.le_of_ble_eq_true rfl, Nat.le_of_ble_eq_true rfl⟩ dX4_fund_1 (fun r9 u9 H locs hpost hP hS => ?_)
  obtain ⟨rfl, ⟨hc_1, rfl⟩ | ⟨hc_1, rfl⟩⟩ := hpost
  · skip
    refine h_if_ne (tgt := 11) hx hb (by omega) dX4_fund_4 (by decide) (fun c_4 => ?_) (fun c_4 => by exfalso; omega)
    refine lv_iload_n hx hb dX4_fund_11 rfl (lv_at hl 2 rfl) ?_
    refine lv_iconst (v := iI 1) hx hb dX4_fund_12 rfl ?_
    refine lv_sipush (v := iI 10000) hx hb dX4_fund_13 (by decide) ?_
    refine m_calls (As := [.int (iI (c)), .int (iI 1), .int (iI 10000)]) ⟨hx, hb, hml, hown, hts⟩ (c_X4_in l D ad cI hD0 (u) (c) (1) (10000) (by omega) (by omega) (by omega)) (va_cwS 3 hts gX4_fund_X4_in rfl rfl rfl (by decide +kernel) ⟨Nat.le_of_ble_eq_true rfl, Nat.le_of_ble_eq_true rfl⟩) hK hP hS rfl hl.1 rfl (Nat.le_of_ble_eq_true rfl) ⟨Nat.le_of_ble_eq_true rfl, Nat.le_of_ble_eq_true rfl⟩ dX4_fund_16 (fun r9 u9 H locs hpost hP hS => ?_)
    obtain ⟨rfl, ⟨hc_2, rfl⟩ | ⟨hc_2, rfl⟩⟩ := hpost
    · skip
      refine h_if_ne (tgt := 26) hx hb (by omega) dX4_fund_19 (by decide) (fun c_19 => ?_) (fun c_19 => by exfalso; omega)
      refine lv_iconst (v := iI 0) hx hb dX4_fund_26 rfl ?_
      refine lv_istore_n (lv' := [(3, .int (iI 0)), (0, .ref (ad 11)), (1, .int (iI (p))), (2, .int (iI (c)))]) hx hb dX4_fund_27 rfl hl (by decide) rfl (fun ls hl => ?_)
      refine lv_aload_n hx hb dX4_fund_28 rfl (lv_at hl 1 rfl) ?_
      refine lv_iload_n hx hb dX4_fund_29 rfl (lv_at hl 0 rfl) ?_
      refine h_if_ne (tgt := 50) hx hb (by omega) dX4_fund_30 (by decide) (fun c_30 => by exfalso; omega) (fun c_30 => ?_)
      have hc9 := hw.coi (d := p) (by omega) (by omega)
      refine lv_aload_n hx hb dX4_fund_33 rfl (lv_at hl 1 rfl) ?_
      refine m_get hx hb hts hin hown hK hP 12 (by decide) (v := .ref (ad 10)) rfl (hts (.fieldLink RX4 44 "HoldServerModel" "coins" "[I") (by decide +kernel)) rfl dX4_fund_34 ?_
      refine lv_iload_n hx hb dX4_fund_37 rfl (lv_at hl 2 rfl) ?_
      refine m_ld hx hb hK hP (k := 10) (by decide) (v := S.1 10 p) (by omega) (by show _ < ((4 : Nat) : Int); omega) (hR.coi (by omega) (by omega)) dX4_fund_38 ?_
      refine lv_iload_n hx hb dX4_fund_39 rfl (lv_at hl 3 rfl) ?_
      refine h_iadd hx hb dX4_fund_40 ?_
      refine lv_ldc (v := iI 1000000) hx hb hown (hts (.constant RX4 98 (iI 1000000)) (by decide +kernel)) dX4_fund_41 ?_
      refine h_icmp_le (tgt := 50) hx hb (by omega) (by omega) dX4_fund_43 (by decide) (fun c_43 => ?_) (fun c_43 => ?_)
      · skip
        refine lv_iload_n hx hb dX4_fund_50 rfl (lv_at hl 0 rfl) ?_
        refine m_callv (As := [.int (iI 0)]) ⟨hx, hb, hml, hown, hts⟩ (c_X4_isFine l D ad cI hD0 (u) (0) (by omega)) (cwV 1 hts gX4_fund_X4_isFine rfl rfl rfl (by decide +kernel) ⟨Nat.le_of_ble_eq_true rfl, Nat.le_of_ble_eq_true rfl⟩) hK hP hS rfl hl.1 rfl (Nat.le_of_ble_eq_true rfl) ⟨Nat.le_of_ble_eq_true rfl, Nat.le_of_ble_eq_true rfl⟩ dX4_fund_51 (fun r9 u9 H locs hpost hP hS => ?_)
        obtain ⟨rfl, ⟨hc9, rfl⟩ | ⟨hc9, rfl⟩⟩ := hpost
        rotate_left
        · exact absurd rfl hc9
        have hR := hR.thr (0)
        have hD : va_D A (wM ad cI (pokeX u 3 (0))) := wM_D hD0
        refine h_if_ne (tgt := 59) hx hb (by omega) dX4_fund_54 (by decide) (fun c_54 => ?_) (fun c_54 => by exfalso; omega)
        refine lv_aload_n hx hb dX4_fund_59 rfl (lv_at hl 1 rfl) ?_
        refine m_get hx hb hts hin hown hK hP 12 (by decide) (v := .ref (ad 10)) rfl (hts (.fieldLink RX4 44 "HoldServerModel" "coins" "[I") (by decide +kernel)) rfl dX4_fund_60 ?_
        refine lv_iload_n hx hb dX4_fund_63 rfl (lv_at hl 2 rfl) ?_
        refine lv_dup2_11 hx hb dX4_fund_64 rfl rfl ?_
        refine m_ld hx hb hK hP (k := 10) (by decide) (v := S.1 10 p) (by omega) (by show _ < ((4 : Nat) : Int); omega) (hR.coi (by omega) (by omega)) dX4_fund_65 ?_
        refine lv_iload_n hx hb dX4_fund_66 rfl (lv_at hl 3 rfl) ?_
        refine h_iadd hx hb dX4_fund_67 ?_
        refine m_st hx hb hK hP hD hS (k := 10) (by decide) (by omega) (by show _ < ((4 : Nat) : Int); omega) dX4_fund_68 (fun H locs hP hD hS => ?_)
        have hR := RelM.setcoi hR hn2.1 (i := p) (v := S.1 10 p + c) (by omega)
        refine lv_aload_n hx hb dX4_fund_69 rfl (lv_at hl 1 rfl) ?_
        refine m_get hx hb hts hin hown hK hP 12 (by decide) (v := .ref (ad 10)) rfl (hts (.fieldLink RX4 44 "HoldServerModel" "coins" "[I") (by decide +kernel)) rfl dX4_fund_70 ?_
        refine lv_iload_n hx hb dX4_fund_73 rfl (lv_at hl 2 rfl) ?_
        refine m_ld hx hb hK hP (k := 10) (by decide) (v := S.1 10 p + c) (by omega) (by show _ < ((4 : Nat) : Int); omega) (by have q := hR.coi (i := p) (by omega) (by omega); simpa [sset_1] using q) dX4_fund_74 ?_
        exact hret ((S.1 10 p + c)) ((pokeF (pokeX u 3 (0)) 10 (p) (((S.1 10 p) + c)))) _ _ _ _ dX4_fund_75 rfl hP hS (by show spM _ _ _; unfold sp_fund; rw [iteC_neg (by omega), iteC_neg (by omega), iteC_neg (by omega)]; exact ⟨rfl, rfl, hR⟩)
      · skip
        refine lv_iconst (v := iI 3) hx hb dX4_fund_46 rfl ?_
        refine lv_goto (tgt := 51) hx hb dX4_fund_47 (by decide) ?_
        refine m_callv (As := [.int (iI 3)]) ⟨hx, hb, hml, hown, hts⟩ (c_X4_isFine l D ad cI hD0 (u) (3) (by omega)) (cwV 1 hts gX4_fund_X4_isFine rfl rfl rfl (by decide +kernel) ⟨Nat.le_of_ble_eq_true rfl, Nat.le_of_ble_eq_true rfl⟩) hK hP hS rfl hl.1 rfl (Nat.le_of_ble_eq_true rfl) ⟨Nat.le_of_ble_eq_true rfl, Nat.le_of_ble_eq_true rfl⟩ dX4_fund_51 (fun r9 u9 H locs hpost hP hS => ?_)
        obtain ⟨rfl, ⟨hc9, rfl⟩ | ⟨hc9, rfl⟩⟩ := hpost
        · exact absurd hc9 (by decide)
        have hR := hR.thr (3)
        have hD : va_D A (wM ad cI (pokeX u 3 (3))) := wM_D hD0
        refine h_if_ne (tgt := 59) hx hb (by omega) dX4_fund_54 (by decide) (fun c_54 => by exfalso; omega) (fun c_54 => ?_)
        refine lv_iconst (v := iI 0) hx hb dX4_fund_57 rfl ?_
        exact hret (0) ((pokeX u 3 (3))) _ _ _ _ dX4_fund_58 rfl hP hS (by show spM _ _ _; unfold sp_fund; rw [iteC_neg (by omega), iteC_neg (by omega), iteC_pos (by omega)]; exact ⟨rfl, rfl, hR⟩)
    · skip
      refine h_if_ne (tgt := 26) hx hb (by omega) dX4_fund_19 (by decide) (fun c_19 => by exfalso; omega) (fun c_19 => ?_)
      refine lv_iconst (v := iI 2) hx hb dX4_fund_22 rfl ?_
      refine lv_goto (tgt := 27) hx hb dX4_fund_23 (by decide) ?_
      refine lv_istore_n (lv' := [(3, .int (iI 2)), (0, .ref (ad 11)), (1, .int (iI (p))), (2, .int (iI (c)))]) hx hb dX4_fund_27 rfl hl (by decide) rfl (fun ls hl => ?_)
      refine lv_aload_n hx hb dX4_fund_28 rfl (lv_at hl 1 rfl) ?_
      refine lv_iload_n hx hb dX4_fund_29 rfl (lv_at hl 0 rfl) ?_
      refine h_if_ne (tgt := 50) hx hb (by omega) dX4_fund_30 (by decide) (fun c_30 => ?_) (fun c_30 => by exfalso; omega)
      refine lv_iload_n hx hb dX4_fund_50 rfl (lv_at hl 0 rfl) ?_
      refine m_callv (As := [.int (iI 2)]) ⟨hx, hb, hml, hown, hts⟩ (c_X4_isFine l D ad cI hD0 (u) (2) (by omega)) (cwV 1 hts gX4_fund_X4_isFine rfl rfl rfl (by decide +kernel) ⟨Nat.le_of_ble_eq_true rfl, Nat.le_of_ble_eq_true rfl⟩) hK hP hS rfl hl.1 rfl (Nat.le_of_ble_eq_true rfl) ⟨Nat.le_of_ble_eq_true rfl, Nat.le_of_ble_eq_true rfl⟩ dX4_fund_51 (fun r9 u9 H locs hpost hP hS => ?_)
      obtain ⟨rfl, ⟨hc9, rfl⟩ | ⟨hc9, rfl⟩⟩ := hpost
      · exact absurd hc9 (by decide)
      have hR := hR.thr (2)
      have hD : va_D A (wM ad cI (pokeX u 3 (2))) := wM_D hD0
      refine h_if_ne (tgt := 59) hx hb (by omega) dX4_fund_54 (by decide) (fun c_54 => by exfalso; omega) (fun c_54 => ?_)
      refine lv_iconst (v := iI 0) hx hb dX4_fund_57 rfl ?_
      exact hret (0) ((pokeX u 3 (2))) _ _ _ _ dX4_fund_58 rfl hP hS (by show spM _ _ _; unfold sp_fund; rw [iteC_neg (by omega), iteC_pos (by omega)]; exact ⟨rfl, rfl, hR⟩)
  · skip
    refine h_if_ne (tgt := 11) hx hb (by omega) dX4_fund_4 (by decide) (fun c_4 => by exfalso; omega) (fun c_4 => ?_)
    refine lv_iconst (v := iI 1) hx hb dX4_fund_7 rfl ?_
    refine lv_goto (tgt := 27) hx hb dX4_fund_8 (by decide) ?_
    refine lv_istore_n (lv' := [(3, .int (iI 1)), (0, .ref (ad 11)), (1, .int (iI (p))), (2, .int (iI (c)))]) hx hb dX4_fund_27 rfl hl (by decide) rfl (fun ls hl => ?_)
    refine lv_aload_n hx hb dX4_fund_28 rfl (lv_at hl 1 rfl) ?_
    refine lv_iload_n hx hb dX4_fund_29 rfl (lv_at hl 0 rfl) ?_
    refine h_if_ne (tgt := 50) hx hb (by omega) dX4_fund_30 (by decide) (fun c_30 => ?_) (fun c_30 => by exfalso; omega)
    refine lv_iload_n hx hb dX4_fund_50 rfl (lv_at hl 0 rfl) ?_
    refine m_callv (As := [.int (iI 1)]) ⟨hx, hb, hml, hown, hts⟩ (c_X4_isFine l D ad cI hD0 (u) (1) (by omega)) (cwV 1 hts gX4_fund_X4_isFine rfl rfl rfl (by decide +kernel) ⟨Nat.le_of_ble_eq_true rfl, Nat.le_of_ble_eq_true rfl⟩) hK hP hS rfl hl.1 rfl (Nat.le_of_ble_eq_true rfl) ⟨Nat.le_of_ble_eq_true rfl, Nat.le_of_ble_eq_true rfl⟩ dX4_fund_51 (fun r9 u9 H locs hpost hP hS => ?_)
    obtain ⟨rfl, ⟨hc9, rfl⟩ | ⟨hc9, rfl⟩⟩ := hpost
    · exact absurd hc9 (by decide)
    have hR := hR.thr (1)
    have hD : va_D A (wM ad cI (pokeX u 3 (1))) := wM_D hD0
    refine h_if_ne (tgt := 59) hx hb (by omega) dX4_fund_54 (by decide) (fun c_54 => by exfalso; omega) (fun c_54 => ?_)
    refine lv_iconst (v := iI 0) hx hb dX4_fund_57 rfl ?_
    exact hret (0) ((pokeX u 3 (1))) _ _ _ _ dX4_fund_58 rfl hP hS (by show spM _ _ _; unfold sp_fund; rw [iteC_pos (by omega)]; exact ⟨rfl, rfl, hR⟩)

set_option maxRecDepth 100000 in
set_option maxHeartbeats 4000000 in
theorem c_X4_addDirectory (l : Launch) (D : va_G) (ad : Nat → Nat) (cI : ClassId) {A : Nat → Prop} {u0 : MS} (hD0 : va_D A (wM ad cI u0)) {S : HdS} {n : Int} (hw : wf S n) (u : MS) (hR : RelM S u) (q0 q : Int)  (r_q0 : inQ q0) (r_q : inQ q)  : mI l yX4_addDirectory wsX4_addDirectory { frames := 2, cells := 0, slots := 0, locals := 43 } D ad cI A [.ref (ad 11), .int (iI q0), .int (iI q)] u (spM (sp_addDirectory S q0 q)) := by
  refine mI_of (cc := cX4_addDirectory) (maxL := 3) (ty := .int) (by decide) rfl (Nat.le_of_ble_eq_true rfl) ?_
  intro pp ee ss mm args below meth cc Q hx hb hml hown hts hP hK hS hret ls hl
  have hl : lv_has ls 3 [(0, .ref (ad 11)), (1, .int (iI (q0))), (2, .int (iI (q)))] := hl
  have hin : ∀ w ∈ wsX40, w ∈ wsX4_addDirectory := fun w h => List.mem_cons_of_mem _ (List.mem_append_right _ h)
  have hD : va_D A (wM ad cI u) := wM_D hD0
  have hn1 := hw.nd
  have hn2 := hw.nf
  refine lv_aload_n hx hb dX4_addDirectory_0 rfl (lv_at hl 0 rfl) ?_
  refine lv_aload_n hx hb dX4_addDirectory_1 rfl (lv_at hl 0 rfl) ?_
  refine lv_iload_n hx hb dX4_addDirectory_2 rfl (lv_at hl 1 rfl) ?_
  refine m_callv (As := [.int (iI (q0))]) ⟨hx, hb, hml, hown, hts⟩ (c_X4_isDirectory l D ad cI hD0 hw (u) hR (q0) (by omega)) (cwV 1 hts gX4_addDirectory_X4_isDirectory rfl rfl rfl (by decide +kernel) ⟨Nat.le_of_ble_eq_true rfl, Nat.le_of_ble_eq_true rfl⟩) hK hP hS rfl hl.1 rfl (Nat.le_of_ble_eq_true rfl) ⟨Nat.le_of_ble_eq_true rfl, Nat.le_of_ble_eq_true rfl⟩ dX4_addDirectory_3 (fun r9 u9 H locs hpost hP hS => ?_)
  obtain ⟨rfl, ⟨hc_1, rfl⟩ | ⟨hc_1, rfl⟩⟩ := hpost
  · skip
    refine h_if_ne (tgt := 13) hx hb (by omega) dX4_addDirectory_6 (by decide) (fun c_6 => ?_) (fun c_6 => by exfalso; omega)
    refine lv_iload_n hx hb dX4_addDirectory_13 rfl (lv_at hl 2 rfl) ?_
    refine lv_iconst (v := iI (-1)) hx hb dX4_addDirectory_14 rfl ?_
    refine lv_ldc (v := iI 100000) hx hb hown (hts (.constant RX4 61 (iI 100000)) (by decide +kernel)) dX4_addDirectory_15 ?_
    refine m_calls (As := [.int (iI (q)), .int (iI (-1)), .int (iI 100000)]) ⟨hx, hb, hml, hown, hts⟩ (c_X4_in l D ad cI hD0 (u) (q) ((-1)) (100000) (by omega) (by omega) (by omega)) (va_cwS 3 hts gX4_addDirectory_X4_in rfl rfl rfl (by decide +kernel) ⟨Nat.le_of_ble_eq_true rfl, Nat.le_of_ble_eq_true rfl⟩) hK hP hS rfl hl.1 rfl (Nat.le_of_ble_eq_true rfl) ⟨Nat.le_of_ble_eq_true rfl, Nat.le_of_ble_eq_true rfl⟩ dX4_addDirectory_17 (fun r9 u9 H locs hpost hP hS => ?_)
    obtain ⟨rfl, ⟨hc_2, rfl⟩ | ⟨hc_2, rfl⟩⟩ := hpost
    · skip
      refine h_if_ne (tgt := 27) hx hb (by omega) dX4_addDirectory_20 (by decide) (fun c_20 => ?_) (fun c_20 => by exfalso; omega)
      refine lv_aload_n hx hb dX4_addDirectory_27 rfl (lv_at hl 0 rfl) ?_
      refine m_geti hx hb hts hin hown hK hP 2 (by decide) (v := S.1 11 0) 0 rfl (hR.x0) (hts (.fieldLink RX4 16 "HoldServerModel" "directories" "I") (by decide +kernel)) rfl dX4_addDirectory_28 ?_
      refine lv_bipush (v := iI 12) hx hb dX4_addDirectory_31 (by decide) ?_
      refine h_icmp_ne (tgt := 40) hx hb (by omega) (by omega) dX4_addDirectory_33 (by decide) (fun c_33 => ?_) (fun c_33 => ?_)
      · skip
        refine lv_iconst (v := iI 0) hx hb dX4_addDirectory_40 rfl ?_
        refine m_callv (As := [.int (iI 0)]) ⟨hx, hb, hml, hown, hts⟩ (c_X4_isFine l D ad cI hD0 (u) (0) (by omega)) (cwV 1 hts gX4_addDirectory_X4_isFine rfl rfl rfl (by decide +kernel) ⟨Nat.le_of_ble_eq_true rfl, Nat.le_of_ble_eq_true rfl⟩) hK hP hS rfl hl.1 rfl (Nat.le_of_ble_eq_true rfl) ⟨Nat.le_of_ble_eq_true rfl, Nat.le_of_ble_eq_true rfl⟩ dX4_addDirectory_41 (fun r9 u9 H locs hpost hP hS => ?_)
        obtain ⟨rfl, ⟨hc9, rfl⟩ | ⟨hc9, rfl⟩⟩ := hpost
        rotate_left
        · exact absurd rfl hc9
        have hR := hR.thr (0)
        have hD : va_D A (wM ad cI (pokeX u 3 (0))) := wM_D hD0
        refine h_if_ne (tgt := 49) hx hb (by omega) dX4_addDirectory_44 (by decide) (fun c_44 => ?_) (fun c_44 => by exfalso; omega)
        refine lv_aload_n hx hb dX4_addDirectory_49 rfl (lv_at hl 0 rfl) ?_
        refine m_get hx hb hts hin hown hK hP 0 (by decide) (v := .ref (ad 0)) rfl (hts (.fieldLink RX4 7 "HoldServerModel" "parent" "[I") (by decide +kernel)) rfl dX4_addDirectory_50 ?_
        refine lv_aload_n hx hb dX4_addDirectory_53 rfl (lv_at hl 0 rfl) ?_
        refine m_geti hx hb hts hin hown hK hP 2 (by decide) (v := S.1 11 0) 0 rfl (hR.x0) (hts (.fieldLink RX4 16 "HoldServerModel" "directories" "I") (by decide +kernel)) rfl dX4_addDirectory_54 ?_
        refine lv_iload_n hx hb dX4_addDirectory_57 rfl (lv_at hl 1 rfl) ?_
        refine m_st hx hb hK hP hD hS (k := 0) (by decide) (by omega) (by show _ < ((12 : Nat) : Int); omega) dX4_addDirectory_58 (fun H locs hP hD hS => ?_)
        refine lv_aload_n hx hb dX4_addDirectory_59 rfl (lv_at hl 0 rfl) ?_
        refine m_get hx hb hts hin hown hK hP 1 (by decide) (v := .ref (ad 1)) rfl (hts (.fieldLink RX4 13 "HoldServerModel" "quota" "[I") (by decide +kernel)) rfl dX4_addDirectory_60 ?_
        refine lv_aload_n hx hb dX4_addDirectory_63 rfl (lv_at hl 0 rfl) ?_
        refine m_geti hx hb hts hin hown hK hP 2 (by decide) (v := S.1 11 0) 0 rfl (hR.x0) (hts (.fieldLink RX4 16 "HoldServerModel" "directories" "I") (by decide +kernel)) rfl dX4_addDirectory_64 ?_
        refine lv_iload_n hx hb dX4_addDirectory_67 rfl (lv_at hl 2 rfl) ?_
        refine m_st hx hb hK hP hD hS (k := 1) (by decide) (by omega) (by show _ < ((12 : Nat) : Int); omega) dX4_addDirectory_68 (fun H locs hP hD hS => ?_)
        refine lv_aload_n hx hb dX4_addDirectory_69 rfl (lv_at hl 0 rfl) ?_
        refine lv_dup hx hb dX4_addDirectory_70 rfl ?_
        refine m_geti hx hb hts hin hown hK hP 2 (by decide) (v := S.1 11 0) 0 rfl (hR.x0) (hts (.fieldLink RX4 16 "HoldServerModel" "directories" "I") (by decide +kernel)) rfl dX4_addDirectory_71 ?_
        refine lv_iconst (v := iI 1) hx hb dX4_addDirectory_74 rfl ?_
        refine h_iadd hx hb dX4_addDirectory_75 ?_
        refine m_put hx hb hts hin hown hK hP hD hS 0 (by decide) (hts (.fieldLink RX4 16 "HoldServerModel" "directories" "I") (by decide +kernel)) rfl dX4_addDirectory_76 (fun H locs hP hD hS => ?_)
        have hR := RelM.addDir hR hw (p := q0) (q := q) (by omega)
        refine lv_aload_n hx hb dX4_addDirectory_79 rfl (lv_at hl 0 rfl) ?_
        refine m_geti hx hb hts hin hown hK hP 2 (by decide) (v := S.1 11 0 + 1) 0 rfl (rfl) (hts (.fieldLink RX4 16 "HoldServerModel" "directories" "I") (by decide +kernel)) rfl dX4_addDirectory_80 ?_
        refine lv_iconst (v := iI 1) hx hb dX4_addDirectory_83 rfl ?_
        refine h_isub hx hb dX4_addDirectory_84 ?_
        exact hret (((S.1 11 0 + 1) - 1)) ((pokeX (pokeF (pokeF (pokeX u 3 (0)) 0 ((S.1 11 0)) (q0)) 1 ((S.1 11 0)) (q)) 0 (((S.1 11 0) + 1)))) _ _ _ _ dX4_addDirectory_85 rfl hP hS (by show spM _ _ _; unfold sp_addDirectory; rw [iteC_neg (by omega), iteC_neg (by omega), iteC_neg (by omega)]; exact ⟨congrArg iI (by show S.1 11 0 + 1 - 1 = S.1 11 0; omega), rfl, hR⟩)
      · skip
        refine lv_iconst (v := iI 3) hx hb dX4_addDirectory_36 rfl ?_
        refine lv_goto (tgt := 41) hx hb dX4_addDirectory_37 (by decide) ?_
        refine m_callv (As := [.int (iI 3)]) ⟨hx, hb, hml, hown, hts⟩ (c_X4_isFine l D ad cI hD0 (u) (3) (by omega)) (cwV 1 hts gX4_addDirectory_X4_isFine rfl rfl rfl (by decide +kernel) ⟨Nat.le_of_ble_eq_true rfl, Nat.le_of_ble_eq_true rfl⟩) hK hP hS rfl hl.1 rfl (Nat.le_of_ble_eq_true rfl) ⟨Nat.le_of_ble_eq_true rfl, Nat.le_of_ble_eq_true rfl⟩ dX4_addDirectory_41 (fun r9 u9 H locs hpost hP hS => ?_)
        obtain ⟨rfl, ⟨hc9, rfl⟩ | ⟨hc9, rfl⟩⟩ := hpost
        · exact absurd hc9 (by decide)
        have hR := hR.thr (3)
        have hD : va_D A (wM ad cI (pokeX u 3 (3))) := wM_D hD0
        refine h_if_ne (tgt := 49) hx hb (by omega) dX4_addDirectory_44 (by decide) (fun c_44 => by exfalso; omega) (fun c_44 => ?_)
        refine lv_iconst (v := iI 0) hx hb dX4_addDirectory_47 rfl ?_
        exact hret (0) ((pokeX u 3 (3))) _ _ _ _ dX4_addDirectory_48 rfl hP hS (by show spM _ _ _; unfold sp_addDirectory; rw [iteC_neg (by omega), iteC_neg (by omega), iteC_pos (by omega)]; exact ⟨rfl, rfl, hR⟩)
    · skip
      refine h_if_ne (tgt := 27) hx hb (by omega) dX4_addDirectory_20 (by decide) (fun c_20 => by exfalso; omega) (fun c_20 => ?_)
      refine lv_iconst (v := iI 2) hx hb dX4_addDirectory_23 rfl ?_
      refine lv_goto (tgt := 41) hx hb dX4_addDirectory_24 (by decide) ?_
      refine m_callv (As := [.int (iI 2)]) ⟨hx, hb, hml, hown, hts⟩ (c_X4_isFine l D ad cI hD0 (u) (2) (by omega)) (cwV 1 hts gX4_addDirectory_X4_isFine rfl rfl rfl (by decide +kernel) ⟨Nat.le_of_ble_eq_true rfl, Nat.le_of_ble_eq_true rfl⟩) hK hP hS rfl hl.1 rfl (Nat.le_of_ble_eq_true rfl) ⟨Nat.le_of_ble_eq_true rfl, Nat.le_of_ble_eq_true rfl⟩ dX4_addDirectory_41 (fun r9 u9 H locs hpost hP hS => ?_)
      obtain ⟨rfl, ⟨hc9, rfl⟩ | ⟨hc9, rfl⟩⟩ := hpost
      · exact absurd hc9 (by decide)
      have hR := hR.thr (2)
      have hD : va_D A (wM ad cI (pokeX u 3 (2))) := wM_D hD0
      refine h_if_ne (tgt := 49) hx hb (by omega) dX4_addDirectory_44 (by decide) (fun c_44 => by exfalso; omega) (fun c_44 => ?_)
      refine lv_iconst (v := iI 0) hx hb dX4_addDirectory_47 rfl ?_
      exact hret (0) ((pokeX u 3 (2))) _ _ _ _ dX4_addDirectory_48 rfl hP hS (by show spM _ _ _; unfold sp_addDirectory; rw [iteC_neg (by omega), iteC_pos (by omega)]; exact ⟨rfl, rfl, hR⟩)
  · skip
    refine h_if_ne (tgt := 13) hx hb (by omega) dX4_addDirectory_6 (by decide) (fun c_6 => by exfalso; omega) (fun c_6 => ?_)
    refine lv_iconst (v := iI 1) hx hb dX4_addDirectory_9 rfl ?_
    refine lv_goto (tgt := 41) hx hb dX4_addDirectory_10 (by decide) ?_
    refine m_callv (As := [.int (iI 1)]) ⟨hx, hb, hml, hown, hts⟩ (c_X4_isFine l D ad cI hD0 (u) (1) (by omega)) (cwV 1 hts gX4_addDirectory_X4_isFine rfl rfl rfl (by decide +kernel) ⟨Nat.le_of_ble_eq_true rfl, Nat.le_of_ble_eq_true rfl⟩) hK hP hS rfl hl.1 rfl (Nat.le_of_ble_eq_true rfl) ⟨Nat.le_of_ble_eq_true rfl, Nat.le_of_ble_eq_true rfl⟩ dX4_addDirectory_41 (fun r9 u9 H locs hpost hP hS => ?_)
    obtain ⟨rfl, ⟨hc9, rfl⟩ | ⟨hc9, rfl⟩⟩ := hpost
    · exact absurd hc9 (by decide)
    have hR := hR.thr (1)
    have hD : va_D A (wM ad cI (pokeX u 3 (1))) := wM_D hD0
    refine h_if_ne (tgt := 49) hx hb (by omega) dX4_addDirectory_44 (by decide) (fun c_44 => by exfalso; omega) (fun c_44 => ?_)
    refine lv_iconst (v := iI 0) hx hb dX4_addDirectory_47 rfl ?_
    exact hret (0) ((pokeX u 3 (1))) _ _ _ _ dX4_addDirectory_48 rfl hP hS (by show spM _ _ _; unfold sp_addDirectory; rw [iteC_pos (by omega)]; exact ⟨rfl, rfl, hR⟩)

set_option maxRecDepth 100000 in
set_option maxHeartbeats 4000000 in
theorem c_X4_make (l : Launch) (D : va_G) (ad : Nat → Nat) (cI : ClassId) {A : Nat → Prop} {u0 : MS} (hD0 : va_D A (wM ad cI u0)) {S : HdS} {n : Int} (hw : wf S n) (u : MS) (hR : RelM S u) (p d z : Int)  (r_p : inQ p) (r_d : inQ d) (r_z : inQ z)  : mI l yX4_make wsX4_make { frames := 3, cells := 0, slots := 0, locals := 71 } D ad cI A [.ref (ad 11), .int (iI p), .int (iI d), .int (iI z)] u (spM (sp_make S p d z)) := by
  refine mI_of (cc := cX4_make) (maxL := 5) (ty := .int) (by decide) rfl (Nat.le_of_ble_eq_true rfl) ?_
  intro pp ee ss mm args below meth cc Q hx hb hml hown hts hP hK hS hret ls hl
  have hl : lv_has ls 5 [(0, .ref (ad 11)), (1, .int (iI (p))), (2, .int (iI (d))), (3, .int (iI (z)))] := hl
  have hin : ∀ w ∈ wsX40, w ∈ wsX4_make := fun w h => List.mem_cons_of_mem _ (List.mem_append_right _ h)
  have hD : va_D A (wM ad cI u) := wM_D hD0
  have hn1 := hw.nd
  have hn2 := hw.nf
  have hn3 := hw.day
  refine lv_iload_n hx hb dX4_make_0 rfl (lv_at hl 1 rfl) ?_
  refine m_calls (As := [.int (iI (p))]) ⟨hx, hb, hml, hown, hts⟩ (c_X4_isDepartment l D ad cI hD0 (u) (p) (by omega)) (va_cwS 1 hts gX4_make_X4_isDepartment rfl rfl rfl (by decide +kernel) ⟨Nat.le_of_ble_eq_true rfl, Nat.le_of_ble_eq_true rfl⟩) hK hP hS rfl hl.1 rfl (Nat.le_of_ble_eq_true rfl) ⟨Nat.le_of_ble_eq_true rfl, Nat.le_of_ble_eq_true rfl⟩ dX4_make_1 (fun r9 u9 H locs hpost hP hS => ?_)
  obtain ⟨rfl, ⟨hc_1, rfl⟩ | ⟨hc_1, rfl⟩⟩ := hpost
  · skip
    refine h_if_eq (tgt := 15) hx hb (by omega) dX4_make_4 (by decide) (fun c_4 => by exfalso; omega) (fun c_4 => ?_)
    refine lv_aload_n hx hb dX4_make_7 rfl (lv_at hl 0 rfl) ?_
    refine lv_iload_n hx hb dX4_make_8 rfl (lv_at hl 2 rfl) ?_
    refine m_callv (As := [.int (iI (d))]) ⟨hx, hb, hml, hown, hts⟩ (c_X4_isDirectory l D ad cI hD0 hw (u) hR (d) (by omega)) (cwV 1 hts gX4_make_X4_isDirectory rfl rfl rfl (by decide +kernel) ⟨Nat.le_of_ble_eq_true rfl, Nat.le_of_ble_eq_true rfl⟩) hK hP hS rfl hl.1 rfl (Nat.le_of_ble_eq_true rfl) ⟨Nat.le_of_ble_eq_true rfl, Nat.le_of_ble_eq_true rfl⟩ dX4_make_9 (fun r9 u9 H locs hpost hP hS => ?_)
    obtain ⟨rfl, ⟨hc_2, rfl⟩ | ⟨hc_2, rfl⟩⟩ := hpost
    · skip
      refine h_if_ne (tgt := 19) hx hb (by omega) dX4_make_12 (by decide) (fun c_12 => ?_) (fun c_12 => by exfalso; omega)
      refine lv_iload_n hx hb dX4_make_19 rfl (lv_at hl 3 rfl) ?_
      refine lv_iconst (v := iI 1) hx hb dX4_make_20 rfl ?_
      refine lv_sipush (v := iI 1000) hx hb dX4_make_21 (by decide) ?_
      refine m_calls (As := [.int (iI (z)), .int (iI 1), .int (iI 1000)]) ⟨hx, hb, hml, hown, hts⟩ (c_X4_in l D ad cI hD0 (u) (z) (1) (1000) (by omega) (by omega) (by omega)) (va_cwS 3 hts gX4_make_X4_in rfl rfl rfl (by decide +kernel) ⟨Nat.le_of_ble_eq_true rfl, Nat.le_of_ble_eq_true rfl⟩) hK hP hS rfl hl.1 rfl (Nat.le_of_ble_eq_true rfl) ⟨Nat.le_of_ble_eq_true rfl, Nat.le_of_ble_eq_true rfl⟩ dX4_make_24 (fun r9 u9 H locs hpost hP hS => ?_)
      obtain ⟨rfl, ⟨hc_3, rfl⟩ | ⟨hc_3, rfl⟩⟩ := hpost
      · skip
        refine h_if_ne (tgt := 34) hx hb (by omega) dX4_make_27 (by decide) (fun c_27 => ?_) (fun c_27 => by exfalso; omega)
        refine lv_iconst (v := iI 0) hx hb dX4_make_34 rfl ?_
        refine lv_istore (lv' := [(4, .int (iI 0)), (0, .ref (ad 11)), (1, .int (iI (p))), (2, .int (iI (d))), (3, .int (iI (z)))]) hx hb dX4_make_35 hl (by decide) rfl (fun ls hl => ?_)
        refine lv_aload_n hx hb dX4_make_37 rfl (lv_at hl 1 rfl) ?_
        refine lv_iload hx hb dX4_make_38 (lv_at hl 0 rfl) ?_
        refine h_if_ne (tgt := 66) hx hb (by omega) dX4_make_40 (by decide) (fun c_40 => by exfalso; omega) (fun c_40 => ?_)
        refine lv_aload_n hx hb dX4_make_43 rfl (lv_at hl 1 rfl) ?_
        refine m_geti hx hb hts hin hown hK hP 11 (by decide) (v := S.1 11 1) 1 rfl (hR.x1) (hts (.fieldLink RX4 54 "HoldServerModel" "files" "I") (by decide +kernel)) rfl dX4_make_44 ?_
        refine lv_bipush (v := iI 30) hx hb dX4_make_47 (by decide) ?_
        refine h_icmp_eq (tgt := 62) hx hb (by omega) (by omega) dX4_make_49 (by decide) (fun c_49 => ?_) (fun c_49 => ?_)
        · skip
          refine lv_iconst (v := iI 3) hx hb dX4_make_62 rfl ?_
          refine lv_goto (tgt := 68) hx hb dX4_make_63 (by decide) ?_
          refine m_callv (As := [.int (iI 3)]) ⟨hx, hb, hml, hown, hts⟩ (c_X4_isFine l D ad cI hD0 (u) (3) (by omega)) (cwV 1 hts gX4_make_X4_isFine rfl rfl rfl (by decide +kernel) ⟨Nat.le_of_ble_eq_true rfl, Nat.le_of_ble_eq_true rfl⟩) hK hP hS rfl hl.1 rfl (Nat.le_of_ble_eq_true rfl) ⟨Nat.le_of_ble_eq_true rfl, Nat.le_of_ble_eq_true rfl⟩ dX4_make_68 (fun r9 u9 H locs hpost hP hS => ?_)
          obtain ⟨rfl, ⟨hc9, rfl⟩ | ⟨hc9, rfl⟩⟩ := hpost
          · exact absurd hc9 (by decide)
          have hR := hR.thr (3)
          have hD : va_D A (wM ad cI (pokeX u 3 (3))) := wM_D hD0
          refine h_if_ne (tgt := 76) hx hb (by omega) dX4_make_71 (by decide) (fun c_71 => by exfalso; omega) (fun c_71 => ?_)
          refine lv_iconst (v := iI 0) hx hb dX4_make_74 rfl ?_
          exact hret (0) ((pokeX u 3 (3))) _ _ _ _ dX4_make_75 rfl hP hS (by show spM _ _ _; unfold sp_make; rw [iteC_neg (by omega), iteC_neg (by omega), iteC_pos (Or.inl (by omega))]; exact ⟨rfl, rfl, hR⟩)
        · skip
          refine lv_aload_n hx hb dX4_make_52 rfl (lv_at hl 1 rfl) ?_
          refine lv_iload_n hx hb dX4_make_53 rfl (lv_at hl 2 rfl) ?_
          refine lv_iload_n hx hb dX4_make_54 rfl (lv_at hl 3 rfl) ?_
          refine lv_iload_n hx hb dX4_make_55 rfl (lv_at hl 4 rfl) ?_
          refine m_callv (As := [.int (iI (p)), .int (iI (d)), .int (iI (z))]) ⟨hx, hb, hml, hown, hts⟩ (c_X4_canGrow l D ad cI hD0 hw (u) hR (p) (d) (z) (by omega) (by omega) (by omega) (by omega) (by omega) (by omega) (by omega) (by omega) (by omega)) (cwV 3 hts gX4_make_X4_canGrow rfl rfl rfl (by decide +kernel) ⟨Nat.le_of_ble_eq_true rfl, Nat.le_of_ble_eq_true rfl⟩) hK hP hS rfl hl.1 rfl (Nat.le_of_ble_eq_true rfl) ⟨Nat.le_of_ble_eq_true rfl, Nat.le_of_ble_eq_true rfl⟩ dX4_make_56 (fun r9 u9 H locs hpost hP hS => ?_)
          obtain ⟨rfl, ⟨hc_4, rfl⟩ | ⟨hc_4, rfl⟩⟩ := hpost
          · skip
            refine h_if_ne (tgt := 66) hx hb (by omega) dX4_make_59 (by decide) (fun c_59 => ?_) (fun c_59 => by exfalso; omega)
            refine lv_iload hx hb dX4_make_66 (lv_at hl 0 rfl) ?_
            refine m_callv (As := [.int (iI 0)]) ⟨hx, hb, hml, hown, hts⟩ (c_X4_isFine l D ad cI hD0 (u) (0) (by omega)) (cwV 1 hts gX4_make_X4_isFine rfl rfl rfl (by decide +kernel) ⟨Nat.le_of_ble_eq_true rfl, Nat.le_of_ble_eq_true rfl⟩) hK hP hS rfl hl.1 rfl (Nat.le_of_ble_eq_true rfl) ⟨Nat.le_of_ble_eq_true rfl, Nat.le_of_ble_eq_true rfl⟩ dX4_make_68 (fun r9 u9 H locs hpost hP hS => ?_)
            obtain ⟨rfl, ⟨hc9, rfl⟩ | ⟨hc9, rfl⟩⟩ := hpost
            rotate_left
            · exact absurd rfl hc9
            have hR := hR.thr (0)
            have hD : va_D A (wM ad cI (pokeX u 3 (0))) := wM_D hD0
            refine h_if_ne (tgt := 76) hx hb (by omega) dX4_make_71 (by decide) (fun c_71 => ?_) (fun c_71 => by exfalso; omega)
            refine lv_aload_n hx hb dX4_make_76 rfl (lv_at hl 1 rfl) ?_
            refine m_get hx hb hts hin hown hK hP 3 (by decide) (v := .ref (ad 2)) rfl (hts (.fieldLink RX4 20 "HoldServerModel" "department" "[I") (by decide +kernel)) rfl dX4_make_77 ?_
            refine lv_aload_n hx hb dX4_make_80 rfl (lv_at hl 1 rfl) ?_
            refine m_geti hx hb hts hin hown hK hP 11 (by decide) (v := S.1 11 1) 1 rfl (hR.x1) (hts (.fieldLink RX4 54 "HoldServerModel" "files" "I") (by decide +kernel)) rfl dX4_make_81 ?_
            refine lv_iload_n hx hb dX4_make_84 rfl (lv_at hl 2 rfl) ?_
            refine m_st hx hb hK hP hD hS (k := 2) (by decide) (by omega) (by show _ < ((30 : Nat) : Int); omega) dX4_make_85 (fun H locs hP hD hS => ?_)
            refine lv_aload_n hx hb dX4_make_86 rfl (lv_at hl 1 rfl) ?_
            refine m_get hx hb hts hin hown hK hP 4 (by decide) (v := .ref (ad 3)) rfl (hts (.fieldLink RX4 23 "HoldServerModel" "size" "[I") (by decide +kernel)) rfl dX4_make_87 ?_
            refine lv_aload_n hx hb dX4_make_90 rfl (lv_at hl 1 rfl) ?_
            refine m_geti hx hb hts hin hown hK hP 11 (by decide) (v := S.1 11 1) 1 rfl (hR.x1) (hts (.fieldLink RX4 54 "HoldServerModel" "files" "I") (by decide +kernel)) rfl dX4_make_91 ?_
            refine lv_iload_n hx hb dX4_make_94 rfl (lv_at hl 4 rfl) ?_
            refine m_st hx hb hK hP hD hS (k := 3) (by decide) (by omega) (by show _ < ((30 : Nat) : Int); omega) dX4_make_95 (fun H locs hP hD hS => ?_)
            refine lv_aload_n hx hb dX4_make_96 rfl (lv_at hl 1 rfl) ?_
            refine m_get hx hb hts hin hown hK hP 5 (by decide) (v := .ref (ad 4)) rfl (hts (.fieldLink RX4 26 "HoldServerModel" "link" "[I") (by decide +kernel)) rfl dX4_make_97 ?_
            refine lv_bipush (v := iI 12) hx hb dX4_make_100 (by decide) ?_
            refine lv_aload_n hx hb dX4_make_102 rfl (lv_at hl 1 rfl) ?_
            refine m_geti hx hb hts hin hown hK hP 11 (by decide) (v := S.1 11 1) 1 rfl (hR.x1) (hts (.fieldLink RX4 54 "HoldServerModel" "files" "I") (by decide +kernel)) rfl dX4_make_103 ?_
            refine h_imul hx hb dX4_make_106 ?_
            refine lv_iload_n hx hb dX4_make_107 rfl (lv_at hl 3 rfl) ?_
            refine m_st hx hb hK hP hD hS (k := 4) (by decide) (by omega) (by show _ < ((360 : Nat) : Int); omega) dX4_make_108 (fun H locs hP hD hS => ?_)
            refine lv_aload_n hx hb dX4_make_109 rfl (lv_at hl 1 rfl) ?_
            refine m_get hx hb hts hin hown hK hP 6 (by decide) (v := .ref (ad 5)) rfl (hts (.fieldLink RX4 29 "HoldServerModel" "links" "[I") (by decide +kernel)) rfl dX4_make_110 ?_
            refine lv_aload_n hx hb dX4_make_113 rfl (lv_at hl 1 rfl) ?_
            refine m_geti hx hb hts hin hown hK hP 11 (by decide) (v := S.1 11 1) 1 rfl (hR.x1) (hts (.fieldLink RX4 54 "HoldServerModel" "files" "I") (by decide +kernel)) rfl dX4_make_114 ?_
            refine lv_iconst (v := iI 1) hx hb dX4_make_117 rfl ?_
            refine m_st hx hb hK hP hD hS (k := 5) (by decide) (by omega) (by show _ < ((30 : Nat) : Int); omega) dX4_make_118 (fun H locs hP hD hS => ?_)
            refine lv_aload_n hx hb dX4_make_119 rfl (lv_at hl 1 rfl) ?_
            refine m_get hx hb hts hin hown hK hP 9 (by decide) (v := .ref (ad 8)) rfl (hts (.fieldLink RX4 38 "HoldServerModel" "used" "[I") (by decide +kernel)) rfl dX4_make_120 ?_
            refine lv_aload_n hx hb dX4_make_123 rfl (lv_at hl 1 rfl) ?_
            refine m_geti hx hb hts hin hown hK hP 11 (by decide) (v := S.1 11 1) 1 rfl (hR.x1) (hts (.fieldLink RX4 54 "HoldServerModel" "files" "I") (by decide +kernel)) rfl dX4_make_124 ?_
            refine lv_aload_n hx hb dX4_make_127 rfl (lv_at hl 1 rfl) ?_
            refine m_geti hx hb hts hin hown hK hP 13 (by decide) (v := S.1 11 2) 2 rfl (hR.x2) (hts (.fieldLink RX4 82 "HoldServerModel" "day" "I") (by decide +kernel)) rfl dX4_make_128 ?_
            refine m_st hx hb hK hP hD hS (k := 8) (by decide) (by omega) (by show _ < ((30 : Nat) : Int); omega) dX4_make_131 (fun H locs hP hD hS => ?_)
            refine lv_aload_n hx hb dX4_make_132 rfl (lv_at hl 1 rfl) ?_
            refine m_get hx hb hts hin hown hK hP 10 (by decide) (v := .ref (ad 9)) rfl (hts (.fieldLink RX4 41 "HoldServerModel" "back" "[I") (by decide +kernel)) rfl dX4_make_133 ?_
            refine lv_aload_n hx hb dX4_make_136 rfl (lv_at hl 1 rfl) ?_
            refine m_geti hx hb hts hin hown hK hP 11 (by decide) (v := S.1 11 1) 1 rfl (hR.x1) (hts (.fieldLink RX4 54 "HoldServerModel" "files" "I") (by decide +kernel)) rfl dX4_make_137 ?_
            refine lv_iconst (v := iI (-1)) hx hb dX4_make_140 rfl ?_
            refine m_st hx hb hK hP hD hS (k := 9) (by decide) (by omega) (by show _ < ((30 : Nat) : Int); omega) dX4_make_141 (fun H locs hP hD hS => ?_)
            refine lv_aload_n hx hb dX4_make_142 rfl (lv_at hl 1 rfl) ?_
            refine lv_dup hx hb dX4_make_143 rfl ?_
            refine m_geti hx hb hts hin hown hK hP 11 (by decide) (v := S.1 11 1) 1 rfl (hR.x1) (hts (.fieldLink RX4 54 "HoldServerModel" "files" "I") (by decide +kernel)) rfl dX4_make_144 ?_
            refine lv_iconst (v := iI 1) hx hb dX4_make_147 rfl ?_
            refine h_iadd hx hb dX4_make_148 ?_
            refine m_put hx hb hts hin hown hK hP hD hS 1 (by decide) (hts (.fieldLink RX4 54 "HoldServerModel" "files" "I") (by decide +kernel)) rfl dX4_make_149 (fun H locs hP hD hS => ?_)
            have hR := RelM.make hR hw (p := p) (d := d) (z := z) (by omega)
            refine lv_aload_n hx hb dX4_make_152 rfl (lv_at hl 1 rfl) ?_
            refine m_geti hx hb hts hin hown hK hP 11 (by decide) (v := S.1 11 1 + 1) 1 rfl (rfl) (hts (.fieldLink RX4 54 "HoldServerModel" "files" "I") (by decide +kernel)) rfl dX4_make_153 ?_
            refine lv_iconst (v := iI 1) hx hb dX4_make_156 rfl ?_
            refine h_isub hx hb dX4_make_157 ?_
            exact hret (((S.1 11 1 + 1) - 1)) ((pokeX (pokeF (pokeF (pokeF (pokeF (pokeF (pokeF (pokeX u 3 (0)) 2 ((S.1 11 1)) (p)) 3 ((S.1 11 1)) (z)) 4 ((12 * (S.1 11 1))) (d)) 5 ((S.1 11 1)) (1)) 8 ((S.1 11 1)) ((S.1 11 2))) 9 ((S.1 11 1)) ((-1))) 1 (((S.1 11 1) + 1)))) _ _ _ _ dX4_make_158 rfl hP hS (by show spM _ _ _; unfold sp_make; rw [iteC_neg (by omega), iteC_neg (by omega), iteC_neg (fun q => q.elim (fun z => by omega) (fun z => z hc_4))]; exact ⟨congrArg iI (by show S.1 11 1 + 1 - 1 = S.1 11 1; omega), rfl, hR⟩)
          · skip
            refine h_if_ne (tgt := 66) hx hb (by omega) dX4_make_59 (by decide) (fun c_59 => by exfalso; omega) (fun c_59 => ?_)
            refine lv_iconst (v := iI 3) hx hb dX4_make_62 rfl ?_
            refine lv_goto (tgt := 68) hx hb dX4_make_63 (by decide) ?_
            refine m_callv (As := [.int (iI 3)]) ⟨hx, hb, hml, hown, hts⟩ (c_X4_isFine l D ad cI hD0 (u) (3) (by omega)) (cwV 1 hts gX4_make_X4_isFine rfl rfl rfl (by decide +kernel) ⟨Nat.le_of_ble_eq_true rfl, Nat.le_of_ble_eq_true rfl⟩) hK hP hS rfl hl.1 rfl (Nat.le_of_ble_eq_true rfl) ⟨Nat.le_of_ble_eq_true rfl, Nat.le_of_ble_eq_true rfl⟩ dX4_make_68 (fun r9 u9 H locs hpost hP hS => ?_)
            obtain ⟨rfl, ⟨hc9, rfl⟩ | ⟨hc9, rfl⟩⟩ := hpost
            · exact absurd hc9 (by decide)
            have hR := hR.thr (3)
            have hD : va_D A (wM ad cI (pokeX u 3 (3))) := wM_D hD0
            refine h_if_ne (tgt := 76) hx hb (by omega) dX4_make_71 (by decide) (fun c_71 => by exfalso; omega) (fun c_71 => ?_)
            refine lv_iconst (v := iI 0) hx hb dX4_make_74 rfl ?_
            exact hret (0) ((pokeX u 3 (3))) _ _ _ _ dX4_make_75 rfl hP hS (by show spM _ _ _; unfold sp_make; rw [iteC_neg (by omega), iteC_neg (by omega), iteC_pos (Or.inr hc_4)]; exact ⟨rfl, rfl, hR⟩)
      · skip
        refine h_if_ne (tgt := 34) hx hb (by omega) dX4_make_27 (by decide) (fun c_27 => by exfalso; omega) (fun c_27 => ?_)
        refine lv_iconst (v := iI 2) hx hb dX4_make_30 rfl ?_
        refine lv_goto (tgt := 35) hx hb dX4_make_31 (by decide) ?_
        refine lv_istore (lv' := [(4, .int (iI 2)), (0, .ref (ad 11)), (1, .int (iI (p))), (2, .int (iI (d))), (3, .int (iI (z)))]) hx hb dX4_make_35 hl (by decide) rfl (fun ls hl => ?_)
        refine lv_aload_n hx hb dX4_make_37 rfl (lv_at hl 1 rfl) ?_
        refine lv_iload hx hb dX4_make_38 (lv_at hl 0 rfl) ?_
        refine h_if_ne (tgt := 66) hx hb (by omega) dX4_make_40 (by decide) (fun c_40 => ?_) (fun c_40 => by exfalso; omega)
        refine lv_iload hx hb dX4_make_66 (lv_at hl 0 rfl) ?_
        refine m_callv (As := [.int (iI 2)]) ⟨hx, hb, hml, hown, hts⟩ (c_X4_isFine l D ad cI hD0 (u) (2) (by omega)) (cwV 1 hts gX4_make_X4_isFine rfl rfl rfl (by decide +kernel) ⟨Nat.le_of_ble_eq_true rfl, Nat.le_of_ble_eq_true rfl⟩) hK hP hS rfl hl.1 rfl (Nat.le_of_ble_eq_true rfl) ⟨Nat.le_of_ble_eq_true rfl, Nat.le_of_ble_eq_true rfl⟩ dX4_make_68 (fun r9 u9 H locs hpost hP hS => ?_)
        obtain ⟨rfl, ⟨hc9, rfl⟩ | ⟨hc9, rfl⟩⟩ := hpost
        · exact absurd hc9 (by decide)
        have hR := hR.thr (2)
        have hD : va_D A (wM ad cI (pokeX u 3 (2))) := wM_D hD0
        refine h_if_ne (tgt := 76) hx hb (by omega) dX4_make_71 (by decide) (fun c_71 => by exfalso; omega) (fun c_71 => ?_)
        refine lv_iconst (v := iI 0) hx hb dX4_make_74 rfl ?_
        exact hret (0) ((pokeX u 3 (2))) _ _ _ _ dX4_make_75 rfl hP hS (by show spM _ _ _; unfold sp_make; rw [iteC_neg (by omega), iteC_pos (by omega)]; exact ⟨rfl, rfl, hR⟩)
    · skip
      refine h_if_ne (tgt := 19) hx hb (by omega) dX4_make_12 (by decide) (fun c_12 => by exfalso; omega) (fun c_12 => ?_)
      refine lv_iconst (v := iI 1) hx hb dX4_make_15 rfl ?_
      refine lv_goto (tgt := 35) hx hb dX4_make_16 (by decide) ?_
      refine lv_istore (lv' := [(4, .int (iI 1)), (0, .ref (ad 11)), (1, .int (iI (p))), (2, .int (iI (d))), (3, .int (iI (z)))]) hx hb dX4_make_35 hl (by decide) rfl (fun ls hl => ?_)
      refine lv_aload_n hx hb dX4_make_37 rfl (lv_at hl 1 rfl) ?_
      refine lv_iload hx hb dX4_make_38 (lv_at hl 0 rfl) ?_
      refine h_if_ne (tgt := 66) hx hb (by omega) dX4_make_40 (by decide) (fun c_40 => ?_) (fun c_40 => by exfalso; omega)
      refine lv_iload hx hb dX4_make_66 (lv_at hl 0 rfl) ?_
      refine m_callv (As := [.int (iI 1)]) ⟨hx, hb, hml, hown, hts⟩ (c_X4_isFine l D ad cI hD0 (u) (1) (by omega)) (cwV 1 hts gX4_make_X4_isFine rfl rfl rfl (by decide +kernel) ⟨Nat.le_of_ble_eq_true rfl, Nat.le_of_ble_eq_true rfl⟩) hK hP hS rfl hl.1 rfl (Nat.le_of_ble_eq_true rfl) ⟨Nat.le_of_ble_eq_true rfl, Nat.le_of_ble_eq_true rfl⟩ dX4_make_68 (fun r9 u9 H locs hpost hP hS => ?_)
      obtain ⟨rfl, ⟨hc9, rfl⟩ | ⟨hc9, rfl⟩⟩ := hpost
      · exact absurd hc9 (by decide)
      have hR := hR.thr (1)
      have hD : va_D A (wM ad cI (pokeX u 3 (1))) := wM_D hD0
      refine h_if_ne (tgt := 76) hx hb (by omega) dX4_make_71 (by decide) (fun c_71 => by exfalso; omega) (fun c_71 => ?_)
      refine lv_iconst (v := iI 0) hx hb dX4_make_74 rfl ?_
      exact hret (0) ((pokeX u 3 (1))) _ _ _ _ dX4_make_75 rfl hP hS (by show spM _ _ _; unfold sp_make; rw [iteC_pos (by omega)]; exact ⟨rfl, rfl, hR⟩)
  · skip
    refine h_if_eq (tgt := 15) hx hb (by omega) dX4_make_4 (by decide) (fun c_4 => ?_) (fun c_4 => by exfalso; omega)
    refine lv_iconst (v := iI 1) hx hb dX4_make_15 rfl ?_
    refine lv_goto (tgt := 35) hx hb dX4_make_16 (by decide) ?_
    refine lv_istore (lv' := [(4, .int (iI 1)), (0, .ref (ad 11)), (1, .int (iI (p))), (2, .int (iI (d))), (3, .int (iI (z)))]) hx hb dX4_make_35 hl (by decide) rfl (fun ls hl => ?_)
    refine lv_aload_n hx hb dX4_make_37 rfl (lv_at hl 1 rfl) ?_
    refine lv_iload hx hb dX4_make_38 (lv_at hl 0 rfl) ?_
    refine h_if_ne (tgt := 66) hx hb (by omega) dX4_make_40 (by decide) (fun c_40 => ?_) (fun c_40 => by exfalso; omega)
    refine lv_iload hx hb dX4_make_66 (lv_at hl 0 rfl) ?_
    refine m_callv (As := [.int (iI 1)]) ⟨hx, hb, hml, hown, hts⟩ (c_X4_isFine l D ad cI hD0 (u) (1) (by omega)) (cwV 1 hts gX4_make_X4_isFine rfl rfl rfl (by decide +kernel) ⟨Nat.le_of_ble_eq_true rfl, Nat.le_of_ble_eq_true rfl⟩) hK hP hS rfl hl.1 rfl (Nat.le_of_ble_eq_true rfl) ⟨Nat.le_of_ble_eq_true rfl, Nat.le_of_ble_eq_true rfl⟩ dX4_make_68 (fun r9 u9 H locs hpost hP hS => ?_)
    obtain ⟨rfl, ⟨hc9, rfl⟩ | ⟨hc9, rfl⟩⟩ := hpost
    · exact absurd hc9 (by decide)
    have hR := hR.thr (1)
    have hD : va_D A (wM ad cI (pokeX u 3 (1))) := wM_D hD0
    refine h_if_ne (tgt := 76) hx hb (by omega) dX4_make_71 (by decide) (fun c_71 => by exfalso; omega) (fun c_71 => ?_)
    refine lv_iconst (v := iI 0) hx hb dX4_make_74 rfl ?_
    exact hret (0) ((pokeX u 3 (1))) _ _ _ _ dX4_make_75 rfl hP hS (by show spM _ _ _; unfold sp_make; rw [iteC_pos (by omega)]; exact ⟨rfl, rfl, hR⟩)
