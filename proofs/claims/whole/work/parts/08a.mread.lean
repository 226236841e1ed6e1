set_option maxRecDepth 100000 in
set_option maxHeartbeats 4000000 in
theorem c_X4_in (l : Launch) (D : va_G) (ad : Nat → Nat) (cI : ClassId) {A : Nat → Prop} {u0 : MS} (hD0 : va_D A (wM ad cI u0))  (u : MS)  (v lo hi : Int)  (r_v : inQ v) (r_lo : inQ lo) (r_hi : inQ hi)  : mI l yX4_in wsX4_in { frames := 0, cells := 0, slots := 0, locals := 0 } D ad cI A [.int (iI v), .int (iI lo), .int (iI hi)] u (fun r u2 => u = u2 ∧ ((lo ≤ v ∧ v ≤ hi) ∧ r = iI 1 ∨ ¬ (lo ≤ v ∧ v ≤ hi) ∧ r = iI 0)) := by
  refine mI_of (cc := cX4_in) (maxL := 3) (ty := .boolean) (by decide) rfl (Nat.le_of_ble_eq_true rfl) ?_
  intro pp ee ss mm args below meth cc Q hx hb hml hown hts hP hK hS hret ls hl
  have hl : lv_has ls 3 [(0, .int (iI (v))), (1, .int (iI (lo))), (2, .int (iI (hi)))] := hl
  have hD : va_D A (wM ad cI u) := wM_D hD0
  refine lv_iload_n hx hb dX4_in_0 rfl (lv_at hl 0 rfl) ?_
  refine lv_iload_n hx hb dX4_in_1 rfl (lv_at hl 1 rfl) ?_
  refine h_icmp_lt (tgt := 14) hx hb (by omega) (by omega) dX4_in_2 (by decide) (fun c_2 => ?_) (fun c_2 => ?_)
  · skip
    refine lv_iconst (v := iI 0) hx hb dX4_in_14 rfl ?_
    exact hret (0) (u) _ _ _ _ dX4_in_15 (by decide) hP hS ⟨rfl, Or.inr ⟨by omega, rfl⟩⟩
  · skip
    refine lv_iload_n hx hb dX4_in_5 rfl (lv_at hl 0 rfl) ?_
    refine lv_iload_n hx hb dX4_in_6 rfl (lv_at hl 2 rfl) ?_
    refine h_icmp_gt (tgt := 14) hx hb (by omega) (by omega) dX4_in_7 (by decide) (fun c_7 => ?_) (fun c_7 => ?_)
    · skip
      refine lv_iconst (v := iI 0) hx hb dX4_in_14 rfl ?_
      exact hret (0) (u) _ _ _ _ dX4_in_15 (by decide) hP hS ⟨rfl, Or.inr ⟨by omega, rfl⟩⟩
    · skip
      refine lv_iconst (v := iI 1) hx hb dX4_in_10 rfl ?_
      refine lv_goto (tgt := 15) hx hb dX4_in_11 (by decide) ?_
      exact hret (1) (u) _ _ _ _ dX4_in_15 (by decide) hP hS ⟨rfl, Or.inl ⟨by omega, rfl⟩⟩

set_option maxRecDepth 100000 in
set_option maxHeartbeats 4000000 in
theorem c_X4_isFine (l : Launch) (D : va_G) (ad : Nat → Nat) (cI : ClassId) {A : Nat → Prop} {u0 : MS} (hD0 : va_D A (wM ad cI u0))  (u : MS)  (v : Int)  (r_v : inQ v)  : mI l yX4_isFine wsX4_isFine { frames := 0, cells := 0, slots := 0, locals := 0 } D ad cI A [.ref (ad 11), .int (iI v)] u (fun r u2 => pokeX u 3 v = u2 ∧ (v = 0 ∧ r = iI 1 ∨ ¬ v = 0 ∧ r = iI 0)) := by
  refine mI_of (cc := cX4_isFine) (maxL := 2) (ty := .boolean) (by decide) rfl (Nat.le_of_ble_eq_true rfl) ?_
  intro pp ee ss mm args below meth cc Q hx hb hml hown hts hP hK hS hret ls hl
  have hl : lv_has ls 2 [(0, .ref (ad 11)), (1, .int (iI (v)))] := hl
  have hin : ∀ w ∈ wsX40, w ∈ wsX4_isFine := fun w h => List.mem_cons_of_mem _ (List.mem_append_right _ h)
  have hD : va_D A (wM ad cI u) := wM_D hD0
  refine lv_aload_n hx hb dX4_isFine_0 rfl (lv_at hl 0 rfl) ?_
  refine lv_iload_n hx hb dX4_isFine_1 rfl (lv_at hl 1 rfl) ?_
  refine m_put hx hb hts hin hown hK hP hD hS 3 (by decide) (hts (.fieldLink RX4 47 "HoldServerModel" "thrown" "I") (by decide +kernel)) rfl dX4_isFine_2 (fun H locs hP hD hS => ?_)
  refine lv_iload_n hx hb dX4_isFine_5 rfl (lv_at hl 1 rfl) ?_
  refine h_if_ne (tgt := 13) hx hb (by omega) dX4_isFine_6 (by decide) (fun c_6 => ?_) (fun c_6 => ?_)
  · skip
    refine lv_iconst (v := iI 0) hx hb dX4_isFine_13 rfl ?_
    exact hret (0) ((pokeX u 3 (v))) _ _ _ _ dX4_isFine_14 (by decide) hP hS ⟨rfl, Or.inr ⟨by omega, rfl⟩⟩
  · skip
    refine lv_iconst (v := iI 1) hx hb dX4_isFine_9 rfl ?_
    refine lv_goto (tgt := 14) hx hb dX4_isFine_10 (by decide) ?_
    exact hret (1) ((pokeX u 3 (v))) _ _ _ _ dX4_isFine_14 (by decide) hP hS ⟨rfl, Or.inl ⟨by omega, rfl⟩⟩

set_option maxRecDepth 100000 in
set_option maxHeartbeats 4000000 in
theorem c_X4_isDirectory (l : Launch) (D : va_G) (ad : Nat → Nat) (cI : ClassId) {A : Nat → Prop} {u0 : MS} (hD0 : va_D A (wM ad cI u0)) {S : HdS} {n : Int} (hw : wf S n) (u : MS) (hR : RelM S u) (v : Int)  (r_v : inQ v)  : mI l yX4_isDirectory wsX4_isDirectory { frames := 1, cells := 0, slots := 0, locals := 22 } D ad cI A [.ref (ad 11), .int (iI v)] u (fun r u2 => u = u2 ∧ ((0 ≤ v ∧ v < S.1 11 0) ∧ r = iI 1 ∨ ¬ (0 ≤ v ∧ v < S.1 11 0) ∧ r = iI 0)) := by
  refine mI_of (cc := cX4_isDirectory) (maxL := 2) (ty := .boolean) (by decide) rfl (Nat.le_of_ble_eq_true rfl) ?_
  intro pp ee ss mm args below meth cc Q hx hb hml hown hts hP hK hS hret ls hl
  have hl : lv_has ls 2 [(0, .ref (ad 11)), (1, .int (iI (v)))] := hl
  have hin : ∀ w ∈ wsX40, w ∈ wsX4_isDirectory := fun w h => List.mem_cons_of_mem _ (List.mem_append_right _ h)
  have hD : va_D A (wM ad cI u) := wM_D hD0
  have hn1 := hw.nd
  refine lv_iload_n hx hb dX4_isDirectory_0 rfl (lv_at hl 1 rfl) ?_
  refine lv_iconst (v := iI 0) hx hb dX4_isDirectory_1 rfl ?_
  refine lv_aload_n hx hb dX4_isDirectory_2 rfl (lv_at hl 0 rfl) ?_
  refine m_geti hx hb hts hin hown hK hP 2 (by decide) (v := S.1 11 0) 0 rfl (hR.x0) (hts (.fieldLink RX4 16 "HoldServerModel" "directories" "I") (by decide +kernel)) rfl dX4_isDirectory_3 ?_
  refine lv_iconst (v := iI 1) hx hb dX4_isDirectory_6 rfl ?_
  refine h_isub hx hb dX4_isDirectory_7 ?_
  refine m_calls (As := [.int (iI (v)), .int (iI 0), .int (iI (((S.1 11 0) - 1)))]) ⟨hx, hb, hml, hown, hts⟩ (c_X4_in l D ad cI hD0 (u) (v) (0) (((S.1 11 0) - 1)) (by omega) (by omega) (by omega)) (va_cwS 3 hts gX4_isDirectory_X4_in rfl rfl rfl (by decide +kernel) ⟨Nat.le_of_ble_eq_true rfl, Nat.le_of_ble_eq_true rfl⟩) hK hP hS rfl hl.1 rfl (Nat.le_of_ble_eq_true rfl) ⟨Nat.le_of_ble_eq_true rfl, Nat.le_of_ble_eq_true rfl⟩ dX4_isDirectory_8 (fun r9 u9 H locs hpost hP hS => ?_)
  obtain ⟨rfl, ⟨hc_1, rfl⟩ | ⟨hc_1, rfl⟩⟩ := hpost
  · skip
    exact hret (1) (u) _ _ _ _ dX4_isDirectory_11 (by decide) hP hS ⟨rfl, Or.inl ⟨by omega, rfl⟩⟩
  · skip
    exact hret (0) (u) _ _ _ _ dX4_isDirectory_11 (by decide) hP hS ⟨rfl, Or.inr ⟨by omega, rfl⟩⟩

set_option maxRecDepth 100000 in
set_option maxHeartbeats 4000000 in
theorem c_X4_isFile (l : Launch) (D : va_G) (ad : Nat → Nat) (cI : ClassId) {A : Nat → Prop} {u0 : MS} (hD0 : va_D A (wM ad cI u0)) {S : HdS} {n : Int} (hw : wf S n) (u : MS) (hR : RelM S u) (v : Int)  (r_v : inQ v)  : mI l yX4_isFile wsX4_isFile { frames := 1, cells := 0, slots := 0, locals := 22 } D ad cI A [.ref (ad 11), .int (iI v)] u (fun r u2 => u = u2 ∧ ((0 ≤ v ∧ v < S.1 11 1) ∧ r = iI 1 ∨ ¬ (0 ≤ v ∧ v < S.1 11 1) ∧ r = iI 0)) := by
  refine mI_of (cc := cX4_isFile) (maxL := 2) (ty := .boolean) (by decide) rfl (Nat.le_of_ble_eq_true rfl) ?_
  intro pp ee ss mm args below meth cc Q hx hb hml hown hts hP hK hS hret ls hl
  have hl : lv_has ls 2 [(0, .ref (ad 11)), (1, .int (iI (v)))] := hl
  have hin : ∀ w ∈ wsX40, w ∈ wsX4_isFile := fun w h => List.mem_cons_of_mem _ (List.mem_append_right _ h)
  have hD : va_D A (wM ad cI u) := wM_D hD0
  have hn1 := hw.nf
  refine lv_iload_n hx hb dX4_isFile_0 rfl (lv_at hl 1 rfl) ?_
  refine lv_iconst (v := iI 0) hx hb dX4_isFile_1 rfl ?_
  refine lv_aload_n hx hb dX4_isFile_2 rfl (lv_at hl 0 rfl) ?_
  refine m_geti hx hb hts hin hown hK hP 11 (by decide) (v := S.1 11 1) 1 rfl (hR.x1) (hts (.fieldLink RX4 54 "HoldServerModel" "files" "I") (by decide +kernel)) rfl dX4_isFile_3 ?_
  refine lv_iconst (v := iI 1) hx hb dX4_isFile_6 rfl ?_
  refine h_isub hx hb dX4_isFile_7 ?_
  refine m_calls (As := [.int (iI (v)), .int (iI 0), .int (iI (((S.1 11 1) - 1)))]) ⟨hx, hb, hml, hown, hts⟩ (c_X4_in l D ad cI hD0 (u) (v) (0) (((S.1 11 1) - 1)) (by omega) (by omega) (by omega)) (va_cwS 3 hts gX4_isFile_X4_in rfl rfl rfl (by decide +kernel) ⟨Nat.le_of_ble_eq_true rfl, Nat.le_of_ble_eq_true rfl⟩) hK hP hS rfl hl.1 rfl (Nat.le_of_ble_eq_true rfl) ⟨Nat.le_of_ble_eq_true rfl, Nat.le_of_ble_eq_true rfl⟩ dX4_isFile_8 (fun r9 u9 H locs hpost hP hS => ?_)
  obtain ⟨rfl, ⟨hc_1, rfl⟩ | ⟨hc_1, rfl⟩⟩ := hpost
  · skip
    exact hret (1) (u) _ _ _ _ dX4_isFile_11 (by decide) hP hS ⟨rfl, Or.inl ⟨by omega, rfl⟩⟩
  · skip
    exact hret (0) (u) _ _ _ _ dX4_isFile_11 (by decide) hP hS ⟨rfl, Or.inr ⟨by omega, rfl⟩⟩

set_option maxRecDepth 100000 in
set_option maxHeartbeats 4000000 in
theorem c_X4_isDepartment (l : Launch) (D : va_G) (ad : Nat → Nat) (cI : ClassId) {A : Nat → Prop} {u0 : MS} (hD0 : va_D A (wM ad cI u0))  (u : MS)  (v : Int)  (r_v : inQ v)  : mI l yX4_isDepartment wsX4_isDepartment { frames := 1, cells := 0, slots := 0, locals := 22 } D ad cI A [.int (iI v)] u (fun r u2 => u = u2 ∧ ((0 ≤ v ∧ v < 4) ∧ r = iI 1 ∨ ¬ (0 ≤ v ∧ v < 4) ∧ r = iI 0)) := by
  refine mI_of (cc := cX4_isDepartment) (maxL := 1) (ty := .boolean) (by decide) rfl (Nat.le_of_ble_eq_true rfl) ?_
  intro pp ee ss mm args below meth cc Q hx hb hml hown hts hP hK hS hret ls hl
  have hl : lv_has ls 1 [(0, .int (iI (v)))] := hl
  have hD : va_D A (wM ad cI u) := wM_D hD0
  refine lv_iload_n hx hb dX4_isDepartment_0 rfl (lv_at hl 0 rfl) ?_
  refine lv_iconst (v := iI 0) hx hb dX4_isDepartment_1 rfl ?_
  refine lv_iconst (v := iI 3) hx hb dX4_isDepartment_2 rfl ?_
  refine m_calls (As := [.int (iI (v)), .int (iI 0), .int (iI 3)]) ⟨hx, hb, hml, hown, hts⟩ (c_X4_in l D ad cI hD0 (u) (v) (0) (3) (by omega) (by omega) (by omega)) (va_cwS 3 hts gX4_isDepartment_X4_in rfl rfl rfl (by decide +kernel) ⟨Nat.le_of_ble_eq_true rfl, Nat.le_of_ble_eq_true rfl⟩) hK hP hS rfl hl.1 rfl (Nat.le_of_ble_eq_true rfl) ⟨Nat.le_of_ble_eq_true rfl, Nat.le_of_ble_eq_true rfl⟩ dX4_isDepartment_3 (fun r9 u9 H locs hpost hP hS => ?_)
  obtain ⟨rfl, ⟨hc_1, rfl⟩ | ⟨hc_1, rfl⟩⟩ := hpost
  · skip
    exact hret (1) (u) _ _ _ _ dX4_isDepartment_6 (by decide) hP hS ⟨rfl, Or.inl ⟨by omega, rfl⟩⟩
  · skip
    exact hret (0) (u) _ _ _ _ dX4_isDepartment_6 (by decide) hP hS ⟨rfl, Or.inr ⟨by omega, rfl⟩⟩

set_option maxRecDepth 100000 in
set_option maxHeartbeats 4000000 in
theorem c_X4_thrown (l : Launch) (D : va_G) (ad : Nat → Nat) (cI : ClassId) {A : Nat → Prop} {u0 : MS} (hD0 : va_D A (wM ad cI u0))  (u : MS)    (t : Int) (ht : u.2 3 = iI t) : mI l yX4_thrown wsX4_thrown { frames := 0, cells := 0, slots := 0, locals := 0 } D ad cI A [.ref (ad 11)] u (fun r u2 => u = u2 ∧ r = iI (t)) := by
  refine mI_of (cc := cX4_thrown) (maxL := 1) (ty := .int) (by decide) rfl (Nat.le_of_ble_eq_true rfl) ?_
  intro pp ee ss mm args below meth cc Q hx hb hml hown hts hP hK hS hret ls hl
  have hl : lv_has ls 1 [(0, .ref (ad 11))] := hl
  have hin : ∀ w ∈ wsX40, w ∈ wsX4_thrown := fun w h => List.mem_cons_of_mem _ (List.mem_append_right _ h)
  have hD : va_D A (wM ad cI u) := wM_D hD0
  refine lv_aload_n hx hb dX4_thrown_0 rfl (lv_at hl 0 rfl) ?_
  refine m_geti hx hb hts hin hown hK hP 14 (by decide) (v := t) 3 rfl (ht) (hts (.fieldLink RX4 47 "HoldServerModel" "thrown" "I") (by decide +kernel)) rfl dX4_thrown_1 ?_
  exact hret ((t)) (u) _ _ _ _ dX4_thrown_4 rfl hP hS ⟨rfl, rfl⟩

set_option maxRecDepth 100000 in
set_option maxHeartbeats 4000000 in
theorem c_X4_homeOf (l : Launch) (D : va_G) (ad : Nat → Nat) (cI : ClassId) {A : Nat → Prop} {u0 : MS} (hD0 : va_D A (wM ad cI u0)) {S : HdS} {n : Int} (hw : wf S n) (u : MS) (hR : RelM S u) (f : Int)  (r_f : inQ f)  (h0 : 0 ≤ f) (h1 : f < S.1 11 1): mI l yX4_homeOf wsX4_homeOf { frames := 0, cells := 0, slots := 0, locals := 0 } D ad cI A [.ref (ad 11), .int (iI f)] u (fun r u2 => u = u2 ∧ r = iI (homeS S f)) := by
  refine mI_of (cc := cX4_homeOf) (maxL := 2) (ty := .int) (by decide) rfl (Nat.le_of_ble_eq_true rfl) ?_
  intro pp ee ss mm args below meth cc Q hx hb hml hown hts hP hK hS hret ls hl
  have hl : lv_has ls 2 [(0, .ref (ad 11)), (1, .int (iI (f)))] := hl
  have hin : ∀ w ∈ wsX40, w ∈ wsX4_homeOf := fun w h => List.mem_cons_of_mem _ (List.mem_append_right _ h)
  have hD : va_D A (wM ad cI u) := wM_D hD0
  have hn1 := hw.nf
  have hln := hw.len h0 h1
  have hn2 := hw.nd
  refine lv_aload_n hx hb dX4_homeOf_0 rfl (lv_at hl 0 rfl) ?_
  refine m_get hx hb hts hin hown hK hP 6 (by decide) (v := .ref (ad 5)) rfl (hts (.fieldLink RX4 29 "HoldServerModel" "links" "[I") (by decide +kernel)) rfl dX4_homeOf_1 ?_
  refine lv_iload_n hx hb dX4_homeOf_4 rfl (lv_at hl 1 rfl) ?_
  refine m_ld hx hb hK hP (k := 5) (by decide) (v := ((S.2 f).length : Int)) (by omega) (by show _ < ((30 : Nat) : Int); omega) (hR.len (by omega) (by omega)) dX4_homeOf_5 ?_
  refine h_if_ne (tgt := 13) hx hb (by omega) dX4_homeOf_6 (by decide) (fun c_6 => ?_) (fun c_6 => ?_)
  · skip
    refine lv_aload_n hx hb dX4_homeOf_13 rfl (lv_at hl 0 rfl) ?_
    refine m_get hx hb hts hin hown hK hP 5 (by decide) (v := .ref (ad 4)) rfl (hts (.fieldLink RX4 26 "HoldServerModel" "link" "[I") (by decide +kernel)) rfl dX4_homeOf_14 ?_
    refine lv_bipush (v := iI 12) hx hb dX4_homeOf_17 (by decide) ?_
    refine lv_iload_n hx hb dX4_homeOf_19 rfl (lv_at hl 1 rfl) ?_
    refine h_imul hx hb dX4_homeOf_20 ?_
    refine m_ld hx hb hK hP (k := 4) (by decide) (v := (S.2 f).getD 0 0) (by omega) (by show _ < ((360 : Nat) : Int); omega) (by have := hR.lnk h0 h1 (j := 0) (by omega); simpa using this) dX4_homeOf_21 ?_
    exact hret (((S.2 f).getD 0 0)) (u) _ _ _ _ dX4_homeOf_22 rfl hP hS ⟨rfl, by unfold homeS; cases hs9 : S.2 f with | nil => (rw [hs9] at c_6; exact absurd rfl c_6) | cons a9 l9 => rfl⟩
  · skip
    refine lv_iconst (v := iI (-1)) hx hb dX4_homeOf_9 rfl ?_
    refine lv_goto (tgt := 22) hx hb dX4_homeOf_10 (by decide) ?_
    exact hret ((-1)) (u) _ _ _ _ dX4_homeOf_22 rfl hP hS ⟨rfl, by unfold homeS; rw [List.eq_nil_of_length_eq_zero (l := S.2 f) (by omega)]; rfl⟩

set_option maxRecDepth 100000 in
set_option maxHeartbeats 4000000 in
theorem c_X4_isOver (l : Launch) (D : va_G) (ad : Nat → Nat) (cI : ClassId) {A : Nat → Prop} {u0 : MS} (hD0 : va_D A (wM ad cI u0)) {S : HdS} {n : Int} (hw : wf S n) (u : MS) (hR : RelM S u) (d o : Int)  (r_d : inQ d) (r_o : inQ o)  (h0 : -1 ≤ d) (h1 : d < S.1 11 0) (h2 : 0 ≤ o): mI l yX4_isOver wsX4_isOver { frames := 0, cells := 0, slots := 0, locals := 0 } D ad cI A [.ref (ad 11), .int (iI d), .int (iI o)] u (fun r u2 => u = u2 ∧ ((o ∈ wayS S d) ∧ r = iI 1 ∨ ¬ (o ∈ wayS S d) ∧ r = iI 0)) := by
  refine mI_of (cc := cX4_isOver) (maxL := 4) (ty := .boolean) (by decide) rfl (Nat.le_of_ble_eq_true rfl) ?_
  intro pp ee ss mm args below meth cc Q hx hb hml hown hts hP hK hS hret ls hl
  have hl : lv_has ls 4 [(0, .ref (ad 11)), (1, .int (iI (d))), (2, .int (iI (o)))] := hl
  have hin : ∀ w ∈ wsX40, w ∈ wsX4_isOver := fun w h => List.mem_cons_of_mem _ (List.mem_append_right _ h)
  have hD : va_D A (wM ad cI u) := wM_D hD0
  have hn1 := hw.nd
  refine lv_iload_n hx hb dX4_isOver_0 rfl (lv_at hl 1 rfl) ?_
  refine lv_istore_n (lv' := [(3, .int (iI (d))), (0, .ref (ad 11)), (1, .int (iI (d))), (2, .int (iI (o)))]) hx hb dX4_isOver_1 rfl hl (by decide) rfl (fun ls hl => ?_)
  have lp2 : ∀ (n9 : Nat) (x : Int), x + 1 < (n9 : Int) → (-1 ≤ x) → (x < S.1 11 0) → (o ∈ wayS S d ↔ o ∈ wayS S x) → ∀ (H : Heap) (locs : List Loc), va_P D vwCl (wM ad cI u) H → va_S A ss.heap H locs → ∀ (ls : Array Slot), lv_has ls 4 [(0, .ref (ad 11)), (1, .int (iI (d))), (2, .int (iI (o))), (3, .int (iI (x)))] → W pp l ee { frames := 0, cells := 0, slots := 0, locals := 0 } ss mm args below meth cc H locs 0 0 Q (F0 mm 2 ls []) := by
    intro n9
    induction n9 with
    | zero => intro x hms hx0 hx1 hx2 H locs hP hS ls hl; exfalso; omega
    | succ n9 ih9 =>
      intro x hms hx0 hx1 hx2 H locs hP hS ls hl
      refine lv_iload_n hx hb dX4_isOver_2 rfl (lv_at hl 3 rfl) ?_
      refine lv_iconst (v := iI (-1)) hx hb dX4_isOver_3 rfl ?_
      refine h_icmp_eq (tgt := 22) hx hb (by omega) (by omega) dX4_isOver_4 (by decide) (fun c_4 => ?_) (fun c_4 => ?_)
      · skip
        refine lv_iload_n hx hb dX4_isOver_22 rfl (lv_at hl 3 rfl) ?_
        refine lv_iload_n hx hb dX4_isOver_23 rfl (lv_at hl 2 rfl) ?_
        refine h_icmp_ne (tgt := 31) hx hb (by omega) (by omega) dX4_isOver_24 (by decide) (fun c_24 => ?_) (fun c_24 => by exfalso; omega)
        refine lv_iconst (v := iI 0) hx hb dX4_isOver_31 rfl ?_
        exact hret (0) (u) _ _ _ _ dX4_isOver_32 (by decide) hP hS ⟨rfl, Or.inr ⟨by rw [hx2, c_4, wayS_neg]; exact List.not_mem_nil, rfl⟩⟩
      · skip
        refine lv_iload_n hx hb dX4_isOver_7 rfl (lv_at hl 3 rfl) ?_
        refine lv_iload_n hx hb dX4_isOver_8 rfl (lv_at hl 2 rfl) ?_
        refine h_icmp_eq (tgt := 22) hx hb (by omega) (by omega) dX4_isOver_9 (by decide) (fun c_9 => ?_) (fun c_9 => ?_)
        · skip
          refine lv_iload_n hx hb dX4_isOver_22 rfl (lv_at hl 3 rfl) ?_
          refine lv_iload_n hx hb dX4_isOver_23 rfl (lv_at hl 2 rfl) ?_
          refine h_icmp_ne (tgt := 31) hx hb (by omega) (by omega) dX4_isOver_24 (by decide) (fun c_24 => by exfalso; omega) (fun c_24 => ?_)
          refine lv_iconst (v := iI 1) hx hb dX4_isOver_27 rfl ?_
          refine lv_goto (tgt := 32) hx hb dX4_isOver_28 (by decide) ?_
          exact hret (1) (u) _ _ _ _ dX4_isOver_32 (by decide) hP hS ⟨rfl, Or.inl ⟨by rw [hx2, wayS_step hw (by omega) hx1, c_9]; exact List.mem_cons_self, rfl⟩⟩
        · skip
          refine lv_aload_n hx hb dX4_isOver_12 rfl (lv_at hl 0 rfl) ?_
          refine m_get hx hb hts hin hown hK hP 0 (by decide) (v := .ref (ad 0)) rfl (hts (.fieldLink RX4 7 "HoldServerModel" "parent" "[I") (by decide +kernel)) rfl dX4_isOver_13 ?_
          refine lv_iload_n hx hb dX4_isOver_16 rfl (lv_at hl 3 rfl) ?_
          refine m_ld hx hb hK hP (k := 0) (by decide) (v := S.1 0 x) (by omega) (by show _ < ((12 : Nat) : Int); omega) (hR.dir (by decide) (by omega) (by omega)) dX4_isOver_17 ?_
          refine lv_istore_n (lv' := [(3, .int (iI ((S.1 0 x)))), (0, .ref (ad 11)), (1, .int (iI (d))), (2, .int (iI (o)))]) hx hb dX4_isOver_18 rfl hl (by decide) rfl (fun ls hl => ?_)
          refine lv_goto (tgt := 2) hx hb dX4_isOver_19 (by decide) ?_
          have hx3 := hw.par' (d := x) (by omega) hx1
          exact ih9 (S.1 0 x) (by omega) hx3.1 (by omega) (by rw [hx2, wayS_step hw (by omega) hx1, List.mem_cons]; exact ⟨fun q => q.resolve_left (fun z => c_9 z.symm), Or.inr⟩) H locs hP hS ls (lv_sub hl [1, 2, 3, 0] rfl)
  exact lp2 (d + 2).toNat d (by omega) h0 h1 Iff.rfl _ _ hP hS ls (lv_sub hl [1, 2, 3, 0] rfl)

set_option maxRecDepth 100000 in
set_option maxHeartbeats 4000000 in
theorem c_X4_usageOf (l : Launch) (D : va_G) (ad : Nat → Nat) (cI : ClassId) {A : Nat → Prop} {u0 : MS} (hD0 : va_D A (wM ad cI u0)) {S : HdS} {n : Int} (hw : wf S n) (u : MS) (hR : RelM S u) (d : Int)  (r_d : inQ d)  (h0 : 0 ≤ d) (h1 : d < S.1 11 0): mI l yX4_usageOf wsX4_usageOf { frames := 1, cells := 0, slots := 0, locals := 23 } D ad cI A [.ref (ad 11), .int (iI d)] u (fun r u2 => u = u2 ∧ r = iI (usg S d)) := by
  refine mI_of (cc := cX4_usageOf) (maxL := 4) (ty := .int) (by decide) rfl (Nat.le_of_ble_eq_true rfl) ?_
  intro pp ee ss mm args below meth cc Q hx hb hml hown hts hP hK hS hret ls hl
  have hl : lv_has ls 4 [(0, .ref (ad 11)), (1, .int (iI (d)))] := hl
  have hin : ∀ w ∈ wsX40, w ∈ wsX4_usageOf := fun w h => List.mem_cons_of_mem _ (List.mem_append_right _ h)
  have hD : va_D A (wM ad cI u) := wM_D hD0
  have hn1 := hw.nf
  have hn2 := hw.nd
  refine lv_iconst (v := iI 0) hx hb dX4_usageOf_0 rfl ?_
  refine lv_istore_n (lv' := [(2, .int (iI 0)), (0, .ref (ad 11)), (1, .int (iI (d)))]) hx hb dX4_usageOf_1 rfl hl (by decide) rfl (fun ls hl => ?_)
  refine lv_iconst (v := iI 0) hx hb dX4_usageOf_2 rfl ?_
  refine lv_istore_n (lv' := [(3, .int (iI 0)), (2, .int (iI 0)), (0, .ref (ad 11)), (1, .int (iI (d)))]) hx hb dX4_usageOf_3 rfl hl (by decide) rfl (fun ls hl => ?_)
  have lp4 : ∀ (n9 : Nat) (j : Nat), S.1 11 1 - j < (n9 : Int) → ((j : Int) ≤ S.1 11 1) → ∀ (H : Heap) (locs : List Loc), va_P D vwCl (wM ad cI u) H → va_S A ss.heap H locs → ∀ (ls : Array Slot), lv_has ls 4 [(0, .ref (ad 11)), (1, .int (iI (d))), (2, .int (iI (usgN S d j))), (3, .int (iI ((j : Int))))] → W pp l ee { frames := 1, cells := 0, slots := 0, locals := 23 } ss mm args below meth cc H locs 0 0 Q (F0 mm 4 ls []) := by
    intro n9
    induction n9 with
    | zero => intro j hms hj H locs hP hS ls hl; exfalso; omega
    | succ n9 ih9 =>
      intro j hms hj H locs hP hS ls hl
      have hu9 := usgN_in hw d j hj
      refine lv_iload_n hx hb dX4_usageOf_4 rfl (lv_at hl 3 rfl) ?_
      refine lv_aload_n hx hb dX4_usageOf_5 rfl (lv_at hl 0 rfl) ?_
      refine m_geti hx hb hts hin hown hK hP 11 (by decide) (v := S.1 11 1) 1 rfl (hR.x1) (hts (.fieldLink RX4 54 "HoldServerModel" "files" "I") (by decide +kernel)) rfl dX4_usageOf_6 ?_
      refine h_icmp_ge (tgt := 53) hx hb (by omega) (by omega) dX4_usageOf_9 (by decide) (fun c_9 => ?_) (fun c_9 => ?_)
      · skip
        refine lv_iload_n hx hb dX4_usageOf_53 rfl (lv_at hl 2 rfl) ?_
        exact hret (usgN S d j) (u) _ _ _ _ dX4_usageOf_54 rfl hP hS ⟨rfl, by unfold usg; rw [show (S.1 11 1).toNat = j by omega]⟩
      · skip
        have hlen9 := hw.len (f := (j : Int)) (by omega) (by omega)
        refine lv_iload_n hx hb dX4_usageOf_12 rfl (lv_at hl 2 rfl) ?_
        refine lv_aload_n hx hb dX4_usageOf_13 rfl (lv_at hl 0 rfl) ?_
        refine m_get hx hb hts hin hown hK hP 6 (by decide) (v := .ref (ad 5)) rfl (hts (.fieldLink RX4 29 "HoldServerModel" "links" "[I") (by decide +kernel)) rfl dX4_usageOf_14 ?_
        refine lv_iload_n hx hb dX4_usageOf_17 rfl (lv_at hl 3 rfl) ?_
        refine m_ld hx hb hK hP (k := 5) (by decide) (v := ((S.2 (j : Int)).length : Int)) (by omega) (by show _ < ((30 : Nat) : Int); omega) (hR.len (by omega) (by omega)) dX4_usageOf_18 ?_
        refine h_if_le (tgt := 44) hx hb (by omega) dX4_usageOf_19 (by decide) (fun c_19 => ?_) (fun c_19 => ?_)
        · skip
          refine lv_iconst (v := iI 0) hx hb dX4_usageOf_44 rfl ?_
          refine h_iadd hx hb dX4_usageOf_45 ?_
          refine lv_istore_n (lv' := [(2, .int (iI ((usgN S d j + 0)))), (0, .ref (ad 11)), (1, .int (iI (d))), (3, .int (iI ((j : Int))))]) hx hb dX4_usageOf_46 rfl hl (by decide) rfl (fun ls hl => ?_)
          refine lv_iinc (v := iI (((j : Int) + 1))) (lv' := [(3, .int (iI (((j : Int) + 1)))), (2, .int (iI ((usgN S d j + 0)))), (0, .ref (ad 11)), (1, .int (iI (d)))]) hx hb dX4_usageOf_47 hl (k := 3) rfl (iI_add _ _) (by decide) rfl (fun ls hl => ?_)
          refine lv_goto (tgt := 4) hx hb dX4_usageOf_50 (by decide) ?_
          have e9 : usgN S d (j + 1) = (usgN S d j + 0) := by
            show usgN S d j + (if S.2 (j : Int) ≠ [] ∧ d ∈ wayS S (homeS S j) then S.1 3 (j : Int) else 0) = _
            rw [if_neg (fun q => q.1 (List.eq_nil_of_length_eq_zero (by omega)))]
          exact ih9 (j + 1) (by omega) (by omega) H locs hP hS ls (by rw [e9, show ((j + 1 : Nat) : Int) = (j : Int) + 1 from by omega]; exact (lv_sub hl [2, 3, 1, 0] rfl))
        · skip
          have hne9 : S.2 (j : Int) ≠ [] := fun q => by rw [q] at c_19; simp at c_19
          have hho9 := hw.home (f := (j : Int)) (by omega) (by omega) hne9
          refine lv_aload_n hx hb dX4_usageOf_22 rfl (lv_at hl 0 rfl) ?_
          refine lv_aload_n hx hb dX4_usageOf_23 rfl (lv_at hl 0 rfl) ?_
          refine lv_iload_n hx hb dX4_usageOf_24 rfl (lv_at hl 3 rfl) ?_
          refine m_callv (As := [.int (iI ((j : Int)))]) ⟨hx, hb, hml, hown, hts⟩ (c_X4_homeOf l D ad cI hD0 hw (u) hR ((j : Int)) (by omega) (by omega) (by omega)) (cwV 1 hts gX4_usageOf_X4_homeOf rfl rfl rfl (by decide +kernel) ⟨Nat.le_of_ble_eq_true rfl, Nat.le_of_ble_eq_true rfl⟩) hK hP hS rfl hl.1 rfl (Nat.le_of_ble_eq_true rfl) ⟨Nat.le_of_ble_eq_true rfl, Nat.le_of_ble_eq_true rfl⟩ dX4_usageOf_25 (fun r9 u9 H locs hpost hP hS => ?_)
          obtain ⟨rfl, rfl⟩ := hpost
          refine lv_iload_n hx hb dX4_usageOf_28 rfl (lv_at hl 1 rfl) ?_
          refine m_callv (As := [.int (iI ((homeS S (j : Int)))), .int (iI (d))]) ⟨hx, hb, hml, hown, hts⟩ (c_X4_isOver l D ad cI hD0 hw (u) hR ((homeS S (j : Int))) (d) (by omega) (by omega) (by omega) (by omega) (by omega)) (cwV 2 hts gX4_usageOf_X4_isOver rfl rfl rfl (by decide +kernel) ⟨Nat.le_of_ble_eq_true rfl, Nat.le_of_ble_eq_true rfl⟩) hK hP hS rfl hl.1 rfl (Nat.le_of_ble_eq_true rfl) ⟨Nat.le_of_ble_eq_true rfl, Nat.le_of_ble_eq_true rfl⟩ dX4_usageOf_29 (fun r9 u9 H locs hpost hP hS => ?_)
          obtain ⟨rfl, ⟨hc_1, rfl⟩ | ⟨hc_1, rfl⟩⟩ := hpost
          · skip
            refine h_if_eq (tgt := 44) hx hb (by omega) dX4_usageOf_32 (by decide) (fun c_32 => by exfalso; omega) (fun c_32 => ?_)
            refine lv_aload_n hx hb dX4_usageOf_35 rfl (lv_at hl 0 rfl) ?_
            refine m_get hx hb hts hin hown hK hP 4 (by decide) (v := .ref (ad 3)) rfl (hts (.fieldLink RX4 23 "HoldServerModel" "size" "[I") (by decide +kernel)) rfl dX4_usageOf_36 ?_
            refine lv_iload_n hx hb dX4_usageOf_39 rfl (lv_at hl 3 rfl) ?_
            refine m_ld hx hb hK hP (k := 3) (by decide) (v := S.1 3 (j : Int)) (by omega) (by show _ < ((30 : Nat) : Int); omega) (hR.fil (by decide) (by omega) (by omega)) dX4_usageOf_40 ?_
            refine lv_goto (tgt := 45) hx hb dX4_usageOf_41 (by decide) ?_
            refine h_iadd hx hb dX4_usageOf_45 ?_
            refine lv_istore_n (lv' := [(2, .int (iI ((usgN S d j + (S.1 3 (j : Int)))))), (0, .ref (ad 11)), (1, .int (iI (d))), (3, .int (iI ((j : Int))))]) hx hb dX4_usageOf_46 rfl hl (by decide) rfl (fun ls hl => ?_)
            refine lv_iinc (v := iI (((j : Int) + 1))) (lv' := [(3, .int (iI (((j : Int) + 1)))), (2, .int (iI ((usgN S d j + (S.1 3 (j : Int)))))), (0, .ref (ad 11)), (1, .int (iI (d)))]) hx hb dX4_usageOf_47 hl (k := 3) rfl (iI_add _ _) (by decide) rfl (fun ls hl => ?_)
            refine lv_goto (tgt := 4) hx hb dX4_usageOf_50 (by decide) ?_
            have e9 : usgN S d (j + 1) = (usgN S d j + (S.1 3 (j : Int))) := by
              show usgN S d j + (if S.2 (j : Int) ≠ [] ∧ d ∈ wayS S (homeS S j) then S.1 3 (j : Int) else 0) = _
              rw [if_pos ⟨hne9, hc_1⟩]
            exact ih9 (j + 1) (by omega) (by omega) H locs hP hS ls (by rw [e9, show ((j + 1 : Nat) : Int) = (j : Int) + 1 from by omega]; exact (lv_sub hl [2, 3, 1, 0] rfl))
          · skip
            refine h_if_eq (tgt := 44) hx hb (by omega) dX4_usageOf_32 (by decide) (fun c_32 => ?_) (fun c_32 => by exfalso; omega)
            refine lv_iconst (v := iI 0) hx hb dX4_usageOf_44 rfl ?_
            refine h_iadd hx hb dX4_usageOf_45 ?_
            refine lv_istore_n (lv' := [(2, .int (iI ((usgN S d j + 0)))), (0, .ref (ad 11)), (1, .int (iI (d))), (3, .int (iI ((j : Int))))]) hx hb dX4_usageOf_46 rfl hl (by decide) rfl (fun ls hl => ?_)
            refine lv_iinc (v := iI (((j : Int) + 1))) (lv' := [(3, .int (iI (((j : Int) + 1)))), (2, .int (iI ((usgN S d j + 0)))), (0, .ref (ad 11)), (1, .int (iI (d)))]) hx hb dX4_usageOf_47 hl (k := 3) rfl (iI_add _ _) (by decide) rfl (fun ls hl => ?_)
            refine lv_goto (tgt := 4) hx hb dX4_usageOf_50 (by decide) ?_
            have e9 : usgN S d (j + 1) = (usgN S d j + 0) := by
              show usgN S d j + (if S.2 (j : Int) ≠ [] ∧ d ∈ wayS S (homeS S j) then S.1 3 (j : Int) else 0) = _
              rw [if_neg (fun q => hc_1 q.2)]
            exact ih9 (j + 1) (by omega) (by omega) H locs hP hS ls (by rw [e9, show ((j + 1 : Nat) : Int) = (j : Int) + 1 from by omega]; exact (lv_sub hl [2, 3, 1, 0] rfl))
  exact lp4 (S.1 11 1 + 1).toNat 0 (by omega) (by omega) _ _ hP hS ls (lv_sub hl [2, 3, 1, 0] rfl)

set_option maxRecDepth 100000 in
set_option maxHeartbeats 4000000 in
theorem c_X4_canGrow (l : Launch) (D : va_G) (ad : Nat → Nat) (cI : ClassId) {A : Nat → Prop} {u0 : MS} (hD0 : va_D A (wM ad cI u0)) {S : HdS} {n : Int} (hw : wf S n) (u : MS) (hR : RelM S u) (its home by_ : Int)  (r_its : inQ its) (r_home : inQ home) (r_by_ : inQ by_)  (h0 : 0 ≤ its) (h1 : its < 4) (h2 : 0 ≤ home) (h3 : home < S.1 11 0) (h4 : 0 ≤ by_) (h5 : by_ ≤ 1000): mI l yX4_canGrow wsX4_canGrow { frames := 2, cells := 0, slots := 0, locals := 46 } D ad cI A [.ref (ad 11), .int (iI its), .int (iI home), .int (iI by_)] u (fun r u2 => u = u2 ∧ ((canGrow S its home by_) ∧ r = iI 1 ∨ ¬ (canGrow S its home by_) ∧ r = iI 0)) := by
  refine mI_of (cc := cX4_canGrow) (maxL := 6) (ty := .boolean) (by decide) rfl (Nat.le_of_ble_eq_true rfl) ?_
  intro pp ee ss mm args below meth cc Q hx hb hml hown hts hP hK hS hret ls hl
  have hl : lv_has ls 6 [(0, .ref (ad 11)), (1, .int (iI (its))), (2, .int (iI (home))), (3, .int (iI (by_)))] := hl
  have hin : ∀ w ∈ wsX40, w ∈ wsX4_canGrow := fun w h => List.mem_cons_of_mem _ (List.mem_append_right _ h)
  have hD : va_D A (wM ad cI u) := wM_D hD0
  have hn2 := hw.nd
  have hcoi9 := hw.coi h0 h1
  refine lv_aload_n hx hb dX4_canGrow_0 rfl (lv_at hl 0 rfl) ?_
  refine m_get hx hb hts hin hown hK hP 12 (by decide) (v := .ref (ad 10)) rfl (hts (.fieldLink RX4 44 "HoldServerModel" "coins" "[I") (by decide +kernel)) rfl dX4_canGrow_1 ?_
  refine lv_iload_n hx hb dX4_canGrow_4 rfl (lv_at hl 1 rfl) ?_
  refine m_ld hx hb hK hP (k := 10) (by decide) (v := S.1 10 its) (by omega) (by show _ < ((4 : Nat) : Int); omega) (hR.coi (by omega) (by omega)) dX4_canGrow_5 ?_
  refine h_if_le (tgt := 13) hx hb (by omega) dX4_canGrow_6 (by decide) (fun c_6 => ?_) (fun c_6 => ?_)
  · skip
    refine lv_iconst (v := iI 0) hx hb dX4_canGrow_13 rfl ?_
    refine lv_istore (lv' := [(4, .int (iI 0)), (0, .ref (ad 11)), (1, .int (iI (its))), (2, .int (iI (home))), (3, .int (iI (by_)))]) hx hb dX4_canGrow_14 hl (by decide) rfl (fun ls hl => ?_)
    refine lv_iload_n hx hb dX4_canGrow_16 rfl (lv_at hl 3 rfl) ?_
    refine lv_istore (lv' := [(5, .int (iI (home))), (4, .int (iI 0)), (0, .ref (ad 11)), (1, .int (iI (its))), (2, .int (iI (home))), (3, .int (iI (by_)))]) hx hb dX4_canGrow_17 hl (by decide) rfl (fun ls hl => ?_)
    have lp19 : ∀ (n9 : Nat) (b : Int) (x : Int), x + 1 < (n9 : Int) → (-1 ≤ x) → (x < S.1 11 0) → (b = 0 ∨ b = 1) → (b = 1 → (canGrow S its home by_ ↔ growOk S x by_)) → (b = 0 → ¬ canGrow S its home by_) → ∀ (H : Heap) (locs : List Loc), va_P D vwCl (wM ad cI u) H → va_S A ss.heap H locs → ∀ (ls : Array Slot), lv_has ls 6 [(0, .ref (ad 11)), (1, .int (iI (its))), (2, .int (iI (home))), (3, .int (iI (by_))), (4, .int (iI (b))), (5, .int (iI (x)))] → W pp l ee { frames := 2, cells := 0, slots := 0, locals := 46 } ss mm args below meth cc H locs 0 0 Q (F0 mm 19 ls []) := by
      intro n9
      induction n9 with
      | zero => intro b x hms hx0 hx1 hb0 hb1 hb2 H locs hP hS ls hl; exfalso; omega
      | succ n9 ih9 =>
        intro b x hms hx0 hx1 hb0 hb1 hb2 H locs hP hS ls hl
        refine lv_iload hx hb dX4_canGrow_19 (lv_at hl 5 rfl) ?_
        refine lv_iconst (v := iI (-1)) hx hb dX4_canGrow_21 rfl ?_
        refine h_icmp_eq (tgt := 78) hx hb (by omega) (by omega) dX4_canGrow_22 (by decide) (fun c_22 => ?_) (fun c_22 => ?_)
        · skip
          rcases hb0 with hb3 | hb3 <;> subst hb3
          · skip
            refine lv_iload hx hb dX4_canGrow_78 (lv_at hl 4 rfl) ?_
            exact hret (0) (u) _ _ _ _ dX4_canGrow_80 (by decide) hP hS ⟨rfl, Or.inr ⟨hb2 rfl, rfl⟩⟩
          · skip
            refine lv_iload hx hb dX4_canGrow_78 (lv_at hl 4 rfl) ?_
            exact hret (1) (u) _ _ _ _ dX4_canGrow_80 (by decide) hP hS ⟨rfl, Or.inl ⟨(hb1 rfl).mpr (by rw [c_22]; intro e he; rw [wayS_neg] at he; cases he), rfl⟩⟩
        · skip
          refine lv_iload hx hb dX4_canGrow_25 (lv_at hl 4 rfl) ?_
          refine h_if_eq (tgt := 63) hx hb (by omega) dX4_canGrow_27 (by decide) (fun c_27 => ?_) (fun c_27 => ?_)
          · skip
            refine lv_iconst (v := iI 0) hx hb dX4_canGrow_63 rfl ?_
            refine lv_istore (lv' := [(4, .int (iI 0)), (0, .ref (ad 11)), (1, .int (iI (its))), (2, .int (iI (home))), (3, .int (iI (by_))), (5, .int (iI (x)))]) hx hb dX4_canGrow_64 hl (by decide) rfl (fun ls hl => ?_)
            refine lv_aload_n hx hb dX4_canGrow_66 rfl (lv_at hl 1 rfl) ?_
            refine m_get hx hb hts hin hown hK hP 0 (by decide) (v := .ref (ad 0)) rfl (hts (.fieldLink RX4 7 "HoldServerModel" "parent" "[I") (by decide +kernel)) rfl dX4_canGrow_67 ?_
            refine lv_iload hx hb dX4_canGrow_70 (lv_at hl 5 rfl) ?_
            refine m_ld hx hb hK hP (k := 0) (by decide) (v := S.1 0 x) (by omega) (by show _ < ((12 : Nat) : Int); omega) (hR.dir (by decide) (by omega) (by omega)) dX4_canGrow_72 ?_
            refine lv_istore (lv' := [(5, .int (iI ((S.1 0 x)))), (4, .int (iI 0)), (0, .ref (ad 11)), (1, .int (iI (its))), (2, .int (iI (home))), (3, .int (iI (by_)))]) hx hb dX4_canGrow_73 hl (by decide) rfl (fun ls hl => ?_)
            refine lv_goto (tgt := 19) hx hb dX4_canGrow_75 (by decide) ?_
            have hx3 := hw.par' (d := x) (by omega) hx1
            have hg9 := growOk_step (by_ := by_) hw (d := x) (by omega) hx1
            exact ih9 0 (S.1 0 x) (by omega) hx3.1 (by omega) (by omega) (fun q => by omega) (fun _ => hb2 (by omega)) H locs hP hS ls (lv_sub hl [2, 3, 4, 5, 1, 0] rfl)
          · skip
            have hq9 := hw.quo (d := x) (by omega) hx1
            refine lv_aload_n hx hb dX4_canGrow_30 rfl (lv_at hl 0 rfl) ?_
            refine m_get hx hb hts hin hown hK hP 1 (by decide) (v := .ref (ad 1)) rfl (hts (.fieldLink RX4 13 "HoldServerModel" "quota" "[I") (by decide +kernel)) rfl dX4_canGrow_31 ?_
            refine lv_iload hx hb dX4_canGrow_34 (lv_at hl 5 rfl) ?_
            refine m_ld hx hb hK hP (k := 1) (by decide) (v := S.1 1 x) (by omega) (by show _ < ((12 : Nat) : Int); omega) (hR.dir (by decide) (by omega) (by omega)) dX4_canGrow_36 ?_
            refine lv_iconst (v := iI (-1)) hx hb dX4_canGrow_37 rfl ?_
            refine h_icmp_eq (tgt := 59) hx hb (by omega) (by omega) dX4_canGrow_38 (by decide) (fun c_38 => ?_) (fun c_38 => ?_)
            · skip
              refine lv_iconst (v := iI 1) hx hb dX4_canGrow_59 rfl ?_
              refine lv_goto (tgt := 64) hx hb dX4_canGrow_60 (by decide) ?_
              refine lv_istore (lv' := [(4, .int (iI 1)), (0, .ref (ad 11)), (1, .int (iI (its))), (2, .int (iI (home))), (3, .int (iI (by_))), (5, .int (iI (x)))]) hx hb dX4_canGrow_64 hl (by decide) rfl (fun ls hl => ?_)
              refine lv_aload_n hx hb dX4_canGrow_66 rfl (lv_at hl 1 rfl) ?_
              refine m_get hx hb hts hin hown hK hP 0 (by decide) (v := .ref (ad 0)) rfl (hts (.fieldLink RX4 7 "HoldServerModel" "parent" "[I") (by decide +kernel)) rfl dX4_canGrow_67 ?_
              refine lv_iload hx hb dX4_canGrow_70 (lv_at hl 5 rfl) ?_
              refine m_ld hx hb hK hP (k := 0) (by decide) (v := S.1 0 x) (by omega) (by show _ < ((12 : Nat) : Int); omega) (hR.dir (by decide) (by omega) (by omega)) dX4_canGrow_72 ?_
              refine lv_istore (lv' := [(5, .int (iI ((S.1 0 x)))), (4, .int (iI 1)), (0, .ref (ad 11)), (1, .int (iI (its))), (2, .int (iI (home))), (3, .int (iI (by_)))]) hx hb dX4_canGrow_73 hl (by decide) rfl (fun ls hl => ?_)
              refine lv_goto (tgt := 19) hx hb dX4_canGrow_75 (by decide) ?_
              have hx3 := hw.par' (d := x) (by omega) hx1
              have hg9 := growOk_step (by_ := by_) hw (d := x) (by omega) hx1
              exact ih9 1 (S.1 0 x) (by omega) hx3.1 (by omega) (by omega) (fun q => by rw [hb1 (by omega), hg9]; exact ⟨fun z => z.2, fun z => ⟨Or.inl (by omega), z⟩⟩) (fun q => by omega) H locs hP hS ls (lv_sub hl [2, 3, 4, 5, 1, 0] rfl)
            · skip
              refine lv_aload_n hx hb dX4_canGrow_41 rfl (lv_at hl 0 rfl) ?_
              refine lv_iload hx hb dX4_canGrow_42 (lv_at hl 5 rfl) ?_
              refine m_callv (As := [.int (iI (x))]) ⟨hx, hb, hml, hown, hts⟩ (c_X4_usageOf l D ad cI hD0 hw (u) hR (x) (by omega) (by omega) (by omega)) (cwV 1 hts gX4_canGrow_X4_usageOf rfl rfl rfl (by decide +kernel) ⟨Nat.le_of_ble_eq_true rfl, Nat.le_of_ble_eq_true rfl⟩) hK hP hS rfl hl.1 rfl (Nat.le_of_ble_eq_true rfl) ⟨Nat.le_of_ble_eq_true rfl, Nat.le_of_ble_eq_true rfl⟩ dX4_canGrow_44 (fun r9 u9 H locs hpost hP hS => ?_)
              obtain ⟨rfl, rfl⟩ := hpost
              have hu9 := usg_in hw x
              refine lv_iload_n hx hb dX4_canGrow_47 rfl (lv_at hl 3 rfl) ?_
              refine h_iadd hx hb dX4_canGrow_48 ?_
              refine lv_aload_n hx hb dX4_canGrow_49 rfl (lv_at hl 0 rfl) ?_
              refine m_get hx hb hts hin hown hK hP 1 (by decide) (v := .ref (ad 1)) rfl (hts (.fieldLink RX4 13 "HoldServerModel" "quota" "[I") (by decide +kernel)) rfl dX4_canGrow_50 ?_
              refine lv_iload hx hb dX4_canGrow_53 (lv_at hl 5 rfl) ?_
              refine m_ld hx hb hK hP (k := 1) (by decide) (v := S.1 1 x) (by omega) (by show _ < ((12 : Nat) : Int); omega) (hR.dir (by decide) (by omega) (by omega)) dX4_canGrow_55 ?_
              refine h_icmp_gt (tgt := 63) hx hb (by omega) (by omega) dX4_canGrow_56 (by decide) (fun c_56 => ?_) (fun c_56 => ?_)
              · skip
                refine lv_iconst (v := iI 0) hx hb dX4_canGrow_63 rfl ?_
                refine lv_istore (lv' := [(4, .int (iI 0)), (0, .ref (ad 11)), (1, .int (iI (its))), (2, .int (iI (home))), (3, .int (iI (by_))), (5, .int (iI (x)))]) hx hb dX4_canGrow_64 hl (by decide) rfl (fun ls hl => ?_)
                refine lv_aload_n hx hb dX4_canGrow_66 rfl (lv_at hl 1 rfl) ?_
                refine m_get hx hb hts hin hown hK hP 0 (by decide) (v := .ref (ad 0)) rfl (hts (.fieldLink RX4 7 "HoldServerModel" "parent" "[I") (by decide +kernel)) rfl dX4_canGrow_67 ?_
                refine lv_iload hx hb dX4_canGrow_70 (lv_at hl 5 rfl) ?_
                refine m_ld hx hb hK hP (k := 0) (by decide) (v := S.1 0 x) (by omega) (by show _ < ((12 : Nat) : Int); omega) (hR.dir (by decide) (by omega) (by omega)) dX4_canGrow_72 ?_
                refine lv_istore (lv' := [(5, .int (iI ((S.1 0 x)))), (4, .int (iI 0)), (0, .ref (ad 11)), (1, .int (iI (its))), (2, .int (iI (home))), (3, .int (iI (by_)))]) hx hb dX4_canGrow_73 hl (by decide) rfl (fun ls hl => ?_)
                refine lv_goto (tgt := 19) hx hb dX4_canGrow_75 (by decide) ?_
                have hx3 := hw.par' (d := x) (by omega) hx1
                have hg9 := growOk_step (by_ := by_) hw (d := x) (by omega) hx1
                exact ih9 0 (S.1 0 x) (by omega) hx3.1 (by omega) (by omega) (fun q => by omega) (fun _ z => by have z2 := (hg9.mp ((hb1 (by omega)).mp z)).1; omega) H locs hP hS ls (lv_sub hl [2, 3, 4, 5, 1, 0] rfl)
              · skip
                refine lv_iconst (v := iI 1) hx hb dX4_canGrow_59 rfl ?_
                refine lv_goto (tgt := 64) hx hb dX4_canGrow_60 (by decide) ?_
                refine lv_istore (lv' := [(4, .int (iI 1)), (0, .ref (ad 11)), (1, .int (iI (its))), (2, .int (iI (home))), (3, .int (iI (by_))), (5, .int (iI (x)))]) hx hb dX4_canGrow_64 hl (by decide) rfl (fun ls hl => ?_)
                refine lv_aload_n hx hb dX4_canGrow_66 rfl (lv_at hl 1 rfl) ?_
                refine m_get hx hb hts hin hown hK hP 0 (by decide) (v := .ref (ad 0)) rfl (hts (.fieldLink RX4 7 "HoldServerModel" "parent" "[I") (by decide +kernel)) rfl dX4_canGrow_67 ?_
                refine lv_iload hx hb dX4_canGrow_70 (lv_at hl 5 rfl) ?_
                refine m_ld hx hb hK hP (k := 0) (by decide) (v := S.1 0 x) (by omega) (by show _ < ((12 : Nat) : Int); omega) (hR.dir (by decide) (by omega) (by omega)) dX4_canGrow_72 ?_
                refine lv_istore (lv' := [(5, .int (iI ((S.1 0 x)))), (4, .int (iI 1)), (0, .ref (ad 11)), (1, .int (iI (its))), (2, .int (iI (home))), (3, .int (iI (by_)))]) hx hb dX4_canGrow_73 hl (by decide) rfl (fun ls hl => ?_)
                refine lv_goto (tgt := 19) hx hb dX4_canGrow_75 (by decide) ?_
                have hx3 := hw.par' (d := x) (by omega) hx1
                have hg9 := growOk_step (by_ := by_) hw (d := x) (by omega) hx1
                exact ih9 1 (S.1 0 x) (by omega) hx3.1 (by omega) (by omega) (fun q => by rw [hb1 (by omega), hg9]; exact ⟨fun z => z.2, fun z => ⟨Or.inr (by omega), z⟩⟩) (fun q => by omega) H locs hP hS ls (lv_sub hl [2, 3, 4, 5, 1, 0] rfl)
    exact lp19 (home + 2).toNat 0 home (by omega) (by omega) h3 (by omega) (fun q => by omega) (fun _ z => by have := z.1; omega) _ _ hP hS ls (lv_sub hl [2, 3, 4, 5, 1, 0] rfl)
  · skip
    refine lv_iconst (v := iI 1) hx hb dX4_canGrow_9 rfl ?_
    refine lv_goto (tgt := 14) hx hb dX4_canGrow_10 (by decide) ?_
    refine lv_istore (lv' := [(4, .int (iI 1)), (0, .ref (ad 11)), (1, .int (iI (its))), (2, .int (iI (home))), (3, .int (iI (by_)))]) hx hb dX4_canGrow_14 hl (by decide) rfl (fun ls hl => ?_)
    refine lv_iload_n hx hb dX4_canGrow_16 rfl (lv_at hl 3 rfl) ?_
    refine lv_istore (lv' := [(5, .int (iI (home))), (4, .int (iI 1)), (0, .ref (ad 11)), (1, .int (iI (its))), (2, .int (iI (home))), (3, .int (iI (by_)))]) hx hb dX4_canGrow_17 hl (by decide) rfl (fun ls hl => ?_)
    have lp19 : ∀ (n9 : Nat) (b : Int) (x : Int), x + 1 < (n9 : Int) → (-1 ≤ x) → (x < S.1 11 0) → (b = 0 ∨ b = 1) → (b = 1 → (canGrow S its home by_ ↔ growOk S x by_)) → (b = 0 → ¬ canGrow S its home by_) → ∀ (H : Heap) (locs : List Loc), va_P D vwCl (wM ad cI u) H → va_S A ss.heap H locs → ∀ (ls : Array Slot), lv_has ls 6 [(0, .ref (ad 11)), (1, .int (iI (its))), (2, .int (iI (home))), (3, .int (iI (by_))), (4, .int (iI (b))), (5, .int (iI (x)))] → W pp l ee { frames := 2, cells := 0, slots := 0, locals := 46 } ss mm args below meth cc H locs 0 0 Q (F0 mm 19 ls []) := by
      intro n9
      induction n9 with
      | zero => intro b x hms hx0 hx1 hb0 hb1 hb2 H locs hP hS ls hl; exfalso; omega
      | succ n9 ih9 =>
        intro b x hms hx0 hx1 hb0 hb1 hb2 H locs hP hS ls hl
        refine lv_iload hx hb dX4_canGrow_19 (lv_at hl 5 rfl) ?_
        refine lv_iconst (v := iI (-1)) hx hb dX4_canGrow_21 rfl ?_
        refine h_icmp_eq (tgt := 78) hx hb (by omega) (by omega) dX4_canGrow_22 (by decide) (fun c_22 => ?_) (fun c_22 => ?_)
        · skip
          rcases hb0 with hb3 | hb3 <;> subst hb3
          · skip
            refine lv_iload hx hb dX4_canGrow_78 (lv_at hl 4 rfl) ?_
            exact hret (0) (u) _ _ _ _ dX4_canGrow_80 (by decide) hP hS ⟨rfl, Or.inr ⟨hb2 rfl, rfl⟩⟩
          · skip
            refine lv_iload hx hb dX4_canGrow_78 (lv_at hl 4 rfl) ?_
            exact hret (1) (u) _ _ _ _ dX4_canGrow_80 (by decide) hP hS ⟨rfl, Or.inl ⟨(hb1 rfl).mpr (by rw [c_22]; intro e he; rw [wayS_neg] at he; cases he), rfl⟩⟩
        · skip
          refine lv_iload hx hb dX4_canGrow_25 (lv_at hl 4 rfl) ?_
          refine h_if_eq (tgt := 63) hx hb (by omega) dX4_canGrow_27 (by decide) (fun c_27 => ?_) (fun c_27 => ?_)
          · skip
            refine lv_iconst (v := iI 0) hx hb dX4_canGrow_63 rfl ?_
            refine lv_istore (lv' := [(4, .int (iI 0)), (0, .ref (ad 11)), (1, .int (iI (its))), (2, .int (iI (home))), (3, .int (iI (by_))), (5, .int (iI (x)))]) hx hb dX4_canGrow_64 hl (by decide) rfl (fun ls hl => ?_)
            refine lv_aload_n hx hb dX4_canGrow_66 rfl (lv_at hl 1 rfl) ?_
            refine m_get hx hb hts hin hown hK hP 0 (by decide) (v := .ref (ad 0)) rfl (hts (.fieldLink RX4 7 "HoldServerModel" "parent" "[I") (by decide +kernel)) rfl dX4_canGrow_67 ?_
            refine lv_iload hx hb dX4_canGrow_70 (lv_at hl 5 rfl) ?_
            refine m_ld hx hb hK hP (k := 0) (by decide) (v := S.1 0 x) (by omega) (by show _ < ((12 : Nat) : Int); omega) (hR.dir (by decide) (by omega) (by omega)) dX4_canGrow_72 ?_
            refine lv_istore (lv' := [(5, .int (iI ((S.1 0 x)))), (4, .int (iI 0)), (0, .ref (ad 11)), (1, .int (iI (its))), (2, .int (iI (home))), (3, .int (iI (by_)))]) hx hb dX4_canGrow_73 hl (by decide) rfl (fun ls hl => ?_)
            refine lv_goto (tgt := 19) hx hb dX4_canGrow_75 (by decide) ?_
            have hx3 := hw.par' (d := x) (by omega) hx1
            have hg9 := growOk_step (by_ := by_) hw (d := x) (by omega) hx1
            exact ih9 0 (S.1 0 x) (by omega) hx3.1 (by omega) (by omega) (fun q => by omega) (fun _ => hb2 (by omega)) H locs hP hS ls (lv_sub hl [2, 3, 4, 5, 1, 0] rfl)
          · skip
            have hq9 := hw.quo (d := x) (by omega) hx1
            refine lv_aload_n hx hb dX4_canGrow_30 rfl (lv_at hl 0 rfl) ?_
            refine m_get hx hb hts hin hown hK hP 1 (by decide) (v := .ref (ad 1)) rfl (hts (.fieldLink RX4 13 "HoldServerModel" "quota" "[I") (by decide +kernel)) rfl dX4_canGrow_31 ?_
            refine lv_iload hx hb dX4_canGrow_34 (lv_at hl 5 rfl) ?_
            refine m_ld hx hb hK hP (k := 1) (by decide) (v := S.1 1 x) (by omega) (by show _ < ((12 : Nat) : Int); omega) (hR.dir (by decide) (by omega) (by omega)) dX4_canGrow_36 ?_
            refine lv_iconst (v := iI (-1)) hx hb dX4_canGrow_37 rfl ?_
            refine h_icmp_eq (tgt := 59) hx hb (by omega) (by omega) dX4_canGrow_38 (by decide) (fun c_38 => ?_) (fun c_38 => ?_)
            · skip
              refine lv_iconst (v := iI 1) hx hb dX4_canGrow_59 rfl ?_
              refine lv_goto (tgt := 64) hx hb dX4_canGrow_60 (by decide) ?_
              refine lv_istore (lv' := [(4, .int (iI 1)), (0, .ref (ad 11)), (1, .int (iI (its))), (2, .int (iI (home))), (3, .int (iI (by_))), (5, .int (iI (x)))]) hx hb dX4_canGrow_64 hl (by decide) rfl (fun ls hl => ?_)
              refine lv_aload_n hx hb dX4_canGrow_66 rfl (lv_at hl 1 rfl) ?_
              refine m_get hx hb hts hin hown hK hP 0 (by decide) (v := .ref (ad 0)) rfl (hts (.fieldLink RX4 7 "HoldServerModel" "parent" "[I") (by decide +kernel)) rfl dX4_canGrow_67 ?_
              refine lv_iload hx hb dX4_canGrow_70 (lv_at hl 5 rfl) ?_
              refine m_ld hx hb hK hP (k := 0) (by decide) (v := S.1 0 x) (by omega) (by show _ < ((12 : Nat) : Int); omega) (hR.dir (by decide) (by omega) (by omega)) dX4_canGrow_72 ?_
              refine lv_istore (lv' := [(5, .int (iI ((S.1 0 x)))), (4, .int (iI 1)), (0, .ref (ad 11)), (1, .int (iI (its))), (2, .int (iI (home))), (3, .int (iI (by_)))]) hx hb dX4_canGrow_73 hl (by decide) rfl (fun ls hl => ?_)
              refine lv_goto (tgt := 19) hx hb dX4_canGrow_75 (by decide) ?_
              have hx3 := hw.par' (d := x) (by omega) hx1
              have hg9 := growOk_step (by_ := by_) hw (d := x) (by omega) hx1
              exact ih9 1 (S.1 0 x) (by omega) hx3.1 (by omega) (by omega) (fun q => by rw [hb1 (by omega), hg9]; exact ⟨fun z => z.2, fun z => ⟨Or.inl (by omega), z⟩⟩) (fun q => by omega) H locs hP hS ls (lv_sub hl [2, 3, 4, 5, 1, 0] rfl)
            · skip
              refine lv_aload_n hx hb dX4_canGrow_41 rfl (lv_at hl 0 rfl) ?_
              refine lv_iload hx hb dX4_canGrow_42 (lv_at hl 5 rfl) ?_
              refine m_callv (As := [.int (iI (x))]) ⟨hx, hb, hml, hown, hts⟩ (c_X4_usageOf l D ad cI hD0 hw (u) hR (x) (by omega) (by omega) (by omega)) (cwV 1 hts gX4_canGrow_X4_usageOf rfl rfl rfl (by decide +kernel) ⟨Nat.le_of_ble_eq_true rfl, Nat.le_of_ble_eq_true rfl⟩) hK hP hS rfl hl.1 rfl (Nat.le_of_ble_eq_true rfl) ⟨Nat.le_of_ble_eq_true rfl, Nat.le_of_ble_eq_true rfl⟩ dX4_canGrow_44 (fun r9 u9 H locs hpost hP hS => ?_)
              obtain ⟨rfl, rfl⟩ := hpost
              have hu9 := usg_in hw x
              refine lv_iload_n hx hb dX4_canGrow_47 rfl (lv_at hl 3 rfl) ?_
              refine h_iadd hx hb dX4_canGrow_48 ?_
              refine lv_aload_n hx hb dX4_canGrow_49 rfl (lv_at hl 0 rfl) ?_
              refine m_get hx hb hts hin hown hK hP 1 (by decide) (v := .ref (ad 1)) rfl (hts (.fieldLink RX4 13 "HoldServerModel" "quota" "[I") (by decide +kernel)) rfl dX4_canGrow_50 ?_
              refine lv_iload hx hb dX4_canGrow_53 (lv_at hl 5 rfl) ?_
              refine m_ld hx hb hK hP (k := 1) (by decide) (v := S.1 1 x) (by omega) (by show _ < ((12 : Nat) : Int); omega) (hR.dir (by decide) (by omega) (by omega)) dX4_canGrow_55 ?_
              refine h_icmp_gt (tgt := 63) hx hb (by omega) (by omega) dX4_canGrow_56 (by decide) (fun c_56 => ?_) (fun c_56 => ?_)
              · skip
                refine lv_iconst (v := iI 0) hx hb dX4_canGrow_63 rfl ?_
                refine lv_istore (lv' := [(4, .int (iI 0)), (0, .ref (ad 11)), (1, .int (iI (its))), (2, .int (iI (home))), (3, .int (iI (by_))), (5, .int (iI (x)))]) hx hb dX4_canGrow_64 hl (by decide) rfl (fun ls hl => ?_)
                refine lv_aload_n hx hb dX4_canGrow_66 rfl (lv_at hl 1 rfl) ?_
                refine m_get hx hb hts hin hown hK hP 0 (by decide) (v := .ref (ad 0)) rfl (hts (.fieldLink RX4 7 "HoldServerModel" "parent" "[I") (by decide +kernel)) rfl dX4_canGrow_67 ?_
                refine lv_iload hx hb dX4_canGrow_70 (lv_at hl 5 rfl) ?_
                refine m_ld hx hb hK hP (k := 0) (by decide) (v := S.1 0 x) (by omega) (by show _ < ((12 : Nat) : Int); omega) (hR.dir (by decide) (by omega) (by omega)) dX4_canGrow_72 ?_
                refine lv_istore (lv' := [(5, .int (iI ((S.1 0 x)))), (4, .int (iI 0)), (0, .ref (ad 11)), (1, .int (iI (its))), (2, .int (iI (home))), (3, .int (iI (by_)))]) hx hb dX4_canGrow_73 hl (by decide) rfl (fun ls hl => ?_)
                refine lv_goto (tgt := 19) hx hb dX4_canGrow_75 (by decide) ?_
                have hx3 := hw.par' (d := x) (by omega) hx1
                have hg9 := growOk_step (by_ := by_) hw (d := x) (by omega) hx1
                exact ih9 0 (S.1 0 x) (by omega) hx3.1 (by omega) (by omega) (fun q => by omega) (fun _ z => by have z2 := (hg9.mp ((hb1 (by omega)).mp z)).1; omega) H locs hP hS ls (lv_sub hl [2, 3, 4, 5, 1, 0] rfl)
              · skip
                refine lv_iconst (v := iI 1) hx hb dX4_canGrow_59 rfl ?_
                refine lv_goto (tgt := 64) hx hb dX4_canGrow_60 (by decide) ?_
                refine lv_istore (lv' := [(4, .int (iI 1)), (0, .ref (ad 11)), (1, .int (iI (its))), (2, .int (iI (home))), (3, .int (iI (by_))), (5, .int (iI (x)))]) hx hb dX4_canGrow_64 hl (by decide) rfl (fun ls hl => ?_)
                refine lv_aload_n hx hb dX4_canGrow_66 rfl (lv_at hl 1 rfl) ?_
                refine m_get hx hb hts hin hown hK hP 0 (by decide) (v := .ref (ad 0)) rfl (hts (.fieldLink RX4 7 "HoldServerModel" "parent" "[I") (by decide +kernel)) rfl dX4_canGrow_67 ?_
                refine lv_iload hx hb dX4_canGrow_70 (lv_at hl 5 rfl) ?_
                refine m_ld hx hb hK hP (k := 0) (by decide) (v := S.1 0 x) (by omega) (by show _ < ((12 : Nat) : Int); omega) (hR.dir (by decide) (by omega) (by omega)) dX4_canGrow_72 ?_
                refine lv_istore (lv' := [(5, .int (iI ((S.1 0 x)))), (4, .int (iI 1)), (0, .ref (ad 11)), (1, .int (iI (its))), (2, .int (iI (home))), (3, .int (iI (by_)))]) hx hb dX4_canGrow_73 hl (by decide) rfl (fun ls hl => ?_)
                refine lv_goto (tgt := 19) hx hb dX4_canGrow_75 (by decide) ?_
                have hx3 := hw.par' (d := x) (by omega) hx1
                have hg9 := growOk_step (by_ := by_) hw (d := x) (by omega) hx1
                exact ih9 1 (S.1 0 x) (by omega) hx3.1 (by omega) (by omega) (fun q => by rw [hb1 (by omega), hg9]; exact ⟨fun z => z.2, fun z => ⟨Or.inr (by omega), z⟩⟩) (fun q => by omega) H locs hP hS ls (lv_sub hl [2, 3, 4, 5, 1, 0] rfl)
    exact lp19 (home + 2).toNat 1 home (by omega) (by omega) h3 (by omega) (fun _ => ⟨fun z => z.2, fun z => ⟨by omega, z⟩⟩) (fun q => by omega) _ _ hP hS ls (lv_sub hl [2, 3, 4, 5, 1, 0] rfl)

set_option maxRecDepth 100000 in
set_option maxHeartbeats 4000000 in
theorem c_X4_tierOf (l : Launch) (D : va_G) (ad : Nat → Nat) (cI : ClassId) {A : Nat → Prop} {u0 : MS} (hD0 : va_D A (wM ad cI u0)) {S : HdS} {n : Int} (hw : wf S n) (u : MS) (hR : RelM S u) (f : Int)  (r_f : inQ f)  (h0 : 0 ≤ f) (h1 : f < S.1 11 1): mI l yX4_tierOf wsX4_tierOf { frames := 0, cells := 0, slots := 0, locals := 0 } D ad cI A [.ref (ad 11), .int (iI f)] u (fun r u2 => u = u2 ∧ r = iI (tierS S f)) := by
  refine mI_of (cc := cX4_tierOf) (maxL := 3) (ty := .int) (by decide) rfl (Nat.le_of_ble_eq_true rfl) ?_
  intro pp ee ss mm args below meth cc Q hx hb hml hown hts hP hK hS hret ls hl
  have hl : lv_has ls 3 [(0, .ref (ad 11)), (1, .int (iI (f)))] := hl
  have hin : ∀ w ∈ wsX40, w ∈ wsX4_tierOf := fun w h => List.mem_cons_of_mem _ (List.mem_append_right _ h)
  have hD : va_D A (wM ad cI u) := wM_D hD0
  have hn1 := hw.nf
  have hn2 := hw.day
  have hn3 := hw.usd h0 h1
  have hn4 := hw.len h0 h1
  have hn5 := hw.nd
  refine lv_aload_n hx hb dX4_tierOf_0 rfl (lv_at hl 0 rfl) ?_
  refine m_geti hx hb hts hin hown hK hP 13 (by decide) (v := S.1 11 2) 2 rfl (hR.x2) (hts (.fieldLink RX4 82 "HoldServerModel" "day" "I") (by decide +kernel)) rfl dX4_tierOf_1 ?_
  refine lv_aload_n hx hb dX4_tierOf_4 rfl (lv_at hl 0 rfl) ?_
  refine m_get hx hb hts hin hown hK hP 9 (by decide) (v := .ref (ad 8)) rfl (hts (.fieldLink RX4 38 "HoldServerModel" "used" "[I") (by decide +kernel)) rfl dX4_tierOf_5 ?_
  refine lv_iload_n hx hb dX4_tierOf_8 rfl (lv_at hl 1 rfl) ?_
  refine m_ld hx hb hK hP (k := 8) (by decide) (v := S.1 8 f) (by omega) (by show _ < ((30 : Nat) : Int); omega) (hR.fil (by decide) (by omega) (by omega)) dX4_tierOf_9 ?_
  refine h_isub hx hb dX4_tierOf_10 ?_
  refine lv_istore_n (lv' := [(2, .int (iI (((S.1 11 2) - (S.1 8 f))))), (0, .ref (ad 11)), (1, .int (iI (f)))]) hx hb dX4_tierOf_11 rfl hl (by decide) rfl (fun ls hl => ?_)
  refine lv_aload_n hx hb dX4_tierOf_12 rfl (lv_at hl 1 rfl) ?_
  refine m_get hx hb hts hin hown hK hP 6 (by decide) (v := .ref (ad 5)) rfl (hts (.fieldLink RX4 29 "HoldServerModel" "links" "[I") (by decide +kernel)) rfl dX4_tierOf_13 ?_
  refine lv_iload_n hx hb dX4_tierOf_16 rfl (lv_at hl 2 rfl) ?_
  refine m_ld hx hb hK hP (k := 5) (by decide) (v := ((S.2 f).length : Int)) (by omega) (by show _ < ((30 : Nat) : Int); omega) (hR.len (by omega) (by omega)) dX4_tierOf_17 ?_
  refine h_if_ne (tgt := 25) hx hb (by omega) dX4_tierOf_18 (by decide) (fun c_18 => ?_) (fun c_18 => ?_)
  · skip
    refine lv_iload_n hx hb dX4_tierOf_25 rfl (lv_at hl 0 rfl) ?_
    refine lv_bipush (v := iI 30) hx hb dX4_tierOf_26 (by decide) ?_
    refine h_icmp_ge (tgt := 35) hx hb (by omega) (by omega) dX4_tierOf_28 (by decide) (fun c_28 => ?_) (fun c_28 => ?_)
    · skip
      refine lv_iload_n hx hb dX4_tierOf_35 rfl (lv_at hl 0 rfl) ?_
      refine lv_bipush (v := iI 90) hx hb dX4_tierOf_36 (by decide) ?_
      refine h_icmp_ge (tgt := 45) hx hb (by omega) (by omega) dX4_tierOf_38 (by decide) (fun c_38 => ?_) (fun c_38 => ?_)
      · skip
        refine lv_iconst (v := iI 2) hx hb dX4_tierOf_45 rfl ?_
        exact hret (2) (u) _ _ _ _ dX4_tierOf_46 rfl hP hS ⟨rfl, by unfold tierS; rw [if_neg (fun q => by rw [q] at c_18; exact c_18 rfl), if_neg (by omega), if_neg (by omega)]⟩
      · skip
        refine lv_iconst (v := iI 1) hx hb dX4_tierOf_41 rfl ?_
        refine lv_goto (tgt := 46) hx hb dX4_tierOf_42 (by decide) ?_
        exact hret (1) (u) _ _ _ _ dX4_tierOf_46 rfl hP hS ⟨rfl, by unfold tierS; rw [if_neg (fun q => by rw [q] at c_18; exact c_18 rfl), if_neg (by omega), if_pos (by omega)]⟩
    · skip
      refine lv_iconst (v := iI 0) hx hb dX4_tierOf_31 rfl ?_
      refine lv_goto (tgt := 46) hx hb dX4_tierOf_32 (by decide) ?_
      exact hret (0) (u) _ _ _ _ dX4_tierOf_46 rfl hP hS ⟨rfl, by unfold tierS; rw [if_neg (fun q => by rw [q] at c_18; exact c_18 rfl), if_pos (by omega)]⟩
  · skip
    refine lv_iconst (v := iI (-1)) hx hb dX4_tierOf_21 rfl ?_
    refine lv_goto (tgt := 46) hx hb dX4_tierOf_22 (by decide) ?_
    exact hret ((-1)) (u) _ _ _ _ dX4_tierOf_46 rfl hP hS ⟨rfl, by unfold tierS; rw [if_pos (List.eq_nil_of_length_eq_zero (l := S.2 f) (by omega))]⟩

set_option maxRecDepth 100000 in
set_option maxHeartbeats 4000000 in
theorem c_X4_linkTo (l : Launch) (D : va_G) (ad : Nat → Nat) (cI : ClassId) {A : Nat → Prop} {u0 : MS} (hD0 : va_D A (wM ad cI u0)) {S : HdS} {n : Int} (hw : wf S n) (u : MS) (hR : RelM S u) (f d : Int)  (r_f : inQ f) (r_d : inQ d)  (h0 : 0 ≤ f) (h1 : f < S.1 11 1) (h2 : 0 ≤ d) (h3 : d < S.1 11 0): mI l yX4_linkTo wsX4_linkTo { frames := 0, cells := 0, slots := 0, locals := 0 } D ad cI A [.ref (ad 11), .int (iI f), .int (iI d)] u (fun r u2 => u = u2 ∧ ∃ x : Int, r = iI x ∧ (x = -1 ∧ d ∉ S.2 f ∨ 0 ≤ x ∧ x < ((S.2 f).length : Int) ∧ (S.2 f).getD x.toNat 0 = d)) := by
  refine mI_of (cc := cX4_linkTo) (maxL := 5) (ty := .int) (by decide) rfl (Nat.le_of_ble_eq_true rfl) ?_
  intro pp ee ss mm args below meth cc Q hx hb hml hown hts hP hK hS hret ls hl
  have hl : lv_has ls 5 [(0, .ref (ad 11)), (1, .int (iI (f))), (2, .int (iI (d)))] := hl
  have hin : ∀ w ∈ wsX40, w ∈ wsX4_linkTo := fun w h => List.mem_cons_of_mem _ (List.mem_append_right _ h)
  have hD : va_D A (wM ad cI u) := wM_D hD0
  have hn1 := hw.nf
  have hn2 := hw.nd
  have hn4 := hw.len h0 h1
  have hn5 := hw.lks h0 h1
  refine lv_iconst (v := iI (-1)) hx hb dX4_linkTo_0 rfl ?_
  refine lv_istore_n (lv' := [(3, .int (iI (-1))), (0, .ref (ad 11)), (1, .int (iI (f))), (2, .int (iI (d)))]) hx hb dX4_linkTo_1 rfl hl (by decide) rfl (fun ls hl => ?_)
  refine lv_iconst (v := iI 0) hx hb dX4_linkTo_2 rfl ?_
  refine lv_istore (lv' := [(4, .int (iI 0)), (3, .int (iI (-1))), (0, .ref (ad 11)), (1, .int (iI (f))), (2, .int (iI (d)))]) hx hb dX4_linkTo_3 hl (by decide) rfl (fun ls hl => ?_)
  have lp5 : ∀ (n9 : Nat) (x : Int) (j : Nat), ((S.2 f).length : Int) - j < (n9 : Int) → (j ≤ (S.2 f).length) → (x = -1 ∧ (∀ i : Nat, i < j → (S.2 f).getD i 0 ≠ d) ∨ 0 ≤ x ∧ x < j ∧ (S.2 f).getD x.toNat 0 = d) → ∀ (H : Heap) (locs : List Loc), va_P D vwCl (wM ad cI u) H → va_S A ss.heap H locs → ∀ (ls : Array Slot), lv_has ls 5 [(0, .ref (ad 11)), (1, .int (iI (f))), (2, .int (iI (d))), (3, .int (iI (x))), (4, .int (iI ((j : Int))))] → W pp l ee { frames := 0, cells := 0, slots := 0, locals := 0 } ss mm args below meth cc H locs 0 0 Q (F0 mm 5 ls []) := by
    intro n9
    induction n9 with
    | zero => intro x j hms hj hx7 H locs hP hS ls hl; exfalso; omega
    | succ n9 ih9 =>
      intro x j hms hj hx7 H locs hP hS ls hl
      refine lv_iload hx hb dX4_linkTo_5 (lv_at hl 4 rfl) ?_
      refine lv_aload_n hx hb dX4_linkTo_7 rfl (lv_at hl 0 rfl) ?_
      refine m_get hx hb hts hin hown hK hP 6 (by decide) (v := .ref (ad 5)) rfl (hts (.fieldLink RX4 29 "HoldServerModel" "links" "[I") (by decide +kernel)) rfl dX4_linkTo_8 ?_
      refine lv_iload_n hx hb dX4_linkTo_11 rfl (lv_at hl 1 rfl) ?_
      refine m_ld hx hb hK hP (k := 5) (by decide) (v := ((S.2 f).length : Int)) (by omega) (by show _ < ((30 : Nat) : Int); omega) (hR.len (by omega) (by omega)) dX4_linkTo_12 ?_
      refine h_icmp_ge (tgt := 45) hx hb (by omega) (by omega) dX4_linkTo_13 (by decide) (fun c_13 => ?_) (fun c_13 => ?_)
      · skip
        refine lv_iload_n hx hb dX4_linkTo_45 rfl (lv_at hl 3 rfl) ?_
        exact hret (x) (u) _ _ _ _ dX4_linkTo_46 rfl hP hS ⟨rfl, x, rfl, hx7.elim (fun q => Or.inl ⟨q.1, fun z => by obtain ⟨i, hi, hz⟩ := List.getElem_of_mem z; exact q.2 i (by omega) (by rw [List.getD_eq_getElem?_getD, List.getElem?_eq_getElem hi]; exact hz)⟩) (fun q => Or.inr ⟨q.1, by omega, q.2.2⟩)⟩
      · skip
        have hg9 : 0 ≤ (S.2 f).getD j 0 ∧ (S.2 f).getD j 0 < S.1 11 0 := hn5 _ (by rw [List.getD_eq_getElem?_getD, List.getElem?_eq_getElem (by omega)]; exact List.getElem_mem _)
        refine lv_aload_n hx hb dX4_linkTo_16 rfl (lv_at hl 0 rfl) ?_
        refine m_get hx hb hts hin hown hK hP 5 (by decide) (v := .ref (ad 4)) rfl (hts (.fieldLink RX4 26 "HoldServerModel" "link" "[I") (by decide +kernel)) rfl dX4_linkTo_17 ?_
        refine lv_bipush (v := iI 12) hx hb dX4_linkTo_20 (by decide) ?_
        refine lv_iload_n hx hb dX4_linkTo_22 rfl (lv_at hl 1 rfl) ?_
        refine h_imul hx hb dX4_linkTo_23 ?_
        refine lv_iload hx hb dX4_linkTo_24 (lv_at hl 4 rfl) ?_
        refine h_iadd hx hb dX4_linkTo_26 ?_
        refine m_ld hx hb hK hP (k := 4) (by decide) (v := (S.2 f).getD j 0) (by omega) (by show _ < ((360 : Nat) : Int); omega) (hR.lnk h0 h1 (by omega)) dX4_linkTo_27 ?_
        refine lv_iload_n hx hb dX4_linkTo_28 rfl (lv_at hl 2 rfl) ?_
        refine h_icmp_ne (tgt := 37) hx hb (by omega) (by omega) dX4_linkTo_29 (by decide) (fun c_29 => ?_) (fun c_29 => ?_)
        · skip
          refine lv_iload_n hx hb dX4_linkTo_37 rfl (lv_at hl 3 rfl) ?_
          refine lv_istore_n (lv' := [(3, .int (iI (x))), (0, .ref (ad 11)), (1, .int (iI (f))), (2, .int (iI (d))), (4, .int (iI ((j : Int))))]) hx hb dX4_linkTo_38 rfl hl (by decide) rfl (fun ls hl => ?_)
          refine lv_iinc (v := iI (((j : Int) + 1))) (lv' := [(4, .int (iI (((j : Int) + 1)))), (3, .int (iI (x))), (0, .ref (ad 11)), (1, .int (iI (f))), (2, .int (iI (d)))]) hx hb dX4_linkTo_39 hl (k := 4) rfl (iI_add _ _) (by decide) rfl (fun ls hl => ?_)
          refine lv_goto (tgt := 5) hx hb dX4_linkTo_42 (by decide) ?_
          exact ih9 x (j + 1) (by omega) (by omega) (hx7.elim (fun q => Or.inl ⟨q.1, fun i hi => by rcases Nat.lt_succ_iff_lt_or_eq.mp hi with z | z; exact q.2 i z; subst z; exact c_29⟩) (fun q => Or.inr ⟨q.1, by omega, q.2.2⟩)) H locs hP hS ls (by rw [show ((j + 1 : Nat) : Int) = (j : Int) + 1 from by omega]; exact (lv_sub hl [2, 3, 4, 1, 0] rfl))
        · skip
          refine lv_iload hx hb dX4_linkTo_32 (lv_at hl 4 rfl) ?_
          refine lv_goto (tgt := 38) hx hb dX4_linkTo_34 (by decide) ?_
          refine lv_istore_n (lv' := [(3, .int (iI ((j : Int)))), (0, .ref (ad 11)), (1, .int (iI (f))), (2, .int (iI (d))), (4, .int (iI ((j : Int))))]) hx hb dX4_linkTo_38 rfl hl (by decide) rfl (fun ls hl => ?_)
          refine lv_iinc (v := iI (((j : Int) + 1))) (lv' := [(4, .int (iI (((j : Int) + 1)))), (3, .int (iI ((j : Int)))), (0, .ref (ad 11)), (1, .int (iI (f))), (2, .int (iI (d)))]) hx hb dX4_linkTo_39 hl (k := 4) rfl (iI_add _ _) (by decide) rfl (fun ls hl => ?_)
          refine lv_goto (tgt := 5) hx hb dX4_linkTo_42 (by decide) ?_
          exact ih9 (j : Int) (j + 1) (by omega) (by omega) (Or.inr ⟨by omega, by omega, by rw [Int.toNat_natCast]; exact c_29⟩) H locs hP hS ls (by rw [show ((j + 1 : Nat) : Int) = (j : Int) + 1 from by omega]; exact (lv_sub hl [2, 3, 4, 1, 0] rfl))
  exact lp5 ((S.2 f).length + 1) (-1) 0 (by omega) (by omega) (Or.inl ⟨rfl, fun i hi => absurd hi (Nat.not_lt_zero i)⟩) _ _ hP hS ls (lv_sub hl [2, 3, 4, 1, 0] rfl)
