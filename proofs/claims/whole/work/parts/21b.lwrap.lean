set_option maxRecDepth 100000 in
set_option maxHeartbeats 4000000 in
theorem c_L_addDirectory (l : Launch) (D : va_G) (cO : ClassId) (dz mi : Nat) {A : Nat → Prop} {S : HdS} {w : CW} {g : Nat → Int → Nat} {T : Nat → Nat × Int} {n : Int} (hw : wf S n) (hR : RelC S w g T (usg S)) (hst : l.stackTraces = false) (cJ : ClassId) (ob : Nat) (f : Nat → Int64) (p q : Int) (r_p : inQ p) (r_q : inQ q) : lI l yL_addDirectory wsL_addDirectory { frames := 8, cells := 5, slots := 1028, locals := 215 } D cO dz mi A w cJ ob f [.ref (g 0 0), .int (iI p), .int (iI q), .ref ob] (g 0 0) (sp_addDirectory S p q) 5 1028 := by
  refine lI_of (cc := cL_addDirectory) (maxL := 5) (hh := [(0, 10, 13, 13), (0, 10, 17, 15), (0, 10, 21, 17)]) (by decide) rfl (Nat.le_of_ble_eq_true rfl) ?_
  intro pp ee ss mm args below meth cc Q hx hb hml hown hts hA hC hE hX hob hO hJ hN hto hret ls hl
  have hl : lv_has ls 5 [(0, .ref (g 0 0)), (1, .int (iI p)), (2, .int (iI q)), (3, .ref ob)] := hl
  refine lv_aload_n hx hb dL_addDirectory_0 rfl (lv_at hl 3 rfl) ?_
  refine lv_iconst (v := iI 0) hx hb dL_addDirectory_1 rfl ?_
  refine lv_aload_n hx hb dL_addDirectory_2 rfl (lv_at hl 0 rfl) ?_
  refine lv_iload_n hx hb dL_addDirectory_3 rfl (lv_at hl 1 rfl) ?_
  refine lv_iload_n hx hb dL_addDirectory_4 rfl (lv_at hl 2 rfl) ?_
  refine vx_calli (A0 := lFr A ob) (A1 := A) (AX := A) (free := A) (vx_runV (As := [.int (iI p), .int (iI q)]) (rest := [.int (iI 0), .ref ob]) ⟨hx, hb, hml, hown, hts⟩ (c_addDirectory l D cO dz mi hw hR hst p q r_p r_q) (cwV 2 hts gL_addDirectory_X3_addDirectory rfl rfl rfl (by decide +kernel) ⟨Nat.le_of_ble_eq_true rfl, Nat.le_of_ble_eq_true rfl⟩) (c_preV hA hE hX hC va_S.rf hR.k0 (by decide) (by decide) rfl) rfl rfl hl.1 rfl (lv_room (Nat.le_of_ble_eq_true rfl)) dL_addDirectory_5 ⟨Nat.le_of_ble_eq_true rfl, Nat.le_of_ble_eq_true rfl⟩) va_S.rf (fun _ _ h => Or.inl h) (fun _ h => Or.inl h) (fun _ _ h => Or.inl h) (fun E9 ce q9 u9 t9 H locs ht _ hu hB _ hkeep hS hce hcv hcl => ?_) (fun r9 w9 t9 H locs ht _ hp hB _ hkeep hS => ?_)
  · have h9 : cH D cO dz A u9 t9.heap := hB.2
    rw [hu, ht] at h9
    have hO1 := oC_kept hO hkeep hob
    obtain ⟨hq0, hEq⟩ := hB.1
    rcases spn_addDirectory (S := S) p q with h0 | ⟨k1, k2, hS0⟩
    · exact absurd h0 hq0
    have hs9 : ∃ (g9 : Nat → Int → Nat) (T9 : Nat → Nat × Int), g9 0 0 = g 0 0 ∧ RelC (sp_addDirectory S p q).2.2 w g9 T9 (usg (sp_addDirectory S p q).2.2) := ⟨g, T, rfl, by rw [hS0]; exact hR⟩
    rcases (show (sp_addDirectory S p q).1 = 1 ∨ (sp_addDirectory S p q).1 = 2 ∨ (sp_addDirectory S p q).1 = 3 by omega) with hk | hk | hk
    · skip
      have hE9 : E9 = xIOB := by rw [hEq, hk]; rfl
      subst hE9
      refine vx_catch (name := xIOB) hown [] ⟨0, 10, 13, 13⟩ [⟨0, 10, 17, 15⟩, ⟨0, 10, 21, 17⟩] (by rw [hto]; rfl) (fun z hz => absurd hz List.not_mem_nil) (by decide) (by decide) (hts (.classLink RL 13 xIOB) (by decide +kernel)) (va_Nw.use (xB_tab (.castable xIOB xIOB) (by simp [xB])) (hX.2.2.1 (.castable xIOB xIOB) (by simp [xB]))) hce hcv hcl ?_
      refine lv_astore (lv' := [(4, .ref q9), (0, .ref (g 0 0)), (1, .int (iI p)), (2, .int (iI q)), (3, .ref ob)]) hx hb dL_addDirectory_13 hl (by decide) rfl (fun ls hl => ?_)
      refine lv_iconst (v := iI 1) hx hb dL_addDirectory_15 rfl ?_
      exact hret 1 (w, f) _ _ _ _ _ _ dL_addDirectory_16 h9 hO1 hS (by omega) (by omega) ⟨by rw [hk], hs9, fun z => absurd z hq0⟩
    · skip
      have hE9 : E9 = xIAE := by rw [hEq, hk]; rfl
      subst hE9
      refine vx_catch (name := xIAE) hown [⟨0, 10, 13, 13⟩] ⟨0, 10, 17, 15⟩ [⟨0, 10, 21, 17⟩] (by rw [hto]; rfl) (fun z hz => by rw [List.mem_singleton.mp hz]; exact Or.inr ⟨by decide, xIOB, hts (.classLink RL 13 xIOB) (by decide +kernel), hN.1⟩) (by decide) (by decide) (hts (.classLink RL 15 xIAE) (by decide +kernel)) (va_Nw.use (xB_tab (.castable xIAE xIAE) (by simp [xB])) (hX.2.2.1 (.castable xIAE xIAE) (by simp [xB]))) hce hcv hcl ?_
      refine lv_astore (lv' := [(4, .ref q9), (0, .ref (g 0 0)), (1, .int (iI p)), (2, .int (iI q)), (3, .ref ob)]) hx hb dL_addDirectory_17 hl (by decide) rfl (fun ls hl => ?_)
      refine lv_iconst (v := iI 2) hx hb dL_addDirectory_19 rfl ?_
      exact hret 2 (w, f) _ _ _ _ _ _ dL_addDirectory_20 h9 hO1 hS (by omega) (by omega) ⟨by rw [hk], hs9, fun z => absurd z hq0⟩
    · skip
      have hE9 : E9 = xISE := by rw [hEq, hk]; rfl
      subst hE9
      refine vx_catch (name := xISE) hown [⟨0, 10, 13, 13⟩, ⟨0, 10, 17, 15⟩] ⟨0, 10, 21, 17⟩ [] (by rw [hto]; rfl) (fun z hz => by rcases List.mem_cons.mp hz with hz | hz; (rw [hz]; exact Or.inr ⟨by decide, xIOB, hts (.classLink RL 13 xIOB) (by decide +kernel), hN.2.1⟩); (rw [List.mem_singleton.mp hz]; exact Or.inr ⟨by decide, xIAE, hts (.classLink RL 15 xIAE) (by decide +kernel), hN.2.2⟩)) (by decide) (by decide) (hts (.classLink RL 17 xISE) (by decide +kernel)) (va_Nw.use (xB_tab (.castable xISE xISE) (by simp [xB])) (hX.2.2.1 (.castable xISE xISE) (by simp [xB]))) hce hcv hcl ?_
      refine lv_astore (lv' := [(4, .ref q9), (0, .ref (g 0 0)), (1, .int (iI p)), (2, .int (iI q)), (3, .ref ob)]) hx hb dL_addDirectory_21 hl (by decide) rfl (fun ls hl => ?_)
      refine lv_iconst (v := iI 3) hx hb dL_addDirectory_23 rfl ?_
      exact hret 3 (w, f) _ _ _ _ _ _ dL_addDirectory_24 h9 hO1 hS (by omega) (by omega) ⟨by rw [hk], hs9, fun z => absurd z hq0⟩
  · have h9 : cH D cO dz A w9 t9.heap := hB
    rw [ht] at h9
    have hO1 := oC_kept hO hkeep hob
    obtain ⟨hq0, hr9, hrel⟩ := hp
    refine lv_i2l (v := r9.toInt64) hx hb dL_addDirectory_8 rfl ?_
    refine l_put (A1 := lFr A ob) hx hb hJ h9 hO1 hob (fun _ h => Or.inl h) (Or.inr rfl) hS dL_addDirectory_9 (fun f9 H locs hf9 hC1 hO1 hS => ?_)
    refine lv_goto (tgt := 25) hx hb dL_addDirectory_10 (by decide) ?_
    refine lv_iconst (v := iI 0) hx hb dL_addDirectory_25 rfl ?_
    exact hret 0 (w9, f9) _ _ _ _ _ _ dL_addDirectory_26 hC1 hO1 hS (by omega) (by omega) ⟨by rw [hq0], hrel, fun _ => by show f9 0 = _; rw [hf9, hr9]⟩

set_option maxRecDepth 100000 in
set_option maxHeartbeats 4000000 in
theorem c_L_setQuota (l : Launch) (D : va_G) (cO : ClassId) (dz mi : Nat) {A : Nat → Prop} {S : HdS} {w : CW} {g : Nat → Int → Nat} {T : Nat → Nat × Int} {n : Int} (hw : wf S n) (hR : RelC S w g T (usg S)) (hst : l.stackTraces = false) (cJ : ClassId) (ob : Nat) (f : Nat → Int64) (d q : Int) (r_d : inQ d) (r_q : inQ q) : lI l yL_setQuota wsL_setQuota { frames := 8, cells := 3, slots := 18, locals := 136 } D cO dz mi A w cJ ob f [.ref (g 0 0), .int (iI d), .int (iI q), .ref ob] (g 0 0) (sp_setQuota S d q) 3 18 := by
  refine lI_of (cc := cL_setQuota) (maxL := 5) (hh := [(0, 10, 13, 13), (0, 10, 17, 15)]) (by decide) rfl (Nat.le_of_ble_eq_true rfl) ?_
  intro pp ee ss mm args below meth cc Q hx hb hml hown hts hA hC hE hX hob hO hJ hN hto hret ls hl
  have hl : lv_has ls 5 [(0, .ref (g 0 0)), (1, .int (iI d)), (2, .int (iI q)), (3, .ref ob)] := hl
  refine lv_aload_n hx hb dL_setQuota_0 rfl (lv_at hl 3 rfl) ?_
  refine lv_iconst (v := iI 0) hx hb dL_setQuota_1 rfl ?_
  refine lv_aload_n hx hb dL_setQuota_2 rfl (lv_at hl 0 rfl) ?_
  refine lv_iload_n hx hb dL_setQuota_3 rfl (lv_at hl 1 rfl) ?_
  refine lv_iload_n hx hb dL_setQuota_4 rfl (lv_at hl 2 rfl) ?_
  refine vx_calli (A0 := lFr A ob) (A1 := A) (AX := A) (free := A) (vx_runV (As := [.int (iI d), .int (iI q)]) (rest := [.int (iI 0), .ref ob]) ⟨hx, hb, hml, hown, hts⟩ (c_setQuota l D cO dz mi hw hR hst d q r_d r_q) (cwV 2 hts gL_setQuota_X3_setQuota rfl rfl rfl (by decide +kernel) ⟨Nat.le_of_ble_eq_true rfl, Nat.le_of_ble_eq_true rfl⟩) (c_preV hA hE hX hC va_S.rf hR.k0 (by decide) (by decide) rfl) rfl rfl hl.1 rfl (lv_room (Nat.le_of_ble_eq_true rfl)) dL_setQuota_5 ⟨Nat.le_of_ble_eq_true rfl, Nat.le_of_ble_eq_true rfl⟩) va_S.rf (fun _ _ h => Or.inl h) (fun _ h => Or.inl h) (fun _ _ h => Or.inl h) (fun E9 ce q9 u9 t9 H locs ht _ hu hB _ hkeep hS hce hcv hcl => ?_) (fun r9 w9 t9 H locs ht _ hp hB _ hkeep hS => ?_)
  · have h9 : cH D cO dz A u9 t9.heap := hB.2
    rw [hu, ht] at h9
    have hO1 := oC_kept hO hkeep hob
    obtain ⟨hq0, hEq⟩ := hB.1
    rcases spn_setQuota (S := S) d q with h0 | ⟨k1, k2, hS0⟩
    · exact absurd h0 hq0
    have hs9 : ∃ (g9 : Nat → Int → Nat) (T9 : Nat → Nat × Int), g9 0 0 = g 0 0 ∧ RelC (sp_setQuota S d q).2.2 w g9 T9 (usg (sp_setQuota S d q).2.2) := ⟨g, T, rfl, by rw [hS0]; exact hR⟩
    rcases (show (sp_setQuota S d q).1 = 1 ∨ (sp_setQuota S d q).1 = 2 by omega) with hk | hk
    · skip
      have hE9 : E9 = xIOB := by rw [hEq, hk]; rfl
      subst hE9
      refine vx_catch (name := xIOB) hown [] ⟨0, 10, 13, 13⟩ [⟨0, 10, 17, 15⟩] (by rw [hto]; rfl) (fun z hz => absurd hz List.not_mem_nil) (by decide) (by decide) (hts (.classLink RL 13 xIOB) (by decide +kernel)) (va_Nw.use (xB_tab (.castable xIOB xIOB) (by simp [xB])) (hX.2.2.1 (.castable xIOB xIOB) (by simp [xB]))) hce hcv hcl ?_
      refine lv_astore (lv' := [(4, .ref q9), (0, .ref (g 0 0)), (1, .int (iI d)), (2, .int (iI q)), (3, .ref ob)]) hx hb dL_setQuota_13 hl (by decide) rfl (fun ls hl => ?_)
      refine lv_iconst (v := iI 1) hx hb dL_setQuota_15 rfl ?_
      exact hret 1 (w, f) _ _ _ _ _ _ dL_setQuota_16 h9 hO1 hS (by omega) (by omega) ⟨by rw [hk], hs9, fun z => absurd z hq0⟩
    · skip
      have hE9 : E9 = xIAE := by rw [hEq, hk]; rfl
      subst hE9
      refine vx_catch (name := xIAE) hown [⟨0, 10, 13, 13⟩] ⟨0, 10, 17, 15⟩ [] (by rw [hto]; rfl) (fun z hz => by rw [List.mem_singleton.mp hz]; exact Or.inr ⟨by decide, xIOB, hts (.classLink RL 13 xIOB) (by decide +kernel), hN.1⟩) (by decide) (by decide) (hts (.classLink RL 15 xIAE) (by decide +kernel)) (va_Nw.use (xB_tab (.castable xIAE xIAE) (by simp [xB])) (hX.2.2.1 (.castable xIAE xIAE) (by simp [xB]))) hce hcv hcl ?_
      refine lv_astore (lv' := [(4, .ref q9), (0, .ref (g 0 0)), (1, .int (iI d)), (2, .int (iI q)), (3, .ref ob)]) hx hb dL_setQuota_17 hl (by decide) rfl (fun ls hl => ?_)
      refine lv_iconst (v := iI 2) hx hb dL_setQuota_19 rfl ?_
      exact hret 2 (w, f) _ _ _ _ _ _ dL_setQuota_20 h9 hO1 hS (by omega) (by omega) ⟨by rw [hk], hs9, fun z => absurd z hq0⟩
  · have h9 : cH D cO dz A w9 t9.heap := hB
    rw [ht] at h9
    have hO1 := oC_kept hO hkeep hob
    obtain ⟨hq0, hr9, hrel⟩ := hp
    refine lv_i2l (v := r9.toInt64) hx hb dL_setQuota_8 rfl ?_
    refine l_put (A1 := lFr A ob) hx hb hJ h9 hO1 hob (fun _ h => Or.inl h) (Or.inr rfl) hS dL_setQuota_9 (fun f9 H locs hf9 hC1 hO1 hS => ?_)
    refine lv_goto (tgt := 21) hx hb dL_setQuota_10 (by decide) ?_
    refine lv_iconst (v := iI 0) hx hb dL_setQuota_21 rfl ?_
    exact hret 0 (w9, f9) _ _ _ _ _ _ dL_setQuota_22 hC1 hO1 hS (by omega) (by omega) ⟨by rw [hq0], hrel, fun _ => by show f9 0 = _; rw [hf9, hr9]⟩

set_option maxRecDepth 100000 in
set_option maxHeartbeats 4000000 in
theorem c_L_make (l : Launch) (D : va_G) (cO : ClassId) (dz mi : Nat) {A : Nat → Prop} {S : HdS} {w : CW} {g : Nat → Int → Nat} {T : Nat → Nat × Int} {n : Int} (hw : wf S n) (hR : RelC S w g T (usg S)) (hst : l.stackTraces = false) (cJ : ClassId) (ob : Nat) (f : Nat → Int64) (p d z : Int) (r_p : inQ p) (r_d : inQ d) (r_z : inQ z) : lI l yL_make wsL_make { frames := 8, cells := 9, slots := 3033, locals := 218 } D cO dz mi A w cJ ob f [.ref (g 0 0), .int (iI p), .int (iI d), .int (iI z), .ref ob] (g 0 0) (sp_make S p d z) 9 3033 := by
  refine lI_of (cc := cL_make) (maxL := 6) (hh := [(0, 12, 15, 13), (0, 12, 19, 15), (0, 12, 23, 17)]) (by decide) rfl (Nat.le_of_ble_eq_true rfl) ?_
  intro pp ee ss mm args below meth cc Q hx hb hml hown hts hA hC hE hX hob hO hJ hN hto hret ls hl
  have hl : lv_has ls 6 [(0, .ref (g 0 0)), (1, .int (iI p)), (2, .int (iI d)), (3, .int (iI z)), (4, .ref ob)] := hl
  refine lv_aload hx hb dL_make_0 (lv_at hl 4 rfl) ?_
  refine lv_iconst (v := iI 0) hx hb dL_make_2 rfl ?_
  refine lv_aload_n hx hb dL_make_3 rfl (lv_at hl 0 rfl) ?_
  refine lv_iload_n hx hb dL_make_4 rfl (lv_at hl 1 rfl) ?_
  refine lv_iload_n hx hb dL_make_5 rfl (lv_at hl 2 rfl) ?_
  refine lv_iload_n hx hb dL_make_6 rfl (lv_at hl 3 rfl) ?_
  refine vx_calli (A0 := lFr A ob) (A1 := A) (AX := A) (free := A) (vx_runV (As := [.int (iI p), .int (iI d), .int (iI z)]) (rest := [.int (iI 0), .ref ob]) ⟨hx, hb, hml, hown, hts⟩ (c_make l D cO dz mi hw hR hst p d z r_p r_d r_z) (cwV 3 hts gL_make_X3_make rfl rfl rfl (by decide +kernel) ⟨Nat.le_of_ble_eq_true rfl, Nat.le_of_ble_eq_true rfl⟩) (c_preV hA hE hX hC va_S.rf hR.k0 (by decide) (by decide) rfl) rfl rfl hl.1 rfl (lv_room (Nat.le_of_ble_eq_true rfl)) dL_make_7 ⟨Nat.le_of_ble_eq_true rfl, Nat.le_of_ble_eq_true rfl⟩) va_S.rf (fun _ _ h => Or.inl h) (fun _ h => Or.inl h) (fun _ _ h => Or.inl h) (fun E9 ce q9 u9 t9 H locs ht _ hu hB _ hkeep hS hce hcv hcl => ?_) (fun r9 w9 t9 H locs ht _ hp hB _ hkeep hS => ?_)
  · have h9 : cH D cO dz A u9 t9.heap := hB.2
    rw [hu, ht] at h9
    have hO1 := oC_kept hO hkeep hob
    obtain ⟨hq0, hEq⟩ := hB.1
    rcases spn_make (S := S) p d z with h0 | ⟨k1, k2, hS0⟩
    · exact absurd h0 hq0
    have hs9 : ∃ (g9 : Nat → Int → Nat) (T9 : Nat → Nat × Int), g9 0 0 = g 0 0 ∧ RelC (sp_make S p d z).2.2 w g9 T9 (usg (sp_make S p d z).2.2) := ⟨g, T, rfl, by rw [hS0]; exact hR⟩
    rcases (show (sp_make S p d z).1 = 1 ∨ (sp_make S p d z).1 = 2 ∨ (sp_make S p d z).1 = 3 by omega) with hk | hk | hk
    · skip
      have hE9 : E9 = xIOB := by rw [hEq, hk]; rfl
      subst hE9
      refine vx_catch (name := xIOB) hown [] ⟨0, 12, 15, 13⟩ [⟨0, 12, 19, 15⟩, ⟨0, 12, 23, 17⟩] (by rw [hto]; rfl) (fun z hz => absurd hz List.not_mem_nil) (by decide) (by decide) (hts (.classLink RL 13 xIOB) (by decide +kernel)) (va_Nw.use (xB_tab (.castable xIOB xIOB) (by simp [xB])) (hX.2.2.1 (.castable xIOB xIOB) (by simp [xB]))) hce hcv hcl ?_
      refine lv_astore (lv' := [(5, .ref q9), (0, .ref (g 0 0)), (1, .int (iI p)), (2, .int (iI d)), (3, .int (iI z)), (4, .ref ob)]) hx hb dL_make_15 hl (by decide) rfl (fun ls hl => ?_)
      refine lv_iconst (v := iI 1) hx hb dL_make_17 rfl ?_
      exact hret 1 (w, f) _ _ _ _ _ _ dL_make_18 h9 hO1 hS (by omega) (by omega) ⟨by rw [hk], hs9, fun z => absurd z hq0⟩
    · skip
      have hE9 : E9 = xIAE := by rw [hEq, hk]; rfl
      subst hE9
      refine vx_catch (name := xIAE) hown [⟨0, 12, 15, 13⟩] ⟨0, 12, 19, 15⟩ [⟨0, 12, 23, 17⟩] (by rw [hto]; rfl) (fun z hz => by rw [List.mem_singleton.mp hz]; exact Or.inr ⟨by decide, xIOB, hts (.classLink RL 13 xIOB) (by decide +kernel), hN.1⟩) (by decide) (by decide) (hts (.classLink RL 15 xIAE) (by decide +kernel)) (va_Nw.use (xB_tab (.castable xIAE xIAE) (by simp [xB])) (hX.2.2.1 (.castable xIAE xIAE) (by simp [xB]))) hce hcv hcl ?_
      refine lv_astore (lv' := [(5, .ref q9), (0, .ref (g 0 0)), (1, .int (iI p)), (2, .int (iI d)), (3, .int (iI z)), (4, .ref ob)]) hx hb dL_make_19 hl (by decide) rfl (fun ls hl => ?_)
      refine lv_iconst (v := iI 2) hx hb dL_make_21 rfl ?_
      exact hret 2 (w, f) _ _ _ _ _ _ dL_make_22 h9 hO1 hS (by omega) (by omega) ⟨by rw [hk], hs9, fun z => absurd z hq0⟩
    · skip
      have hE9 : E9 = xISE := by rw [hEq, hk]; rfl
      subst hE9
      refine vx_catch (name := xISE) hown [⟨0, 12, 15, 13⟩, ⟨0, 12, 19, 15⟩] ⟨0, 12, 23, 17⟩ [] (by rw [hto]; rfl) (fun z hz => by rcases List.mem_cons.mp hz with hz | hz; (rw [hz]; exact Or.inr ⟨by decide, xIOB, hts (.classLink RL 13 xIOB) (by decide +kernel), hN.2.1⟩); (rw [List.mem_singleton.mp hz]; exact Or.inr ⟨by decide, xIAE, hts (.classLink RL 15 xIAE) (by decide +kernel), hN.2.2⟩)) (by decide) (by decide) (hts (.classLink RL 17 xISE) (by decide +kernel)) (va_Nw.use (xB_tab (.castable xISE xISE) (by simp [xB])) (hX.2.2.1 (.castable xISE xISE) (by simp [xB]))) hce hcv hcl ?_
      refine lv_astore (lv' := [(5, .ref q9), (0, .ref (g 0 0)), (1, .int (iI p)), (2, .int (iI d)), (3, .int (iI z)), (4, .ref ob)]) hx hb dL_make_23 hl (by decide) rfl (fun ls hl => ?_)
      refine lv_iconst (v := iI 3) hx hb dL_make_25 rfl ?_
      exact hret 3 (w, f) _ _ _ _ _ _ dL_make_26 h9 hO1 hS (by omega) (by omega) ⟨by rw [hk], hs9, fun z => absurd z hq0⟩
  · have h9 : cH D cO dz A w9 t9.heap := hB
    rw [ht] at h9
    have hO1 := oC_kept hO hkeep hob
    obtain ⟨hq0, hr9, hrel⟩ := hp
    refine lv_i2l (v := r9.toInt64) hx hb dL_make_10 rfl ?_
    refine l_put (A1 := lFr A ob) hx hb hJ h9 hO1 hob (fun _ h => Or.inl h) (Or.inr rfl) hS dL_make_11 (fun f9 H locs hf9 hC1 hO1 hS => ?_)
    refine lv_goto (tgt := 27) hx hb dL_make_12 (by decide) ?_
    refine lv_iconst (v := iI 0) hx hb dL_make_27 rfl ?_
    exact hret 0 (w9, f9) _ _ _ _ _ _ dL_make_28 hC1 hO1 hS (by omega) (by omega) ⟨by rw [hq0], hrel, fun _ => by show f9 0 = _; rw [hf9, hr9]⟩

set_option maxRecDepth 100000 in
set_option maxHeartbeats 4000000 in
theorem c_L_link (l : Launch) (D : va_G) (cO : ClassId) (dz mi : Nat) {A : Nat → Prop} {S : HdS} {w : CW} {g : Nat → Int → Nat} {T : Nat → Nat × Int} {n : Int} (hw : wf S n) (hR : RelC S w g T (usg S)) (hst : l.stackTraces = false) (cJ : ClassId) (ob : Nat) (f : Nat → Int64) (i d : Int) (r_i : inQ i) (r_d : inQ d) : lI l yL_link wsL_link { frames := 8, cells := 5, slots := 1024, locals := 215 } D cO dz mi A w cJ ob f [.ref (g 0 0), .int (iI i), .int (iI d), .ref ob] (g 0 0) (sp_link S i d) 5 1024 := by
  refine lI_of (cc := cL_link) (maxL := 5) (hh := [(0, 10, 13, 13), (0, 10, 17, 17)]) (by decide) rfl (Nat.le_of_ble_eq_true rfl) ?_
  intro pp ee ss mm args below meth cc Q hx hb hml hown hts hA hC hE hX hob hO hJ hN hto hret ls hl
  have hl : lv_has ls 5 [(0, .ref (g 0 0)), (1, .int (iI i)), (2, .int (iI d)), (3, .ref ob)] := hl
  refine lv_aload_n hx hb dL_link_0 rfl (lv_at hl 3 rfl) ?_
  refine lv_iconst (v := iI 0) hx hb dL_link_1 rfl ?_
  refine lv_aload_n hx hb dL_link_2 rfl (lv_at hl 0 rfl) ?_
  refine lv_iload_n hx hb dL_link_3 rfl (lv_at hl 1 rfl) ?_
  refine lv_iload_n hx hb dL_link_4 rfl (lv_at hl 2 rfl) ?_
  refine vx_calli (A0 := lFr A ob) (A1 := A) (AX := A) (free := A) (vx_runV (As := [.int (iI i), .int (iI d)]) (rest := [.int (iI 0), .ref ob]) ⟨hx, hb, hml, hown, hts⟩ (c_link l D cO dz mi hw hR hst i d r_i r_d) (cwV 2 hts gL_link_X3_link rfl rfl rfl (by decide +kernel) ⟨Nat.le_of_ble_eq_true rfl, Nat.le_of_ble_eq_true rfl⟩) (c_preV hA hE hX hC va_S.rf hR.k0 (by decide) (by decide) rfl) rfl rfl hl.1 rfl (lv_room (Nat.le_of_ble_eq_true rfl)) dL_link_5 ⟨Nat.le_of_ble_eq_true rfl, Nat.le_of_ble_eq_true rfl⟩) va_S.rf (fun _ _ h => Or.inl h) (fun _ h => Or.inl h) (fun _ _ h => Or.inl h) (fun E9 ce q9 u9 t9 H locs ht _ hu hB _ hkeep hS hce hcv hcl => ?_) (fun r9 w9 t9 H locs ht _ hp hB _ hkeep hS => ?_)
  · have h9 : cH D cO dz A u9 t9.heap := hB.2
    rw [hu, ht] at h9
    have hO1 := oC_kept hO hkeep hob
    obtain ⟨hq0, hEq⟩ := hB.1
    rcases spn_link (S := S) i d with h0 | ⟨k1, k2, hS0⟩
    · exact absurd h0 hq0
    have hs9 : ∃ (g9 : Nat → Int → Nat) (T9 : Nat → Nat × Int), g9 0 0 = g 0 0 ∧ RelC (sp_link S i d).2.2 w g9 T9 (usg (sp_link S i d).2.2) := ⟨g, T, rfl, by rw [hS0]; exact hR⟩
    rcases (show (sp_link S i d).1 = 1 ∨ (sp_link S i d).1 = 2 by omega) with hk | hk
    · skip
      have hE9 : E9 = xIOB := by rw [hEq, hk]; rfl
      subst hE9
      refine vx_catch (name := xIOB) hown [] ⟨0, 10, 13, 13⟩ [⟨0, 10, 17, 17⟩] (by rw [hto]; rfl) (fun z hz => absurd hz List.not_mem_nil) (by decide) (by decide) (hts (.classLink RL 13 xIOB) (by decide +kernel)) (va_Nw.use (xB_tab (.castable xIOB xIOB) (by simp [xB])) (hX.2.2.1 (.castable xIOB xIOB) (by simp [xB]))) hce hcv hcl ?_
      refine lv_astore (lv' := [(4, .ref q9), (0, .ref (g 0 0)), (1, .int (iI i)), (2, .int (iI d)), (3, .ref ob)]) hx hb dL_link_13 hl (by decide) rfl (fun ls hl => ?_)
      refine lv_iconst (v := iI 1) hx hb dL_link_15 rfl ?_
      exact hret 1 (w, f) _ _ _ _ _ _ dL_link_16 h9 hO1 hS (by omega) (by omega) ⟨by rw [hk], hs9, fun z => absurd z hq0⟩
    · skip
      have hE9 : E9 = xISE := by rw [hEq, hk]; rfl
      subst hE9
      refine vx_catch (name := xISE) hown [⟨0, 10, 13, 13⟩] ⟨0, 10, 17, 17⟩ [] (by rw [hto]; rfl) (fun z hz => by rw [List.mem_singleton.mp hz]; exact Or.inr ⟨by decide, xIOB, hts (.classLink RL 13 xIOB) (by decide +kernel), hN.2.1⟩) (by decide) (by decide) (hts (.classLink RL 17 xISE) (by decide +kernel)) (va_Nw.use (xB_tab (.castable xISE xISE) (by simp [xB])) (hX.2.2.1 (.castable xISE xISE) (by simp [xB]))) hce hcv hcl ?_
      refine lv_astore (lv' := [(4, .ref q9), (0, .ref (g 0 0)), (1, .int (iI i)), (2, .int (iI d)), (3, .ref ob)]) hx hb dL_link_17 hl (by decide) rfl (fun ls hl => ?_)
      refine lv_iconst (v := iI 2) hx hb dL_link_19 rfl ?_
      exact hret 2 (w, f) _ _ _ _ _ _ dL_link_20 h9 hO1 hS (by omega) (by omega) ⟨by rw [hk], hs9, fun z => absurd z hq0⟩
  · have h9 : cH D cO dz A w9 t9.heap := hB
    rw [ht] at h9
    have hO1 := oC_kept hO hkeep hob
    obtain ⟨hq0, hr9, hrel⟩ := hp
    refine lv_i2l (v := r9.toInt64) hx hb dL_link_8 rfl ?_
    refine l_put (A1 := lFr A ob) hx hb hJ h9 hO1 hob (fun _ h => Or.inl h) (Or.inr rfl) hS dL_link_9 (fun f9 H locs hf9 hC1 hO1 hS => ?_)
    refine lv_goto (tgt := 21) hx hb dL_link_10 (by decide) ?_
    refine lv_iconst (v := iI 0) hx hb dL_link_21 rfl ?_
    exact hret 0 (w9, f9) _ _ _ _ _ _ dL_link_22 hC1 hO1 hS (by omega) (by omega) ⟨by rw [hq0], hrel, fun _ => by show f9 0 = _; rw [hf9, hr9]⟩

set_option maxRecDepth 100000 in
set_option maxHeartbeats 4000000 in
theorem c_L_unlink (l : Launch) (D : va_G) (cO : ClassId) (dz mi : Nat) {A : Nat → Prop} {S : HdS} {w : CW} {g : Nat → Int → Nat} {T : Nat → Nat × Int} {n : Int} (hw : wf S n) (hR : RelC S w g T (usg S)) (hst : l.stackTraces = false) (cJ : ClassId) (ob : Nat) (f : Nat → Int64) (i d : Int) (r_i : inQ i) (r_d : inQ d) : lI l yL_unlink wsL_unlink { frames := 8, cells := 3, slots := 18, locals := 154 } D cO dz mi A w cJ ob f [.ref (g 0 0), .int (iI i), .int (iI d), .ref ob] (g 0 0) (sp_unlink S i d) 3 18 := by
  refine lI_of (cc := cL_unlink) (maxL := 5) (hh := [(0, 10, 13, 13), (0, 10, 17, 17)]) (by decide) rfl (Nat.le_of_ble_eq_true rfl) ?_
  intro pp ee ss mm args below meth cc Q hx hb hml hown hts hA hC hE hX hob hO hJ hN hto hret ls hl
  have hl : lv_has ls 5 [(0, .ref (g 0 0)), (1, .int (iI i)), (2, .int (iI d)), (3, .ref ob)] := hl
  refine lv_aload_n hx hb dL_unlink_0 rfl (lv_at hl 3 rfl) ?_
  refine lv_iconst (v := iI 0) hx hb dL_unlink_1 rfl ?_
  refine lv_aload_n hx hb dL_unlink_2 rfl (lv_at hl 0 rfl) ?_
  refine lv_iload_n hx hb dL_unlink_3 rfl (lv_at hl 1 rfl) ?_
  refine lv_iload_n hx hb dL_unlink_4 rfl (lv_at hl 2 rfl) ?_
  refine vx_calli (A0 := lFr A ob) (A1 := A) (AX := A) (free := A) (vx_runV (As := [.int (iI i), .int (iI d)]) (rest := [.int (iI 0), .ref ob]) ⟨hx, hb, hml, hown, hts⟩ (c_unlink l D cO dz mi hw hR hst i d r_i r_d) (cwV 2 hts gL_unlink_X3_unlink rfl rfl rfl (by decide +kernel) ⟨Nat.le_of_ble_eq_true rfl, Nat.le_of_ble_eq_true rfl⟩) (c_preV hA hE hX hC va_S.rf hR.k0 (by decide) (by decide) rfl) rfl rfl hl.1 rfl (lv_room (Nat.le_of_ble_eq_true rfl)) dL_unlink_5 ⟨Nat.le_of_ble_eq_true rfl, Nat.le_of_ble_eq_true rfl⟩) va_S.rf (fun _ _ h => Or.inl h) (fun _ h => Or.inl h) (fun _ _ h => Or.inl h) (fun E9 ce q9 u9 t9 H locs ht _ hu hB _ hkeep hS hce hcv hcl => ?_) (fun r9 w9 t9 H locs ht _ hp hB _ hkeep hS => ?_)
  · have h9 : cH D cO dz A u9 t9.heap := hB.2
    rw [hu, ht] at h9
    have hO1 := oC_kept hO hkeep hob
    obtain ⟨hq0, hEq⟩ := hB.1
    rcases spn_unlink (S := S) i d with h0 | ⟨k1, k2, hS0⟩
    · exact absurd h0 hq0
    have hs9 : ∃ (g9 : Nat → Int → Nat) (T9 : Nat → Nat × Int), g9 0 0 = g 0 0 ∧ RelC (sp_unlink S i d).2.2 w g9 T9 (usg (sp_unlink S i d).2.2) := ⟨g, T, rfl, by rw [hS0]; exact hR⟩
    rcases (show (sp_unlink S i d).1 = 1 ∨ (sp_unlink S i d).1 = 2 by omega) with hk | hk
    · skip
      have hE9 : E9 = xIOB := by rw [hEq, hk]; rfl
      subst hE9
      refine vx_catch (name := xIOB) hown [] ⟨0, 10, 13, 13⟩ [⟨0, 10, 17, 17⟩] (by rw [hto]; rfl) (fun z hz => absurd hz List.not_mem_nil) (by decide) (by decide) (hts (.classLink RL 13 xIOB) (by decide +kernel)) (va_Nw.use (xB_tab (.castable xIOB xIOB) (by simp [xB])) (hX.2.2.1 (.castable xIOB xIOB) (by simp [xB]))) hce hcv hcl ?_
      refine lv_astore (lv' := [(4, .ref q9), (0, .ref (g 0 0)), (1, .int (iI i)), (2, .int (iI d)), (3, .ref ob)]) hx hb dL_unlink_13 hl (by decide) rfl (fun ls hl => ?_)
      refine lv_iconst (v := iI 1) hx hb dL_unlink_15 rfl ?_
      exact hret 1 (w, f) _ _ _ _ _ _ dL_unlink_16 h9 hO1 hS (by omega) (by omega) ⟨by rw [hk], hs9, fun z => absurd z hq0⟩
    · skip
      have hE9 : E9 = xISE := by rw [hEq, hk]; rfl
      subst hE9
      refine vx_catch (name := xISE) hown [⟨0, 10, 13, 13⟩] ⟨0, 10, 17, 17⟩ [] (by rw [hto]; rfl) (fun z hz => by rw [List.mem_singleton.mp hz]; exact Or.inr ⟨by decide, xIOB, hts (.classLink RL 13 xIOB) (by decide +kernel), hN.2.1⟩) (by decide) (by decide) (hts (.classLink RL 17 xISE) (by decide +kernel)) (va_Nw.use (xB_tab (.castable xISE xISE) (by simp [xB])) (hX.2.2.1 (.castable xISE xISE) (by simp [xB]))) hce hcv hcl ?_
      refine lv_astore (lv' := [(4, .ref q9), (0, .ref (g 0 0)), (1, .int (iI i)), (2, .int (iI d)), (3, .ref ob)]) hx hb dL_unlink_17 hl (by decide) rfl (fun ls hl => ?_)
      refine lv_iconst (v := iI 2) hx hb dL_unlink_19 rfl ?_
      exact hret 2 (w, f) _ _ _ _ _ _ dL_unlink_20 h9 hO1 hS (by omega) (by omega) ⟨by rw [hk], hs9, fun z => absurd z hq0⟩
  · have h9 : cH D cO dz A w9 t9.heap := hB
    rw [ht] at h9
    have hO1 := oC_kept hO hkeep hob
    obtain ⟨hq0, hr9, hrel⟩ := hp
    refine lv_i2l (v := r9.toInt64) hx hb dL_unlink_8 rfl ?_
    refine l_put (A1 := lFr A ob) hx hb hJ h9 hO1 hob (fun _ h => Or.inl h) (Or.inr rfl) hS dL_unlink_9 (fun f9 H locs hf9 hC1 hO1 hS => ?_)
    refine lv_goto (tgt := 21) hx hb dL_unlink_10 (by decide) ?_
    refine lv_iconst (v := iI 0) hx hb dL_unlink_21 rfl ?_
    exact hret 0 (w9, f9) _ _ _ _ _ _ dL_unlink_22 hC1 hO1 hS (by omega) (by omega) ⟨by rw [hq0], hrel, fun _ => by show f9 0 = _; rw [hf9, hr9]⟩

set_option maxRecDepth 100000 in
set_option maxHeartbeats 4000000 in
theorem c_L_write (l : Launch) (D : va_G) (cO : ClassId) (dz mi : Nat) {A : Nat → Prop} {S : HdS} {w : CW} {g : Nat → Int → Nat} {T : Nat → Nat × Int} {n : Int} (hw : wf S n) (hR : RelC S w g T (usg S)) (hst : l.stackTraces = false) (cJ : ClassId) (ob : Nat) (f : Nat → Int64) (i z : Int) (r_i : inQ i) (r_z : inQ z) : lI l yL_write wsL_write { frames := 8, cells := 4, slots := 24, locals := 137 } D cO dz mi A w cJ ob f [.ref (g 0 0), .int (iI i), .int (iI z), .ref ob] (g 0 0) (sp_write S i z) 4 24 := by
  refine lI_of (cc := cL_write) (maxL := 5) (hh := [(0, 10, 13, 13), (0, 10, 17, 15), (0, 10, 21, 17)]) (by decide) rfl (Nat.le_of_ble_eq_true rfl) ?_
  intro pp ee ss mm args below meth cc Q hx hb hml hown hts hA hC hE hX hob hO hJ hN hto hret ls hl
  have hl : lv_has ls 5 [(0, .ref (g 0 0)), (1, .int (iI i)), (2, .int (iI z)), (3, .ref ob)] := hl
  refine lv_aload_n hx hb dL_write_0 rfl (lv_at hl 3 rfl) ?_
  refine lv_iconst (v := iI 0) hx hb dL_write_1 rfl ?_
  refine lv_aload_n hx hb dL_write_2 rfl (lv_at hl 0 rfl) ?_
  refine lv_iload_n hx hb dL_write_3 rfl (lv_at hl 1 rfl) ?_
  refine lv_iload_n hx hb dL_write_4 rfl (lv_at hl 2 rfl) ?_
  refine vx_calli (A0 := lFr A ob) (A1 := A) (AX := A) (free := A) (vx_runV (As := [.int (iI i), .int (iI z)]) (rest := [.int (iI 0), .ref ob]) ⟨hx, hb, hml, hown, hts⟩ (c_write l D cO dz mi hw hR hst i z r_i r_z) (cwV 2 hts gL_write_X3_write rfl rfl rfl (by decide +kernel) ⟨Nat.le_of_ble_eq_true rfl, Nat.le_of_ble_eq_true rfl⟩) (c_preV hA hE hX hC va_S.rf hR.k0 (by decide) (by decide) rfl) rfl rfl hl.1 rfl (lv_room (Nat.le_of_ble_eq_true rfl)) dL_write_5 ⟨Nat.le_of_ble_eq_true rfl, Nat.le_of_ble_eq_true rfl⟩) va_S.rf (fun _ _ h => Or.inl h) (fun _ h => Or.inl h) (fun _ _ h => Or.inl h) (fun E9 ce q9 u9 t9 H locs ht _ hu hB _ hkeep hS hce hcv hcl => ?_) (fun r9 w9 t9 H locs ht _ hp hB _ hkeep hS => ?_)
  · have h9 : cH D cO dz A u9 t9.heap := hB.2
    rw [hu, ht] at h9
    have hO1 := oC_kept hO hkeep hob
    obtain ⟨hq0, hEq⟩ := hB.1
    rcases spn_write (S := S) i z with h0 | ⟨k1, k2, hS0⟩
    · exact absurd h0 hq0
    have hs9 : ∃ (g9 : Nat → Int → Nat) (T9 : Nat → Nat × Int), g9 0 0 = g 0 0 ∧ RelC (sp_write S i z).2.2 w g9 T9 (usg (sp_write S i z).2.2) := ⟨g, T, rfl, by rw [hS0]; exact hR⟩
    rcases (show (sp_write S i z).1 = 1 ∨ (sp_write S i z).1 = 2 ∨ (sp_write S i z).1 = 3 by omega) with hk | hk | hk
    · skip
      have hE9 : E9 = xIOB := by rw [hEq, hk]; rfl
      subst hE9
      refine vx_catch (name := xIOB) hown [] ⟨0, 10, 13, 13⟩ [⟨0, 10, 17, 15⟩, ⟨0, 10, 21, 17⟩] (by rw [hto]; rfl) (fun z hz => absurd hz List.not_mem_nil) (by decide) (by decide) (hts (.classLink RL 13 xIOB) (by decide +kernel)) (va_Nw.use (xB_tab (.castable xIOB xIOB) (by simp [xB])) (hX.2.2.1 (.castable xIOB xIOB) (by simp [xB]))) hce hcv hcl ?_
      refine lv_astore (lv' := [(4, .ref q9), (0, .ref (g 0 0)), (1, .int (iI i)), (2, .int (iI z)), (3, .ref ob)]) hx hb dL_write_13 hl (by decide) rfl (fun ls hl => ?_)
      refine lv_iconst (v := iI 1) hx hb dL_write_15 rfl ?_
      exact hret 1 (w, f) _ _ _ _ _ _ dL_write_16 h9 hO1 hS (by omega) (by omega) ⟨by rw [hk], hs9, fun z => absurd z hq0⟩
    · skip
      have hE9 : E9 = xIAE := by rw [hEq, hk]; rfl
      subst hE9
      refine vx_catch (name := xIAE) hown [⟨0, 10, 13, 13⟩] ⟨0, 10, 17, 15⟩ [⟨0, 10, 21, 17⟩] (by rw [hto]; rfl) (fun z hz => by rw [List.mem_singleton.mp hz]; exact Or.inr ⟨by decide, xIOB, hts (.classLink RL 13 xIOB) (by decide +kernel), hN.1⟩) (by decide) (by decide) (hts (.classLink RL 15 xIAE) (by decide +kernel)) (va_Nw.use (xB_tab (.castable xIAE xIAE) (by simp [xB])) (hX.2.2.1 (.castable xIAE xIAE) (by simp [xB]))) hce hcv hcl ?_
      refine lv_astore (lv' := [(4, .ref q9), (0, .ref (g 0 0)), (1, .int (iI i)), (2, .int (iI z)), (3, .ref ob)]) hx hb dL_write_17 hl (by decide) rfl (fun ls hl => ?_)
      refine lv_iconst (v := iI 2) hx hb dL_write_19 rfl ?_
      exact hret 2 (w, f) _ _ _ _ _ _ dL_write_20 h9 hO1 hS (by omega) (by omega) ⟨by rw [hk], hs9, fun z => absurd z hq0⟩
    · skip
      have hE9 : E9 = xISE := by rw [hEq, hk]; rfl
      subst hE9
      refine vx_catch (name := xISE) hown [⟨0, 10, 13, 13⟩, ⟨0, 10, 17, 15⟩] ⟨0, 10, 21, 17⟩ [] (by rw [hto]; rfl) (fun z hz => by rcases List.mem_cons.mp hz with hz | hz; (rw [hz]; exact Or.inr ⟨by decide, xIOB, hts (.classLink RL 13 xIOB) (by decide +kernel), hN.2.1⟩); (rw [List.mem_singleton.mp hz]; exact Or.inr ⟨by decide, xIAE, hts (.classLink RL 15 xIAE) (by decide +kernel), hN.2.2⟩)) (by decide) (by decide) (hts (.classLink RL 17 xISE) (by decide +kernel)) (va_Nw.use (xB_tab (.castable xISE xISE) (by simp [xB])) (hX.2.2.1 (.castable xISE xISE) (by simp [xB]))) hce hcv hcl ?_
      refine lv_astore (lv' := [(4, .ref q9), (0, .ref (g 0 0)), (1, .int (iI i)), (2, .int (iI z)), (3, .ref ob)]) hx hb dL_write_21 hl (by decide) rfl (fun ls hl => ?_)
      refine lv_iconst (v := iI 3) hx hb dL_write_23 rfl ?_
      exact hret 3 (w, f) _ _ _ _ _ _ dL_write_24 h9 hO1 hS (by omega) (by omega) ⟨by rw [hk], hs9, fun z => absurd z hq0⟩
  · have h9 : cH D cO dz A w9 t9.heap := hB
    rw [ht] at h9
    have hO1 := oC_kept hO hkeep hob
    obtain ⟨hq0, hr9, hrel⟩ := hp
    refine lv_i2l (v := r9.toInt64) hx hb dL_write_8 rfl ?_
    refine l_put (A1 := lFr A ob) hx hb hJ h9 hO1 hob (fun _ h => Or.inl h) (Or.inr rfl) hS dL_write_9 (fun f9 H locs hf9 hC1 hO1 hS => ?_)
    refine lv_goto (tgt := 25) hx hb dL_write_10 (by decide) ?_
    refine lv_iconst (v := iI 0) hx hb dL_write_25 rfl ?_
    exact hret 0 (w9, f9) _ _ _ _ _ _ dL_write_26 hC1 hO1 hS (by omega) (by omega) ⟨by rw [hq0], hrel, fun _ => by show f9 0 = _; rw [hf9, hr9]⟩

set_option maxRecDepth 100000 in
set_option maxHeartbeats 4000000 in
theorem c_L_read (l : Launch) (D : va_G) (cO : ClassId) (dz mi : Nat) {A : Nat → Prop} {S : HdS} {w : CW} {g : Nat → Int → Nat} {T : Nat → Nat × Int} {n : Int} (hw : wf S n) (hR : RelC S w g T (usg S)) (hst : l.stackTraces = false) (cJ : ClassId) (ob : Nat) (f : Nat → Int64) (i : Int) (r_i : inQ i) : lI l yL_read wsL_read { frames := 8, cells := 3, slots := 18, locals := 134 } D cO dz mi A w cJ ob f [.ref (g 0 0), .int (iI i), .ref ob] (g 0 0) (sp_read S i) 3 18 := by
  refine lI_of (cc := cL_read) (maxL := 4) (hh := [(0, 9, 12, 13), (0, 9, 15, 17)]) (by decide) rfl (Nat.le_of_ble_eq_true rfl) ?_
  intro pp ee ss mm args below meth cc Q hx hb hml hown hts hA hC hE hX hob hO hJ hN hto hret ls hl
  have hl : lv_has ls 4 [(0, .ref (g 0 0)), (1, .int (iI i)), (2, .ref ob)] := hl
  refine lv_aload_n hx hb dL_read_0 rfl (lv_at hl 2 rfl) ?_
  refine lv_iconst (v := iI 0) hx hb dL_read_1 rfl ?_
  refine lv_aload_n hx hb dL_read_2 rfl (lv_at hl 0 rfl) ?_
  refine lv_iload_n hx hb dL_read_3 rfl (lv_at hl 1 rfl) ?_
  refine vx_calli (A0 := lFr A ob) (A1 := A) (AX := A) (free := A) (vx_runV (As := [.int (iI i)]) (rest := [.int (iI 0), .ref ob]) ⟨hx, hb, hml, hown, hts⟩ (c_read l D cO dz mi hw hR hst i r_i) (cwV 1 hts gL_read_X3_read rfl rfl rfl (by decide +kernel) ⟨Nat.le_of_ble_eq_true rfl, Nat.le_of_ble_eq_true rfl⟩) (c_preV hA hE hX hC va_S.rf hR.k0 (by decide) (by decide) rfl) rfl rfl hl.1 rfl (lv_room (Nat.le_of_ble_eq_true rfl)) dL_read_4 ⟨Nat.le_of_ble_eq_true rfl, Nat.le_of_ble_eq_true rfl⟩) va_S.rf (fun _ _ h => Or.inl h) (fun _ h => Or.inl h) (fun _ _ h => Or.inl h) (fun E9 ce q9 u9 t9 H locs ht _ hu hB _ hkeep hS hce hcv hcl => ?_) (fun r9 w9 t9 H locs ht _ hp hB _ hkeep hS => ?_)
  · have h9 : cH D cO dz A u9 t9.heap := hB.2
    rw [hu, ht] at h9
    have hO1 := oC_kept hO hkeep hob
    obtain ⟨hq0, hEq⟩ := hB.1
    rcases spn_read (S := S) i with h0 | ⟨k1, k2, hS0⟩
    · exact absurd h0 hq0
    have hs9 : ∃ (g9 : Nat → Int → Nat) (T9 : Nat → Nat × Int), g9 0 0 = g 0 0 ∧ RelC (sp_read S i).2.2 w g9 T9 (usg (sp_read S i).2.2) := ⟨g, T, rfl, by rw [hS0]; exact hR⟩
    rcases (show (sp_read S i).1 = 1 ∨ (sp_read S i).1 = 2 by omega) with hk | hk
    · skip
      have hE9 : E9 = xIOB := by rw [hEq, hk]; rfl
      subst hE9
      refine vx_catch (name := xIOB) hown [] ⟨0, 9, 12, 13⟩ [⟨0, 9, 15, 17⟩] (by rw [hto]; rfl) (fun z hz => absurd hz List.not_mem_nil) (by decide) (by decide) (hts (.classLink RL 13 xIOB) (by decide +kernel)) (va_Nw.use (xB_tab (.castable xIOB xIOB) (by simp [xB])) (hX.2.2.1 (.castable xIOB xIOB) (by simp [xB]))) hce hcv hcl ?_
      refine lv_astore_n (lv' := [(3, .ref q9), (0, .ref (g 0 0)), (1, .int (iI i)), (2, .ref ob)]) hx hb dL_read_12 rfl hl (by decide) rfl (fun ls hl => ?_)
      refine lv_iconst (v := iI 1) hx hb dL_read_13 rfl ?_
      exact hret 1 (w, f) _ _ _ _ _ _ dL_read_14 h9 hO1 hS (by omega) (by omega) ⟨by rw [hk], hs9, fun z => absurd z hq0⟩
    · skip
      have hE9 : E9 = xISE := by rw [hEq, hk]; rfl
      subst hE9
      refine vx_catch (name := xISE) hown [⟨0, 9, 12, 13⟩] ⟨0, 9, 15, 17⟩ [] (by rw [hto]; rfl) (fun z hz => by rw [List.mem_singleton.mp hz]; exact Or.inr ⟨by decide, xIOB, hts (.classLink RL 13 xIOB) (by decide +kernel), hN.2.1⟩) (by decide) (by decide) (hts (.classLink RL 17 xISE) (by decide +kernel)) (va_Nw.use (xB_tab (.castable xISE xISE) (by simp [xB])) (hX.2.2.1 (.castable xISE xISE) (by simp [xB]))) hce hcv hcl ?_
      refine lv_astore_n (lv' := [(3, .ref q9), (0, .ref (g 0 0)), (1, .int (iI i)), (2, .ref ob)]) hx hb dL_read_15 rfl hl (by decide) rfl (fun ls hl => ?_)
      refine lv_iconst (v := iI 2) hx hb dL_read_16 rfl ?_
      exact hret 2 (w, f) _ _ _ _ _ _ dL_read_17 h9 hO1 hS (by omega) (by omega) ⟨by rw [hk], hs9, fun z => absurd z hq0⟩
  · have h9 : cH D cO dz A w9 t9.heap := hB
    rw [ht] at h9
    have hO1 := oC_kept hO hkeep hob
    obtain ⟨hq0, hr9, hrel⟩ := hp
    refine lv_i2l (v := r9.toInt64) hx hb dL_read_7 rfl ?_
    refine l_put (A1 := lFr A ob) hx hb hJ h9 hO1 hob (fun _ h => Or.inl h) (Or.inr rfl) hS dL_read_8 (fun f9 H locs hf9 hC1 hO1 hS => ?_)
    refine lv_goto (tgt := 18) hx hb dL_read_9 (by decide) ?_
    refine lv_iconst (v := iI 0) hx hb dL_read_18 rfl ?_
    exact hret 0 (w9, f9) _ _ _ _ _ _ dL_read_19 hC1 hO1 hS (by omega) (by omega) ⟨by rw [hq0], hrel, fun _ => by show f9 0 = _; rw [hf9, hr9]⟩

set_option maxRecDepth 100000 in
set_option maxHeartbeats 4000000 in
theorem c_L_hold (l : Launch) (D : va_G) (cO : ClassId) (dz mi : Nat) {A : Nat → Prop} {S : HdS} {w : CW} {g : Nat → Int → Nat} {T : Nat → Nat × Int} {n : Int} (hw : wf S n) (hR : RelC S w g T (usg S)) (hst : l.stackTraces = false) (cJ : ClassId) (ob : Nat) (f : Nat → Int64) (m i : Int) (r_m : inQ m) (r_i : inQ i) : lI l yL_hold wsL_hold { frames := 8, cells := 3, slots := 18, locals := 135 } D cO dz mi A w cJ ob f [.ref (g 0 0), .int (iI m), .int (iI i), .ref ob] (g 0 0) (sp_hold S m i) 3 18 := by
  refine lI_of (cc := cL_hold) (maxL := 5) (hh := [(0, 10, 13, 13), (0, 10, 17, 17)]) (by decide) rfl (Nat.le_of_ble_eq_true rfl) ?_
  intro pp ee ss mm args below meth cc Q hx hb hml hown hts hA hC hE hX hob hO hJ hN hto hret ls hl
  have hl : lv_has ls 5 [(0, .ref (g 0 0)), (1, .int (iI m)), (2, .int (iI i)), (3, .ref ob)] := hl
  refine lv_aload_n hx hb dL_hold_0 rfl (lv_at hl 3 rfl) ?_
  refine lv_iconst (v := iI 0) hx hb dL_hold_1 rfl ?_
  refine lv_aload_n hx hb dL_hold_2 rfl (lv_at hl 0 rfl) ?_
  refine lv_iload_n hx hb dL_hold_3 rfl (lv_at hl 1 rfl) ?_
  refine lv_iload_n hx hb dL_hold_4 rfl (lv_at hl 2 rfl) ?_
  refine vx_calli (A0 := lFr A ob) (A1 := A) (AX := A) (free := A) (vx_runV (As := [.int (iI m), .int (iI i)]) (rest := [.int (iI 0), .ref ob]) ⟨hx, hb, hml, hown, hts⟩ (c_hold l D cO dz mi hw hR hst m i r_m r_i) (cwV 2 hts gL_hold_X3_hold rfl rfl rfl (by decide +kernel) ⟨Nat.le_of_ble_eq_true rfl, Nat.le_of_ble_eq_true rfl⟩) (c_preV hA hE hX hC va_S.rf hR.k0 (by decide) (by decide) rfl) rfl rfl hl.1 rfl (lv_room (Nat.le_of_ble_eq_true rfl)) dL_hold_5 ⟨Nat.le_of_ble_eq_true rfl, Nat.le_of_ble_eq_true rfl⟩) va_S.rf (fun _ _ h => Or.inl h) (fun _ h => Or.inl h) (fun _ _ h => Or.inl h) (fun E9 ce q9 u9 t9 H locs ht _ hu hB _ hkeep hS hce hcv hcl => ?_) (fun r9 w9 t9 H locs ht _ hp hB _ hkeep hS => ?_)
  · have h9 : cH D cO dz A u9 t9.heap := hB.2
    rw [hu, ht] at h9
    have hO1 := oC_kept hO hkeep hob
    obtain ⟨hq0, hEq⟩ := hB.1
    rcases spn_hold (S := S) m i with h0 | ⟨k1, k2, hS0⟩
    · exact absurd h0 hq0
    have hs9 : ∃ (g9 : Nat → Int → Nat) (T9 : Nat → Nat × Int), g9 0 0 = g 0 0 ∧ RelC (sp_hold S m i).2.2 w g9 T9 (usg (sp_hold S m i).2.2) := ⟨g, T, rfl, by rw [hS0]; exact hR⟩
    rcases (show (sp_hold S m i).1 = 1 ∨ (sp_hold S m i).1 = 2 by omega) with hk | hk
    · skip
      have hE9 : E9 = xIOB := by rw [hEq, hk]; rfl
      subst hE9
      refine vx_catch (name := xIOB) hown [] ⟨0, 10, 13, 13⟩ [⟨0, 10, 17, 17⟩] (by rw [hto]; rfl) (fun z hz => absurd hz List.not_mem_nil) (by decide) (by decide) (hts (.classLink RL 13 xIOB) (by decide +kernel)) (va_Nw.use (xB_tab (.castable xIOB xIOB) (by simp [xB])) (hX.2.2.1 (.castable xIOB xIOB) (by simp [xB]))) hce hcv hcl ?_
      refine lv_astore (lv' := [(4, .ref q9), (0, .ref (g 0 0)), (1, .int (iI m)), (2, .int (iI i)), (3, .ref ob)]) hx hb dL_hold_13 hl (by decide) rfl (fun ls hl => ?_)
      refine lv_iconst (v := iI 1) hx hb dL_hold_15 rfl ?_
      exact hret 1 (w, f) _ _ _ _ _ _ dL_hold_16 h9 hO1 hS (by omega) (by omega) ⟨by rw [hk], hs9, fun z => absurd z hq0⟩
    · skip
      have hE9 : E9 = xISE := by rw [hEq, hk]; rfl
      subst hE9
      refine vx_catch (name := xISE) hown [⟨0, 10, 13, 13⟩] ⟨0, 10, 17, 17⟩ [] (by rw [hto]; rfl) (fun z hz => by rw [List.mem_singleton.mp hz]; exact Or.inr ⟨by decide, xIOB, hts (.classLink RL 13 xIOB) (by decide +kernel), hN.2.1⟩) (by decide) (by decide) (hts (.classLink RL 17 xISE) (by decide +kernel)) (va_Nw.use (xB_tab (.castable xISE xISE) (by simp [xB])) (hX.2.2.1 (.castable xISE xISE) (by simp [xB]))) hce hcv hcl ?_
      refine lv_astore (lv' := [(4, .ref q9), (0, .ref (g 0 0)), (1, .int (iI m)), (2, .int (iI i)), (3, .ref ob)]) hx hb dL_hold_17 hl (by decide) rfl (fun ls hl => ?_)
      refine lv_iconst (v := iI 2) hx hb dL_hold_19 rfl ?_
      exact hret 2 (w, f) _ _ _ _ _ _ dL_hold_20 h9 hO1 hS (by omega) (by omega) ⟨by rw [hk], hs9, fun z => absurd z hq0⟩
  · have h9 : cH D cO dz A w9 t9.heap := hB
    rw [ht] at h9
    have hO1 := oC_kept hO hkeep hob
    obtain ⟨hq0, hr9, hrel⟩ := hp
    refine lv_i2l (v := r9.toInt64) hx hb dL_hold_8 rfl ?_
    refine l_put (A1 := lFr A ob) hx hb hJ h9 hO1 hob (fun _ h => Or.inl h) (Or.inr rfl) hS dL_hold_9 (fun f9 H locs hf9 hC1 hO1 hS => ?_)
    refine lv_goto (tgt := 21) hx hb dL_hold_10 (by decide) ?_
    refine lv_iconst (v := iI 0) hx hb dL_hold_21 rfl ?_
    exact hret 0 (w9, f9) _ _ _ _ _ _ dL_hold_22 hC1 hO1 hS (by omega) (by omega) ⟨by rw [hq0], hrel, fun _ => by show f9 0 = _; rw [hf9, hr9]⟩

set_option maxRecDepth 100000 in
set_option maxHeartbeats 4000000 in
theorem c_L_release (l : Launch) (D : va_G) (cO : ClassId) (dz mi : Nat) {A : Nat → Prop} {S : HdS} {w : CW} {g : Nat → Int → Nat} {T : Nat → Nat × Int} {n : Int} (hw : wf S n) (hR : RelC S w g T (usg S)) (hst : l.stackTraces = false) (cJ : ClassId) (ob : Nat) (f : Nat → Int64) (m : Int) (r_m : inQ m) : lI l yL_release wsL_release { frames := 8, cells := 1, slots := 6, locals := 134 } D cO dz mi A w cJ ob f [.ref (g 0 0), .int (iI m), .ref ob] (g 0 0) (sp_release S m) 1 6 := by
  refine lI_of (cc := cL_release) (maxL := 4) (hh := [(0, 9, 12, 13)]) (by decide) rfl (Nat.le_of_ble_eq_true rfl) ?_
  intro pp ee ss mm args below meth cc Q hx hb hml hown hts hA hC hE hX hob hO hJ hN hto hret ls hl
  have hl : lv_has ls 4 [(0, .ref (g 0 0)), (1, .int (iI m)), (2, .ref ob)] := hl
  refine lv_aload_n hx hb dL_release_0 rfl (lv_at hl 2 rfl) ?_
  refine lv_iconst (v := iI 0) hx hb dL_release_1 rfl ?_
  refine lv_aload_n hx hb dL_release_2 rfl (lv_at hl 0 rfl) ?_
  refine lv_iload_n hx hb dL_release_3 rfl (lv_at hl 1 rfl) ?_
  refine vx_calli (A0 := lFr A ob) (A1 := A) (AX := A) (free := A) (vx_runV (As := [.int (iI m)]) (rest := [.int (iI 0), .ref ob]) ⟨hx, hb, hml, hown, hts⟩ (c_release l D cO dz mi hw hR hst m r_m) (cwV 1 hts gL_release_X3_release rfl rfl rfl (by decide +kernel) ⟨Nat.le_of_ble_eq_true rfl, Nat.le_of_ble_eq_true rfl⟩) (c_preV hA hE hX hC va_S.rf hR.k0 (by decide) (by decide) rfl) rfl rfl hl.1 rfl (lv_room (Nat.le_of_ble_eq_true rfl)) dL_release_4 ⟨Nat.le_of_ble_eq_true rfl, Nat.le_of_ble_eq_true rfl⟩) va_S.rf (fun _ _ h => Or.inl h) (fun _ h => Or.inl h) (fun _ _ h => Or.inl h) (fun E9 ce q9 u9 t9 H locs ht _ hu hB _ hkeep hS hce hcv hcl => ?_) (fun r9 w9 t9 H locs ht _ hp hB _ hkeep hS => ?_)
  · have h9 : cH D cO dz A u9 t9.heap := hB.2
    rw [hu, ht] at h9
    have hO1 := oC_kept hO hkeep hob
    obtain ⟨hq0, hEq⟩ := hB.1
    rcases spn_release (S := S) m with h0 | ⟨k1, k2, hS0⟩
    · exact absurd h0 hq0
    have hs9 : ∃ (g9 : Nat → Int → Nat) (T9 : Nat → Nat × Int), g9 0 0 = g 0 0 ∧ RelC (sp_release S m).2.2 w g9 T9 (usg (sp_release S m).2.2) := ⟨g, T, rfl, by rw [hS0]; exact hR⟩
    have hk : (sp_release S m).1 = 1 := by omega
    have hE9 : E9 = xIOB := by rw [hEq, hk]; rfl
    subst hE9
    refine vx_catch (name := xIOB) hown [] ⟨0, 9, 12, 13⟩ [] (by rw [hto]; rfl) (fun z hz => absurd hz List.not_mem_nil) (by decide) (by decide) (hts (.classLink RL 13 xIOB) (by decide +kernel)) (va_Nw.use (xB_tab (.castable xIOB xIOB) (by simp [xB])) (hX.2.2.1 (.castable xIOB xIOB) (by simp [xB]))) hce hcv hcl ?_
    refine lv_astore_n (lv' := [(3, .ref q9), (0, .ref (g 0 0)), (1, .int (iI m)), (2, .ref ob)]) hx hb dL_release_12 rfl hl (by decide) rfl (fun ls hl => ?_)
    refine lv_iconst (v := iI 1) hx hb dL_release_13 rfl ?_
    exact hret 1 (w, f) _ _ _ _ _ _ dL_release_14 h9 hO1 hS (by omega) (by omega) ⟨by rw [hk], hs9, fun z => absurd z hq0⟩
  · have h9 : cH D cO dz A w9 t9.heap := hB
    rw [ht] at h9
    have hO1 := oC_kept hO hkeep hob
    obtain ⟨hq0, hr9, hrel⟩ := hp
    refine lv_i2l (v := r9.toInt64) hx hb dL_release_7 rfl ?_
    refine l_put (A1 := lFr A ob) hx hb hJ h9 hO1 hob (fun _ h => Or.inl h) (Or.inr rfl) hS dL_release_8 (fun f9 H locs hf9 hC1 hO1 hS => ?_)
    refine lv_goto (tgt := 15) hx hb dL_release_9 (by decide) ?_
    refine lv_iconst (v := iI 0) hx hb dL_release_15 rfl ?_
    exact hret 0 (w9, f9) _ _ _ _ _ _ dL_release_16 hC1 hO1 hS (by omega) (by omega) ⟨by rw [hq0], hrel, fun _ => by show f9 0 = _; rw [hf9, hr9]⟩

set_option maxRecDepth 100000 in
set_option maxHeartbeats 4000000 in
theorem c_L_fund (l : Launch) (D : va_G) (cO : ClassId) (dz mi : Nat) {A : Nat → Prop} {S : HdS} {w : CW} {g : Nat → Int → Nat} {T : Nat → Nat × Int} {n : Int} (hw : wf S n) (hR : RelC S w g T (usg S)) (hst : l.stackTraces = false) (cJ : ClassId) (ob : Nat) (f : Nat → Int64) (p c : Int) (r_p : inQ p) (r_c : inQ c) : lI l yL_fund wsL_fund { frames := 8, cells := 3, slots := 18, locals := 135 } D cO dz mi A w cJ ob f [.ref (g 0 0), .int (iI p), .int (iI c), .ref ob] (g 0 0) (sp_fund S p c) 3 18 := by
  refine lI_of (cc := cL_fund) (maxL := 5) (hh := [(0, 10, 13, 13), (0, 10, 17, 15), (0, 10, 21, 17)]) (by decide) rfl (Nat.le_of_ble_eq_true rfl) ?_
  intro pp ee ss mm args below meth cc Q hx hb hml hown hts hA hC hE hX hob hO hJ hN hto hret ls hl
  have hl : lv_has ls 5 [(0, .ref (g 0 0)), (1, .int (iI p)), (2, .int (iI c)), (3, .ref ob)] := hl
  refine lv_aload_n hx hb dL_fund_0 rfl (lv_at hl 3 rfl) ?_
  refine lv_iconst (v := iI 0) hx hb dL_fund_1 rfl ?_
  refine lv_aload_n hx hb dL_fund_2 rfl (lv_at hl 0 rfl) ?_
  refine lv_iload_n hx hb dL_fund_3 rfl (lv_at hl 1 rfl) ?_
  refine lv_iload_n hx hb dL_fund_4 rfl (lv_at hl 2 rfl) ?_
  refine vx_calli (A0 := lFr A ob) (A1 := A) (AX := A) (free := A) (vx_runV (As := [.int (iI p), .int (iI c)]) (rest := [.int (iI 0), .ref ob]) ⟨hx, hb, hml, hown, hts⟩ (c_fund l D cO dz mi hw hR hst p c r_p r_c) (cwV 2 hts gL_fund_X3_fund rfl rfl rfl (by decide +kernel) ⟨Nat.le_of_ble_eq_true rfl, Nat.le_of_ble_eq_true rfl⟩) (c_preV hA hE hX hC va_S.rf hR.k0 (by decide) (by decide) rfl) rfl rfl hl.1 rfl (lv_room (Nat.le_of_ble_eq_true rfl)) dL_fund_5 ⟨Nat.le_of_ble_eq_true rfl, Nat.le_of_ble_eq_true rfl⟩) va_S.rf (fun _ _ h => Or.inl h) (fun _ h => Or.inl h) (fun _ _ h => Or.inl h) (fun E9 ce q9 u9 t9 H locs ht _ hu hB _ hkeep hS hce hcv hcl => ?_) (fun r9 w9 t9 H locs ht _ hp hB _ hkeep hS => ?_)
  · have h9 : cH D cO dz A u9 t9.heap := hB.2
    rw [hu, ht] at h9
    have hO1 := oC_kept hO hkeep hob
    obtain ⟨hq0, hEq⟩ := hB.1
    rcases spn_fund (S := S) p c with h0 | ⟨k1, k2, hS0⟩
    · exact absurd h0 hq0
    have hs9 : ∃ (g9 : Nat → Int → Nat) (T9 : Nat → Nat × Int), g9 0 0 = g 0 0 ∧ RelC (sp_fund S p c).2.2 w g9 T9 (usg (sp_fund S p c).2.2) := ⟨g, T, rfl, by rw [hS0]; exact hR⟩
    rcases (show (sp_fund S p c).1 = 1 ∨ (sp_fund S p c).1 = 2 ∨ (sp_fund S p c).1 = 3 by omega) with hk | hk | hk
    · skip
      have hE9 : E9 = xIOB := by rw [hEq, hk]; rfl
      subst hE9
      refine vx_catch (name := xIOB) hown [] ⟨0, 10, 13, 13⟩ [⟨0, 10, 17, 15⟩, ⟨0, 10, 21, 17⟩] (by rw [hto]; rfl) (fun z hz => absurd hz List.not_mem_nil) (by decide) (by decide) (hts (.classLink RL 13 xIOB) (by decide +kernel)) (va_Nw.use (xB_tab (.castable xIOB xIOB) (by simp [xB])) (hX.2.2.1 (.castable xIOB xIOB) (by simp [xB]))) hce hcv hcl ?_
      refine lv_astore (lv' := [(4, .ref q9), (0, .ref (g 0 0)), (1, .int (iI p)), (2, .int (iI c)), (3, .ref ob)]) hx hb dL_fund_13 hl (by decide) rfl (fun ls hl => ?_)
      refine lv_iconst (v := iI 1) hx hb dL_fund_15 rfl ?_
      exact hret 1 (w, f) _ _ _ _ _ _ dL_fund_16 h9 hO1 hS (by omega) (by omega) ⟨by rw [hk], hs9, fun z => absurd z hq0⟩
    · skip
      have hE9 : E9 = xIAE := by rw [hEq, hk]; rfl
      subst hE9
      refine vx_catch (name := xIAE) hown [⟨0, 10, 13, 13⟩] ⟨0, 10, 17, 15⟩ [⟨0, 10, 21, 17⟩] (by rw [hto]; rfl) (fun z hz => by rw [List.mem_singleton.mp hz]; exact Or.inr ⟨by decide, xIOB, hts (.classLink RL 13 xIOB) (by decide +kernel), hN.1⟩) (by decide) (by decide) (hts (.classLink RL 15 xIAE) (by decide +kernel)) (va_Nw.use (xB_tab (.castable xIAE xIAE) (by simp [xB])) (hX.2.2.1 (.castable xIAE xIAE) (by simp [xB]))) hce hcv hcl ?_
      refine lv_astore (lv' := [(4, .ref q9), (0, .ref (g 0 0)), (1, .int (iI p)), (2, .int (iI c)), (3, .ref ob)]) hx hb dL_fund_17 hl (by decide) rfl (fun ls hl => ?_)
      refine lv_iconst (v := iI 2) hx hb dL_fund_19 rfl ?_
      exact hret 2 (w, f) _ _ _ _ _ _ dL_fund_20 h9 hO1 hS (by omega) (by omega) ⟨by rw [hk], hs9, fun z => absurd z hq0⟩
    · skip
      have hE9 : E9 = xISE := by rw [hEq, hk]; rfl
      subst hE9
      refine vx_catch (name := xISE) hown [⟨0, 10, 13, 13⟩, ⟨0, 10, 17, 15⟩] ⟨0, 10, 21, 17⟩ [] (by rw [hto]; rfl) (fun z hz => by rcases List.mem_cons.mp hz with hz | hz; (rw [hz]; exact Or.inr ⟨by decide, xIOB, hts (.classLink RL 13 xIOB) (by decide +kernel), hN.2.1⟩); (rw [List.mem_singleton.mp hz]; exact Or.inr ⟨by decide, xIAE, hts (.classLink RL 15 xIAE) (by decide +kernel), hN.2.2⟩)) (by decide) (by decide) (hts (.classLink RL 17 xISE) (by decide +kernel)) (va_Nw.use (xB_tab (.castable xISE xISE) (by simp [xB])) (hX.2.2.1 (.castable xISE xISE) (by simp [xB]))) hce hcv hcl ?_
      refine lv_astore (lv' := [(4, .ref q9), (0, .ref (g 0 0)), (1, .int (iI p)), (2, .int (iI c)), (3, .ref ob)]) hx hb dL_fund_21 hl (by decide) rfl (fun ls hl => ?_)
      refine lv_iconst (v := iI 3) hx hb dL_fund_23 rfl ?_
      exact hret 3 (w, f) _ _ _ _ _ _ dL_fund_24 h9 hO1 hS (by omega) (by omega) ⟨by rw [hk], hs9, fun z => absurd z hq0⟩
  · have h9 : cH D cO dz A w9 t9.heap := hB
    rw [ht] at h9
    have hO1 := oC_kept hO hkeep hob
    obtain ⟨hq0, hr9, hrel⟩ := hp
    refine lv_i2l (v := r9.toInt64) hx hb dL_fund_8 rfl ?_
    refine l_put (A1 := lFr A ob) hx hb hJ h9 hO1 hob (fun _ h => Or.inl h) (Or.inr rfl) hS dL_fund_9 (fun f9 H locs hf9 hC1 hO1 hS => ?_)
    refine lv_goto (tgt := 25) hx hb dL_fund_10 (by decide) ?_
    refine lv_iconst (v := iI 0) hx hb dL_fund_25 rfl ?_
    exact hret 0 (w9, f9) _ _ _ _ _ _ dL_fund_26 hC1 hO1 hS (by omega) (by omega) ⟨by rw [hq0], hrel, fun _ => by show f9 0 = _; rw [hf9, hr9]⟩

set_option maxRecDepth 100000 in
set_option maxHeartbeats 4000000 in
theorem c_L_pass (l : Launch) (D : va_G) (cO : ClassId) (dz mi : Nat) {A : Nat → Prop} {S : HdS} {w : CW} {g : Nat → Int → Nat} {T : Nat → Nat × Int} {n : Int} (hw : wf S n) (hR : RelC S w g T (usg S)) (hst : l.stackTraces = false) (cJ : ClassId) (ob : Nat) (f : Nat → Int64) (k : Int) (r_k : inQ k) : lI l yL_pass wsL_pass { frames := 8, cells := 2, slots := 12, locals := 154 } D cO dz mi A w cJ ob f [.ref (g 0 0), .int (iI k), .ref ob] (g 0 0) (sp_pass S k) 2 12 := by
  refine lI_of (cc := cL_pass) (maxL := 4) (hh := [(0, 9, 12, 15), (0, 9, 15, 17)]) (by decide) rfl (Nat.le_of_ble_eq_true rfl) ?_
  intro pp ee ss mm args below meth cc Q hx hb hml hown hts hA hC hE hX hob hO hJ hN hto hret ls hl
  have hl : lv_has ls 4 [(0, .ref (g 0 0)), (1, .int (iI k)), (2, .ref ob)] := hl
  refine lv_aload_n hx hb dL_pass_0 rfl (lv_at hl 2 rfl) ?_
  refine lv_iconst (v := iI 0) hx hb dL_pass_1 rfl ?_
  refine lv_aload_n hx hb dL_pass_2 rfl (lv_at hl 0 rfl) ?_
  refine lv_iload_n hx hb dL_pass_3 rfl (lv_at hl 1 rfl) ?_
  refine vx_calli (A0 := lFr A ob) (A1 := A) (AX := A) (free := A) (vx_runV (As := [.int (iI k)]) (rest := [.int (iI 0), .ref ob]) ⟨hx, hb, hml, hown, hts⟩ (c_pass l D cO dz mi hw hR hst k r_k) (cwV 1 hts gL_pass_X3_pass rfl rfl rfl (by decide +kernel) ⟨Nat.le_of_ble_eq_true rfl, Nat.le_of_ble_eq_true rfl⟩) (c_preV hA hE hX hC va_S.rf hR.k0 (by decide) (by decide) rfl) rfl rfl hl.1 rfl (lv_room (Nat.le_of_ble_eq_true rfl)) dL_pass_4 ⟨Nat.le_of_ble_eq_true rfl, Nat.le_of_ble_eq_true rfl⟩) va_S.rf (fun _ _ h => Or.inl h) (fun _ h => Or.inl h) (fun _ _ h => Or.inl h) (fun E9 ce q9 u9 t9 H locs ht _ hu hB _ hkeep hS hce hcv hcl => ?_) (fun r9 w9 t9 H locs ht _ hp hB _ hkeep hS => ?_)
  · have h9 : cH D cO dz A u9 t9.heap := hB.2
    rw [hu, ht] at h9
    have hO1 := oC_kept hO hkeep hob
    obtain ⟨hq0, hEq⟩ := hB.1
    rcases spn_pass (S := S) k with h0 | ⟨k1, k2, hS0⟩
    · exact absurd h0 hq0
    have hs9 : ∃ (g9 : Nat → Int → Nat) (T9 : Nat → Nat × Int), g9 0 0 = g 0 0 ∧ RelC (sp_pass S k).2.2 w g9 T9 (usg (sp_pass S k).2.2) := ⟨g, T, rfl, by rw [hS0]; exact hR⟩
    rcases (show (sp_pass S k).1 = 1 ∨ (sp_pass S k).1 = 2 by omega) with hk | hk
    · skip
      have hE9 : E9 = xIAE := by rw [hEq, hk]; rfl
      subst hE9
      refine vx_catch (name := xIAE) hown [] ⟨0, 9, 12, 15⟩ [⟨0, 9, 15, 17⟩] (by rw [hto]; rfl) (fun z hz => absurd hz List.not_mem_nil) (by decide) (by decide) (hts (.classLink RL 15 xIAE) (by decide +kernel)) (va_Nw.use (xB_tab (.castable xIAE xIAE) (by simp [xB])) (hX.2.2.1 (.castable xIAE xIAE) (by simp [xB]))) hce hcv hcl ?_
      refine lv_astore_n (lv' := [(3, .ref q9), (0, .ref (g 0 0)), (1, .int (iI k)), (2, .ref ob)]) hx hb dL_pass_12 rfl hl (by decide) rfl (fun ls hl => ?_)
      refine lv_iconst (v := iI 1) hx hb dL_pass_13 rfl ?_
      exact hret 1 (w, f) _ _ _ _ _ _ dL_pass_14 h9 hO1 hS (by omega) (by omega) ⟨by rw [hk], hs9, fun z => absurd z hq0⟩
    · skip
      have hE9 : E9 = xISE := by rw [hEq, hk]; rfl
      subst hE9
      refine vx_catch (name := xISE) hown [⟨0, 9, 12, 15⟩] ⟨0, 9, 15, 17⟩ [] (by rw [hto]; rfl) (fun z hz => by rw [List.mem_singleton.mp hz]; exact Or.inr ⟨by decide, xIAE, hts (.classLink RL 15 xIAE) (by decide +kernel), hN.2.2⟩) (by decide) (by decide) (hts (.classLink RL 17 xISE) (by decide +kernel)) (va_Nw.use (xB_tab (.castable xISE xISE) (by simp [xB])) (hX.2.2.1 (.castable xISE xISE) (by simp [xB]))) hce hcv hcl ?_
      refine lv_astore_n (lv' := [(3, .ref q9), (0, .ref (g 0 0)), (1, .int (iI k)), (2, .ref ob)]) hx hb dL_pass_15 rfl hl (by decide) rfl (fun ls hl => ?_)
      refine lv_iconst (v := iI 2) hx hb dL_pass_16 rfl ?_
      exact hret 2 (w, f) _ _ _ _ _ _ dL_pass_17 h9 hO1 hS (by omega) (by omega) ⟨by rw [hk], hs9, fun z => absurd z hq0⟩
  · have h9 : cH D cO dz A w9 t9.heap := hB
    rw [ht] at h9
    have hO1 := oC_kept hO hkeep hob
    obtain ⟨hq0, hr9, hrel⟩ := hp
    refine lv_i2l (v := r9.toInt64) hx hb dL_pass_7 rfl ?_
    refine l_put (A1 := lFr A ob) hx hb hJ h9 hO1 hob (fun _ h => Or.inl h) (Or.inr rfl) hS dL_pass_8 (fun f9 H locs hf9 hC1 hO1 hS => ?_)
    refine lv_goto (tgt := 18) hx hb dL_pass_9 (by decide) ?_
    refine lv_iconst (v := iI 0) hx hb dL_pass_18 rfl ?_
    exact hret 0 (w9, f9) _ _ _ _ _ _ dL_pass_19 hC1 hO1 hS (by omega) (by omega) ⟨by rw [hq0], hrel, fun _ => by show f9 0 = _; rw [hf9, hr9]⟩

set_option maxRecDepth 100000 in
set_option maxHeartbeats 4000000 in
theorem c_L_usage (l : Launch) (D : va_G) (cO : ClassId) (dz mi : Nat) {A : Nat → Prop} {S : HdS} {w : CW} {g : Nat → Int → Nat} {T : Nat → Nat × Int} {n : Int} (hw : wf S n) (hR : RelC S w g T (usg S)) (hst : l.stackTraces = false) (cJ : ClassId) (ob : Nat) (f : Nat → Int64) (i : Int) (r_i : inQ i) : lI l yL_usage wsL_usage { frames := 8, cells := 1, slots := 6, locals := 132 } D cO dz mi A w cJ ob f [.ref (g 0 0), .int (iI i), .ref ob] (g 0 0) (sp_dir S i (usg S i)) 1 6 := by
  refine lI_of (cc := cL_usage) (maxL := 4) (hh := [(0, 9, 12, 13)]) (by decide) rfl (Nat.le_of_ble_eq_true rfl) ?_
  intro pp ee ss mm args below meth cc Q hx hb hml hown hts hA hC hE hX hob hO hJ hN hto hret ls hl
  have hl : lv_has ls 4 [(0, .ref (g 0 0)), (1, .int (iI i)), (2, .ref ob)] := hl
  refine lv_aload_n hx hb dL_usage_0 rfl (lv_at hl 2 rfl) ?_
  refine lv_iconst (v := iI 0) hx hb dL_usage_1 rfl ?_
  refine lv_aload_n hx hb dL_usage_2 rfl (lv_at hl 0 rfl) ?_
  refine lv_iload_n hx hb dL_usage_3 rfl (lv_at hl 1 rfl) ?_
  refine vx_calli (A0 := lFr A ob) (A1 := A) (AX := A) (free := A) (vx_runV (As := [.int (iI i)]) (rest := [.int (iI 0), .ref ob]) ⟨hx, hb, hml, hown, hts⟩ (cIX_get (q := sp_dir S i (usg S i)) hR (fun h9 => by unfold sp_dir; exact iteC_neg (fun z => z h9)) (fun h9 => by unfold sp_dir; exact iteC_pos h9) (c_usage l D cO dz mi hw hR hst i r_i)) (cwV 1 hts gL_usage_X3_usage rfl rfl rfl (by decide +kernel) ⟨Nat.le_of_ble_eq_true rfl, Nat.le_of_ble_eq_true rfl⟩) (c_preV hA hE hX hC va_S.rf hR.k0 (by decide) (by decide) rfl) rfl rfl hl.1 rfl (lv_room (Nat.le_of_ble_eq_true rfl)) dL_usage_4 ⟨Nat.le_of_ble_eq_true rfl, Nat.le_of_ble_eq_true rfl⟩) va_S.rf (fun _ _ h => Or.inl h) (fun _ h => Or.inl h) (fun _ _ h => Or.inl h) (fun E9 ce q9 u9 t9 H locs ht _ hu hB _ hkeep hS hce hcv hcl => ?_) (fun r9 w9 t9 H locs ht _ hp hB _ hkeep hS => ?_)
  · have h9 : cH D cO dz A u9 t9.heap := hB.2
    rw [hu, ht] at h9
    have hO1 := oC_kept hO hkeep hob
    obtain ⟨hq0, hEq⟩ := hB.1
    rcases spn_dir (S := S) i _ with h0 | ⟨k1, k2, hS0⟩
    · exact absurd h0 hq0
    have hs9 : ∃ (g9 : Nat → Int → Nat) (T9 : Nat → Nat × Int), g9 0 0 = g 0 0 ∧ RelC (sp_dir S i (usg S i)).2.2 w g9 T9 (usg (sp_dir S i (usg S i)).2.2) := ⟨g, T, rfl, by rw [hS0]; exact hR⟩
    have hk : (sp_dir S i (usg S i)).1 = 1 := by omega
    have hE9 : E9 = xIOB := by rw [hEq, hk]; rfl
    subst hE9
    refine vx_catch (name := xIOB) hown [] ⟨0, 9, 12, 13⟩ [] (by rw [hto]; rfl) (fun z hz => absurd hz List.not_mem_nil) (by decide) (by decide) (hts (.classLink RL 13 xIOB) (by decide +kernel)) (va_Nw.use (xB_tab (.castable xIOB xIOB) (by simp [xB])) (hX.2.2.1 (.castable xIOB xIOB) (by simp [xB]))) hce hcv hcl ?_
    refine lv_astore_n (lv' := [(3, .ref q9), (0, .ref (g 0 0)), (1, .int (iI i)), (2, .ref ob)]) hx hb dL_usage_12 rfl hl (by decide) rfl (fun ls hl => ?_)
    refine lv_iconst (v := iI 1) hx hb dL_usage_13 rfl ?_
    exact hret 1 (w, f) _ _ _ _ _ _ dL_usage_14 h9 hO1 hS (by omega) (by omega) ⟨by rw [hk], hs9, fun z => absurd z hq0⟩
  · have h9 : cH D cO dz A w9 t9.heap := hB
    rw [ht] at h9
    have hO1 := oC_kept hO hkeep hob
    obtain ⟨hq0, hr9, hrel⟩ := hp
    refine lv_i2l (v := r9.toInt64) hx hb dL_usage_7 rfl ?_
    refine l_put (A1 := lFr A ob) hx hb hJ h9 hO1 hob (fun _ h => Or.inl h) (Or.inr rfl) hS dL_usage_8 (fun f9 H locs hf9 hC1 hO1 hS => ?_)
    refine lv_goto (tgt := 15) hx hb dL_usage_9 (by decide) ?_
    refine lv_iconst (v := iI 0) hx hb dL_usage_15 rfl ?_
    exact hret 0 (w9, f9) _ _ _ _ _ _ dL_usage_16 hC1 hO1 hS (by omega) (by omega) ⟨by rw [hq0], hrel, fun _ => by show f9 0 = _; rw [hf9, hr9]⟩

set_option maxRecDepth 100000 in
set_option maxHeartbeats 4000000 in
theorem c_L_usageByWalking (l : Launch) (D : va_G) (cO : ClassId) (dz mi : Nat) {A : Nat → Prop} {S : HdS} {w : CW} {g : Nat → Int → Nat} {T : Nat → Nat × Int} {n : Int} (hw : wf S n) (hR : RelC S w g T (usg S)) (hst : l.stackTraces = false) (cJ : ClassId) (ob : Nat) (f : Nat → Int64) (i : Int) (r_i : inQ i) : lI l yL_usageByWalking wsL_usageByWalking { frames := 8, cells := 1, slots := 6, locals := 137 } D cO dz mi A w cJ ob f [.ref (g 0 0), .int (iI i), .ref ob] (g 0 0) (sp_dir S i (usg S i)) 1 6 := by
  refine lI_of (cc := cL_usageByWalking) (maxL := 4) (hh := [(0, 9, 12, 13)]) (by decide) rfl (Nat.le_of_ble_eq_true rfl) ?_
  intro pp ee ss mm args below meth cc Q hx hb hml hown hts hA hC hE hX hob hO hJ hN hto hret ls hl
  have hl : lv_has ls 4 [(0, .ref (g 0 0)), (1, .int (iI i)), (2, .ref ob)] := hl
  refine lv_aload_n hx hb dL_usageByWalking_0 rfl (lv_at hl 2 rfl) ?_
  refine lv_iconst (v := iI 0) hx hb dL_usageByWalking_1 rfl ?_
  refine lv_aload_n hx hb dL_usageByWalking_2 rfl (lv_at hl 0 rfl) ?_
  refine lv_iload_n hx hb dL_usageByWalking_3 rfl (lv_at hl 1 rfl) ?_
  refine vx_calli (A0 := lFr A ob) (A1 := A) (AX := A) (free := A) (vx_runV (As := [.int (iI i)]) (rest := [.int (iI 0), .ref ob]) ⟨hx, hb, hml, hown, hts⟩ (cIX_get (q := sp_dir S i (usg S i)) hR (fun h9 => by unfold sp_dir; exact iteC_neg (fun z => z h9)) (fun h9 => by unfold sp_dir; exact iteC_pos h9) (c_usageByWalking l D cO dz mi hw hR hst i r_i)) (cwV 1 hts gL_usageByWalking_X3_usageByWalking rfl rfl rfl (by decide +kernel) ⟨Nat.le_of_ble_eq_true rfl, Nat.le_of_ble_eq_true rfl⟩) (c_preV hA hE hX hC va_S.rf hR.k0 (by decide) (by decide) rfl) rfl rfl hl.1 rfl (lv_room (Nat.le_of_ble_eq_true rfl)) dL_usageByWalking_4 ⟨Nat.le_of_ble_eq_true rfl, Nat.le_of_ble_eq_true rfl⟩) va_S.rf (fun _ _ h => Or.inl h) (fun _ h => Or.inl h) (fun _ _ h => Or.inl h) (fun E9 ce q9 u9 t9 H locs ht _ hu hB _ hkeep hS hce hcv hcl => ?_) (fun r9 w9 t9 H locs ht _ hp hB _ hkeep hS => ?_)
  · have h9 : cH D cO dz A u9 t9.heap := hB.2
    rw [hu, ht] at h9
    have hO1 := oC_kept hO hkeep hob
    obtain ⟨hq0, hEq⟩ := hB.1
    rcases spn_dir (S := S) i _ with h0 | ⟨k1, k2, hS0⟩
    · exact absurd h0 hq0
    have hs9 : ∃ (g9 : Nat → Int → Nat) (T9 : Nat → Nat × Int), g9 0 0 = g 0 0 ∧ RelC (sp_dir S i (usg S i)).2.2 w g9 T9 (usg (sp_dir S i (usg S i)).2.2) := ⟨g, T, rfl, by rw [hS0]; exact hR⟩
    have hk : (sp_dir S i (usg S i)).1 = 1 := by omega
    have hE9 : E9 = xIOB := by rw [hEq, hk]; rfl
    subst hE9
    refine vx_catch (name := xIOB) hown [] ⟨0, 9, 12, 13⟩ [] (by rw [hto]; rfl) (fun z hz => absurd hz List.not_mem_nil) (by decide) (by decide) (hts (.classLink RL 13 xIOB) (by decide +kernel)) (va_Nw.use (xB_tab (.castable xIOB xIOB) (by simp [xB])) (hX.2.2.1 (.castable xIOB xIOB) (by simp [xB]))) hce hcv hcl ?_
    refine lv_astore_n (lv' := [(3, .ref q9), (0, .ref (g 0 0)), (1, .int (iI i)), (2, .ref ob)]) hx hb dL_usageByWalking_12 rfl hl (by decide) rfl (fun ls hl => ?_)
    refine lv_iconst (v := iI 1) hx hb dL_usageByWalking_13 rfl ?_
    exact hret 1 (w, f) _ _ _ _ _ _ dL_usageByWalking_14 h9 hO1 hS (by omega) (by omega) ⟨by rw [hk], hs9, fun z => absurd z hq0⟩
  · have h9 : cH D cO dz A w9 t9.heap := hB
    rw [ht] at h9
    have hO1 := oC_kept hO hkeep hob
    obtain ⟨hq0, hr9, hrel⟩ := hp
    refine lv_i2l (v := r9.toInt64) hx hb dL_usageByWalking_7 rfl ?_
    refine l_put (A1 := lFr A ob) hx hb hJ h9 hO1 hob (fun _ h => Or.inl h) (Or.inr rfl) hS dL_usageByWalking_8 (fun f9 H locs hf9 hC1 hO1 hS => ?_)
    refine lv_goto (tgt := 15) hx hb dL_usageByWalking_9 (by decide) ?_
    refine lv_iconst (v := iI 0) hx hb dL_usageByWalking_15 rfl ?_
    exact hret 0 (w9, f9) _ _ _ _ _ _ dL_usageByWalking_16 hC1 hO1 hS (by omega) (by omega) ⟨by rw [hq0], hrel, fun _ => by show f9 0 = _; rw [hf9, hr9]⟩

set_option maxRecDepth 100000 in
set_option maxHeartbeats 4000000 in
theorem c_L_size (l : Launch) (D : va_G) (cO : ClassId) (dz mi : Nat) {A : Nat → Prop} {S : HdS} {w : CW} {g : Nat → Int → Nat} {T : Nat → Nat × Int} {n : Int} (hw : wf S n) (hR : RelC S w g T (usg S)) (hst : l.stackTraces = false) (cJ : ClassId) (ob : Nat) (f : Nat → Int64) (i : Int) (r_i : inQ i) : lI l yL_size wsL_size { frames := 8, cells := 1, slots := 6, locals := 132 } D cO dz mi A w cJ ob f [.ref (g 0 0), .int (iI i), .ref ob] (g 0 0) (sp_fil S i (S.1 3 i)) 1 6 := by
  refine lI_of (cc := cL_size) (maxL := 4) (hh := [(0, 9, 12, 13)]) (by decide) rfl (Nat.le_of_ble_eq_true rfl) ?_
  intro pp ee ss mm args below meth cc Q hx hb hml hown hts hA hC hE hX hob hO hJ hN hto hret ls hl
  have hl : lv_has ls 4 [(0, .ref (g 0 0)), (1, .int (iI i)), (2, .ref ob)] := hl
  refine lv_aload_n hx hb dL_size_0 rfl (lv_at hl 2 rfl) ?_
  refine lv_iconst (v := iI 0) hx hb dL_size_1 rfl ?_
  refine lv_aload_n hx hb dL_size_2 rfl (lv_at hl 0 rfl) ?_
  refine lv_iload_n hx hb dL_size_3 rfl (lv_at hl 1 rfl) ?_
  refine vx_calli (A0 := lFr A ob) (A1 := A) (AX := A) (free := A) (vx_runV (As := [.int (iI i)]) (rest := [.int (iI 0), .ref ob]) ⟨hx, hb, hml, hown, hts⟩ (cIX_get (q := sp_fil S i (S.1 3 i)) hR (fun h9 => by unfold sp_fil; exact iteC_neg (fun z => z h9)) (fun h9 => by unfold sp_fil; exact iteC_pos h9) (c_size l D cO dz mi hw hR hst i r_i)) (cwV 1 hts gL_size_X3_size rfl rfl rfl (by decide +kernel) ⟨Nat.le_of_ble_eq_true rfl, Nat.le_of_ble_eq_true rfl⟩) (c_preV hA hE hX hC va_S.rf hR.k0 (by decide) (by decide) rfl) rfl rfl hl.1 rfl (lv_room (Nat.le_of_ble_eq_true rfl)) dL_size_4 ⟨Nat.le_of_ble_eq_true rfl, Nat.le_of_ble_eq_true rfl⟩) va_S.rf (fun _ _ h => Or.inl h) (fun _ h => Or.inl h) (fun _ _ h => Or.inl h) (fun E9 ce q9 u9 t9 H locs ht _ hu hB _ hkeep hS hce hcv hcl => ?_) (fun r9 w9 t9 H locs ht _ hp hB _ hkeep hS => ?_)
  · have h9 : cH D cO dz A u9 t9.heap := hB.2
    rw [hu, ht] at h9
    have hO1 := oC_kept hO hkeep hob
    obtain ⟨hq0, hEq⟩ := hB.1
    rcases spn_fil (S := S) i _ with h0 | ⟨k1, k2, hS0⟩
    · exact absurd h0 hq0
    have hs9 : ∃ (g9 : Nat → Int → Nat) (T9 : Nat → Nat × Int), g9 0 0 = g 0 0 ∧ RelC (sp_fil S i (S.1 3 i)).2.2 w g9 T9 (usg (sp_fil S i (S.1 3 i)).2.2) := ⟨g, T, rfl, by rw [hS0]; exact hR⟩
    have hk : (sp_fil S i (S.1 3 i)).1 = 1 := by omega
    have hE9 : E9 = xIOB := by rw [hEq, hk]; rfl
    subst hE9
    refine vx_catch (name := xIOB) hown [] ⟨0, 9, 12, 13⟩ [] (by rw [hto]; rfl) (fun z hz => absurd hz List.not_mem_nil) (by decide) (by decide) (hts (.classLink RL 13 xIOB) (by decide +kernel)) (va_Nw.use (xB_tab (.castable xIOB xIOB) (by simp [xB])) (hX.2.2.1 (.castable xIOB xIOB) (by simp [xB]))) hce hcv hcl ?_
    refine lv_astore_n (lv' := [(3, .ref q9), (0, .ref (g 0 0)), (1, .int (iI i)), (2, .ref ob)]) hx hb dL_size_12 rfl hl (by decide) rfl (fun ls hl => ?_)
    refine lv_iconst (v := iI 1) hx hb dL_size_13 rfl ?_
    exact hret 1 (w, f) _ _ _ _ _ _ dL_size_14 h9 hO1 hS (by omega) (by omega) ⟨by rw [hk], hs9, fun z => absurd z hq0⟩
  · have h9 : cH D cO dz A w9 t9.heap := hB
    rw [ht] at h9
    have hO1 := oC_kept hO hkeep hob
    obtain ⟨hq0, hr9, hrel⟩ := hp
    refine lv_i2l (v := r9.toInt64) hx hb dL_size_7 rfl ?_
    refine l_put (A1 := lFr A ob) hx hb hJ h9 hO1 hob (fun _ h => Or.inl h) (Or.inr rfl) hS dL_size_8 (fun f9 H locs hf9 hC1 hO1 hS => ?_)
    refine lv_goto (tgt := 15) hx hb dL_size_9 (by decide) ?_
    refine lv_iconst (v := iI 0) hx hb dL_size_15 rfl ?_
    exact hret 0 (w9, f9) _ _ _ _ _ _ dL_size_16 hC1 hO1 hS (by omega) (by omega) ⟨by rw [hq0], hrel, fun _ => by show f9 0 = _; rw [hf9, hr9]⟩

set_option maxRecDepth 100000 in
set_option maxHeartbeats 4000000 in
theorem c_L_home (l : Launch) (D : va_G) (cO : ClassId) (dz mi : Nat) {A : Nat → Prop} {S : HdS} {w : CW} {g : Nat → Int → Nat} {T : Nat → Nat × Int} {n : Int} (hw : wf S n) (hR : RelC S w g T (usg S)) (hst : l.stackTraces = false) (cJ : ClassId) (ob : Nat) (f : Nat → Int64) (i : Int) (r_i : inQ i) : lI l yL_home wsL_home { frames := 8, cells := 1, slots := 6, locals := 133 } D cO dz mi A w cJ ob f [.ref (g 0 0), .int (iI i), .ref ob] (g 0 0) (sp_fil S i (homeS S i)) 1 6 := by
  refine lI_of (cc := cL_home) (maxL := 4) (hh := [(0, 9, 12, 13)]) (by decide) rfl (Nat.le_of_ble_eq_true rfl) ?_
  intro pp ee ss mm args below meth cc Q hx hb hml hown hts hA hC hE hX hob hO hJ hN hto hret ls hl
  have hl : lv_has ls 4 [(0, .ref (g 0 0)), (1, .int (iI i)), (2, .ref ob)] := hl
  refine lv_aload_n hx hb dL_home_0 rfl (lv_at hl 2 rfl) ?_
  refine lv_iconst (v := iI 0) hx hb dL_home_1 rfl ?_
  refine lv_aload_n hx hb dL_home_2 rfl (lv_at hl 0 rfl) ?_
  refine lv_iload_n hx hb dL_home_3 rfl (lv_at hl 1 rfl) ?_
  refine vx_calli (A0 := lFr A ob) (A1 := A) (AX := A) (free := A) (vx_runV (As := [.int (iI i)]) (rest := [.int (iI 0), .ref ob]) ⟨hx, hb, hml, hown, hts⟩ (cIX_get (q := sp_fil S i (homeS S i)) hR (fun h9 => by unfold sp_fil; exact iteC_neg (fun z => z h9)) (fun h9 => by unfold sp_fil; exact iteC_pos h9) (c_home l D cO dz mi hw hR hst i r_i)) (cwV 1 hts gL_home_X3_home rfl rfl rfl (by decide +kernel) ⟨Nat.le_of_ble_eq_true rfl, Nat.le_of_ble_eq_true rfl⟩) (c_preV hA hE hX hC va_S.rf hR.k0 (by decide) (by decide) rfl) rfl rfl hl.1 rfl (lv_room (Nat.le_of_ble_eq_true rfl)) dL_home_4 ⟨Nat.le_of_ble_eq_true rfl, Nat.le_of_ble_eq_true rfl⟩) va_S.rf (fun _ _ h => Or.inl h) (fun _ h => Or.inl h) (fun _ _ h => Or.inl h) (fun E9 ce q9 u9 t9 H locs ht _ hu hB _ hkeep hS hce hcv hcl => ?_) (fun r9 w9 t9 H locs ht _ hp hB _ hkeep hS => ?_)
  · have h9 : cH D cO dz A u9 t9.heap := hB.2
    rw [hu, ht] at h9
    have hO1 := oC_kept hO hkeep hob
    obtain ⟨hq0, hEq⟩ := hB.1
    rcases spn_fil (S := S) i _ with h0 | ⟨k1, k2, hS0⟩
    · exact absurd h0 hq0
    have hs9 : ∃ (g9 : Nat → Int → Nat) (T9 : Nat → Nat × Int), g9 0 0 = g 0 0 ∧ RelC (sp_fil S i (homeS S i)).2.2 w g9 T9 (usg (sp_fil S i (homeS S i)).2.2) := ⟨g, T, rfl, by rw [hS0]; exact hR⟩
    have hk : (sp_fil S i (homeS S i)).1 = 1 := by omega
    have hE9 : E9 = xIOB := by rw [hEq, hk]; rfl
    subst hE9
    refine vx_catch (name := xIOB) hown [] ⟨0, 9, 12, 13⟩ [] (by rw [hto]; rfl) (fun z hz => absurd hz List.not_mem_nil) (by decide) (by decide) (hts (.classLink RL 13 xIOB) (by decide +kernel)) (va_Nw.use (xB_tab (.castable xIOB xIOB) (by simp [xB])) (hX.2.2.1 (.castable xIOB xIOB) (by simp [xB]))) hce hcv hcl ?_
    refine lv_astore_n (lv' := [(3, .ref q9), (0, .ref (g 0 0)), (1, .int (iI i)), (2, .ref ob)]) hx hb dL_home_12 rfl hl (by decide) rfl (fun ls hl => ?_)
    refine lv_iconst (v := iI 1) hx hb dL_home_13 rfl ?_
    exact hret 1 (w, f) _ _ _ _ _ _ dL_home_14 h9 hO1 hS (by omega) (by omega) ⟨by rw [hk], hs9, fun z => absurd z hq0⟩
  · have h9 : cH D cO dz A w9 t9.heap := hB
    rw [ht] at h9
    have hO1 := oC_kept hO hkeep hob
    obtain ⟨hq0, hr9, hrel⟩ := hp
    refine lv_i2l (v := r9.toInt64) hx hb dL_home_7 rfl ?_
    refine l_put (A1 := lFr A ob) hx hb hJ h9 hO1 hob (fun _ h => Or.inl h) (Or.inr rfl) hS dL_home_8 (fun f9 H locs hf9 hC1 hO1 hS => ?_)
    refine lv_goto (tgt := 15) hx hb dL_home_9 (by decide) ?_
    refine lv_iconst (v := iI 0) hx hb dL_home_15 rfl ?_
    exact hret 0 (w9, f9) _ _ _ _ _ _ dL_home_16 hC1 hO1 hS (by omega) (by omega) ⟨by rw [hq0], hrel, fun _ => by show f9 0 = _; rw [hf9, hr9]⟩

set_option maxRecDepth 100000 in
set_option maxHeartbeats 4000000 in
theorem c_L_kept (l : Launch) (D : va_G) (cO : ClassId) (dz mi : Nat) {A : Nat → Prop} {S : HdS} {w : CW} {g : Nat → Int → Nat} {T : Nat → Nat × Int} {n : Int} (hw : wf S n) (hR : RelC S w g T (usg S)) (hst : l.stackTraces = false) (cJ : ClassId) (ob : Nat) (f : Nat → Int64) (i : Int) (r_i : inQ i) : lI l yL_kept wsL_kept { frames := 8, cells := 1, slots := 6, locals := 132 } D cO dz mi A w cJ ob f [.ref (g 0 0), .int (iI i), .ref ob] (g 0 0) (sp_fil S i (S.1 6 i)) 1 6 := by
  refine lI_of (cc := cL_kept) (maxL := 4) (hh := [(0, 9, 12, 13)]) (by decide) rfl (Nat.le_of_ble_eq_true rfl) ?_
  intro pp ee ss mm args below meth cc Q hx hb hml hown hts hA hC hE hX hob hO hJ hN hto hret ls hl
  have hl : lv_has ls 4 [(0, .ref (g 0 0)), (1, .int (iI i)), (2, .ref ob)] := hl
  refine lv_aload_n hx hb dL_kept_0 rfl (lv_at hl 2 rfl) ?_
  refine lv_iconst (v := iI 0) hx hb dL_kept_1 rfl ?_
  refine lv_aload_n hx hb dL_kept_2 rfl (lv_at hl 0 rfl) ?_
  refine lv_iload_n hx hb dL_kept_3 rfl (lv_at hl 1 rfl) ?_
  refine vx_calli (A0 := lFr A ob) (A1 := A) (AX := A) (free := A) (vx_runV (As := [.int (iI i)]) (rest := [.int (iI 0), .ref ob]) ⟨hx, hb, hml, hown, hts⟩ (cIX_get (q := sp_fil S i (S.1 6 i)) hR (fun h9 => by unfold sp_fil; exact iteC_neg (fun z => z h9)) (fun h9 => by unfold sp_fil; exact iteC_pos h9) (c_kept l D cO dz mi hw hR hst i r_i)) (cwV 1 hts gL_kept_X3_kept rfl rfl rfl (by decide +kernel) ⟨Nat.le_of_ble_eq_true rfl, Nat.le_of_ble_eq_true rfl⟩) (c_preV hA hE hX hC va_S.rf hR.k0 (by decide) (by decide) rfl) rfl rfl hl.1 rfl (lv_room (Nat.le_of_ble_eq_true rfl)) dL_kept_4 ⟨Nat.le_of_ble_eq_true rfl, Nat.le_of_ble_eq_true rfl⟩) va_S.rf (fun _ _ h => Or.inl h) (fun _ h => Or.inl h) (fun _ _ h => Or.inl h) (fun E9 ce q9 u9 t9 H locs ht _ hu hB _ hkeep hS hce hcv hcl => ?_) (fun r9 w9 t9 H locs ht _ hp hB _ hkeep hS => ?_)
  · have h9 : cH D cO dz A u9 t9.heap := hB.2
    rw [hu, ht] at h9
    have hO1 := oC_kept hO hkeep hob
    obtain ⟨hq0, hEq⟩ := hB.1
    rcases spn_fil (S := S) i _ with h0 | ⟨k1, k2, hS0⟩
    · exact absurd h0 hq0
    have hs9 : ∃ (g9 : Nat → Int → Nat) (T9 : Nat → Nat × Int), g9 0 0 = g 0 0 ∧ RelC (sp_fil S i (S.1 6 i)).2.2 w g9 T9 (usg (sp_fil S i (S.1 6 i)).2.2) := ⟨g, T, rfl, by rw [hS0]; exact hR⟩
    have hk : (sp_fil S i (S.1 6 i)).1 = 1 := by omega
    have hE9 : E9 = xIOB := by rw [hEq, hk]; rfl
    subst hE9
    refine vx_catch (name := xIOB) hown [] ⟨0, 9, 12, 13⟩ [] (by rw [hto]; rfl) (fun z hz => absurd hz List.not_mem_nil) (by decide) (by decide) (hts (.classLink RL 13 xIOB) (by decide +kernel)) (va_Nw.use (xB_tab (.castable xIOB xIOB) (by simp [xB])) (hX.2.2.1 (.castable xIOB xIOB) (by simp [xB]))) hce hcv hcl ?_
    refine lv_astore_n (lv' := [(3, .ref q9), (0, .ref (g 0 0)), (1, .int (iI i)), (2, .ref ob)]) hx hb dL_kept_12 rfl hl (by decide) rfl (fun ls hl => ?_)
    refine lv_iconst (v := iI 1) hx hb dL_kept_13 rfl ?_
    exact hret 1 (w, f) _ _ _ _ _ _ dL_kept_14 h9 hO1 hS (by omega) (by omega) ⟨by rw [hk], hs9, fun z => absurd z hq0⟩
  · have h9 : cH D cO dz A w9 t9.heap := hB
    rw [ht] at h9
    have hO1 := oC_kept hO hkeep hob
    obtain ⟨hq0, hr9, hrel⟩ := hp
    refine lv_i2l (v := r9.toInt64) hx hb dL_kept_7 rfl ?_
    refine l_put (A1 := lFr A ob) hx hb hJ h9 hO1 hob (fun _ h => Or.inl h) (Or.inr rfl) hS dL_kept_8 (fun f9 H locs hf9 hC1 hO1 hS => ?_)
    refine lv_goto (tgt := 15) hx hb dL_kept_9 (by decide) ?_
    refine lv_iconst (v := iI 0) hx hb dL_kept_15 rfl ?_
    exact hret 0 (w9, f9) _ _ _ _ _ _ dL_kept_16 hC1 hO1 hS (by omega) (by omega) ⟨by rw [hq0], hrel, fun _ => by show f9 0 = _; rw [hf9, hr9]⟩

set_option maxRecDepth 100000 in
set_option maxHeartbeats 4000000 in
theorem c_L_holders (l : Launch) (D : va_G) (cO : ClassId) (dz mi : Nat) {A : Nat → Prop} {S : HdS} {w : CW} {g : Nat → Int → Nat} {T : Nat → Nat × Int} {n : Int} (hw : wf S n) (hR : RelC S w g T (usg S)) (hst : l.stackTraces = false) (cJ : ClassId) (ob : Nat) (f : Nat → Int64) (i : Int) (r_i : inQ i) : lI l yL_holders wsL_holders { frames := 8, cells := 1, slots := 6, locals := 132 } D cO dz mi A w cJ ob f [.ref (g 0 0), .int (iI i), .ref ob] (g 0 0) (sp_fil S i (S.1 7 i)) 1 6 := by
  refine lI_of (cc := cL_holders) (maxL := 4) (hh := [(0, 9, 12, 13)]) (by decide) rfl (Nat.le_of_ble_eq_true rfl) ?_
  intro pp ee ss mm args below meth cc Q hx hb hml hown hts hA hC hE hX hob hO hJ hN hto hret ls hl
  have hl : lv_has ls 4 [(0, .ref (g 0 0)), (1, .int (iI i)), (2, .ref ob)] := hl
  refine lv_aload_n hx hb dL_holders_0 rfl (lv_at hl 2 rfl) ?_
  refine lv_iconst (v := iI 0) hx hb dL_holders_1 rfl ?_
  refine lv_aload_n hx hb dL_holders_2 rfl (lv_at hl 0 rfl) ?_
  refine lv_iload_n hx hb dL_holders_3 rfl (lv_at hl 1 rfl) ?_
  refine vx_calli (A0 := lFr A ob) (A1 := A) (AX := A) (free := A) (vx_runV (As := [.int (iI i)]) (rest := [.int (iI 0), .ref ob]) ⟨hx, hb, hml, hown, hts⟩ (cIX_get (q := sp_fil S i (S.1 7 i)) hR (fun h9 => by unfold sp_fil; exact iteC_neg (fun z => z h9)) (fun h9 => by unfold sp_fil; exact iteC_pos h9) (c_holders l D cO dz mi hw hR hst i r_i)) (cwV 1 hts gL_holders_X3_holders rfl rfl rfl (by decide +kernel) ⟨Nat.le_of_ble_eq_true rfl, Nat.le_of_ble_eq_true rfl⟩) (c_preV hA hE hX hC va_S.rf hR.k0 (by decide) (by decide) rfl) rfl rfl hl.1 rfl (lv_room (Nat.le_of_ble_eq_true rfl)) dL_holders_4 ⟨Nat.le_of_ble_eq_true rfl, Nat.le_of_ble_eq_true rfl⟩) va_S.rf (fun _ _ h => Or.inl h) (fun _ h => Or.inl h) (fun _ _ h => Or.inl h) (fun E9 ce q9 u9 t9 H locs ht _ hu hB _ hkeep hS hce hcv hcl => ?_) (fun r9 w9 t9 H locs ht _ hp hB _ hkeep hS => ?_)
  · have h9 : cH D cO dz A u9 t9.heap := hB.2
    rw [hu, ht] at h9
    have hO1 := oC_kept hO hkeep hob
    obtain ⟨hq0, hEq⟩ := hB.1
    rcases spn_fil (S := S) i _ with h0 | ⟨k1, k2, hS0⟩
    · exact absurd h0 hq0
    have hs9 : ∃ (g9 : Nat → Int → Nat) (T9 : Nat → Nat × Int), g9 0 0 = g 0 0 ∧ RelC (sp_fil S i (S.1 7 i)).2.2 w g9 T9 (usg (sp_fil S i (S.1 7 i)).2.2) := ⟨g, T, rfl, by rw [hS0]; exact hR⟩
    have hk : (sp_fil S i (S.1 7 i)).1 = 1 := by omega
    have hE9 : E9 = xIOB := by rw [hEq, hk]; rfl
    subst hE9
    refine vx_catch (name := xIOB) hown [] ⟨0, 9, 12, 13⟩ [] (by rw [hto]; rfl) (fun z hz => absurd hz List.not_mem_nil) (by decide) (by decide) (hts (.classLink RL 13 xIOB) (by decide +kernel)) (va_Nw.use (xB_tab (.castable xIOB xIOB) (by simp [xB])) (hX.2.2.1 (.castable xIOB xIOB) (by simp [xB]))) hce hcv hcl ?_
    refine lv_astore_n (lv' := [(3, .ref q9), (0, .ref (g 0 0)), (1, .int (iI i)), (2, .ref ob)]) hx hb dL_holders_12 rfl hl (by decide) rfl (fun ls hl => ?_)
    refine lv_iconst (v := iI 1) hx hb dL_holders_13 rfl ?_
    exact hret 1 (w, f) _ _ _ _ _ _ dL_holders_14 h9 hO1 hS (by omega) (by omega) ⟨by rw [hk], hs9, fun z => absurd z hq0⟩
  · have h9 : cH D cO dz A w9 t9.heap := hB
    rw [ht] at h9
    have hO1 := oC_kept hO hkeep hob
    obtain ⟨hq0, hr9, hrel⟩ := hp
    refine lv_i2l (v := r9.toInt64) hx hb dL_holders_7 rfl ?_
    refine l_put (A1 := lFr A ob) hx hb hJ h9 hO1 hob (fun _ h => Or.inl h) (Or.inr rfl) hS dL_holders_8 (fun f9 H locs hf9 hC1 hO1 hS => ?_)
    refine lv_goto (tgt := 15) hx hb dL_holders_9 (by decide) ?_
    refine lv_iconst (v := iI 0) hx hb dL_holders_15 rfl ?_
    exact hret 0 (w9, f9) _ _ _ _ _ _ dL_holders_16 hC1 hO1 hS (by omega) (by omega) ⟨by rw [hq0], hrel, fun _ => by show f9 0 = _; rw [hf9, hr9]⟩

set_option maxRecDepth 100000 in
set_option maxHeartbeats 4000000 in
theorem c_L_tier (l : Launch) (D : va_G) (cO : ClassId) (dz mi : Nat) {A : Nat → Prop} {S : HdS} {w : CW} {g : Nat → Int → Nat} {T : Nat → Nat × Int} {n : Int} (hw : wf S n) (hR : RelC S w g T (usg S)) (hst : l.stackTraces = false) (cJ : ClassId) (ob : Nat) (f : Nat → Int64) (i : Int) (r_i : inQ i) : lI l yL_tier wsL_tier { frames := 8, cells := 1, slots := 6, locals := 132 } D cO dz mi A w cJ ob f [.ref (g 0 0), .int (iI i), .ref ob] (g 0 0) (sp_fil S i (tierS S i)) 1 6 := by
  refine lI_of (cc := cL_tier) (maxL := 4) (hh := [(0, 9, 12, 13)]) (by decide) rfl (Nat.le_of_ble_eq_true rfl) ?_
  intro pp ee ss mm args below meth cc Q hx hb hml hown hts hA hC hE hX hob hO hJ hN hto hret ls hl
  have hl : lv_has ls 4 [(0, .ref (g 0 0)), (1, .int (iI i)), (2, .ref ob)] := hl
  refine lv_aload_n hx hb dL_tier_0 rfl (lv_at hl 2 rfl) ?_
  refine lv_iconst (v := iI 0) hx hb dL_tier_1 rfl ?_
  refine lv_aload_n hx hb dL_tier_2 rfl (lv_at hl 0 rfl) ?_
  refine lv_iload_n hx hb dL_tier_3 rfl (lv_at hl 1 rfl) ?_
  refine vx_calli (A0 := lFr A ob) (A1 := A) (AX := A) (free := A) (vx_runV (As := [.int (iI i)]) (rest := [.int (iI 0), .ref ob]) ⟨hx, hb, hml, hown, hts⟩ (cIX_get (q := sp_fil S i (tierS S i)) hR (fun h9 => by unfold sp_fil; exact iteC_neg (fun z => z h9)) (fun h9 => by unfold sp_fil; exact iteC_pos h9) (c_tier l D cO dz mi hw hR hst i r_i)) (cwV 1 hts gL_tier_X3_tier rfl rfl rfl (by decide +kernel) ⟨Nat.le_of_ble_eq_true rfl, Nat.le_of_ble_eq_true rfl⟩) (c_preV hA hE hX hC va_S.rf hR.k0 (by decide) (by decide) rfl) rfl rfl hl.1 rfl (lv_room (Nat.le_of_ble_eq_true rfl)) dL_tier_4 ⟨Nat.le_of_ble_eq_true rfl, Nat.le_of_ble_eq_true rfl⟩) va_S.rf (fun _ _ h => Or.inl h) (fun _ h => Or.inl h) (fun _ _ h => Or.inl h) (fun E9 ce q9 u9 t9 H locs ht _ hu hB _ hkeep hS hce hcv hcl => ?_) (fun r9 w9 t9 H locs ht _ hp hB _ hkeep hS => ?_)
  · have h9 : cH D cO dz A u9 t9.heap := hB.2
    rw [hu, ht] at h9
    have hO1 := oC_kept hO hkeep hob
    obtain ⟨hq0, hEq⟩ := hB.1
    rcases spn_fil (S := S) i _ with h0 | ⟨k1, k2, hS0⟩
    · exact absurd h0 hq0
    have hs9 : ∃ (g9 : Nat → Int → Nat) (T9 : Nat → Nat × Int), g9 0 0 = g 0 0 ∧ RelC (sp_fil S i (tierS S i)).2.2 w g9 T9 (usg (sp_fil S i (tierS S i)).2.2) := ⟨g, T, rfl, by rw [hS0]; exact hR⟩
    have hk : (sp_fil S i (tierS S i)).1 = 1 := by omega
    have hE9 : E9 = xIOB := by rw [hEq, hk]; rfl
    subst hE9
    refine vx_catch (name := xIOB) hown [] ⟨0, 9, 12, 13⟩ [] (by rw [hto]; rfl) (fun z hz => absurd hz List.not_mem_nil) (by decide) (by decide) (hts (.classLink RL 13 xIOB) (by decide +kernel)) (va_Nw.use (xB_tab (.castable xIOB xIOB) (by simp [xB])) (hX.2.2.1 (.castable xIOB xIOB) (by simp [xB]))) hce hcv hcl ?_
    refine lv_astore_n (lv' := [(3, .ref q9), (0, .ref (g 0 0)), (1, .int (iI i)), (2, .ref ob)]) hx hb dL_tier_12 rfl hl (by decide) rfl (fun ls hl => ?_)
    refine lv_iconst (v := iI 1) hx hb dL_tier_13 rfl ?_
    exact hret 1 (w, f) _ _ _ _ _ _ dL_tier_14 h9 hO1 hS (by omega) (by omega) ⟨by rw [hk], hs9, fun z => absurd z hq0⟩
  · have h9 : cH D cO dz A w9 t9.heap := hB
    rw [ht] at h9
    have hO1 := oC_kept hO hkeep hob
    obtain ⟨hq0, hr9, hrel⟩ := hp
    refine lv_i2l (v := r9.toInt64) hx hb dL_tier_7 rfl ?_
    refine l_put (A1 := lFr A ob) hx hb hJ h9 hO1 hob (fun _ h => Or.inl h) (Or.inr rfl) hS dL_tier_8 (fun f9 H locs hf9 hC1 hO1 hS => ?_)
    refine lv_goto (tgt := 15) hx hb dL_tier_9 (by decide) ?_
    refine lv_iconst (v := iI 0) hx hb dL_tier_15 rfl ?_
    exact hret 0 (w9, f9) _ _ _ _ _ _ dL_tier_16 hC1 hO1 hS (by omega) (by omega) ⟨by rw [hq0], hrel, fun _ => by show f9 0 = _; rw [hf9, hr9]⟩

set_option maxRecDepth 100000 in
set_option maxHeartbeats 4000000 in
theorem c_L_coins (l : Launch) (D : va_G) (cO : ClassId) (dz mi : Nat) {A : Nat → Prop} {S : HdS} {w : CW} {g : Nat → Int → Nat} {T : Nat → Nat × Int} {n : Int} (hw : wf S n) (hR : RelC S w g T (usg S)) (hst : l.stackTraces = false) (cJ : ClassId) (ob : Nat) (f : Nat → Int64) (i : Int) (r_i : inQ i) : lI l yL_coins wsL_coins { frames := 8, cells := 1, slots := 6, locals := 132 } D cO dz mi A w cJ ob f [.ref (g 0 0), .int (iI i), .ref ob] (g 0 0) (sp_dpt S i (S.1 10 i)) 1 6 := by
  refine lI_of (cc := cL_coins) (maxL := 4) (hh := [(0, 9, 12, 13)]) (by decide) rfl (Nat.le_of_ble_eq_true rfl) ?_
  intro pp ee ss mm args below meth cc Q hx hb hml hown hts hA hC hE hX hob hO hJ hN hto hret ls hl
  have hl : lv_has ls 4 [(0, .ref (g 0 0)), (1, .int (iI i)), (2, .ref ob)] := hl
  refine lv_aload_n hx hb dL_coins_0 rfl (lv_at hl 2 rfl) ?_
  refine lv_iconst (v := iI 0) hx hb dL_coins_1 rfl ?_
  refine lv_aload_n hx hb dL_coins_2 rfl (lv_at hl 0 rfl) ?_
  refine lv_iload_n hx hb dL_coins_3 rfl (lv_at hl 1 rfl) ?_
  refine vx_calli (A0 := lFr A ob) (A1 := A) (AX := A) (free := A) (vx_runV (As := [.int (iI i)]) (rest := [.int (iI 0), .ref ob]) ⟨hx, hb, hml, hown, hts⟩ (cIX_get (q := sp_dpt S i (S.1 10 i)) hR (fun h9 => by unfold sp_dpt; exact iteC_neg (fun z => z h9)) (fun h9 => by unfold sp_dpt; exact iteC_pos h9) (c_coins l D cO dz mi hw hR hst i r_i)) (cwV 1 hts gL_coins_X3_coins rfl rfl rfl (by decide +kernel) ⟨Nat.le_of_ble_eq_true rfl, Nat.le_of_ble_eq_true rfl⟩) (c_preV hA hE hX hC va_S.rf hR.k0 (by decide) (by decide) rfl) rfl rfl hl.1 rfl (lv_room (Nat.le_of_ble_eq_true rfl)) dL_coins_4 ⟨Nat.le_of_ble_eq_true rfl, Nat.le_of_ble_eq_true rfl⟩) va_S.rf (fun _ _ h => Or.inl h) (fun _ h => Or.inl h) (fun _ _ h => Or.inl h) (fun E9 ce q9 u9 t9 H locs ht _ hu hB _ hkeep hS hce hcv hcl => ?_) (fun r9 w9 t9 H locs ht _ hp hB _ hkeep hS => ?_)
  · have h9 : cH D cO dz A u9 t9.heap := hB.2
    rw [hu, ht] at h9
    have hO1 := oC_kept hO hkeep hob
    obtain ⟨hq0, hEq⟩ := hB.1
    rcases spn_dpt (S := S) i _ with h0 | ⟨k1, k2, hS0⟩
    · exact absurd h0 hq0
    have hs9 : ∃ (g9 : Nat → Int → Nat) (T9 : Nat → Nat × Int), g9 0 0 = g 0 0 ∧ RelC (sp_dpt S i (S.1 10 i)).2.2 w g9 T9 (usg (sp_dpt S i (S.1 10 i)).2.2) := ⟨g, T, rfl, by rw [hS0]; exact hR⟩
    have hk : (sp_dpt S i (S.1 10 i)).1 = 1 := by omega
    have hE9 : E9 = xIOB := by rw [hEq, hk]; rfl
    subst hE9
    refine vx_catch (name := xIOB) hown [] ⟨0, 9, 12, 13⟩ [] (by rw [hto]; rfl) (fun z hz => absurd hz List.not_mem_nil) (by decide) (by decide) (hts (.classLink RL 13 xIOB) (by decide +kernel)) (va_Nw.use (xB_tab (.castable xIOB xIOB) (by simp [xB])) (hX.2.2.1 (.castable xIOB xIOB) (by simp [xB]))) hce hcv hcl ?_
    refine lv_astore_n (lv' := [(3, .ref q9), (0, .ref (g 0 0)), (1, .int (iI i)), (2, .ref ob)]) hx hb dL_coins_12 rfl hl (by decide) rfl (fun ls hl => ?_)
    refine lv_iconst (v := iI 1) hx hb dL_coins_13 rfl ?_
    exact hret 1 (w, f) _ _ _ _ _ _ dL_coins_14 h9 hO1 hS (by omega) (by omega) ⟨by rw [hk], hs9, fun z => absurd z hq0⟩
  · have h9 : cH D cO dz A w9 t9.heap := hB
    rw [ht] at h9
    have hO1 := oC_kept hO hkeep hob
    obtain ⟨hq0, hr9, hrel⟩ := hp
    refine lv_i2l (v := r9.toInt64) hx hb dL_coins_7 rfl ?_
    refine l_put (A1 := lFr A ob) hx hb hJ h9 hO1 hob (fun _ h => Or.inl h) (Or.inr rfl) hS dL_coins_8 (fun f9 H locs hf9 hC1 hO1 hS => ?_)
    refine lv_goto (tgt := 15) hx hb dL_coins_9 (by decide) ?_
    refine lv_iconst (v := iI 0) hx hb dL_coins_15 rfl ?_
    exact hret 0 (w9, f9) _ _ _ _ _ _ dL_coins_16 hC1 hO1 hS (by omega) (by omega) ⟨by rw [hq0], hrel, fun _ => by show f9 0 = _; rw [hf9, hr9]⟩

set_option maxRecDepth 100000 in
set_option maxHeartbeats 4000000 in
theorem c_L_bill (l : Launch) (D : va_G) (cO : ClassId) (dz mi : Nat) {A : Nat → Prop} {S : HdS} {w : CW} {g : Nat → Int → Nat} {T : Nat → Nat × Int} {n : Int} (hw : wf S n) (hR : RelC S w g T (usg S)) (hst : l.stackTraces = false) (cJ : ClassId) (ob : Nat) (f : Nat → Int64) (i : Int) (r_i : inQ i) : lI l yL_bill wsL_bill { frames := 8, cells := 1, slots := 6, locals := 132 } D cO dz mi A w cJ ob f [.ref (g 0 0), .int (iI i), .ref ob] (g 0 0) (sp_dpt S i (bil S i)) 1 6 := by
  refine lI_of (cc := cL_bill) (maxL := 4) (hh := [(0, 9, 12, 13)]) (by decide) rfl (Nat.le_of_ble_eq_true rfl) ?_
  intro pp ee ss mm args below meth cc Q hx hb hml hown hts hA hC hE hX hob hO hJ hN hto hret ls hl
  have hl : lv_has ls 4 [(0, .ref (g 0 0)), (1, .int (iI i)), (2, .ref ob)] := hl
  refine lv_aload_n hx hb dL_bill_0 rfl (lv_at hl 2 rfl) ?_
  refine lv_iconst (v := iI 0) hx hb dL_bill_1 rfl ?_
  refine lv_aload_n hx hb dL_bill_2 rfl (lv_at hl 0 rfl) ?_
  refine lv_iload_n hx hb dL_bill_3 rfl (lv_at hl 1 rfl) ?_
  refine vx_calli (A0 := lFr A ob) (A1 := A) (AX := A) (free := A) (vx_runV (As := [.int (iI i)]) (rest := [.int (iI 0), .ref ob]) ⟨hx, hb, hml, hown, hts⟩ (cIX_get (q := sp_dpt S i (bil S i)) hR (fun h9 => by unfold sp_dpt; exact iteC_neg (fun z => z h9)) (fun h9 => by unfold sp_dpt; exact iteC_pos h9) (c_bill l D cO dz mi hw hR hst i r_i)) (cwV 1 hts gL_bill_X3_bill rfl rfl rfl (by decide +kernel) ⟨Nat.le_of_ble_eq_true rfl, Nat.le_of_ble_eq_true rfl⟩) (c_preV hA hE hX hC va_S.rf hR.k0 (by decide) (by decide) rfl) rfl rfl hl.1 rfl (lv_room (Nat.le_of_ble_eq_true rfl)) dL_bill_4 ⟨Nat.le_of_ble_eq_true rfl, Nat.le_of_ble_eq_true rfl⟩) va_S.rf (fun _ _ h => Or.inl h) (fun _ h => Or.inl h) (fun _ _ h => Or.inl h) (fun E9 ce q9 u9 t9 H locs ht _ hu hB _ hkeep hS hce hcv hcl => ?_) (fun r9 w9 t9 H locs ht _ hp hB _ hkeep hS => ?_)
  · have h9 : cH D cO dz A u9 t9.heap := hB.2
    rw [hu, ht] at h9
    have hO1 := oC_kept hO hkeep hob
    obtain ⟨hq0, hEq⟩ := hB.1
    rcases spn_dpt (S := S) i _ with h0 | ⟨k1, k2, hS0⟩
    · exact absurd h0 hq0
    have hs9 : ∃ (g9 : Nat → Int → Nat) (T9 : Nat → Nat × Int), g9 0 0 = g 0 0 ∧ RelC (sp_dpt S i (bil S i)).2.2 w g9 T9 (usg (sp_dpt S i (bil S i)).2.2) := ⟨g, T, rfl, by rw [hS0]; exact hR⟩
    have hk : (sp_dpt S i (bil S i)).1 = 1 := by omega
    have hE9 : E9 = xIOB := by rw [hEq, hk]; rfl
    subst hE9
    refine vx_catch (name := xIOB) hown [] ⟨0, 9, 12, 13⟩ [] (by rw [hto]; rfl) (fun z hz => absurd hz List.not_mem_nil) (by decide) (by decide) (hts (.classLink RL 13 xIOB) (by decide +kernel)) (va_Nw.use (xB_tab (.castable xIOB xIOB) (by simp [xB])) (hX.2.2.1 (.castable xIOB xIOB) (by simp [xB]))) hce hcv hcl ?_
    refine lv_astore_n (lv' := [(3, .ref q9), (0, .ref (g 0 0)), (1, .int (iI i)), (2, .ref ob)]) hx hb dL_bill_12 rfl hl (by decide) rfl (fun ls hl => ?_)
    refine lv_iconst (v := iI 1) hx hb dL_bill_13 rfl ?_
    exact hret 1 (w, f) _ _ _ _ _ _ dL_bill_14 h9 hO1 hS (by omega) (by omega) ⟨by rw [hk], hs9, fun z => absurd z hq0⟩
  · have h9 : cH D cO dz A w9 t9.heap := hB
    rw [ht] at h9
    have hO1 := oC_kept hO hkeep hob
    obtain ⟨hq0, hr9, hrel⟩ := hp
    refine lv_i2l (v := r9.toInt64) hx hb dL_bill_7 rfl ?_
    refine l_put (A1 := lFr A ob) hx hb hJ h9 hO1 hob (fun _ h => Or.inl h) (Or.inr rfl) hS dL_bill_8 (fun f9 H locs hf9 hC1 hO1 hS => ?_)
    refine lv_goto (tgt := 15) hx hb dL_bill_9 (by decide) ?_
    refine lv_iconst (v := iI 0) hx hb dL_bill_15 rfl ?_
    exact hret 0 (w9, f9) _ _ _ _ _ _ dL_bill_16 hC1 hO1 hS (by omega) (by omega) ⟨by rw [hq0], hrel, fun _ => by show f9 0 = _; rw [hf9, hr9]⟩
