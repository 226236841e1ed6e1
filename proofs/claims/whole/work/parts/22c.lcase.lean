set_option maxRecDepth 100000 in
set_option maxHeartbeats 4000000 in
theorem law_directories {p : Program} {l : Launch} {e : Env} {s : State} {m : MethodId} {below : List Frame} {meth : Method} {c : Code} {Q : State → Prop} {b L : Nat} {xs : Nat → Int32} {D : va_G} {cO : ClassId} {dz mi : Nat} {kI cJ : ClassId} {ad : Nat → Nat} {ob a0 : Nat} (C : LCtx p l s m c b L xs D cO dz mi kI cJ ad ob) {n i : Int} {H : Heap} {cells slots : Nat} {ls : Array Slot} (hinv : LInv D cO dz kI cJ s ad ob a0 n H) (hn : n < 512) (h0 : 0 ≤ i) (h1 : i + 4 ≤ L) (hc : cells + 9 ≤ 601024) (hs : slots + 3033 ≤ 7293034) (kk : LTail p l e s m b below meth c D cO dz kI cJ ad ob a0 Q n i cells slots) (hl : lv_has ls 7 [(0, .ref b), (1, .ref a0), (2, .ref (ad 11)), (3, .ref ob), (4, .int (iI i))]) : W p l e room_1 s m #[Value.ref b] below meth c H [] cells slots Q (F0 m 881 ls []) := by
  obtain ⟨hx, hb, hml, hown, hts, hX, hbl, hL, hEn, hFx, hst⟩ := C
  obtain ⟨S, w, g, T, u, f, hw, hR, rfl, hM, hLW, hS⟩ := hinv
  obtain ⟨u0, hDM⟩ := hFx.2.2.2
  refine lv_aload_n hx hb dL_law_881 rfl (lv_at hl 1 rfl) ?_
  refine l_sys (As := []) (rest := []) (v := S.1 11 0) ⟨hx, hb, hml, hown, hts⟩ (c_directories l D cO dz mi hw hR) (cwV 0 hts gL_law_X3_directories rfl rfl rfl (by decide +kernel) ⟨Nat.le_of_ble_eq_true rfl, Nat.le_of_ble_eq_true rfl⟩) hEn hLW hS hR.k0 rfl hl.1 rfl (Nat.le_of_ble_eq_true rfl) ⟨by show cells ≤ 601024; omega, by show slots ≤ 7293034; omega⟩ dL_law_882 (fun H hLW hS => ?_)
  refine lv_aload_n hx hb dL_law_885 rfl (lv_at hl 2 rfl) ?_
  refine l_mod (As := []) (rest := [.int (iI (S.1 11 0))]) ⟨hx, hb, hml, hown, hts⟩ (c_X4_directories l D ad kI hDM hw u hM) (cwV 0 hts gL_law_X4_directories rfl rfl rfl (by decide +kernel) ⟨Nat.le_of_ble_eq_true rfl, Nat.le_of_ble_eq_true rfl⟩) hEn hFx hLW hS rfl hl.1 rfl (Nat.le_of_ble_eq_true rfl) ⟨by show cells ≤ 601024; omega, by show slots ≤ 7293034; omega⟩ dL_law_886 (fun r u1 H hp hLW hS => ?_)
  obtain ⟨rfl, ht, hM1⟩ := hp
  have hnd := hw.nd
  have hnf := hw.nf
  have hdy := hw.day
  refine h_icmp_eq (tgt := 1411) hx hb (a := S.1 11 0) (b := S.1 11 0) ⟨by omega, by omega⟩ ⟨by omega, by omega⟩ dL_law_889 (by decide) (fun _ => ?_) (fun c9 => absurd rfl c9)
  exact W.widen (k := cells + 9) (n := slots + 3033) (by omega) (by omega) (kk _ ls ⟨S, w, g, T, u1, f, wf_up hw hn, hR, rfl, hM1, hLW, hS⟩ (lv_sub hl [0, 1, 2, 3, 4] rfl))

set_option maxRecDepth 100000 in
set_option maxHeartbeats 4000000 in
theorem law_files {p : Program} {l : Launch} {e : Env} {s : State} {m : MethodId} {below : List Frame} {meth : Method} {c : Code} {Q : State → Prop} {b L : Nat} {xs : Nat → Int32} {D : va_G} {cO : ClassId} {dz mi : Nat} {kI cJ : ClassId} {ad : Nat → Nat} {ob a0 : Nat} (C : LCtx p l s m c b L xs D cO dz mi kI cJ ad ob) {n i : Int} {H : Heap} {cells slots : Nat} {ls : Array Slot} (hinv : LInv D cO dz kI cJ s ad ob a0 n H) (hn : n < 512) (h0 : 0 ≤ i) (h1 : i + 4 ≤ L) (hc : cells + 9 ≤ 601024) (hs : slots + 3033 ≤ 7293034) (kk : LTail p l e s m b below meth c D cO dz kI cJ ad ob a0 Q n i cells slots) (hl : lv_has ls 7 [(0, .ref b), (1, .ref a0), (2, .ref (ad 11)), (3, .ref ob), (4, .int (iI i))]) : W p l e room_1 s m #[Value.ref b] below meth c H [] cells slots Q (F0 m 894 ls []) := by
  obtain ⟨hx, hb, hml, hown, hts, hX, hbl, hL, hEn, hFx, hst⟩ := C
  obtain ⟨S, w, g, T, u, f, hw, hR, rfl, hM, hLW, hS⟩ := hinv
  obtain ⟨u0, hDM⟩ := hFx.2.2.2
  refine lv_aload_n hx hb dL_law_894 rfl (lv_at hl 1 rfl) ?_
  refine l_sys (As := []) (rest := []) (v := S.1 11 1) ⟨hx, hb, hml, hown, hts⟩ (c_files l D cO dz mi hw hR) (cwV 0 hts gL_law_X3_files rfl rfl rfl (by decide +kernel) ⟨Nat.le_of_ble_eq_true rfl, Nat.le_of_ble_eq_true rfl⟩) hEn hLW hS hR.k0 rfl hl.1 rfl (Nat.le_of_ble_eq_true rfl) ⟨by show cells ≤ 601024; omega, by show slots ≤ 7293034; omega⟩ dL_law_895 (fun H hLW hS => ?_)
  refine lv_aload_n hx hb dL_law_898 rfl (lv_at hl 2 rfl) ?_
  refine l_mod (As := []) (rest := [.int (iI (S.1 11 1))]) ⟨hx, hb, hml, hown, hts⟩ (c_X4_files l D ad kI hDM hw u hM) (cwV 0 hts gL_law_X4_files rfl rfl rfl (by decide +kernel) ⟨Nat.le_of_ble_eq_true rfl, Nat.le_of_ble_eq_true rfl⟩) hEn hFx hLW hS rfl hl.1 rfl (Nat.le_of_ble_eq_true rfl) ⟨by show cells ≤ 601024; omega, by show slots ≤ 7293034; omega⟩ dL_law_899 (fun r u1 H hp hLW hS => ?_)
  obtain ⟨rfl, ht, hM1⟩ := hp
  have hnd := hw.nd
  have hnf := hw.nf
  have hdy := hw.day
  refine h_icmp_eq (tgt := 1411) hx hb (a := S.1 11 1) (b := S.1 11 1) ⟨by omega, by omega⟩ ⟨by omega, by omega⟩ dL_law_902 (by decide) (fun _ => ?_) (fun c9 => absurd rfl c9)
  exact W.widen (k := cells + 9) (n := slots + 3033) (by omega) (by omega) (kk _ ls ⟨S, w, g, T, u1, f, wf_up hw hn, hR, rfl, hM1, hLW, hS⟩ (lv_sub hl [0, 1, 2, 3, 4] rfl))

set_option maxRecDepth 100000 in
set_option maxHeartbeats 4000000 in
theorem law_usage {p : Program} {l : Launch} {e : Env} {s : State} {m : MethodId} {below : List Frame} {meth : Method} {c : Code} {Q : State → Prop} {b L : Nat} {xs : Nat → Int32} {D : va_G} {cO : ClassId} {dz mi : Nat} {kI cJ : ClassId} {ad : Nat → Nat} {ob a0 : Nat} (C : LCtx p l s m c b L xs D cO dz mi kI cJ ad ob) {n i : Int} {H : Heap} {cells slots : Nat} {ls : Array Slot} (hinv : LInv D cO dz kI cJ s ad ob a0 n H) (hn : n < 512) (h0 : 0 ≤ i) (h1 : i + 4 ≤ L) (hc : cells + 9 ≤ 601024) (hs : slots + 3033 ≤ 7293034) (kk : LTail p l e s m b below meth c D cO dz kI cJ ad ob a0 Q n i cells slots) (hl : lv_has ls 7 [(0, .ref b), (1, .ref a0), (2, .ref (ad 11)), (3, .ref ob), (4, .int (iI i))]) : W p l e room_1 s m #[Value.ref b] below meth c H [] cells slots Q (F0 m 907 ls []) := by
  obtain ⟨hx, hb, hml, hown, hts, hX, hbl, hL, hEn, hFx, hst⟩ := C
  obtain ⟨S, w, g, T, u, f, hw, hR, rfl, hM, hLW, hS⟩ := hinv
  obtain ⟨u0, hDM⟩ := hFx.2.2.2
  refine lv_aload_n hx hb dL_law_907 rfl (lv_at hl 1 rfl) ?_
  refine lv_aload_n hx hb dL_law_908 rfl (lv_at hl 0 rfl) ?_
  refine lv_iload hx hb dL_law_909 (lv_at hl 4 rfl) ?_
  refine lv_iconst (v := iI 1) hx hb dL_law_911 rfl ?_
  refine h_iadd hx hb dL_law_912 ?_
  refine l_sld hx hb hX hbl hS hL (z := i + 1) (by omega) (by omega) dL_law_913 ?_
  refine lv_aload_n hx hb dL_law_914 rfl (lv_at hl 3 rfl) ?_
  refine l_wrap (As := [.ref (g 0 0), .int (iI ((xs (i + 1).toNat).toInt)), .ref ob]) (rest := []) ⟨hx, hb, hml, hown, hts⟩ (c_L_usage l D cO dz mi hw hR hst cJ ob f ((xs (i + 1).toNat).toInt) (iI_inR _)) (vx_cwSW 3 hts gL_law_L_usage rfl rfl rfl (by decide +kernel) ⟨Nat.le_of_ble_eq_true rfl, Nat.le_of_ble_eq_true rfl⟩) hEn hFx hLW hS rfl hl.1 rfl (Nat.le_of_ble_eq_true rfl) ⟨by show cells + 1 ≤ 601024; omega, by show slots + 6 ≤ 7293034; omega⟩ dL_law_915 (fun w1 f1 H hrel hans hLW hS => ?_)
  obtain ⟨g1, T1, hg1, hR1⟩ := hrel
  have hq9 : 0 ≤ (sp_dir S ((xs (i + 1).toNat).toInt) (usg S ((xs (i + 1).toNat).toInt))).1 ∧ (sp_dir S ((xs (i + 1).toNat).toInt) (usg S ((xs (i + 1).toNat).toInt))).1 ≤ 3 := by rcases spn_dir (S := S) ((xs (i + 1).toNat).toInt) (usg S ((xs (i + 1).toNat).toInt)) with h9 | ⟨h9, h8, -⟩ <;> omega
  refine lv_istore (lv' := [(5, .int (iI (sp_dir S ((xs (i + 1).toNat).toInt) (usg S ((xs (i + 1).toNat).toInt))).1)), (0, .ref b), (1, .ref (g 0 0)), (2, .ref (ad 11)), (3, .ref ob), (4, .int (iI i))]) hx hb dL_law_918 hl (by decide) rfl (fun ls hl => ?_)
  refine lv_aload_n hx hb dL_law_920 rfl (lv_at hl 3 rfl) ?_
  refine lv_aload_n hx hb dL_law_921 rfl (lv_at hl 1 rfl) ?_
  refine lv_iload hx hb dL_law_922 (lv_at hl 5 rfl) ?_
  refine lv_iconst (v := iI 1) hx hb dL_law_924 rfl ?_
  refine h_iadd hx hb dL_law_925 ?_
  refine l_sld hx hb hX hbl hS hL (z := i + 1) (by omega) (by omega) dL_law_926 ?_
  refine l_mod (As := [.int (iI ((xs (i + 1).toNat).toInt))]) (rest := []) ⟨hx, hb, hml, hown, hts⟩ (c_X4_usage l D ad kI hDM hw u hM ((xs (i + 1).toNat).toInt) (iI_inR _)) (cwV 1 hts gL_law_X4_usage rfl rfl rfl (by decide +kernel) ⟨Nat.le_of_ble_eq_true rfl, Nat.le_of_ble_eq_true rfl⟩) hEn hFx hLW hS rfl hl.1 rfl (Nat.le_of_ble_eq_true rfl) ⟨by show cells + 1 ≤ 601024; omega, by show slots + 6 ≤ 7293034; omega⟩ dL_law_927 (fun r u1 H hp hLW hS => ?_)
  obtain ⟨rfl, ht, hM1⟩ := hp
  refine lv_istore (lv' := [(6, .int (iI (sp_dir S ((xs (i + 1).toNat).toInt) (usg S ((xs (i + 1).toNat).toInt))).2.1)), (5, .int (iI (sp_dir S ((xs (i + 1).toNat).toInt) (usg S ((xs (i + 1).toNat).toInt))).1)), (0, .ref b), (1, .ref (g 0 0)), (2, .ref (ad 11)), (3, .ref ob), (4, .int (iI i))]) hx hb dL_law_930 hl (by decide) rfl (fun ls hl => ?_)
  refine lv_aload_n hx hb dL_law_932 rfl (lv_at hl 4 rfl) ?_
  refine l_mod (As := []) (rest := []) ⟨hx, hb, hml, hown, hts⟩ (c_X4_thrown l D ad kI hDM u1 (sp_dir S ((xs (i + 1).toNat).toInt) (usg S ((xs (i + 1).toNat).toInt))).1 ht) (cwV 0 hts gL_law_X4_thrown rfl rfl rfl (by decide +kernel) ⟨Nat.le_of_ble_eq_true rfl, Nat.le_of_ble_eq_true rfl⟩) hEn hFx hLW hS rfl hl.1 rfl (Nat.le_of_ble_eq_true rfl) ⟨by show cells + 1 ≤ 601024; omega, by show slots + 6 ≤ 7293034; omega⟩ dL_law_933 (fun r u2 H hp hLW hS => ?_)
  obtain ⟨rfl, rfl⟩ := hp
  refine lv_iload hx hb dL_law_936 (lv_at hl 1 rfl) ?_
  refine h_icmp_eq (tgt := 943) hx hb (a := (sp_dir S ((xs (i + 1).toNat).toInt) (usg S ((xs (i + 1).toNat).toInt))).1) (b := (sp_dir S ((xs (i + 1).toNat).toInt) (usg S ((xs (i + 1).toNat).toInt))).1) ⟨by omega, by omega⟩ ⟨by omega, by omega⟩ dL_law_938 (by decide) (fun _ => ?_) (fun c9 => absurd rfl c9)
  refine lv_iload hx hb dL_law_943 (lv_at hl 1 rfl) ?_
  refine h_if_ne (tgt := 960) hx hb (a := (sp_dir S ((xs (i + 1).toNat).toInt) (usg S ((xs (i + 1).toNat).toInt))).1) ⟨by omega, by omega⟩ dL_law_945 (by decide) (fun c8 => ?_) (fun c8 => ?_)
  · skip
    refine lv_goto (tgt := 1411) hx hb dL_law_960 (by decide) ?_
    exact W.widen (k := cells + 9) (n := slots + 3033) (by omega) (by omega) (kk _ ls ⟨(sp_dir S ((xs (i + 1).toNat).toInt) (usg S ((xs (i + 1).toNat).toInt))).2.2, w1, g1, T1, u1, f1, wfs_dir hw hn ((xs (i + 1).toNat).toInt) _, hR1, hg1, hM1, hLW, hS⟩ (lv_sub hl [2, 3, 4, 5, 6] rfl))
  · skip
    refine lv_aload_n hx hb dL_law_948 rfl (lv_at hl 5 rfl) ?_
    refine lv_iconst (v := iI 0) hx hb dL_law_949 rfl ?_
    refine l_lald hx hb hEn hLW (hans c8) dL_law_950 ?_
    refine lv_iload hx hb dL_law_951 (lv_at hl 0 rfl) ?_
    refine lv_i2l (v := (iI (sp_dir S ((xs (i + 1).toNat).toInt) (usg S ((xs (i + 1).toNat).toInt))).2.1).toInt64) hx hb dL_law_953 rfl ?_
    refine W.lcmp hx hb dL_law_954 ?_
    refine h_top hx (y := iI 0) (cmp_same _) ?_
    refine h_if_eq (tgt := 960) hx hb (a := 0) ⟨by omega, by omega⟩ dL_law_955 (by decide) (fun _ => ?_) (fun c7 => absurd rfl c7)
    refine lv_goto (tgt := 1411) hx hb dL_law_960 (by decide) ?_
    exact W.widen (k := cells + 9) (n := slots + 3033) (by omega) (by omega) (kk _ ls ⟨(sp_dir S ((xs (i + 1).toNat).toInt) (usg S ((xs (i + 1).toNat).toInt))).2.2, w1, g1, T1, u1, f1, wfs_dir hw hn ((xs (i + 1).toNat).toInt) _, hR1, hg1, hM1, hLW, hS⟩ (lv_sub hl [2, 3, 4, 5, 6] rfl))

set_option maxRecDepth 100000 in
set_option maxHeartbeats 4000000 in
theorem law_usageByWalking {p : Program} {l : Launch} {e : Env} {s : State} {m : MethodId} {below : List Frame} {meth : Method} {c : Code} {Q : State → Prop} {b L : Nat} {xs : Nat → Int32} {D : va_G} {cO : ClassId} {dz mi : Nat} {kI cJ : ClassId} {ad : Nat → Nat} {ob a0 : Nat} (C : LCtx p l s m c b L xs D cO dz mi kI cJ ad ob) {n i : Int} {H : Heap} {cells slots : Nat} {ls : Array Slot} (hinv : LInv D cO dz kI cJ s ad ob a0 n H) (hn : n < 512) (h0 : 0 ≤ i) (h1 : i + 4 ≤ L) (hc : cells + 9 ≤ 601024) (hs : slots + 3033 ≤ 7293034) (kk : LTail p l e s m b below meth c D cO dz kI cJ ad ob a0 Q n i cells slots) (hl : lv_has ls 7 [(0, .ref b), (1, .ref a0), (2, .ref (ad 11)), (3, .ref ob), (4, .int (iI i))]) : W p l e room_1 s m #[Value.ref b] below meth c H [] cells slots Q (F0 m 963 ls []) := by
  obtain ⟨hx, hb, hml, hown, hts, hX, hbl, hL, hEn, hFx, hst⟩ := C
  obtain ⟨S, w, g, T, u, f, hw, hR, rfl, hM, hLW, hS⟩ := hinv
  obtain ⟨u0, hDM⟩ := hFx.2.2.2
  refine lv_aload_n hx hb dL_law_963 rfl (lv_at hl 1 rfl) ?_
  refine lv_aload_n hx hb dL_law_964 rfl (lv_at hl 0 rfl) ?_
  refine lv_iload hx hb dL_law_965 (lv_at hl 4 rfl) ?_
  refine lv_iconst (v := iI 1) hx hb dL_law_967 rfl ?_
  refine h_iadd hx hb dL_law_968 ?_
  refine l_sld hx hb hX hbl hS hL (z := i + 1) (by omega) (by omega) dL_law_969 ?_
  refine lv_aload_n hx hb dL_law_970 rfl (lv_at hl 3 rfl) ?_
  refine l_wrap (As := [.ref (g 0 0), .int (iI ((xs (i + 1).toNat).toInt)), .ref ob]) (rest := []) ⟨hx, hb, hml, hown, hts⟩ (c_L_usageByWalking l D cO dz mi hw hR hst cJ ob f ((xs (i + 1).toNat).toInt) (iI_inR _)) (vx_cwSW 3 hts gL_law_L_usageByWalking rfl rfl rfl (by decide +kernel) ⟨Nat.le_of_ble_eq_true rfl, Nat.le_of_ble_eq_true rfl⟩) hEn hFx hLW hS rfl hl.1 rfl (Nat.le_of_ble_eq_true rfl) ⟨by show cells + 1 ≤ 601024; omega, by show slots + 6 ≤ 7293034; omega⟩ dL_law_971 (fun w1 f1 H hrel hans hLW hS => ?_)
  obtain ⟨g1, T1, hg1, hR1⟩ := hrel
  have hq9 : 0 ≤ (sp_dir S ((xs (i + 1).toNat).toInt) (usg S ((xs (i + 1).toNat).toInt))).1 ∧ (sp_dir S ((xs (i + 1).toNat).toInt) (usg S ((xs (i + 1).toNat).toInt))).1 ≤ 3 := by rcases spn_dir (S := S) ((xs (i + 1).toNat).toInt) (usg S ((xs (i + 1).toNat).toInt)) with h9 | ⟨h9, h8, -⟩ <;> omega
  refine lv_istore (lv' := [(5, .int (iI (sp_dir S ((xs (i + 1).toNat).toInt) (usg S ((xs (i + 1).toNat).toInt))).1)), (0, .ref b), (1, .ref (g 0 0)), (2, .ref (ad 11)), (3, .ref ob), (4, .int (iI i))]) hx hb dL_law_974 hl (by decide) rfl (fun ls hl => ?_)
  refine lv_aload_n hx hb dL_law_976 rfl (lv_at hl 3 rfl) ?_
  refine lv_aload_n hx hb dL_law_977 rfl (lv_at hl 1 rfl) ?_
  refine lv_iload hx hb dL_law_978 (lv_at hl 5 rfl) ?_
  refine lv_iconst (v := iI 1) hx hb dL_law_980 rfl ?_
  refine h_iadd hx hb dL_law_981 ?_
  refine l_sld hx hb hX hbl hS hL (z := i + 1) (by omega) (by omega) dL_law_982 ?_
  refine l_mod (As := [.int (iI ((xs (i + 1).toNat).toInt))]) (rest := []) ⟨hx, hb, hml, hown, hts⟩ (c_X4_usageByWalking l D ad kI hDM hw u hM ((xs (i + 1).toNat).toInt) (iI_inR _)) (cwV 1 hts gL_law_X4_usageByWalking rfl rfl rfl (by decide +kernel) ⟨Nat.le_of_ble_eq_true rfl, Nat.le_of_ble_eq_true rfl⟩) hEn hFx hLW hS rfl hl.1 rfl (Nat.le_of_ble_eq_true rfl) ⟨by show cells + 1 ≤ 601024; omega, by show slots + 6 ≤ 7293034; omega⟩ dL_law_983 (fun r u1 H hp hLW hS => ?_)
  obtain ⟨rfl, ht, hM1⟩ := hp
  refine lv_istore (lv' := [(6, .int (iI (sp_dir S ((xs (i + 1).toNat).toInt) (usg S ((xs (i + 1).toNat).toInt))).2.1)), (5, .int (iI (sp_dir S ((xs (i + 1).toNat).toInt) (usg S ((xs (i + 1).toNat).toInt))).1)), (0, .ref b), (1, .ref (g 0 0)), (2, .ref (ad 11)), (3, .ref ob), (4, .int (iI i))]) hx hb dL_law_986 hl (by decide) rfl (fun ls hl => ?_)
  refine lv_aload_n hx hb dL_law_988 rfl (lv_at hl 4 rfl) ?_
  refine l_mod (As := []) (rest := []) ⟨hx, hb, hml, hown, hts⟩ (c_X4_thrown l D ad kI hDM u1 (sp_dir S ((xs (i + 1).toNat).toInt) (usg S ((xs (i + 1).toNat).toInt))).1 ht) (cwV 0 hts gL_law_X4_thrown rfl rfl rfl (by decide +kernel) ⟨Nat.le_of_ble_eq_true rfl, Nat.le_of_ble_eq_true rfl⟩) hEn hFx hLW hS rfl hl.1 rfl (Nat.le_of_ble_eq_true rfl) ⟨by show cells + 1 ≤ 601024; omega, by show slots + 6 ≤ 7293034; omega⟩ dL_law_989 (fun r u2 H hp hLW hS => ?_)
  obtain ⟨rfl, rfl⟩ := hp
  refine lv_iload hx hb dL_law_992 (lv_at hl 1 rfl) ?_
  refine h_icmp_eq (tgt := 999) hx hb (a := (sp_dir S ((xs (i + 1).toNat).toInt) (usg S ((xs (i + 1).toNat).toInt))).1) (b := (sp_dir S ((xs (i + 1).toNat).toInt) (usg S ((xs (i + 1).toNat).toInt))).1) ⟨by omega, by omega⟩ ⟨by omega, by omega⟩ dL_law_994 (by decide) (fun _ => ?_) (fun c9 => absurd rfl c9)
  refine lv_iload hx hb dL_law_999 (lv_at hl 1 rfl) ?_
  refine h_if_ne (tgt := 1016) hx hb (a := (sp_dir S ((xs (i + 1).toNat).toInt) (usg S ((xs (i + 1).toNat).toInt))).1) ⟨by omega, by omega⟩ dL_law_1001 (by decide) (fun c8 => ?_) (fun c8 => ?_)
  · skip
    refine lv_goto (tgt := 1411) hx hb dL_law_1016 (by decide) ?_
    exact W.widen (k := cells + 9) (n := slots + 3033) (by omega) (by omega) (kk _ ls ⟨(sp_dir S ((xs (i + 1).toNat).toInt) (usg S ((xs (i + 1).toNat).toInt))).2.2, w1, g1, T1, u1, f1, wfs_dir hw hn ((xs (i + 1).toNat).toInt) _, hR1, hg1, hM1, hLW, hS⟩ (lv_sub hl [2, 3, 4, 5, 6] rfl))
  · skip
    refine lv_aload_n hx hb dL_law_1004 rfl (lv_at hl 5 rfl) ?_
    refine lv_iconst (v := iI 0) hx hb dL_law_1005 rfl ?_
    refine l_lald hx hb hEn hLW (hans c8) dL_law_1006 ?_
    refine lv_iload hx hb dL_law_1007 (lv_at hl 0 rfl) ?_
    refine lv_i2l (v := (iI (sp_dir S ((xs (i + 1).toNat).toInt) (usg S ((xs (i + 1).toNat).toInt))).2.1).toInt64) hx hb dL_law_1009 rfl ?_
    refine W.lcmp hx hb dL_law_1010 ?_
    refine h_top hx (y := iI 0) (cmp_same _) ?_
    refine h_if_eq (tgt := 1016) hx hb (a := 0) ⟨by omega, by omega⟩ dL_law_1011 (by decide) (fun _ => ?_) (fun c7 => absurd rfl c7)
    refine lv_goto (tgt := 1411) hx hb dL_law_1016 (by decide) ?_
    exact W.widen (k := cells + 9) (n := slots + 3033) (by omega) (by omega) (kk _ ls ⟨(sp_dir S ((xs (i + 1).toNat).toInt) (usg S ((xs (i + 1).toNat).toInt))).2.2, w1, g1, T1, u1, f1, wfs_dir hw hn ((xs (i + 1).toNat).toInt) _, hR1, hg1, hM1, hLW, hS⟩ (lv_sub hl [2, 3, 4, 5, 6] rfl))

set_option maxRecDepth 100000 in
set_option maxHeartbeats 4000000 in
theorem law_size {p : Program} {l : Launch} {e : Env} {s : State} {m : MethodId} {below : List Frame} {meth : Method} {c : Code} {Q : State → Prop} {b L : Nat} {xs : Nat → Int32} {D : va_G} {cO : ClassId} {dz mi : Nat} {kI cJ : ClassId} {ad : Nat → Nat} {ob a0 : Nat} (C : LCtx p l s m c b L xs D cO dz mi kI cJ ad ob) {n i : Int} {H : Heap} {cells slots : Nat} {ls : Array Slot} (hinv : LInv D cO dz kI cJ s ad ob a0 n H) (hn : n < 512) (h0 : 0 ≤ i) (h1 : i + 4 ≤ L) (hc : cells + 9 ≤ 601024) (hs : slots + 3033 ≤ 7293034) (kk : LTail p l e s m b below meth c D cO dz kI cJ ad ob a0 Q n i cells slots) (hl : lv_has ls 7 [(0, .ref b), (1, .ref a0), (2, .ref (ad 11)), (3, .ref ob), (4, .int (iI i))]) : W p l e room_1 s m #[Value.ref b] below meth c H [] cells slots Q (F0 m 1019 ls []) := by
  obtain ⟨hx, hb, hml, hown, hts, hX, hbl, hL, hEn, hFx, hst⟩ := C
  obtain ⟨S, w, g, T, u, f, hw, hR, rfl, hM, hLW, hS⟩ := hinv
  obtain ⟨u0, hDM⟩ := hFx.2.2.2
  refine lv_aload_n hx hb dL_law_1019 rfl (lv_at hl 1 rfl) ?_
  refine lv_aload_n hx hb dL_law_1020 rfl (lv_at hl 0 rfl) ?_
  refine lv_iload hx hb dL_law_1021 (lv_at hl 4 rfl) ?_
  refine lv_iconst (v := iI 1) hx hb dL_law_1023 rfl ?_
  refine h_iadd hx hb dL_law_1024 ?_
  refine l_sld hx hb hX hbl hS hL (z := i + 1) (by omega) (by omega) dL_law_1025 ?_
  refine lv_aload_n hx hb dL_law_1026 rfl (lv_at hl 3 rfl) ?_
  refine l_wrap (As := [.ref (g 0 0), .int (iI ((xs (i + 1).toNat).toInt)), .ref ob]) (rest := []) ⟨hx, hb, hml, hown, hts⟩ (c_L_size l D cO dz mi hw hR hst cJ ob f ((xs (i + 1).toNat).toInt) (iI_inR _)) (vx_cwSW 3 hts gL_law_L_size rfl rfl rfl (by decide +kernel) ⟨Nat.le_of_ble_eq_true rfl, Nat.le_of_ble_eq_true rfl⟩) hEn hFx hLW hS rfl hl.1 rfl (Nat.le_of_ble_eq_true rfl) ⟨by show cells + 1 ≤ 601024; omega, by show slots + 6 ≤ 7293034; omega⟩ dL_law_1027 (fun w1 f1 H hrel hans hLW hS => ?_)
  obtain ⟨g1, T1, hg1, hR1⟩ := hrel
  have hq9 : 0 ≤ (sp_fil S ((xs (i + 1).toNat).toInt) (S.1 3 ((xs (i + 1).toNat).toInt))).1 ∧ (sp_fil S ((xs (i + 1).toNat).toInt) (S.1 3 ((xs (i + 1).toNat).toInt))).1 ≤ 3 := by rcases spn_fil (S := S) ((xs (i + 1).toNat).toInt) (S.1 3 ((xs (i + 1).toNat).toInt)) with h9 | ⟨h9, h8, -⟩ <;> omega
  refine lv_istore (lv' := [(5, .int (iI (sp_fil S ((xs (i + 1).toNat).toInt) (S.1 3 ((xs (i + 1).toNat).toInt))).1)), (0, .ref b), (1, .ref (g 0 0)), (2, .ref (ad 11)), (3, .ref ob), (4, .int (iI i))]) hx hb dL_law_1030 hl (by decide) rfl (fun ls hl => ?_)
  refine lv_aload_n hx hb dL_law_1032 rfl (lv_at hl 3 rfl) ?_
  refine lv_aload_n hx hb dL_law_1033 rfl (lv_at hl 1 rfl) ?_
  refine lv_iload hx hb dL_law_1034 (lv_at hl 5 rfl) ?_
  refine lv_iconst (v := iI 1) hx hb dL_law_1036 rfl ?_
  refine h_iadd hx hb dL_law_1037 ?_
  refine l_sld hx hb hX hbl hS hL (z := i + 1) (by omega) (by omega) dL_law_1038 ?_
  refine l_mod (As := [.int (iI ((xs (i + 1).toNat).toInt))]) (rest := []) ⟨hx, hb, hml, hown, hts⟩ (c_X4_size l D ad kI hDM hw u hM ((xs (i + 1).toNat).toInt) (iI_inR _)) (cwV 1 hts gL_law_X4_size rfl rfl rfl (by decide +kernel) ⟨Nat.le_of_ble_eq_true rfl, Nat.le_of_ble_eq_true rfl⟩) hEn hFx hLW hS rfl hl.1 rfl (Nat.le_of_ble_eq_true rfl) ⟨by show cells + 1 ≤ 601024; omega, by show slots + 6 ≤ 7293034; omega⟩ dL_law_1039 (fun r u1 H hp hLW hS => ?_)
  obtain ⟨rfl, ht, hM1⟩ := hp
  refine lv_istore (lv' := [(6, .int (iI (sp_fil S ((xs (i + 1).toNat).toInt) (S.1 3 ((xs (i + 1).toNat).toInt))).2.1)), (5, .int (iI (sp_fil S ((xs (i + 1).toNat).toInt) (S.1 3 ((xs (i + 1).toNat).toInt))).1)), (0, .ref b), (1, .ref (g 0 0)), (2, .ref (ad 11)), (3, .ref ob), (4, .int (iI i))]) hx hb dL_law_1042 hl (by decide) rfl (fun ls hl => ?_)
  refine lv_aload_n hx hb dL_law_1044 rfl (lv_at hl 4 rfl) ?_
  refine l_mod (As := []) (rest := []) ⟨hx, hb, hml, hown, hts⟩ (c_X4_thrown l D ad kI hDM u1 (sp_fil S ((xs (i + 1).toNat).toInt) (S.1 3 ((xs (i + 1).toNat).toInt))).1 ht) (cwV 0 hts gL_law_X4_thrown rfl rfl rfl (by decide +kernel) ⟨Nat.le_of_ble_eq_true rfl, Nat.le_of_ble_eq_true rfl⟩) hEn hFx hLW hS rfl hl.1 rfl (Nat.le_of_ble_eq_true rfl) ⟨by show cells + 1 ≤ 601024; omega, by show slots + 6 ≤ 7293034; omega⟩ dL_law_1045 (fun r u2 H hp hLW hS => ?_)
  obtain ⟨rfl, rfl⟩ := hp
  refine lv_iload hx hb dL_law_1048 (lv_at hl 1 rfl) ?_
  refine h_icmp_eq (tgt := 1055) hx hb (a := (sp_fil S ((xs (i + 1).toNat).toInt) (S.1 3 ((xs (i + 1).toNat).toInt))).1) (b := (sp_fil S ((xs (i + 1).toNat).toInt) (S.1 3 ((xs (i + 1).toNat).toInt))).1) ⟨by omega, by omega⟩ ⟨by omega, by omega⟩ dL_law_1050 (by decide) (fun _ => ?_) (fun c9 => absurd rfl c9)
  refine lv_iload hx hb dL_law_1055 (lv_at hl 1 rfl) ?_
  refine h_if_ne (tgt := 1072) hx hb (a := (sp_fil S ((xs (i + 1).toNat).toInt) (S.1 3 ((xs (i + 1).toNat).toInt))).1) ⟨by omega, by omega⟩ dL_law_1057 (by decide) (fun c8 => ?_) (fun c8 => ?_)
  · skip
    refine lv_goto (tgt := 1411) hx hb dL_law_1072 (by decide) ?_
    exact W.widen (k := cells + 9) (n := slots + 3033) (by omega) (by omega) (kk _ ls ⟨(sp_fil S ((xs (i + 1).toNat).toInt) (S.1 3 ((xs (i + 1).toNat).toInt))).2.2, w1, g1, T1, u1, f1, wfs_fil hw hn ((xs (i + 1).toNat).toInt) _, hR1, hg1, hM1, hLW, hS⟩ (lv_sub hl [2, 3, 4, 5, 6] rfl))
  · skip
    refine lv_aload_n hx hb dL_law_1060 rfl (lv_at hl 5 rfl) ?_
    refine lv_iconst (v := iI 0) hx hb dL_law_1061 rfl ?_
    refine l_lald hx hb hEn hLW (hans c8) dL_law_1062 ?_
    refine lv_iload hx hb dL_law_1063 (lv_at hl 0 rfl) ?_
    refine lv_i2l (v := (iI (sp_fil S ((xs (i + 1).toNat).toInt) (S.1 3 ((xs (i + 1).toNat).toInt))).2.1).toInt64) hx hb dL_law_1065 rfl ?_
    refine W.lcmp hx hb dL_law_1066 ?_
    refine h_top hx (y := iI 0) (cmp_same _) ?_
    refine h_if_eq (tgt := 1072) hx hb (a := 0) ⟨by omega, by omega⟩ dL_law_1067 (by decide) (fun _ => ?_) (fun c7 => absurd rfl c7)
    refine lv_goto (tgt := 1411) hx hb dL_law_1072 (by decide) ?_
    exact W.widen (k := cells + 9) (n := slots + 3033) (by omega) (by omega) (kk _ ls ⟨(sp_fil S ((xs (i + 1).toNat).toInt) (S.1 3 ((xs (i + 1).toNat).toInt))).2.2, w1, g1, T1, u1, f1, wfs_fil hw hn ((xs (i + 1).toNat).toInt) _, hR1, hg1, hM1, hLW, hS⟩ (lv_sub hl [2, 3, 4, 5, 6] rfl))

set_option maxRecDepth 100000 in
set_option maxHeartbeats 4000000 in
theorem law_home {p : Program} {l : Launch} {e : Env} {s : State} {m : MethodId} {below : List Frame} {meth : Method} {c : Code} {Q : State → Prop} {b L : Nat} {xs : Nat → Int32} {D : va_G} {cO : ClassId} {dz mi : Nat} {kI cJ : ClassId} {ad : Nat → Nat} {ob a0 : Nat} (C : LCtx p l s m c b L xs D cO dz mi kI cJ ad ob) {n i : Int} {H : Heap} {cells slots : Nat} {ls : Array Slot} (hinv : LInv D cO dz kI cJ s ad ob a0 n H) (hn : n < 512) (h0 : 0 ≤ i) (h1 : i + 4 ≤ L) (hc : cells + 9 ≤ 601024) (hs : slots + 3033 ≤ 7293034) (kk : LTail p l e s m b below meth c D cO dz kI cJ ad ob a0 Q n i cells slots) (hl : lv_has ls 7 [(0, .ref b), (1, .ref a0), (2, .ref (ad 11)), (3, .ref ob), (4, .int (iI i))]) : W p l e room_1 s m #[Value.ref b] below meth c H [] cells slots Q (F0 m 1075 ls []) := by
  obtain ⟨hx, hb, hml, hown, hts, hX, hbl, hL, hEn, hFx, hst⟩ := C
  obtain ⟨S, w, g, T, u, f, hw, hR, rfl, hM, hLW, hS⟩ := hinv
  obtain ⟨u0, hDM⟩ := hFx.2.2.2
  refine lv_aload_n hx hb dL_law_1075 rfl (lv_at hl 1 rfl) ?_
  refine lv_aload_n hx hb dL_law_1076 rfl (lv_at hl 0 rfl) ?_
  refine lv_iload hx hb dL_law_1077 (lv_at hl 4 rfl) ?_
  refine lv_iconst (v := iI 1) hx hb dL_law_1079 rfl ?_
  refine h_iadd hx hb dL_law_1080 ?_
  refine l_sld hx hb hX hbl hS hL (z := i + 1) (by omega) (by omega) dL_law_1081 ?_
  refine lv_aload_n hx hb dL_law_1082 rfl (lv_at hl 3 rfl) ?_
  refine l_wrap (As := [.ref (g 0 0), .int (iI ((xs (i + 1).toNat).toInt)), .ref ob]) (rest := []) ⟨hx, hb, hml, hown, hts⟩ (c_L_home l D cO dz mi hw hR hst cJ ob f ((xs (i + 1).toNat).toInt) (iI_inR _)) (vx_cwSW 3 hts gL_law_L_home rfl rfl rfl (by decide +kernel) ⟨Nat.le_of_ble_eq_true rfl, Nat.le_of_ble_eq_true rfl⟩) hEn hFx hLW hS rfl hl.1 rfl (Nat.le_of_ble_eq_true rfl) ⟨by show cells + 1 ≤ 601024; omega, by show slots + 6 ≤ 7293034; omega⟩ dL_law_1083 (fun w1 f1 H hrel hans hLW hS => ?_)
  obtain ⟨g1, T1, hg1, hR1⟩ := hrel
  have hq9 : 0 ≤ (sp_fil S ((xs (i + 1).toNat).toInt) (homeS S ((xs (i + 1).toNat).toInt))).1 ∧ (sp_fil S ((xs (i + 1).toNat).toInt) (homeS S ((xs (i + 1).toNat).toInt))).1 ≤ 3 := by rcases spn_fil (S := S) ((xs (i + 1).toNat).toInt) (homeS S ((xs (i + 1).toNat).toInt)) with h9 | ⟨h9, h8, -⟩ <;> omega
  refine lv_istore (lv' := [(5, .int (iI (sp_fil S ((xs (i + 1).toNat).toInt) (homeS S ((xs (i + 1).toNat).toInt))).1)), (0, .ref b), (1, .ref (g 0 0)), (2, .ref (ad 11)), (3, .ref ob), (4, .int (iI i))]) hx hb dL_law_1086 hl (by decide) rfl (fun ls hl => ?_)
  refine lv_aload_n hx hb dL_law_1088 rfl (lv_at hl 3 rfl) ?_
  refine lv_aload_n hx hb dL_law_1089 rfl (lv_at hl 1 rfl) ?_
  refine lv_iload hx hb dL_law_1090 (lv_at hl 5 rfl) ?_
  refine lv_iconst (v := iI 1) hx hb dL_law_1092 rfl ?_
  refine h_iadd hx hb dL_law_1093 ?_
  refine l_sld hx hb hX hbl hS hL (z := i + 1) (by omega) (by omega) dL_law_1094 ?_
  refine l_mod (As := [.int (iI ((xs (i + 1).toNat).toInt))]) (rest := []) ⟨hx, hb, hml, hown, hts⟩ (c_X4_home l D ad kI hDM hw u hM ((xs (i + 1).toNat).toInt) (iI_inR _)) (cwV 1 hts gL_law_X4_home rfl rfl rfl (by decide +kernel) ⟨Nat.le_of_ble_eq_true rfl, Nat.le_of_ble_eq_true rfl⟩) hEn hFx hLW hS rfl hl.1 rfl (Nat.le_of_ble_eq_true rfl) ⟨by show cells + 1 ≤ 601024; omega, by show slots + 6 ≤ 7293034; omega⟩ dL_law_1095 (fun r u1 H hp hLW hS => ?_)
  obtain ⟨rfl, ht, hM1⟩ := hp
  refine lv_istore (lv' := [(6, .int (iI (sp_fil S ((xs (i + 1).toNat).toInt) (homeS S ((xs (i + 1).toNat).toInt))).2.1)), (5, .int (iI (sp_fil S ((xs (i + 1).toNat).toInt) (homeS S ((xs (i + 1).toNat).toInt))).1)), (0, .ref b), (1, .ref (g 0 0)), (2, .ref (ad 11)), (3, .ref ob), (4, .int (iI i))]) hx hb dL_law_1098 hl (by decide) rfl (fun ls hl => ?_)
  refine lv_aload_n hx hb dL_law_1100 rfl (lv_at hl 4 rfl) ?_
  refine l_mod (As := []) (rest := []) ⟨hx, hb, hml, hown, hts⟩ (c_X4_thrown l D ad kI hDM u1 (sp_fil S ((xs (i + 1).toNat).toInt) (homeS S ((xs (i + 1).toNat).toInt))).1 ht) (cwV 0 hts gL_law_X4_thrown rfl rfl rfl (by decide +kernel) ⟨Nat.le_of_ble_eq_true rfl, Nat.le_of_ble_eq_true rfl⟩) hEn hFx hLW hS rfl hl.1 rfl (Nat.le_of_ble_eq_true rfl) ⟨by show cells + 1 ≤ 601024; omega, by show slots + 6 ≤ 7293034; omega⟩ dL_law_1101 (fun r u2 H hp hLW hS => ?_)
  obtain ⟨rfl, rfl⟩ := hp
  refine lv_iload hx hb dL_law_1104 (lv_at hl 1 rfl) ?_
  refine h_icmp_eq (tgt := 1111) hx hb (a := (sp_fil S ((xs (i + 1).toNat).toInt) (homeS S ((xs (i + 1).toNat).toInt))).1) (b := (sp_fil S ((xs (i + 1).toNat).toInt) (homeS S ((xs (i + 1).toNat).toInt))).1) ⟨by omega, by omega⟩ ⟨by omega, by omega⟩ dL_law_1106 (by decide) (fun _ => ?_) (fun c9 => absurd rfl c9)
  refine lv_iload hx hb dL_law_1111 (lv_at hl 1 rfl) ?_
  refine h_if_ne (tgt := 1128) hx hb (a := (sp_fil S ((xs (i + 1).toNat).toInt) (homeS S ((xs (i + 1).toNat).toInt))).1) ⟨by omega, by omega⟩ dL_law_1113 (by decide) (fun c8 => ?_) (fun c8 => ?_)
  · skip
    refine lv_goto (tgt := 1411) hx hb dL_law_1128 (by decide) ?_
    exact W.widen (k := cells + 9) (n := slots + 3033) (by omega) (by omega) (kk _ ls ⟨(sp_fil S ((xs (i + 1).toNat).toInt) (homeS S ((xs (i + 1).toNat).toInt))).2.2, w1, g1, T1, u1, f1, wfs_fil hw hn ((xs (i + 1).toNat).toInt) _, hR1, hg1, hM1, hLW, hS⟩ (lv_sub hl [2, 3, 4, 5, 6] rfl))
  · skip
    refine lv_aload_n hx hb dL_law_1116 rfl (lv_at hl 5 rfl) ?_
    refine lv_iconst (v := iI 0) hx hb dL_law_1117 rfl ?_
    refine l_lald hx hb hEn hLW (hans c8) dL_law_1118 ?_
    refine lv_iload hx hb dL_law_1119 (lv_at hl 0 rfl) ?_
    refine lv_i2l (v := (iI (sp_fil S ((xs (i + 1).toNat).toInt) (homeS S ((xs (i + 1).toNat).toInt))).2.1).toInt64) hx hb dL_law_1121 rfl ?_
    refine W.lcmp hx hb dL_law_1122 ?_
    refine h_top hx (y := iI 0) (cmp_same _) ?_
    refine h_if_eq (tgt := 1128) hx hb (a := 0) ⟨by omega, by omega⟩ dL_law_1123 (by decide) (fun _ => ?_) (fun c7 => absurd rfl c7)
    refine lv_goto (tgt := 1411) hx hb dL_law_1128 (by decide) ?_
    exact W.widen (k := cells + 9) (n := slots + 3033) (by omega) (by omega) (kk _ ls ⟨(sp_fil S ((xs (i + 1).toNat).toInt) (homeS S ((xs (i + 1).toNat).toInt))).2.2, w1, g1, T1, u1, f1, wfs_fil hw hn ((xs (i + 1).toNat).toInt) _, hR1, hg1, hM1, hLW, hS⟩ (lv_sub hl [2, 3, 4, 5, 6] rfl))

set_option maxRecDepth 100000 in
set_option maxHeartbeats 4000000 in
theorem law_kept {p : Program} {l : Launch} {e : Env} {s : State} {m : MethodId} {below : List Frame} {meth : Method} {c : Code} {Q : State → Prop} {b L : Nat} {xs : Nat → Int32} {D : va_G} {cO : ClassId} {dz mi : Nat} {kI cJ : ClassId} {ad : Nat → Nat} {ob a0 : Nat} (C : LCtx p l s m c b L xs D cO dz mi kI cJ ad ob) {n i : Int} {H : Heap} {cells slots : Nat} {ls : Array Slot} (hinv : LInv D cO dz kI cJ s ad ob a0 n H) (hn : n < 512) (h0 : 0 ≤ i) (h1 : i + 4 ≤ L) (hc : cells + 9 ≤ 601024) (hs : slots + 3033 ≤ 7293034) (kk : LTail p l e s m b below meth c D cO dz kI cJ ad ob a0 Q n i cells slots) (hl : lv_has ls 7 [(0, .ref b), (1, .ref a0), (2, .ref (ad 11)), (3, .ref ob), (4, .int (iI i))]) : W p l e room_1 s m #[Value.ref b] below meth c H [] cells slots Q (F0 m 1131 ls []) := by
  obtain ⟨hx, hb, hml, hown, hts, hX, hbl, hL, hEn, hFx, hst⟩ := C
  obtain ⟨S, w, g, T, u, f, hw, hR, rfl, hM, hLW, hS⟩ := hinv
  obtain ⟨u0, hDM⟩ := hFx.2.2.2
  refine lv_aload_n hx hb dL_law_1131 rfl (lv_at hl 1 rfl) ?_
  refine lv_aload_n hx hb dL_law_1132 rfl (lv_at hl 0 rfl) ?_
  refine lv_iload hx hb dL_law_1133 (lv_at hl 4 rfl) ?_
  refine lv_iconst (v := iI 1) hx hb dL_law_1135 rfl ?_
  refine h_iadd hx hb dL_law_1136 ?_
  refine l_sld hx hb hX hbl hS hL (z := i + 1) (by omega) (by omega) dL_law_1137 ?_
  refine lv_aload_n hx hb dL_law_1138 rfl (lv_at hl 3 rfl) ?_
  refine l_wrap (As := [.ref (g 0 0), .int (iI ((xs (i + 1).toNat).toInt)), .ref ob]) (rest := []) ⟨hx, hb, hml, hown, hts⟩ (c_L_kept l D cO dz mi hw hR hst cJ ob f ((xs (i + 1).toNat).toInt) (iI_inR _)) (vx_cwSW 3 hts gL_law_L_kept rfl rfl rfl (by decide +kernel) ⟨Nat.le_of_ble_eq_true rfl, Nat.le_of_ble_eq_true rfl⟩) hEn hFx hLW hS rfl hl.1 rfl (Nat.le_of_ble_eq_true rfl) ⟨by show cells + 1 ≤ 601024; omega, by show slots + 6 ≤ 7293034; omega⟩ dL_law_1139 (fun w1 f1 H hrel hans hLW hS => ?_)
  obtain ⟨g1, T1, hg1, hR1⟩ := hrel
  have hq9 : 0 ≤ (sp_fil S ((xs (i + 1).toNat).toInt) (S.1 6 ((xs (i + 1).toNat).toInt))).1 ∧ (sp_fil S ((xs (i + 1).toNat).toInt) (S.1 6 ((xs (i + 1).toNat).toInt))).1 ≤ 3 := by rcases spn_fil (S := S) ((xs (i + 1).toNat).toInt) (S.1 6 ((xs (i + 1).toNat).toInt)) with h9 | ⟨h9, h8, -⟩ <;> omega
  refine lv_istore (lv' := [(5, .int (iI (sp_fil S ((xs (i + 1).toNat).toInt) (S.1 6 ((xs (i + 1).toNat).toInt))).1)), (0, .ref b), (1, .ref (g 0 0)), (2, .ref (ad 11)), (3, .ref ob), (4, .int (iI i))]) hx hb dL_law_1142 hl (by decide) rfl (fun ls hl => ?_)
  refine lv_aload_n hx hb dL_law_1144 rfl (lv_at hl 3 rfl) ?_
  refine lv_aload_n hx hb dL_law_1145 rfl (lv_at hl 1 rfl) ?_
  refine lv_iload hx hb dL_law_1146 (lv_at hl 5 rfl) ?_
  refine lv_iconst (v := iI 1) hx hb dL_law_1148 rfl ?_
  refine h_iadd hx hb dL_law_1149 ?_
  refine l_sld hx hb hX hbl hS hL (z := i + 1) (by omega) (by omega) dL_law_1150 ?_
  refine l_mod (As := [.int (iI ((xs (i + 1).toNat).toInt))]) (rest := []) ⟨hx, hb, hml, hown, hts⟩ (c_X4_kept l D ad kI hDM hw u hM ((xs (i + 1).toNat).toInt) (iI_inR _)) (cwV 1 hts gL_law_X4_kept rfl rfl rfl (by decide +kernel) ⟨Nat.le_of_ble_eq_true rfl, Nat.le_of_ble_eq_true rfl⟩) hEn hFx hLW hS rfl hl.1 rfl (Nat.le_of_ble_eq_true rfl) ⟨by show cells + 1 ≤ 601024; omega, by show slots + 6 ≤ 7293034; omega⟩ dL_law_1151 (fun r u1 H hp hLW hS => ?_)
  obtain ⟨rfl, ht, hM1⟩ := hp
  refine lv_istore (lv' := [(6, .int (iI (sp_fil S ((xs (i + 1).toNat).toInt) (S.1 6 ((xs (i + 1).toNat).toInt))).2.1)), (5, .int (iI (sp_fil S ((xs (i + 1).toNat).toInt) (S.1 6 ((xs (i + 1).toNat).toInt))).1)), (0, .ref b), (1, .ref (g 0 0)), (2, .ref (ad 11)), (3, .ref ob), (4, .int (iI i))]) hx hb dL_law_1154 hl (by decide) rfl (fun ls hl => ?_)
  refine lv_aload_n hx hb dL_law_1156 rfl (lv_at hl 4 rfl) ?_
  refine l_mod (As := []) (rest := []) ⟨hx, hb, hml, hown, hts⟩ (c_X4_thrown l D ad kI hDM u1 (sp_fil S ((xs (i + 1).toNat).toInt) (S.1 6 ((xs (i + 1).toNat).toInt))).1 ht) (cwV 0 hts gL_law_X4_thrown rfl rfl rfl (by decide +kernel) ⟨Nat.le_of_ble_eq_true rfl, Nat.le_of_ble_eq_true rfl⟩) hEn hFx hLW hS rfl hl.1 rfl (Nat.le_of_ble_eq_true rfl) ⟨by show cells + 1 ≤ 601024; omega, by show slots + 6 ≤ 7293034; omega⟩ dL_law_1157 (fun r u2 H hp hLW hS => ?_)
  obtain ⟨rfl, rfl⟩ := hp
  refine lv_iload hx hb dL_law_1160 (lv_at hl 1 rfl) ?_
  refine h_icmp_eq (tgt := 1167) hx hb (a := (sp_fil S ((xs (i + 1).toNat).toInt) (S.1 6 ((xs (i + 1).toNat).toInt))).1) (b := (sp_fil S ((xs (i + 1).toNat).toInt) (S.1 6 ((xs (i + 1).toNat).toInt))).1) ⟨by omega, by omega⟩ ⟨by omega, by omega⟩ dL_law_1162 (by decide) (fun _ => ?_) (fun c9 => absurd rfl c9)
  refine lv_iload hx hb dL_law_1167 (lv_at hl 1 rfl) ?_
  refine h_if_ne (tgt := 1184) hx hb (a := (sp_fil S ((xs (i + 1).toNat).toInt) (S.1 6 ((xs (i + 1).toNat).toInt))).1) ⟨by omega, by omega⟩ dL_law_1169 (by decide) (fun c8 => ?_) (fun c8 => ?_)
  · skip
    refine lv_goto (tgt := 1411) hx hb dL_law_1184 (by decide) ?_
    exact W.widen (k := cells + 9) (n := slots + 3033) (by omega) (by omega) (kk _ ls ⟨(sp_fil S ((xs (i + 1).toNat).toInt) (S.1 6 ((xs (i + 1).toNat).toInt))).2.2, w1, g1, T1, u1, f1, wfs_fil hw hn ((xs (i + 1).toNat).toInt) _, hR1, hg1, hM1, hLW, hS⟩ (lv_sub hl [2, 3, 4, 5, 6] rfl))
  · skip
    refine lv_aload_n hx hb dL_law_1172 rfl (lv_at hl 5 rfl) ?_
    refine lv_iconst (v := iI 0) hx hb dL_law_1173 rfl ?_
    refine l_lald hx hb hEn hLW (hans c8) dL_law_1174 ?_
    refine lv_iload hx hb dL_law_1175 (lv_at hl 0 rfl) ?_
    refine lv_i2l (v := (iI (sp_fil S ((xs (i + 1).toNat).toInt) (S.1 6 ((xs (i + 1).toNat).toInt))).2.1).toInt64) hx hb dL_law_1177 rfl ?_
    refine W.lcmp hx hb dL_law_1178 ?_
    refine h_top hx (y := iI 0) (cmp_same _) ?_
    refine h_if_eq (tgt := 1184) hx hb (a := 0) ⟨by omega, by omega⟩ dL_law_1179 (by decide) (fun _ => ?_) (fun c7 => absurd rfl c7)
    refine lv_goto (tgt := 1411) hx hb dL_law_1184 (by decide) ?_
    exact W.widen (k := cells + 9) (n := slots + 3033) (by omega) (by omega) (kk _ ls ⟨(sp_fil S ((xs (i + 1).toNat).toInt) (S.1 6 ((xs (i + 1).toNat).toInt))).2.2, w1, g1, T1, u1, f1, wfs_fil hw hn ((xs (i + 1).toNat).toInt) _, hR1, hg1, hM1, hLW, hS⟩ (lv_sub hl [2, 3, 4, 5, 6] rfl))

set_option maxRecDepth 100000 in
set_option maxHeartbeats 4000000 in
theorem law_holders {p : Program} {l : Launch} {e : Env} {s : State} {m : MethodId} {below : List Frame} {meth : Method} {c : Code} {Q : State → Prop} {b L : Nat} {xs : Nat → Int32} {D : va_G} {cO : ClassId} {dz mi : Nat} {kI cJ : ClassId} {ad : Nat → Nat} {ob a0 : Nat} (C : LCtx p l s m c b L xs D cO dz mi kI cJ ad ob) {n i : Int} {H : Heap} {cells slots : Nat} {ls : Array Slot} (hinv : LInv D cO dz kI cJ s ad ob a0 n H) (hn : n < 512) (h0 : 0 ≤ i) (h1 : i + 4 ≤ L) (hc : cells + 9 ≤ 601024) (hs : slots + 3033 ≤ 7293034) (kk : LTail p l e s m b below meth c D cO dz kI cJ ad ob a0 Q n i cells slots) (hl : lv_has ls 7 [(0, .ref b), (1, .ref a0), (2, .ref (ad 11)), (3, .ref ob), (4, .int (iI i))]) : W p l e room_1 s m #[Value.ref b] below meth c H [] cells slots Q (F0 m 1187 ls []) := by
  obtain ⟨hx, hb, hml, hown, hts, hX, hbl, hL, hEn, hFx, hst⟩ := C
  obtain ⟨S, w, g, T, u, f, hw, hR, rfl, hM, hLW, hS⟩ := hinv
  obtain ⟨u0, hDM⟩ := hFx.2.2.2
  refine lv_aload_n hx hb dL_law_1187 rfl (lv_at hl 1 rfl) ?_
  refine lv_aload_n hx hb dL_law_1188 rfl (lv_at hl 0 rfl) ?_
  refine lv_iload hx hb dL_law_1189 (lv_at hl 4 rfl) ?_
  refine lv_iconst (v := iI 1) hx hb dL_law_1191 rfl ?_
  refine h_iadd hx hb dL_law_1192 ?_
  refine l_sld hx hb hX hbl hS hL (z := i + 1) (by omega) (by omega) dL_law_1193 ?_
  refine lv_aload_n hx hb dL_law_1194 rfl (lv_at hl 3 rfl) ?_
  refine l_wrap (As := [.ref (g 0 0), .int (iI ((xs (i + 1).toNat).toInt)), .ref ob]) (rest := []) ⟨hx, hb, hml, hown, hts⟩ (c_L_holders l D cO dz mi hw hR hst cJ ob f ((xs (i + 1).toNat).toInt) (iI_inR _)) (vx_cwSW 3 hts gL_law_L_holders rfl rfl rfl (by decide +kernel) ⟨Nat.le_of_ble_eq_true rfl, Nat.le_of_ble_eq_true rfl⟩) hEn hFx hLW hS rfl hl.1 rfl (Nat.le_of_ble_eq_true rfl) ⟨by show cells + 1 ≤ 601024; omega, by show slots + 6 ≤ 7293034; omega⟩ dL_law_1195 (fun w1 f1 H hrel hans hLW hS => ?_)
  obtain ⟨g1, T1, hg1, hR1⟩ := hrel
  have hq9 : 0 ≤ (sp_fil S ((xs (i + 1).toNat).toInt) (S.1 7 ((xs (i + 1).toNat).toInt))).1 ∧ (sp_fil S ((xs (i + 1).toNat).toInt) (S.1 7 ((xs (i + 1).toNat).toInt))).1 ≤ 3 := by rcases spn_fil (S := S) ((xs (i + 1).toNat).toInt) (S.1 7 ((xs (i + 1).toNat).toInt)) with h9 | ⟨h9, h8, -⟩ <;> omega
  refine lv_istore (lv' := [(5, .int (iI (sp_fil S ((xs (i + 1).toNat).toInt) (S.1 7 ((xs (i + 1).toNat).toInt))).1)), (0, .ref b), (1, .ref (g 0 0)), (2, .ref (ad 11)), (3, .ref ob), (4, .int (iI i))]) hx hb dL_law_1198 hl (by decide) rfl (fun ls hl => ?_)
  refine lv_aload_n hx hb dL_law_1200 rfl (lv_at hl 3 rfl) ?_
  refine lv_aload_n hx hb dL_law_1201 rfl (lv_at hl 1 rfl) ?_
  refine lv_iload hx hb dL_law_1202 (lv_at hl 5 rfl) ?_
  refine lv_iconst (v := iI 1) hx hb dL_law_1204 rfl ?_
  refine h_iadd hx hb dL_law_1205 ?_
  refine l_sld hx hb hX hbl hS hL (z := i + 1) (by omega) (by omega) dL_law_1206 ?_
  refine l_mod (As := [.int (iI ((xs (i + 1).toNat).toInt))]) (rest := []) ⟨hx, hb, hml, hown, hts⟩ (c_X4_holders l D ad kI hDM hw u hM ((xs (i + 1).toNat).toInt) (iI_inR _)) (cwV 1 hts gL_law_X4_holders rfl rfl rfl (by decide +kernel) ⟨Nat.le_of_ble_eq_true rfl, Nat.le_of_ble_eq_true rfl⟩) hEn hFx hLW hS rfl hl.1 rfl (Nat.le_of_ble_eq_true rfl) ⟨by show cells + 1 ≤ 601024; omega, by show slots + 6 ≤ 7293034; omega⟩ dL_law_1207 (fun r u1 H hp hLW hS => ?_)
  obtain ⟨rfl, ht, hM1⟩ := hp
  refine lv_istore (lv' := [(6, .int (iI (sp_fil S ((xs (i + 1).toNat).toInt) (S.1 7 ((xs (i + 1).toNat).toInt))).2.1)), (5, .int (iI (sp_fil S ((xs (i + 1).toNat).toInt) (S.1 7 ((xs (i + 1).toNat).toInt))).1)), (0, .ref b), (1, .ref (g 0 0)), (2, .ref (ad 11)), (3, .ref ob), (4, .int (iI i))]) hx hb dL_law_1210 hl (by decide) rfl (fun ls hl => ?_)
  refine lv_aload_n hx hb dL_law_1212 rfl (lv_at hl 4 rfl) ?_
  refine l_mod (As := []) (rest := []) ⟨hx, hb, hml, hown, hts⟩ (c_X4_thrown l D ad kI hDM u1 (sp_fil S ((xs (i + 1).toNat).toInt) (S.1 7 ((xs (i + 1).toNat).toInt))).1 ht) (cwV 0 hts gL_law_X4_thrown rfl rfl rfl (by decide +kernel) ⟨Nat.le_of_ble_eq_true rfl, Nat.le_of_ble_eq_true rfl⟩) hEn hFx hLW hS rfl hl.1 rfl (Nat.le_of_ble_eq_true rfl) ⟨by show cells + 1 ≤ 601024; omega, by show slots + 6 ≤ 7293034; omega⟩ dL_law_1213 (fun r u2 H hp hLW hS => ?_)
  obtain ⟨rfl, rfl⟩ := hp
  refine lv_iload hx hb dL_law_1216 (lv_at hl 1 rfl) ?_
  refine h_icmp_eq (tgt := 1223) hx hb (a := (sp_fil S ((xs (i + 1).toNat).toInt) (S.1 7 ((xs (i + 1).toNat).toInt))).1) (b := (sp_fil S ((xs (i + 1).toNat).toInt) (S.1 7 ((xs (i + 1).toNat).toInt))).1) ⟨by omega, by omega⟩ ⟨by omega, by omega⟩ dL_law_1218 (by decide) (fun _ => ?_) (fun c9 => absurd rfl c9)
  refine lv_iload hx hb dL_law_1223 (lv_at hl 1 rfl) ?_
  refine h_if_ne (tgt := 1240) hx hb (a := (sp_fil S ((xs (i + 1).toNat).toInt) (S.1 7 ((xs (i + 1).toNat).toInt))).1) ⟨by omega, by omega⟩ dL_law_1225 (by decide) (fun c8 => ?_) (fun c8 => ?_)
  · skip
    refine lv_goto (tgt := 1411) hx hb dL_law_1240 (by decide) ?_
    exact W.widen (k := cells + 9) (n := slots + 3033) (by omega) (by omega) (kk _ ls ⟨(sp_fil S ((xs (i + 1).toNat).toInt) (S.1 7 ((xs (i + 1).toNat).toInt))).2.2, w1, g1, T1, u1, f1, wfs_fil hw hn ((xs (i + 1).toNat).toInt) _, hR1, hg1, hM1, hLW, hS⟩ (lv_sub hl [2, 3, 4, 5, 6] rfl))
  · skip
    refine lv_aload_n hx hb dL_law_1228 rfl (lv_at hl 5 rfl) ?_
    refine lv_iconst (v := iI 0) hx hb dL_law_1229 rfl ?_
    refine l_lald hx hb hEn hLW (hans c8) dL_law_1230 ?_
    refine lv_iload hx hb dL_law_1231 (lv_at hl 0 rfl) ?_
    refine lv_i2l (v := (iI (sp_fil S ((xs (i + 1).toNat).toInt) (S.1 7 ((xs (i + 1).toNat).toInt))).2.1).toInt64) hx hb dL_law_1233 rfl ?_
    refine W.lcmp hx hb dL_law_1234 ?_
    refine h_top hx (y := iI 0) (cmp_same _) ?_
    refine h_if_eq (tgt := 1240) hx hb (a := 0) ⟨by omega, by omega⟩ dL_law_1235 (by decide) (fun _ => ?_) (fun c7 => absurd rfl c7)
    refine lv_goto (tgt := 1411) hx hb dL_law_1240 (by decide) ?_
    exact W.widen (k := cells + 9) (n := slots + 3033) (by omega) (by omega) (kk _ ls ⟨(sp_fil S ((xs (i + 1).toNat).toInt) (S.1 7 ((xs (i + 1).toNat).toInt))).2.2, w1, g1, T1, u1, f1, wfs_fil hw hn ((xs (i + 1).toNat).toInt) _, hR1, hg1, hM1, hLW, hS⟩ (lv_sub hl [2, 3, 4, 5, 6] rfl))

set_option maxRecDepth 100000 in
set_option maxHeartbeats 4000000 in
theorem law_tier {p : Program} {l : Launch} {e : Env} {s : State} {m : MethodId} {below : List Frame} {meth : Method} {c : Code} {Q : State → Prop} {b L : Nat} {xs : Nat → Int32} {D : va_G} {cO : ClassId} {dz mi : Nat} {kI cJ : ClassId} {ad : Nat → Nat} {ob a0 : Nat} (C : LCtx p l s m c b L xs D cO dz mi kI cJ ad ob) {n i : Int} {H : Heap} {cells slots : Nat} {ls : Array Slot} (hinv : LInv D cO dz kI cJ s ad ob a0 n H) (hn : n < 512) (h0 : 0 ≤ i) (h1 : i + 4 ≤ L) (hc : cells + 9 ≤ 601024) (hs : slots + 3033 ≤ 7293034) (kk : LTail p l e s m b below meth c D cO dz kI cJ ad ob a0 Q n i cells slots) (hl : lv_has ls 7 [(0, .ref b), (1, .ref a0), (2, .ref (ad 11)), (3, .ref ob), (4, .int (iI i))]) : W p l e room_1 s m #[Value.ref b] below meth c H [] cells slots Q (F0 m 1243 ls []) := by
  obtain ⟨hx, hb, hml, hown, hts, hX, hbl, hL, hEn, hFx, hst⟩ := C
  obtain ⟨S, w, g, T, u, f, hw, hR, rfl, hM, hLW, hS⟩ := hinv
  obtain ⟨u0, hDM⟩ := hFx.2.2.2
  refine lv_aload_n hx hb dL_law_1243 rfl (lv_at hl 1 rfl) ?_
  refine lv_aload_n hx hb dL_law_1244 rfl (lv_at hl 0 rfl) ?_
  refine lv_iload hx hb dL_law_1245 (lv_at hl 4 rfl) ?_
  refine lv_iconst (v := iI 1) hx hb dL_law_1247 rfl ?_
  refine h_iadd hx hb dL_law_1248 ?_
  refine l_sld hx hb hX hbl hS hL (z := i + 1) (by omega) (by omega) dL_law_1249 ?_
  refine lv_aload_n hx hb dL_law_1250 rfl (lv_at hl 3 rfl) ?_
  refine l_wrap (As := [.ref (g 0 0), .int (iI ((xs (i + 1).toNat).toInt)), .ref ob]) (rest := []) ⟨hx, hb, hml, hown, hts⟩ (c_L_tier l D cO dz mi hw hR hst cJ ob f ((xs (i + 1).toNat).toInt) (iI_inR _)) (vx_cwSW 3 hts gL_law_L_tier rfl rfl rfl (by decide +kernel) ⟨Nat.le_of_ble_eq_true rfl, Nat.le_of_ble_eq_true rfl⟩) hEn hFx hLW hS rfl hl.1 rfl (Nat.le_of_ble_eq_true rfl) ⟨by show cells + 1 ≤ 601024; omega, by show slots + 6 ≤ 7293034; omega⟩ dL_law_1251 (fun w1 f1 H hrel hans hLW hS => ?_)
  obtain ⟨g1, T1, hg1, hR1⟩ := hrel
  have hq9 : 0 ≤ (sp_fil S ((xs (i + 1).toNat).toInt) (tierS S ((xs (i + 1).toNat).toInt))).1 ∧ (sp_fil S ((xs (i + 1).toNat).toInt) (tierS S ((xs (i + 1).toNat).toInt))).1 ≤ 3 := by rcases spn_fil (S := S) ((xs (i + 1).toNat).toInt) (tierS S ((xs (i + 1).toNat).toInt)) with h9 | ⟨h9, h8, -⟩ <;> omega
  refine lv_istore (lv' := [(5, .int (iI (sp_fil S ((xs (i + 1).toNat).toInt) (tierS S ((xs (i + 1).toNat).toInt))).1)), (0, .ref b), (1, .ref (g 0 0)), (2, .ref (ad 11)), (3, .ref ob), (4, .int (iI i))]) hx hb dL_law_1254 hl (by decide) rfl (fun ls hl => ?_)
  refine lv_aload_n hx hb dL_law_1256 rfl (lv_at hl 3 rfl) ?_
  refine lv_aload_n hx hb dL_law_1257 rfl (lv_at hl 1 rfl) ?_
  refine lv_iload hx hb dL_law_1258 (lv_at hl 5 rfl) ?_
  refine lv_iconst (v := iI 1) hx hb dL_law_1260 rfl ?_
  refine h_iadd hx hb dL_law_1261 ?_
  refine l_sld hx hb hX hbl hS hL (z := i + 1) (by omega) (by omega) dL_law_1262 ?_
  refine l_mod (As := [.int (iI ((xs (i + 1).toNat).toInt))]) (rest := []) ⟨hx, hb, hml, hown, hts⟩ (c_X4_tier l D ad kI hDM hw u hM ((xs (i + 1).toNat).toInt) (iI_inR _)) (cwV 1 hts gL_law_X4_tier rfl rfl rfl (by decide +kernel) ⟨Nat.le_of_ble_eq_true rfl, Nat.le_of_ble_eq_true rfl⟩) hEn hFx hLW hS rfl hl.1 rfl (Nat.le_of_ble_eq_true rfl) ⟨by show cells + 1 ≤ 601024; omega, by show slots + 6 ≤ 7293034; omega⟩ dL_law_1263 (fun r u1 H hp hLW hS => ?_)
  obtain ⟨rfl, ht, hM1⟩ := hp
  refine lv_istore (lv' := [(6, .int (iI (sp_fil S ((xs (i + 1).toNat).toInt) (tierS S ((xs (i + 1).toNat).toInt))).2.1)), (5, .int (iI (sp_fil S ((xs (i + 1).toNat).toInt) (tierS S ((xs (i + 1).toNat).toInt))).1)), (0, .ref b), (1, .ref (g 0 0)), (2, .ref (ad 11)), (3, .ref ob), (4, .int (iI i))]) hx hb dL_law_1266 hl (by decide) rfl (fun ls hl => ?_)
  refine lv_aload_n hx hb dL_law_1268 rfl (lv_at hl 4 rfl) ?_
  refine l_mod (As := []) (rest := []) ⟨hx, hb, hml, hown, hts⟩ (c_X4_thrown l D ad kI hDM u1 (sp_fil S ((xs (i + 1).toNat).toInt) (tierS S ((xs (i + 1).toNat).toInt))).1 ht) (cwV 0 hts gL_law_X4_thrown rfl rfl rfl (by decide +kernel) ⟨Nat.le_of_ble_eq_true rfl, Nat.le_of_ble_eq_true rfl⟩) hEn hFx hLW hS rfl hl.1 rfl (Nat.le_of_ble_eq_true rfl) ⟨by show cells + 1 ≤ 601024; omega, by show slots + 6 ≤ 7293034; omega⟩ dL_law_1269 (fun r u2 H hp hLW hS => ?_)
  obtain ⟨rfl, rfl⟩ := hp
  refine lv_iload hx hb dL_law_1272 (lv_at hl 1 rfl) ?_
  refine h_icmp_eq (tgt := 1279) hx hb (a := (sp_fil S ((xs (i + 1).toNat).toInt) (tierS S ((xs (i + 1).toNat).toInt))).1) (b := (sp_fil S ((xs (i + 1).toNat).toInt) (tierS S ((xs (i + 1).toNat).toInt))).1) ⟨by omega, by omega⟩ ⟨by omega, by omega⟩ dL_law_1274 (by decide) (fun _ => ?_) (fun c9 => absurd rfl c9)
  refine lv_iload hx hb dL_law_1279 (lv_at hl 1 rfl) ?_
  refine h_if_ne (tgt := 1296) hx hb (a := (sp_fil S ((xs (i + 1).toNat).toInt) (tierS S ((xs (i + 1).toNat).toInt))).1) ⟨by omega, by omega⟩ dL_law_1281 (by decide) (fun c8 => ?_) (fun c8 => ?_)
  · skip
    refine lv_goto (tgt := 1411) hx hb dL_law_1296 (by decide) ?_
    exact W.widen (k := cells + 9) (n := slots + 3033) (by omega) (by omega) (kk _ ls ⟨(sp_fil S ((xs (i + 1).toNat).toInt) (tierS S ((xs (i + 1).toNat).toInt))).2.2, w1, g1, T1, u1, f1, wfs_fil hw hn ((xs (i + 1).toNat).toInt) _, hR1, hg1, hM1, hLW, hS⟩ (lv_sub hl [2, 3, 4, 5, 6] rfl))
  · skip
    refine lv_aload_n hx hb dL_law_1284 rfl (lv_at hl 5 rfl) ?_
    refine lv_iconst (v := iI 0) hx hb dL_law_1285 rfl ?_
    refine l_lald hx hb hEn hLW (hans c8) dL_law_1286 ?_
    refine lv_iload hx hb dL_law_1287 (lv_at hl 0 rfl) ?_
    refine lv_i2l (v := (iI (sp_fil S ((xs (i + 1).toNat).toInt) (tierS S ((xs (i + 1).toNat).toInt))).2.1).toInt64) hx hb dL_law_1289 rfl ?_
    refine W.lcmp hx hb dL_law_1290 ?_
    refine h_top hx (y := iI 0) (cmp_same _) ?_
    refine h_if_eq (tgt := 1296) hx hb (a := 0) ⟨by omega, by omega⟩ dL_law_1291 (by decide) (fun _ => ?_) (fun c7 => absurd rfl c7)
    refine lv_goto (tgt := 1411) hx hb dL_law_1296 (by decide) ?_
    exact W.widen (k := cells + 9) (n := slots + 3033) (by omega) (by omega) (kk _ ls ⟨(sp_fil S ((xs (i + 1).toNat).toInt) (tierS S ((xs (i + 1).toNat).toInt))).2.2, w1, g1, T1, u1, f1, wfs_fil hw hn ((xs (i + 1).toNat).toInt) _, hR1, hg1, hM1, hLW, hS⟩ (lv_sub hl [2, 3, 4, 5, 6] rfl))

set_option maxRecDepth 100000 in
set_option maxHeartbeats 4000000 in
theorem law_coins {p : Program} {l : Launch} {e : Env} {s : State} {m : MethodId} {below : List Frame} {meth : Method} {c : Code} {Q : State → Prop} {b L : Nat} {xs : Nat → Int32} {D : va_G} {cO : ClassId} {dz mi : Nat} {kI cJ : ClassId} {ad : Nat → Nat} {ob a0 : Nat} (C : LCtx p l s m c b L xs D cO dz mi kI cJ ad ob) {n i : Int} {H : Heap} {cells slots : Nat} {ls : Array Slot} (hinv : LInv D cO dz kI cJ s ad ob a0 n H) (hn : n < 512) (h0 : 0 ≤ i) (h1 : i + 4 ≤ L) (hc : cells + 9 ≤ 601024) (hs : slots + 3033 ≤ 7293034) (kk : LTail p l e s m b below meth c D cO dz kI cJ ad ob a0 Q n i cells slots) (hl : lv_has ls 7 [(0, .ref b), (1, .ref a0), (2, .ref (ad 11)), (3, .ref ob), (4, .int (iI i))]) : W p l e room_1 s m #[Value.ref b] below meth c H [] cells slots Q (F0 m 1299 ls []) := by
  obtain ⟨hx, hb, hml, hown, hts, hX, hbl, hL, hEn, hFx, hst⟩ := C
  obtain ⟨S, w, g, T, u, f, hw, hR, rfl, hM, hLW, hS⟩ := hinv
  obtain ⟨u0, hDM⟩ := hFx.2.2.2
  refine lv_aload_n hx hb dL_law_1299 rfl (lv_at hl 1 rfl) ?_
  refine lv_aload_n hx hb dL_law_1300 rfl (lv_at hl 0 rfl) ?_
  refine lv_iload hx hb dL_law_1301 (lv_at hl 4 rfl) ?_
  refine lv_iconst (v := iI 1) hx hb dL_law_1303 rfl ?_
  refine h_iadd hx hb dL_law_1304 ?_
  refine l_sld hx hb hX hbl hS hL (z := i + 1) (by omega) (by omega) dL_law_1305 ?_
  refine lv_aload_n hx hb dL_law_1306 rfl (lv_at hl 3 rfl) ?_
  refine l_wrap (As := [.ref (g 0 0), .int (iI ((xs (i + 1).toNat).toInt)), .ref ob]) (rest := []) ⟨hx, hb, hml, hown, hts⟩ (c_L_coins l D cO dz mi hw hR hst cJ ob f ((xs (i + 1).toNat).toInt) (iI_inR _)) (vx_cwSW 3 hts gL_law_L_coins rfl rfl rfl (by decide +kernel) ⟨Nat.le_of_ble_eq_true rfl, Nat.le_of_ble_eq_true rfl⟩) hEn hFx hLW hS rfl hl.1 rfl (Nat.le_of_ble_eq_true rfl) ⟨by show cells + 1 ≤ 601024; omega, by show slots + 6 ≤ 7293034; omega⟩ dL_law_1307 (fun w1 f1 H hrel hans hLW hS => ?_)
  obtain ⟨g1, T1, hg1, hR1⟩ := hrel
  have hq9 : 0 ≤ (sp_dpt S ((xs (i + 1).toNat).toInt) (S.1 10 ((xs (i + 1).toNat).toInt))).1 ∧ (sp_dpt S ((xs (i + 1).toNat).toInt) (S.1 10 ((xs (i + 1).toNat).toInt))).1 ≤ 3 := by rcases spn_dpt (S := S) ((xs (i + 1).toNat).toInt) (S.1 10 ((xs (i + 1).toNat).toInt)) with h9 | ⟨h9, h8, -⟩ <;> omega
  refine lv_istore (lv' := [(5, .int (iI (sp_dpt S ((xs (i + 1).toNat).toInt) (S.1 10 ((xs (i + 1).toNat).toInt))).1)), (0, .ref b), (1, .ref (g 0 0)), (2, .ref (ad 11)), (3, .ref ob), (4, .int (iI i))]) hx hb dL_law_1310 hl (by decide) rfl (fun ls hl => ?_)
  refine lv_aload_n hx hb dL_law_1312 rfl (lv_at hl 3 rfl) ?_
  refine lv_aload_n hx hb dL_law_1313 rfl (lv_at hl 1 rfl) ?_
  refine lv_iload hx hb dL_law_1314 (lv_at hl 5 rfl) ?_
  refine lv_iconst (v := iI 1) hx hb dL_law_1316 rfl ?_
  refine h_iadd hx hb dL_law_1317 ?_
  refine l_sld hx hb hX hbl hS hL (z := i + 1) (by omega) (by omega) dL_law_1318 ?_
  refine l_mod (As := [.int (iI ((xs (i + 1).toNat).toInt))]) (rest := []) ⟨hx, hb, hml, hown, hts⟩ (c_X4_coins l D ad kI hDM hw u hM ((xs (i + 1).toNat).toInt) (iI_inR _)) (cwV 1 hts gL_law_X4_coins rfl rfl rfl (by decide +kernel) ⟨Nat.le_of_ble_eq_true rfl, Nat.le_of_ble_eq_true rfl⟩) hEn hFx hLW hS rfl hl.1 rfl (Nat.le_of_ble_eq_true rfl) ⟨by show cells + 1 ≤ 601024; omega, by show slots + 6 ≤ 7293034; omega⟩ dL_law_1319 (fun r u1 H hp hLW hS => ?_)
  obtain ⟨rfl, ht, hM1⟩ := hp
  refine lv_istore (lv' := [(6, .int (iI (sp_dpt S ((xs (i + 1).toNat).toInt) (S.1 10 ((xs (i + 1).toNat).toInt))).2.1)), (5, .int (iI (sp_dpt S ((xs (i + 1).toNat).toInt) (S.1 10 ((xs (i + 1).toNat).toInt))).1)), (0, .ref b), (1, .ref (g 0 0)), (2, .ref (ad 11)), (3, .ref ob), (4, .int (iI i))]) hx hb dL_law_1322 hl (by decide) rfl (fun ls hl => ?_)
  refine lv_aload_n hx hb dL_law_1324 rfl (lv_at hl 4 rfl) ?_
  refine l_mod (As := []) (rest := []) ⟨hx, hb, hml, hown, hts⟩ (c_X4_thrown l D ad kI hDM u1 (sp_dpt S ((xs (i + 1).toNat).toInt) (S.1 10 ((xs (i + 1).toNat).toInt))).1 ht) (cwV 0 hts gL_law_X4_thrown rfl rfl rfl (by decide +kernel) ⟨Nat.le_of_ble_eq_true rfl, Nat.le_of_ble_eq_true rfl⟩) hEn hFx hLW hS rfl hl.1 rfl (Nat.le_of_ble_eq_true rfl) ⟨by show cells + 1 ≤ 601024; omega, by show slots + 6 ≤ 7293034; omega⟩ dL_law_1325 (fun r u2 H hp hLW hS => ?_)
  obtain ⟨rfl, rfl⟩ := hp
  refine lv_iload hx hb dL_law_1328 (lv_at hl 1 rfl) ?_
  refine h_icmp_eq (tgt := 1335) hx hb (a := (sp_dpt S ((xs (i + 1).toNat).toInt) (S.1 10 ((xs (i + 1).toNat).toInt))).1) (b := (sp_dpt S ((xs (i + 1).toNat).toInt) (S.1 10 ((xs (i + 1).toNat).toInt))).1) ⟨by omega, by omega⟩ ⟨by omega, by omega⟩ dL_law_1330 (by decide) (fun _ => ?_) (fun c9 => absurd rfl c9)
  refine lv_iload hx hb dL_law_1335 (lv_at hl 1 rfl) ?_
  refine h_if_ne (tgt := 1352) hx hb (a := (sp_dpt S ((xs (i + 1).toNat).toInt) (S.1 10 ((xs (i + 1).toNat).toInt))).1) ⟨by omega, by omega⟩ dL_law_1337 (by decide) (fun c8 => ?_) (fun c8 => ?_)
  · skip
    refine lv_goto (tgt := 1411) hx hb dL_law_1352 (by decide) ?_
    exact W.widen (k := cells + 9) (n := slots + 3033) (by omega) (by omega) (kk _ ls ⟨(sp_dpt S ((xs (i + 1).toNat).toInt) (S.1 10 ((xs (i + 1).toNat).toInt))).2.2, w1, g1, T1, u1, f1, wfs_dpt hw hn ((xs (i + 1).toNat).toInt) _, hR1, hg1, hM1, hLW, hS⟩ (lv_sub hl [2, 3, 4, 5, 6] rfl))
  · skip
    refine lv_aload_n hx hb dL_law_1340 rfl (lv_at hl 5 rfl) ?_
    refine lv_iconst (v := iI 0) hx hb dL_law_1341 rfl ?_
    refine l_lald hx hb hEn hLW (hans c8) dL_law_1342 ?_
    refine lv_iload hx hb dL_law_1343 (lv_at hl 0 rfl) ?_
    refine lv_i2l (v := (iI (sp_dpt S ((xs (i + 1).toNat).toInt) (S.1 10 ((xs (i + 1).toNat).toInt))).2.1).toInt64) hx hb dL_law_1345 rfl ?_
    refine W.lcmp hx hb dL_law_1346 ?_
    refine h_top hx (y := iI 0) (cmp_same _) ?_
    refine h_if_eq (tgt := 1352) hx hb (a := 0) ⟨by omega, by omega⟩ dL_law_1347 (by decide) (fun _ => ?_) (fun c7 => absurd rfl c7)
    refine lv_goto (tgt := 1411) hx hb dL_law_1352 (by decide) ?_
    exact W.widen (k := cells + 9) (n := slots + 3033) (by omega) (by omega) (kk _ ls ⟨(sp_dpt S ((xs (i + 1).toNat).toInt) (S.1 10 ((xs (i + 1).toNat).toInt))).2.2, w1, g1, T1, u1, f1, wfs_dpt hw hn ((xs (i + 1).toNat).toInt) _, hR1, hg1, hM1, hLW, hS⟩ (lv_sub hl [2, 3, 4, 5, 6] rfl))

set_option maxRecDepth 100000 in
set_option maxHeartbeats 4000000 in
theorem law_bill {p : Program} {l : Launch} {e : Env} {s : State} {m : MethodId} {below : List Frame} {meth : Method} {c : Code} {Q : State → Prop} {b L : Nat} {xs : Nat → Int32} {D : va_G} {cO : ClassId} {dz mi : Nat} {kI cJ : ClassId} {ad : Nat → Nat} {ob a0 : Nat} (C : LCtx p l s m c b L xs D cO dz mi kI cJ ad ob) {n i : Int} {H : Heap} {cells slots : Nat} {ls : Array Slot} (hinv : LInv D cO dz kI cJ s ad ob a0 n H) (hn : n < 512) (h0 : 0 ≤ i) (h1 : i + 4 ≤ L) (hc : cells + 9 ≤ 601024) (hs : slots + 3033 ≤ 7293034) (kk : LTail p l e s m b below meth c D cO dz kI cJ ad ob a0 Q n i cells slots) (hl : lv_has ls 7 [(0, .ref b), (1, .ref a0), (2, .ref (ad 11)), (3, .ref ob), (4, .int (iI i))]) : W p l e room_1 s m #[Value.ref b] below meth c H [] cells slots Q (F0 m 1355 ls []) := by
  obtain ⟨hx, hb, hml, hown, hts, hX, hbl, hL, hEn, hFx, hst⟩ := C
  obtain ⟨S, w, g, T, u, f, hw, hR, rfl, hM, hLW, hS⟩ := hinv
  obtain ⟨u0, hDM⟩ := hFx.2.2.2
  refine lv_aload_n hx hb dL_law_1355 rfl (lv_at hl 1 rfl) ?_
  refine lv_aload_n hx hb dL_law_1356 rfl (lv_at hl 0 rfl) ?_
  refine lv_iload hx hb dL_law_1357 (lv_at hl 4 rfl) ?_
  refine lv_iconst (v := iI 1) hx hb dL_law_1359 rfl ?_
  refine h_iadd hx hb dL_law_1360 ?_
  refine l_sld hx hb hX hbl hS hL (z := i + 1) (by omega) (by omega) dL_law_1361 ?_
  refine lv_aload_n hx hb dL_law_1362 rfl (lv_at hl 3 rfl) ?_
  refine l_wrap (As := [.ref (g 0 0), .int (iI ((xs (i + 1).toNat).toInt)), .ref ob]) (rest := []) ⟨hx, hb, hml, hown, hts⟩ (c_L_bill l D cO dz mi hw hR hst cJ ob f ((xs (i + 1).toNat).toInt) (iI_inR _)) (vx_cwSW 3 hts gL_law_L_bill rfl rfl rfl (by decide +kernel) ⟨Nat.le_of_ble_eq_true rfl, Nat.le_of_ble_eq_true rfl⟩) hEn hFx hLW hS rfl hl.1 rfl (Nat.le_of_ble_eq_true rfl) ⟨by show cells + 1 ≤ 601024; omega, by show slots + 6 ≤ 7293034; omega⟩ dL_law_1363 (fun w1 f1 H hrel hans hLW hS => ?_)
  obtain ⟨g1, T1, hg1, hR1⟩ := hrel
  have hq9 : 0 ≤ (sp_dpt S ((xs (i + 1).toNat).toInt) (bil S ((xs (i + 1).toNat).toInt))).1 ∧ (sp_dpt S ((xs (i + 1).toNat).toInt) (bil S ((xs (i + 1).toNat).toInt))).1 ≤ 3 := by rcases spn_dpt (S := S) ((xs (i + 1).toNat).toInt) (bil S ((xs (i + 1).toNat).toInt)) with h9 | ⟨h9, h8, -⟩ <;> omega
  refine lv_istore (lv' := [(5, .int (iI (sp_dpt S ((xs (i + 1).toNat).toInt) (bil S ((xs (i + 1).toNat).toInt))).1)), (0, .ref b), (1, .ref (g 0 0)), (2, .ref (ad 11)), (3, .ref ob), (4, .int (iI i))]) hx hb dL_law_1366 hl (by decide) rfl (fun ls hl => ?_)
  refine lv_aload_n hx hb dL_law_1368 rfl (lv_at hl 3 rfl) ?_
  refine lv_aload_n hx hb dL_law_1369 rfl (lv_at hl 1 rfl) ?_
  refine lv_iload hx hb dL_law_1370 (lv_at hl 5 rfl) ?_
  refine lv_iconst (v := iI 1) hx hb dL_law_1372 rfl ?_
  refine h_iadd hx hb dL_law_1373 ?_
  refine l_sld hx hb hX hbl hS hL (z := i + 1) (by omega) (by omega) dL_law_1374 ?_
  refine l_mod (As := [.int (iI ((xs (i + 1).toNat).toInt))]) (rest := []) ⟨hx, hb, hml, hown, hts⟩ (c_X4_bill l D ad kI hDM hw u hM ((xs (i + 1).toNat).toInt) (iI_inR _)) (cwV 1 hts gL_law_X4_bill rfl rfl rfl (by decide +kernel) ⟨Nat.le_of_ble_eq_true rfl, Nat.le_of_ble_eq_true rfl⟩) hEn hFx hLW hS rfl hl.1 rfl (Nat.le_of_ble_eq_true rfl) ⟨by show cells + 1 ≤ 601024; omega, by show slots + 6 ≤ 7293034; omega⟩ dL_law_1375 (fun r u1 H hp hLW hS => ?_)
  obtain ⟨rfl, ht, hM1⟩ := hp
  refine lv_istore (lv' := [(6, .int (iI (sp_dpt S ((xs (i + 1).toNat).toInt) (bil S ((xs (i + 1).toNat).toInt))).2.1)), (5, .int (iI (sp_dpt S ((xs (i + 1).toNat).toInt) (bil S ((xs (i + 1).toNat).toInt))).1)), (0, .ref b), (1, .ref (g 0 0)), (2, .ref (ad 11)), (3, .ref ob), (4, .int (iI i))]) hx hb dL_law_1378 hl (by decide) rfl (fun ls hl => ?_)
  refine lv_aload_n hx hb dL_law_1380 rfl (lv_at hl 4 rfl) ?_
  refine l_mod (As := []) (rest := []) ⟨hx, hb, hml, hown, hts⟩ (c_X4_thrown l D ad kI hDM u1 (sp_dpt S ((xs (i + 1).toNat).toInt) (bil S ((xs (i + 1).toNat).toInt))).1 ht) (cwV 0 hts gL_law_X4_thrown rfl rfl rfl (by decide +kernel) ⟨Nat.le_of_ble_eq_true rfl, Nat.le_of_ble_eq_true rfl⟩) hEn hFx hLW hS rfl hl.1 rfl (Nat.le_of_ble_eq_true rfl) ⟨by show cells + 1 ≤ 601024; omega, by show slots + 6 ≤ 7293034; omega⟩ dL_law_1381 (fun r u2 H hp hLW hS => ?_)
  obtain ⟨rfl, rfl⟩ := hp
  refine lv_iload hx hb dL_law_1384 (lv_at hl 1 rfl) ?_
  refine h_icmp_eq (tgt := 1391) hx hb (a := (sp_dpt S ((xs (i + 1).toNat).toInt) (bil S ((xs (i + 1).toNat).toInt))).1) (b := (sp_dpt S ((xs (i + 1).toNat).toInt) (bil S ((xs (i + 1).toNat).toInt))).1) ⟨by omega, by omega⟩ ⟨by omega, by omega⟩ dL_law_1386 (by decide) (fun _ => ?_) (fun c9 => absurd rfl c9)
  refine lv_iload hx hb dL_law_1391 (lv_at hl 1 rfl) ?_
  refine h_if_ne (tgt := 1408) hx hb (a := (sp_dpt S ((xs (i + 1).toNat).toInt) (bil S ((xs (i + 1).toNat).toInt))).1) ⟨by omega, by omega⟩ dL_law_1393 (by decide) (fun c8 => ?_) (fun c8 => ?_)
  · skip
    refine lv_goto (tgt := 1411) hx hb dL_law_1408 (by decide) ?_
    exact W.widen (k := cells + 9) (n := slots + 3033) (by omega) (by omega) (kk _ ls ⟨(sp_dpt S ((xs (i + 1).toNat).toInt) (bil S ((xs (i + 1).toNat).toInt))).2.2, w1, g1, T1, u1, f1, wfs_dpt hw hn ((xs (i + 1).toNat).toInt) _, hR1, hg1, hM1, hLW, hS⟩ (lv_sub hl [2, 3, 4, 5, 6] rfl))
  · skip
    refine lv_aload_n hx hb dL_law_1396 rfl (lv_at hl 5 rfl) ?_
    refine lv_iconst (v := iI 0) hx hb dL_law_1397 rfl ?_
    refine l_lald hx hb hEn hLW (hans c8) dL_law_1398 ?_
    refine lv_iload hx hb dL_law_1399 (lv_at hl 0 rfl) ?_
    refine lv_i2l (v := (iI (sp_dpt S ((xs (i + 1).toNat).toInt) (bil S ((xs (i + 1).toNat).toInt))).2.1).toInt64) hx hb dL_law_1401 rfl ?_
    refine W.lcmp hx hb dL_law_1402 ?_
    refine h_top hx (y := iI 0) (cmp_same _) ?_
    refine h_if_eq (tgt := 1408) hx hb (a := 0) ⟨by omega, by omega⟩ dL_law_1403 (by decide) (fun _ => ?_) (fun c7 => absurd rfl c7)
    refine lv_goto (tgt := 1411) hx hb dL_law_1408 (by decide) ?_
    exact W.widen (k := cells + 9) (n := slots + 3033) (by omega) (by omega) (kk _ ls ⟨(sp_dpt S ((xs (i + 1).toNat).toInt) (bil S ((xs (i + 1).toNat).toInt))).2.2, w1, g1, T1, u1, f1, wfs_dpt hw hn ((xs (i + 1).toNat).toInt) _, hR1, hg1, hM1, hLW, hS⟩ (lv_sub hl [2, 3, 4, 5, 6] rfl))
