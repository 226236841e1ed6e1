/-! does, whole -/
set_option maxRecDepth 100000 in
set_option maxHeartbeats 4000000 in
theorem does_sw {p : Program} {l : Launch} {e : Env} {s : State} {m : MethodId} {args : Array Value} {below : List Frame} {meth : Method} {c : Code} {Q : State → Prop} {D : va_G} {cO : ClassId} {dz mi : Nat} {A : Nat → Prop} {kI : ClassId} {lk a0 : Nat} (C : DC p l s m args c D cO dz mi A kI lk) {n : Int} {S : HdS} {fn : Nat → Int32} {w : CW} {H : Heap} {locs : List Loc} {v2 v3 nd nf dd ff ii : Int} (h2 : 0 ≤ v2 ∧ v2 ≤ 2147483647) (hJ : JJ S fn n) (hn : n < 60) (e0 : S.1 11 0 = nd) (e1 : S.1 11 1 = nf) (h3 : 0 ≤ v3 ∧ v3 ≤ 2147483647) (hd : 0 ≤ dd ∧ dd < nd) (hff : -1 ≤ ff ∧ ff < nf) (hii : ii = 0 ∨ (ii = 1 ∧ 0 ≤ ff ∧ S.2 ff ≠ [])) (hR : ST S w a0) (hW : dW D cO dz A kI lk w fn H) (hS : va_S (dFr A lk) s.heap H locs) (kk : DTail p l e s m args below meth c D cO dz A kI lk a0 Q n) {ls : Array Slot} (hl : lv_has ls 13 [(0, .ref a0), (1, .ref lk), (2, .int (iI v2)), (3, .int (iI v3)), (4, .int (iI nd)), (5, .int (iI nf)), (6, .int (iI dd)), (7, .int (iI ff)), (8, .int (iI ii))]) : W p l e { frames := 9, cells := 120, slots := 3700, locals := 230 } s m args below meth c H locs 4 24 Q (F0 m 60 ls []) := by
  have C' := C
  obtain ⟨hx, hb, hml, hown, hts, hEn, hst⟩ := C
  refine lv_iload_n hx hb dL_does_60 rfl (lv_at hl 2 rfl) ?_
  refine lv_bipush (v := iI 10) hx hb dL_does_61 (by decide) ?_
  refine h_irem hx hb (by omega) (by omega) (by omega) (by omega) dL_does_63 ?_
  rcases (show v2 % 10 = 0 ∨ v2 % 10 = 1 ∨ v2 % 10 = 2 ∨ v2 % 10 = 3 ∨ v2 % 10 = 4 ∨ v2 % 10 = 5 ∨ v2 % 10 = 6 ∨ v2 % 10 = 7 ∨ v2 % 10 = 8 ∨ v2 % 10 = 9 by omega) with hq | hq | hq | hq | hq | hq | hq | hq | hq | hq
  · rw [hq]
    refine lv_tableIn (x := iI 0) (off := 52) (tgt := 116) hx hb dL_does_64 (by decide) (by decide) (by decide) (by decide) ?_
    exact does_0 C' hJ hn e0 e1 h3 hd hff hii hR hW hS kk hl
  · rw [hq]
    refine lv_tableIn (x := iI 1) (off := 102) (tgt := 166) hx hb dL_does_64 (by decide) (by decide) (by decide) (by decide) ?_
    exact does_1 C' hJ hn e0 e1 h3 hd hff hii hR hW hS kk hl
  · rw [hq]
    refine lv_tableIn (x := iI 2) (off := 102) (tgt := 166) hx hb dL_does_64 (by decide) (by decide) (by decide) (by decide) ?_
    exact does_1 C' hJ hn e0 e1 h3 hd hff hii hR hW hS kk hl
  · rw [hq]
    refine lv_tableIn (x := iI 3) (off := 231) (tgt := 295) hx hb dL_does_64 (by decide) (by decide) (by decide) (by decide) ?_
    exact does_3 C' hJ hn e0 e1 h3 hd hff hii hR hW hS kk hl
  · rw [hq]
    refine lv_tableIn (x := iI 4) (off := 316) (tgt := 380) hx hb dL_does_64 (by decide) (by decide) (by decide) (by decide) ?_
    exact does_4 C' hJ hn e0 e1 h3 hd hff hii hR hW hS kk hl
  · rw [hq]
    refine lv_tableIn (x := iI 5) (off := 479) (tgt := 543) hx hb dL_does_64 (by decide) (by decide) (by decide) (by decide) ?_
    exact does_5 C' hJ hn e0 e1 h3 hd hff hii hR hW hS kk hl
  · rw [hq]
    refine lv_tableIn (x := iI 6) (off := 566) (tgt := 630) hx hb dL_does_64 (by decide) (by decide) (by decide) (by decide) ?_
    exact does_6 C' hJ hn e0 e1 h3 hd hff hii hR hW hS kk hl
  · rw [hq]
    refine lv_tableIn (x := iI 7) (off := 605) (tgt := 669) hx hb dL_does_64 (by decide) (by decide) (by decide) (by decide) ?_
    exact does_7 C' hJ hn e0 e1 h3 hd hff hii hR hW hS kk hl
  · rw [hq]
    refine lv_tableIn (x := iI 8) (off := 641) (tgt := 705) hx hb dL_does_64 (by decide) (by decide) (by decide) (by decide) ?_
    exact does_8 C' hJ hn e0 e1 h3 hd hff hii hR hW hS kk hl
  · rw [hq]
    refine lv_tableOut (x := iI 9) (tgt := 735) hx hb dL_does_64 (by decide) (by decide) ?_
    exact does_9 C' hJ hn e0 e1 h3 hd hff hii hR hW hS kk hl
set_option maxRecDepth 100000 in
set_option maxHeartbeats 4000000 in
theorem c_L_does (l : Launch) (D : va_G) (cO : ClassId) (dz mi : Nat) {A : Nat → Prop} (kI : ClassId) (lk : Nat) {S : HdS} {w : CW} {a0 : Nat} {n : Int} {fn : Nat → Int32} (hJ : JJ S fn n) (hn : n < 60) (hR : ST S w a0) (hst : l.stackTraces = false) {v2 v3 : Int} (h2 : 0 ≤ v2 ∧ v2 ≤ 2147483647) (h3 : 0 ≤ v3 ∧ v3 ≤ 2147483647) : dI l yL_does wsL_does { frames := 9, cells := 120, slots := 3700, locals := 230 } D cO dz mi A kI lk w fn [.ref a0, .ref lk, .int (iI v2), .int (iI v3)] (fun x => ∃ S' : HdS, JJ S' x.2 (n + 1) ∧ ST S' x.1 a0) 120 3700 := by
  refine dI_of (cc := cL_does) (maxL := 13) (by decide) rfl (Nat.le_of_ble_eq_true rfl) ?_
  intro p e s m args below meth c Q hx hb hml hown hts hEn hW hS hret ls hl
  have hl : lv_has ls 13 [(0, .ref a0), (1, .ref lk), (2, .int (iI v2)), (3, .int (iI v3))] := hl
  have kk : DTail p l e s m args below meth c D cO dz A kI lk a0 Q n := fun S9 fn9 w9 H9 locs9 pc9 c9 s9 ls9 hd9 hJ9 hR9 hW9 hS9 hc9 hs9 => hret (w9, fn9) H9 locs9 pc9 c9 s9 ls9 hd9 hW9 hS9 hc9 hs9 ⟨S9, hJ9, hR9⟩
  have hw := hJ.1
  have hnd := hw.nd
  have hnf := hw.nf
  have hdd : 0 ≤ v2 / 10 % S.1 11 0 ∧ v2 / 10 % S.1 11 0 < S.1 11 0 := ⟨Int.emod_nonneg _ (by omega), Int.emod_lt_of_pos _ (by omega)⟩
  refine lv_aload_n hx hb dL_does_0 rfl (lv_at hl 0 rfl) ?_
  refine d_call (As := []) (rest := []) ⟨hx, hb, hml, hown, hts⟩ (n_directories l D cO dz mi hw hR) (cwV 0 hts gL_does_X3_directories rfl rfl rfl (by decide +kernel) ⟨Nat.le_of_ble_eq_true rfl, Nat.le_of_ble_eq_true rfl⟩) hEn hW hS hR.k0 rfl hl.1 rfl (Nat.le_of_ble_eq_true rfl) ⟨Nat.le_of_ble_eq_true rfl, Nat.le_of_ble_eq_true rfl⟩ dL_does_1 (fun w H locs hR hW hS => ?_)
  refine lv_istore (lv' := [(4, .int (iI (S.1 11 0))), (0, .ref a0), (1, .ref lk), (2, .int (iI (v2))), (3, .int (iI (v3)))]) hx hb dL_does_4 hl (by decide) rfl (fun ls hl => ?_)
  refine lv_aload_n hx hb dL_does_6 rfl (lv_at hl 1 rfl) ?_
  refine d_call (As := []) (rest := []) ⟨hx, hb, hml, hown, hts⟩ (n_files l D cO dz mi hw hR) (cwV 0 hts gL_does_X3_files rfl rfl rfl (by decide +kernel) ⟨Nat.le_of_ble_eq_true rfl, Nat.le_of_ble_eq_true rfl⟩) hEn hW hS hR.k0 rfl hl.1 rfl (Nat.le_of_ble_eq_true rfl) ⟨Nat.le_of_ble_eq_true rfl, Nat.le_of_ble_eq_true rfl⟩ dL_does_7 (fun w H locs hR hW hS => ?_)
  refine lv_istore (lv' := [(5, .int (iI (S.1 11 1))), (4, .int (iI (S.1 11 0))), (0, .ref a0), (1, .ref lk), (2, .int (iI (v2))), (3, .int (iI (v3)))]) hx hb dL_does_10 hl (by decide) rfl (fun ls hl => ?_)
  refine lv_iload_n hx hb dL_does_12 rfl (lv_at hl 4 rfl) ?_
  refine lv_bipush (v := iI 10) hx hb dL_does_13 (by decide) ?_
  refine h_idiv hx hb (by omega) (by omega) (by omega) (by omega) dL_does_15 ?_
  refine lv_iload hx hb dL_does_16 (lv_at hl 1 rfl) ?_
  refine h_irem hx hb (by omega) (by omega) (by omega) (by omega) dL_does_18 ?_
  refine lv_istore (lv' := [(6, .int (iI (((v2 / 10) % S.1 11 0)))), (5, .int (iI (S.1 11 1))), (4, .int (iI (S.1 11 0))), (0, .ref a0), (1, .ref lk), (2, .int (iI (v2))), (3, .int (iI (v3)))]) hx hb dL_does_19 hl (by decide) rfl (fun ls hl => ?_)
  refine lv_iload hx hb dL_does_21 (lv_at hl 1 rfl) ?_
  refine h_if_ne (tgt := 30) hx hb (by omega) dL_does_23 (by decide) (fun c_23 => ?_) (fun c_23 => ?_)
  · skip
    have hfm : 0 ≤ v2 / 10 % S.1 11 1 ∧ v2 / 10 % S.1 11 1 < S.1 11 1 := ⟨Int.emod_nonneg _ (by omega), Int.emod_lt_of_pos _ (by omega)⟩
    have hho := home_in hw hfm.1 hfm.2
    refine lv_iload_n hx hb dL_does_30 rfl (lv_at hl 5 rfl) ?_
    refine lv_bipush (v := iI 10) hx hb dL_does_31 (by decide) ?_
    refine h_idiv hx hb (by omega) (by omega) (by omega) (by omega) dL_does_33 ?_
    refine lv_iload hx hb dL_does_34 (lv_at hl 1 rfl) ?_
    refine h_irem hx hb (by omega) (by omega) (by omega) (by omega) dL_does_36 ?_
    refine lv_istore (lv' := [(7, .int (iI (((v2 / 10) % S.1 11 1)))), (6, .int (iI (((v2 / 10) % S.1 11 0)))), (5, .int (iI (S.1 11 1))), (4, .int (iI (S.1 11 0))), (0, .ref a0), (1, .ref lk), (2, .int (iI (v2))), (3, .int (iI (v3)))]) hx hb dL_does_37 hl (by decide) rfl (fun ls hl => ?_)
    refine lv_iload hx hb dL_does_39 (lv_at hl 0 rfl) ?_
    refine h_if_lt (tgt := 57) hx hb (by omega) dL_does_41 (by decide) (fun c_41 => by exfalso; omega) (fun c_41 => ?_)
    refine lv_aload_n hx hb dL_does_44 rfl (lv_at hl 4 rfl) ?_
    refine lv_iload hx hb dL_does_45 (lv_at hl 0 rfl) ?_
    refine d_call (As := [.int (iI (((v2 / 10) % S.1 11 1)))]) (rest := []) ⟨hx, hb, hml, hown, hts⟩ (n_home l D cO dz mi hw hR hst (by omega) (by omega) rfl) (cwV 1 hts gL_does_X3_home rfl rfl rfl (by decide +kernel) ⟨Nat.le_of_ble_eq_true rfl, Nat.le_of_ble_eq_true rfl⟩) hEn hW hS hR.k0 rfl hl.1 rfl (Nat.le_of_ble_eq_true rfl) ⟨Nat.le_of_ble_eq_true rfl, Nat.le_of_ble_eq_true rfl⟩ dL_does_47 (fun w H locs hR hW hS => ?_)
    refine h_if_lt (tgt := 57) hx hb (by omega) dL_does_50 (by decide) (fun c_50 => ?_) (fun c_50 => ?_)
    · skip
      refine lv_iconst (v := iI 0) hx hb dL_does_57 rfl ?_
      refine lv_istore (lv' := [(8, .int (iI 0)), (7, .int (iI (((v2 / 10) % S.1 11 1)))), (6, .int (iI (((v2 / 10) % S.1 11 0)))), (5, .int (iI (S.1 11 1))), (4, .int (iI (S.1 11 0))), (0, .ref a0), (1, .ref lk), (2, .int (iI (v2))), (3, .int (iI (v3)))]) hx hb dL_does_58 hl (by decide) rfl (fun ls hl => ?_)
      exact W.widen (k := 4) (n := 24) (Nat.le_of_ble_eq_true rfl) (Nat.le_of_ble_eq_true rfl) (does_sw ⟨hx, hb, hml, hown, hts, hEn, hst⟩ h2 hJ hn rfl rfl h3 hdd ⟨by omega, hfm.2⟩ (Or.inl rfl) hR hW hS kk (lv_sub hl [5, 6, 7, 8, 4, 3, 2, 1, 0] rfl))
    · skip
      refine lv_iconst (v := iI 1) hx hb dL_does_53 rfl ?_
      refine lv_goto (tgt := 58) hx hb dL_does_54 (by decide) ?_
      refine lv_istore (lv' := [(8, .int (iI 1)), (7, .int (iI (((v2 / 10) % S.1 11 1)))), (6, .int (iI (((v2 / 10) % S.1 11 0)))), (5, .int (iI (S.1 11 1))), (4, .int (iI (S.1 11 0))), (0, .ref a0), (1, .ref lk), (2, .int (iI (v2))), (3, .int (iI (v3)))]) hx hb dL_does_58 hl (by decide) rfl (fun ls hl => ?_)
      exact W.widen (k := 4) (n := 24) (Nat.le_of_ble_eq_true rfl) (Nat.le_of_ble_eq_true rfl) (does_sw ⟨hx, hb, hml, hown, hts, hEn, hst⟩ h2 hJ hn rfl rfl h3 hdd ⟨by omega, hfm.2⟩ (Or.inr ⟨rfl, hfm.1, hho.2.2 c_50⟩) hR hW hS kk (lv_sub hl [5, 6, 7, 8, 4, 3, 2, 1, 0] rfl))
  · skip
    refine lv_iconst (v := iI (-1)) hx hb dL_does_26 rfl ?_
    refine lv_goto (tgt := 37) hx hb dL_does_27 (by decide) ?_
    refine lv_istore (lv' := [(7, .int (iI (-1))), (6, .int (iI (((v2 / 10) % S.1 11 0)))), (5, .int (iI (S.1 11 1))), (4, .int (iI (S.1 11 0))), (0, .ref a0), (1, .ref lk), (2, .int (iI (v2))), (3, .int (iI (v3)))]) hx hb dL_does_37 hl (by decide) rfl (fun ls hl => ?_)
    refine lv_iload hx hb dL_does_39 (lv_at hl 0 rfl) ?_
    refine h_if_lt (tgt := 57) hx hb (by omega) dL_does_41 (by decide) (fun c_41 => ?_) (fun c_41 => by exfalso; omega)
    refine lv_iconst (v := iI 0) hx hb dL_does_57 rfl ?_
    refine lv_istore (lv' := [(8, .int (iI 0)), (7, .int (iI (-1))), (6, .int (iI (((v2 / 10) % S.1 11 0)))), (5, .int (iI (S.1 11 1))), (4, .int (iI (S.1 11 0))), (0, .ref a0), (1, .ref lk), (2, .int (iI (v2))), (3, .int (iI (v3)))]) hx hb dL_does_58 hl (by decide) rfl (fun ls hl => ?_)
    exact W.widen (k := 4) (n := 24) (Nat.le_of_ble_eq_true rfl) (Nat.le_of_ble_eq_true rfl) (does_sw ⟨hx, hb, hml, hown, hts, hEn, hst⟩ h2 hJ hn rfl rfl h3 hdd ⟨by omega, by omega⟩ (Or.inl rfl) hR hW hS kk (lv_sub hl [5, 6, 7, 8, 4, 3, 2, 1, 0] rfl))
