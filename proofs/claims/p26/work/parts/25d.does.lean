/-! .. holds, reading, days -/
set_option maxRecDepth 100000 in
set_option maxHeartbeats 4000000 in
theorem does_6 {p : Program} {l : Launch} {e : Env} {s : State} {m : MethodId} {args : Array Value} {below : List Frame} {meth : Method} {c : Code} {Q : State → Prop} {D : va_G} {cO : ClassId} {dz mi : Nat} {A : Nat → Prop} {kI : ClassId} {lk a0 : Nat} (C : DC p l s m args c D cO dz mi A kI lk) {n : Int} {S : HdS} {fn : Nat → Int32} {w : CW} {H : Heap} {locs : List Loc} {v2 v3 nd nf dd ff ii : Int} (hJ : JJ S fn n) (hn : n < 60) (e0 : S.1 11 0 = nd) (e1 : S.1 11 1 = nf) (h3 : 0 ≤ v3 ∧ v3 ≤ 2147483647) (hd : 0 ≤ dd ∧ dd < nd) (hff : -1 ≤ ff ∧ ff < nf) (hii : ii = 0 ∨ (ii = 1 ∧ 0 ≤ ff ∧ S.2 ff ≠ [])) (hR : ST S w a0) (hW : dW D cO dz A kI lk w fn H) (hS : va_S (dFr A lk) s.heap H locs) (kk : DTail p l e s m args below meth c D cO dz A kI lk a0 Q n) {ls : Array Slot} (hl : lv_has ls 13 [(0, .ref a0), (1, .ref lk), (2, .int (iI v2)), (3, .int (iI v3)), (4, .int (iI nd)), (5, .int (iI nf)), (6, .int (iI dd)), (7, .int (iI ff)), (8, .int (iI ii))]) : W p l e { frames := 9, cells := 120, slots := 3700, locals := 230 } s m args below meth c H locs 4 24 Q (F0 m 630 ls []) := by
  obtain ⟨hx, hb, hml, hown, hts, hEn, hst⟩ := C
  subst e0
  subst e1
  have hw := hJ.1
  have hnn := hw.num
  have hnd := hw.nd
  have hnf := hw.nf
  have hdy := hw.day
  refine lv_iload hx hb dL_does_630 (lv_at hl 8 rfl) ?_
  refine h_if_eq (tgt := 663) hx hb (by omega) dL_does_632 (by decide) (fun c_632 => ?_) (fun c_632 => ?_)
  · skip
    refine lv_iconst (v := iI 1) hx hb dL_does_663 rfl ?_
    refine lv_goto (tgt := 668) hx hb dL_does_664 (by decide) ?_
    exact kk S fn _ _ _ _ _ _ _ dL_does_668 (JJ_up hJ (by omega)) hR hW hS (Nat.le_of_ble_eq_true rfl) (Nat.le_of_ble_eq_true rfl)
  · skip
    have hf : 0 ≤ ff ∧ S.2 ff ≠ [] := by rcases hii with q | q; (exact absurd q c_632); (exact q.2)
    obtain ⟨f0, fne⟩ := hf
    have f1 := hff.2
    have hsz := hw.siz f0 f1
    have hkp := hw.kep f0 f1
    have hho := hw.hol f0 f1
    have hhm := hw.home f0 f1 fne
    have htr := tier_in (S := S) ff
    have htr0 := tier_here fne
    have hjf := hJ.2.2 ff f0 f1
    have hsz1 := hjf.2.1 fne
    have hkT := keepT_in hw f0 f1
    have hcn := hold_cnt hho.1 hho.2 (m := v3 % 5) (by omega) (by omega)
    have hor := bit_or2 hho.1 hho.2 (m := v3 % 5) (by omega) (by omega)
    refine lv_aload_n hx hb dL_does_635 rfl (lv_at hl 0 rfl) ?_
    refine lv_iload_n hx hb dL_does_636 rfl (lv_at hl 3 rfl) ?_
    refine lv_iconst (v := iI 5) hx hb dL_does_637 rfl ?_
    refine h_irem hx hb (by omega) (by omega) (by omega) (by omega) dL_does_638 ?_
    refine lv_iload hx hb dL_does_639 (lv_at hl 7 rfl) ?_
    refine d_call (As := [.int (iI ((v3 % 5))), .int (iI (ff))]) (rest := []) ⟨hx, hb, hml, hown, hts⟩ (n_hold l D cO dz mi hw hR hst (v3 % 5) ff (by omega) (by omega) (sv_hold (by omega) (by omega) f0 f1 fne)) (cwV 2 hts gL_does_X3_hold rfl rfl rfl (by decide +kernel) ⟨Nat.le_of_ble_eq_true rfl, Nat.le_of_ble_eq_true rfl⟩) hEn hW hS hR.k0 rfl hl.1 rfl (Nat.le_of_ble_eq_true rfl) ⟨Nat.le_of_ble_eq_true rfl, Nat.le_of_ble_eq_true rfl⟩ dL_does_641 (fun w H locs hR hW hS => ?_)
    refine h_if_le (tgt := 667) hx hb (by omega) dL_does_644 (by decide) (fun c_644 => by exfalso; omega) (fun c_644 => ?_)
    refine lv_aload_n hx hb dL_does_647 rfl (lv_at hl 0 rfl) ?_
    refine lv_iload hx hb dL_does_648 (lv_at hl 7 rfl) ?_
    refine d_call (As := [.int (iI (ff))]) (rest := []) ⟨hx, hb, hml, hown, hts⟩ (n_holders l D cO dz mi (JJ_hold hJ (by omega) hor.2).1 hR hst (by omega) (show ff < (sset S 7 ff (hOr (S.1 7 ff) (v3 % 5))).1 11 1 by rw [sset_off (by omega)]; exact f1) (sset_at S 7 ff _)) (cwV 1 hts gL_does_X3_holders rfl rfl rfl (by decide +kernel) ⟨Nat.le_of_ble_eq_true rfl, Nat.le_of_ble_eq_true rfl⟩) hEn hW hS hR.k0 rfl hl.1 rfl (Nat.le_of_ble_eq_true rfl) ⟨Nat.le_of_ble_eq_true rfl, Nat.le_of_ble_eq_true rfl⟩ dL_does_650 (fun w H locs hR hW hS => ?_)
    refine lv_iload_n hx hb dL_does_653 rfl (lv_at hl 3 rfl) ?_
    refine lv_iconst (v := iI 5) hx hb dL_does_654 rfl ?_
    refine h_irem hx hb (by omega) (by omega) (by omega) (by omega) dL_does_655 ?_
    refine lv_ishr hx hb dL_does_656 ?_
    refine lv_iconst (v := iI 1) hx hb dL_does_657 rfl ?_
    refine lv_iand hx hb dL_does_658 ?_
    refine h_top hx (y := iI 1) (hcn.2.2) ?_
    refine lv_iconst (v := iI 1) hx hb dL_does_659 rfl ?_
    refine h_icmp_ne (tgt := 667) hx hb (by omega) (by omega) dL_does_660 (by decide) (fun c_660 => by exfalso; omega) (fun c_660 => ?_)
    refine lv_iconst (v := iI 1) hx hb dL_does_663 rfl ?_
    refine lv_goto (tgt := 668) hx hb dL_does_664 (by decide) ?_
    exact kk (sset S 7 ff (hOr (S.1 7 ff) (v3 % 5))) fn _ _ _ _ _ _ _ dL_does_668 (JJ_hold hJ (by omega) hor.2) hR hW hS (Nat.le_of_ble_eq_true rfl) (Nat.le_of_ble_eq_true rfl)
set_option maxRecDepth 100000 in
set_option maxHeartbeats 4000000 in
theorem does_7 {p : Program} {l : Launch} {e : Env} {s : State} {m : MethodId} {args : Array Value} {below : List Frame} {meth : Method} {c : Code} {Q : State → Prop} {D : va_G} {cO : ClassId} {dz mi : Nat} {A : Nat → Prop} {kI : ClassId} {lk a0 : Nat} (C : DC p l s m args c D cO dz mi A kI lk) {n : Int} {S : HdS} {fn : Nat → Int32} {w : CW} {H : Heap} {locs : List Loc} {v2 v3 nd nf dd ff ii : Int} (hJ : JJ S fn n) (hn : n < 60) (e0 : S.1 11 0 = nd) (e1 : S.1 11 1 = nf) (h3 : 0 ≤ v3 ∧ v3 ≤ 2147483647) (hd : 0 ≤ dd ∧ dd < nd) (hff : -1 ≤ ff ∧ ff < nf) (hii : ii = 0 ∨ (ii = 1 ∧ 0 ≤ ff ∧ S.2 ff ≠ [])) (hR : ST S w a0) (hW : dW D cO dz A kI lk w fn H) (hS : va_S (dFr A lk) s.heap H locs) (kk : DTail p l e s m args below meth c D cO dz A kI lk a0 Q n) {ls : Array Slot} (hl : lv_has ls 13 [(0, .ref a0), (1, .ref lk), (2, .int (iI v2)), (3, .int (iI v3)), (4, .int (iI nd)), (5, .int (iI nf)), (6, .int (iI dd)), (7, .int (iI ff)), (8, .int (iI ii))]) : W p l e { frames := 9, cells := 120, slots := 3700, locals := 230 } s m args below meth c H locs 4 24 Q (F0 m 669 ls []) := by
  obtain ⟨hx, hb, hml, hown, hts, hEn, hst⟩ := C
  subst e0
  subst e1
  have hw := hJ.1
  have hnn := hw.num
  have hnd := hw.nd
  have hnf := hw.nf
  have hdy := hw.day
  have hdr := drop_in hw (v3 % 5) (S.1 11 1).toNat (by omega)
  refine lv_aload_n hx hb dL_does_669 rfl (lv_at hl 0 rfl) ?_
  refine lv_iload_n hx hb dL_does_670 rfl (lv_at hl 3 rfl) ?_
  refine lv_iconst (v := iI 5) hx hb dL_does_671 rfl ?_
  refine h_irem hx hb (by omega) (by omega) (by omega) (by omega) dL_does_672 ?_
  refine d_call (As := [.int (iI ((v3 % 5)))]) (rest := []) ⟨hx, hb, hml, hown, hts⟩ (n_release l D cO dz mi hw hR hst (v3 % 5) (by omega) (sv_release (by omega) (by omega))) (cwV 1 hts gL_does_X3_release rfl rfl rfl (by decide +kernel) ⟨Nat.le_of_ble_eq_true rfl, Nat.le_of_ble_eq_true rfl⟩) hEn hW hS hR.k0 rfl hl.1 rfl (Nat.le_of_ble_eq_true rfl) ⟨Nat.le_of_ble_eq_true rfl, Nat.le_of_ble_eq_true rfl⟩ dL_does_673 (fun w H locs hR hW hS => ?_)
  refine h_if_lt (tgt := 703) hx hb (by omega) dL_does_676 (by decide) (fun c_676 => by exfalso; omega) (fun c_676 => ?_)
  refine lv_iload hx hb dL_does_679 (lv_at hl 7 rfl) ?_
  refine h_if_lt (tgt := 699) hx hb (by omega) dL_does_681 (by decide) (fun c_681 => ?_) (fun c_681 => ?_)
  · skip
    refine lv_iconst (v := iI 1) hx hb dL_does_699 rfl ?_
    refine lv_goto (tgt := 704) hx hb dL_does_700 (by decide) ?_
    exact kk (relN S (v3 % 5) (S.1 11 1)) fn _ _ _ _ _ _ _ dL_does_704 (JJ_rel hJ (by omega) (m := (v3 % 5)) (by omega) (by omega)) hR hW hS (Nat.le_of_ble_eq_true rfl) (Nat.le_of_ble_eq_true rfl)
  · skip
    have hho := hw.hol (f := ff) (by omega) (by omega)
    have hcl := bit_clr2 hho.1 hho.2 (m := v3 % 5) (by omega) (by omega)
    refine lv_aload_n hx hb dL_does_684 rfl (lv_at hl 0 rfl) ?_
    refine lv_iload hx hb dL_does_685 (lv_at hl 7 rfl) ?_
    refine d_call (As := [.int (iI (ff))]) (rest := []) ⟨hx, hb, hml, hown, hts⟩ (n_holders l D cO dz mi (JJ_rel hJ (by omega) (m := (v3 % 5)) (by omega) (by omega)).1 hR hst (by omega) (show ff < (relN S (v3 % 5) (S.1 11 1)).1 11 1 by rw [relN_off S _ _ (by omega) (by omega)]; omega) (rel_7 S _ (by omega) (by omega))) (cwV 1 hts gL_does_X3_holders rfl rfl rfl (by decide +kernel) ⟨Nat.le_of_ble_eq_true rfl, Nat.le_of_ble_eq_true rfl⟩) hEn hW hS hR.k0 rfl hl.1 rfl (Nat.le_of_ble_eq_true rfl) ⟨Nat.le_of_ble_eq_true rfl, Nat.le_of_ble_eq_true rfl⟩ dL_does_687 (fun w H locs hR hW hS => ?_)
    refine lv_iload_n hx hb dL_does_690 rfl (lv_at hl 3 rfl) ?_
    refine lv_iconst (v := iI 5) hx hb dL_does_691 rfl ?_
    refine h_irem hx hb (by omega) (by omega) (by omega) (by omega) dL_does_692 ?_
    refine lv_ishr hx hb dL_does_693 ?_
    refine lv_iconst (v := iI 1) hx hb dL_does_694 rfl ?_
    refine lv_iand hx hb dL_does_695 ?_
    refine h_top hx (y := iI 0) (rel_bit hho.1 hho.2 (by omega) (by omega)) ?_
    refine h_if_ne (tgt := 703) hx hb (by omega) dL_does_696 (by decide) (fun c_696 => by exfalso; omega) (fun c_696 => ?_)
    refine lv_iconst (v := iI 1) hx hb dL_does_699 rfl ?_
    refine lv_goto (tgt := 704) hx hb dL_does_700 (by decide) ?_
    exact kk (relN S (v3 % 5) (S.1 11 1)) fn _ _ _ _ _ _ _ dL_does_704 (JJ_rel hJ (by omega) (m := (v3 % 5)) (by omega) (by omega)) hR hW hS (Nat.le_of_ble_eq_true rfl) (Nat.le_of_ble_eq_true rfl)
set_option maxRecDepth 100000 in
set_option maxHeartbeats 4000000 in
theorem does_8 {p : Program} {l : Launch} {e : Env} {s : State} {m : MethodId} {args : Array Value} {below : List Frame} {meth : Method} {c : Code} {Q : State → Prop} {D : va_G} {cO : ClassId} {dz mi : Nat} {A : Nat → Prop} {kI : ClassId} {lk a0 : Nat} (C : DC p l s m args c D cO dz mi A kI lk) {n : Int} {S : HdS} {fn : Nat → Int32} {w : CW} {H : Heap} {locs : List Loc} {v2 v3 nd nf dd ff ii : Int} (hJ : JJ S fn n) (hn : n < 60) (e0 : S.1 11 0 = nd) (e1 : S.1 11 1 = nf) (h3 : 0 ≤ v3 ∧ v3 ≤ 2147483647) (hd : 0 ≤ dd ∧ dd < nd) (hff : -1 ≤ ff ∧ ff < nf) (hii : ii = 0 ∨ (ii = 1 ∧ 0 ≤ ff ∧ S.2 ff ≠ [])) (hR : ST S w a0) (hW : dW D cO dz A kI lk w fn H) (hS : va_S (dFr A lk) s.heap H locs) (kk : DTail p l e s m args below meth c D cO dz A kI lk a0 Q n) {ls : Array Slot} (hl : lv_has ls 13 [(0, .ref a0), (1, .ref lk), (2, .int (iI v2)), (3, .int (iI v3)), (4, .int (iI nd)), (5, .int (iI nf)), (6, .int (iI dd)), (7, .int (iI ff)), (8, .int (iI ii))]) : W p l e { frames := 9, cells := 120, slots := 3700, locals := 230 } s m args below meth c H locs 4 24 Q (F0 m 705 ls []) := by
  obtain ⟨hx, hb, hml, hown, hts, hEn, hst⟩ := C
  subst e0
  subst e1
  have hw := hJ.1
  have hnn := hw.num
  have hnd := hw.nd
  have hnf := hw.nf
  have hdy := hw.day
  refine lv_iload hx hb dL_does_705 (lv_at hl 8 rfl) ?_
  refine h_if_eq (tgt := 729) hx hb (by omega) dL_does_707 (by decide) (fun c_707 => ?_) (fun c_707 => ?_)
  · skip
    refine lv_iconst (v := iI 1) hx hb dL_does_729 rfl ?_
    refine lv_goto (tgt := 734) hx hb dL_does_730 (by decide) ?_
    exact kk S fn _ _ _ _ _ _ _ dL_does_734 (JJ_up hJ (by omega)) hR hW hS (Nat.le_of_ble_eq_true rfl) (Nat.le_of_ble_eq_true rfl)
  · skip
    have hf : 0 ≤ ff ∧ S.2 ff ≠ [] := by rcases hii with q | q; (exact absurd q c_707); (exact q.2)
    obtain ⟨f0, fne⟩ := hf
    have f1 := hff.2
    have hsz := hw.siz f0 f1
    have hkp := hw.kep f0 f1
    have hho := hw.hol f0 f1
    have hhm := hw.home f0 f1 fne
    have htr := tier_in (S := S) ff
    have htr0 := tier_here fne
    have hjf := hJ.2.2 ff f0 f1
    have hsz1 := hjf.2.1 fne
    have hkT := keepT_in hw f0 f1
    refine lv_aload_n hx hb dL_does_710 rfl (lv_at hl 0 rfl) ?_
    refine lv_iload hx hb dL_does_711 (lv_at hl 7 rfl) ?_
    refine d_call (As := [.int (iI (ff))]) (rest := []) ⟨hx, hb, hml, hown, hts⟩ (n_tier l D cO dz mi hw hR hst (by omega) (by omega) rfl) (cwV 1 hts gL_does_X3_tier rfl rfl rfl (by decide +kernel) ⟨Nat.le_of_ble_eq_true rfl, Nat.le_of_ble_eq_true rfl⟩) hEn hW hS hR.k0 rfl hl.1 rfl (Nat.le_of_ble_eq_true rfl) ⟨Nat.le_of_ble_eq_true rfl, Nat.le_of_ble_eq_true rfl⟩ dL_does_713 (fun w H locs hR hW hS => ?_)
    refine lv_iconst (v := iI 2) hx hb dL_does_716 rfl ?_
    refine h_icmp_eq (tgt := 729) hx hb (by omega) (by omega) dL_does_717 (by decide) (fun c_717 => ?_) (fun c_717 => ?_)
    · skip
      refine lv_iconst (v := iI 1) hx hb dL_does_729 rfl ?_
      refine lv_goto (tgt := 734) hx hb dL_does_730 (by decide) ?_
      exact kk S fn _ _ _ _ _ _ _ dL_does_734 (JJ_up hJ (by omega)) hR hW hS (Nat.le_of_ble_eq_true rfl) (Nat.le_of_ble_eq_true rfl)
    · skip
      refine lv_aload_n hx hb dL_does_720 rfl (lv_at hl 0 rfl) ?_
      refine lv_iload hx hb dL_does_721 (lv_at hl 7 rfl) ?_
      refine d_call (As := [.int (iI (ff))]) (rest := []) ⟨hx, hb, hml, hown, hts⟩ (n_read l D cO dz mi hw hR hst ff (by omega) (sv_read f0 f1 fne (by omega))) (cwV 1 hts gL_does_X3_read rfl rfl rfl (by decide +kernel) ⟨Nat.le_of_ble_eq_true rfl, Nat.le_of_ble_eq_true rfl⟩) hEn hW hS hR.k0 rfl hl.1 rfl (Nat.le_of_ble_eq_true rfl) ⟨Nat.le_of_ble_eq_true rfl, Nat.le_of_ble_eq_true rfl⟩ dL_does_723 (fun w H locs hR hW hS => ?_)
      refine h_if_ne (tgt := 733) hx hb (by omega) dL_does_726 (by decide) (fun c_726 => by exfalso; omega) (fun c_726 => ?_)
      refine lv_iconst (v := iI 1) hx hb dL_does_729 rfl ?_
      refine lv_goto (tgt := 734) hx hb dL_does_730 (by decide) ?_
      exact kk (sset S 8 ff (S.1 11 2)) fn _ _ _ _ _ _ _ dL_does_734 (JJ_used hJ (by omega) fne (by omega)) hR hW hS (Nat.le_of_ble_eq_true rfl) (Nat.le_of_ble_eq_true rfl)
set_option maxRecDepth 100000 in
set_option maxHeartbeats 4000000 in
theorem does_9 {p : Program} {l : Launch} {e : Env} {s : State} {m : MethodId} {args : Array Value} {below : List Frame} {meth : Method} {c : Code} {Q : State → Prop} {D : va_G} {cO : ClassId} {dz mi : Nat} {A : Nat → Prop} {kI : ClassId} {lk a0 : Nat} (C : DC p l s m args c D cO dz mi A kI lk) {n : Int} {S : HdS} {fn : Nat → Int32} {w : CW} {H : Heap} {locs : List Loc} {v2 v3 nd nf dd ff ii : Int} (hJ : JJ S fn n) (hn : n < 60) (e0 : S.1 11 0 = nd) (e1 : S.1 11 1 = nf) (h3 : 0 ≤ v3 ∧ v3 ≤ 2147483647) (hd : 0 ≤ dd ∧ dd < nd) (hff : -1 ≤ ff ∧ ff < nf) (hii : ii = 0 ∨ (ii = 1 ∧ 0 ≤ ff ∧ S.2 ff ≠ [])) (hR : ST S w a0) (hW : dW D cO dz A kI lk w fn H) (hS : va_S (dFr A lk) s.heap H locs) (kk : DTail p l e s m args below meth c D cO dz A kI lk a0 Q n) {ls : Array Slot} (hl : lv_has ls 13 [(0, .ref a0), (1, .ref lk), (2, .int (iI v2)), (3, .int (iI v3)), (4, .int (iI nd)), (5, .int (iI nf)), (6, .int (iI dd)), (7, .int (iI ff)), (8, .int (iI ii))]) : W p l e { frames := 9, cells := 120, slots := 3700, locals := 230 } s m args below meth c H locs 4 24 Q (F0 m 735 ls []) := by
  obtain ⟨hx, hb, hml, hown, hts, hEn, hst⟩ := C
  subst e0
  subst e1
  have hw := hJ.1
  have hnn := hw.num
  have hnd := hw.nd
  have hnf := hw.nf
  have hdy := hw.day
  have hdj := hJ.2.1
  have hc0 := coins_in hw
  have hc1 := coins_in (JJ_pass hJ (by omega) (k := (1 + (v3 % 40))) (by omega) (by omega)).1
  have hcp := coins_passN S (1 + (v3 % 40)).toNat
  refine lv_iconst (v := iI 1) hx hb dL_does_735 rfl ?_
  refine lv_iload_n hx hb dL_does_736 rfl (lv_at hl 3 rfl) ?_
  refine lv_bipush (v := iI 40) hx hb dL_does_737 (by decide) ?_
  refine h_irem hx hb (by omega) (by omega) (by omega) (by omega) dL_does_739 ?_
  refine h_iadd hx hb dL_does_740 ?_
  refine lv_istore (lv' := [(9, .int (iI ((1 + (v3 % 40))))), (0, .ref a0), (1, .ref lk), (2, .int (iI (v2))), (3, .int (iI (v3))), (4, .int (iI (S.1 11 0))), (5, .int (iI (S.1 11 1))), (6, .int (iI (dd))), (7, .int (iI (ff))), (8, .int (iI (ii)))]) hx hb dL_does_741 hl (by decide) rfl (fun ls hl => ?_)
  refine lv_aload_n hx hb dL_does_743 rfl (lv_at hl 1 rfl) ?_
  refine d_calls (As := [.ref a0]) (rest := []) ⟨hx, hb, hml, hown, hts⟩ (c_L_coins l D cO dz mi hw hR hst) (va_cwS 1 hts gL_does_L_coins rfl rfl rfl (by decide +kernel) ⟨Nat.le_of_ble_eq_true rfl, Nat.le_of_ble_eq_true rfl⟩) hEn hW hS rfl hl.1 rfl (Nat.le_of_ble_eq_true rfl) ⟨Nat.le_of_ble_eq_true rfl, Nat.le_of_ble_eq_true rfl⟩ dL_does_744 (fun w H locs hR hW hS => ?_)
  refine lv_istore (lv' := [(10, .int (iI (coinsS S))), (9, .int (iI ((1 + (v3 % 40))))), (0, .ref a0), (1, .ref lk), (2, .int (iI (v2))), (3, .int (iI (v3))), (4, .int (iI (S.1 11 0))), (5, .int (iI (S.1 11 1))), (6, .int (iI (dd))), (7, .int (iI (ff))), (8, .int (iI (ii)))]) hx hb dL_does_747 hl (by decide) rfl (fun ls hl => ?_)
  refine lv_aload_n hx hb dL_does_749 rfl (lv_at hl 2 rfl) ?_
  refine lv_iload hx hb dL_does_750 (lv_at hl 1 rfl) ?_
  refine d_call (As := [.int (iI ((1 + (v3 % 40))))]) (rest := []) ⟨hx, hb, hml, hown, hts⟩ (n_pass l D cO dz mi hw hR hst (1 + (v3 % 40)) (by omega) (sv_pass (by omega) (by omega) (by omega))) (cwV 1 hts gL_does_X3_pass rfl rfl rfl (by decide +kernel) ⟨Nat.le_of_ble_eq_true rfl, Nat.le_of_ble_eq_true rfl⟩) hEn hW hS hR.k0 rfl hl.1 rfl (Nat.le_of_ble_eq_true rfl) ⟨Nat.le_of_ble_eq_true rfl, Nat.le_of_ble_eq_true rfl⟩ dL_does_752 (fun w H locs hR hW hS => ?_)
  refine lv_istore (lv' := [(11, .int (iI ((passN S (1 + (v3 % 40)).toNat).2))), (10, .int (iI (coinsS S))), (9, .int (iI ((1 + (v3 % 40))))), (0, .ref a0), (1, .ref lk), (2, .int (iI (v2))), (3, .int (iI (v3))), (4, .int (iI (S.1 11 0))), (5, .int (iI (S.1 11 1))), (6, .int (iI (dd))), (7, .int (iI (ff))), (8, .int (iI (ii)))]) hx hb dL_does_755 hl (by decide) rfl (fun ls hl => ?_)
  refine lv_aload_n hx hb dL_does_757 rfl (lv_at hl 3 rfl) ?_
  refine d_calls (As := [.ref a0]) (rest := []) ⟨hx, hb, hml, hown, hts⟩ (c_L_coins l D cO dz mi (JJ_pass hJ (by omega) (k := (1 + (v3 % 40))) (by omega) (by omega)).1 hR hst) (va_cwS 1 hts gL_does_L_coins rfl rfl rfl (by decide +kernel) ⟨Nat.le_of_ble_eq_true rfl, Nat.le_of_ble_eq_true rfl⟩) hEn hW hS rfl hl.1 rfl (Nat.le_of_ble_eq_true rfl) ⟨Nat.le_of_ble_eq_true rfl, Nat.le_of_ble_eq_true rfl⟩ dL_does_758 (fun w H locs hR hW hS => ?_)
  refine lv_iload hx hb dL_does_761 (lv_at hl 0 rfl) ?_
  refine h_iadd hx hb dL_does_763 ?_
  refine lv_iload hx hb dL_does_764 (lv_at hl 1 rfl) ?_
  refine h_icmp_ne (tgt := 773) hx hb (by omega) (by omega) dL_does_766 (by decide) (fun c_766 => by exfalso; omega) (fun c_766 => ?_)
  refine lv_iconst (v := iI 1) hx hb dL_does_769 rfl ?_
  refine lv_goto (tgt := 774) hx hb dL_does_770 (by decide) ?_
  exact kk (passN S (1 + (v3 % 40)).toNat).1 fn _ _ _ _ _ _ _ dL_does_774 (JJ_pass hJ (by omega) (k := (1 + (v3 % 40))) (by omega) (by omega)) hR hW hS (Nat.le_of_ble_eq_true rfl) (Nat.le_of_ble_eq_true rfl)
