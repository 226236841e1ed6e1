/-! .. links, and writing -/
set_option maxRecDepth 100000 in
set_option maxHeartbeats 4000000 in
theorem does_3 {p : Program} {l : Launch} {e : Env} {s : State} {m : MethodId} {args : Array Value} {below : List Frame} {meth : Method} {c : Code} {Q : State → Prop} {D : va_G} {cO : ClassId} {dz mi : Nat} {A : Nat → Prop} {kI : ClassId} {lk a0 : Nat} (C : DC p l s m args c D cO dz mi A kI lk) {n : Int} {S : HdS} {fn : Nat → Int32} {w : CW} {H : Heap} {locs : List Loc} {v2 v3 nd nf dd ff ii : Int} (hJ : JJ S fn n) (hn : n < 60) (e0 : S.1 11 0 = nd) (e1 : S.1 11 1 = nf) (h3 : 0 ≤ v3 ∧ v3 ≤ 2147483647) (hd : 0 ≤ dd ∧ dd < nd) (hff : -1 ≤ ff ∧ ff < nf) (hii : ii = 0 ∨ (ii = 1 ∧ 0 ≤ ff ∧ S.2 ff ≠ [])) (hR : ST S w a0) (hW : dW D cO dz A kI lk w fn H) (hS : va_S (dFr A lk) s.heap H locs) (kk : DTail p l e s m args below meth c D cO dz A kI lk a0 Q n) {ls : Array Slot} (hl : lv_has ls 13 [(0, .ref a0), (1, .ref lk), (2, .int (iI v2)), (3, .int (iI v3)), (4, .int (iI nd)), (5, .int (iI nf)), (6, .int (iI dd)), (7, .int (iI ff)), (8, .int (iI ii))]) : W p l e { frames := 9, cells := 120, slots := 3700, locals := 230 } s m args below meth c H locs 4 24 Q (F0 m 295 ls []) := by
  obtain ⟨hx, hb, hml, hown, hts, hEn, hst⟩ := C
  subst e0
  subst e1
  have hw := hJ.1
  have hnn := hw.num
  have hnd := hw.nd
  have hnf := hw.nf
  have hdy := hw.day
  have hto : 0 ≤ v3 % S.1 11 0 ∧ v3 % S.1 11 0 < S.1 11 0 := ⟨Int.emod_nonneg _ (by omega), Int.emod_lt_of_pos _ (by omega)⟩
  refine lv_iload hx hb dL_does_295 (lv_at hl 8 rfl) ?_
  refine h_if_eq (tgt := 378) hx hb (by omega) dL_does_297 (by decide) (fun c_297 => ?_) (fun c_297 => ?_)
  · skip
    refine lv_iconst (v := iI 1) hx hb dL_does_378 rfl ?_
    exact kk S fn _ _ _ _ _ _ _ dL_does_379 (JJ_up hJ (by omega)) hR hW hS (Nat.le_of_ble_eq_true rfl) (Nat.le_of_ble_eq_true rfl)
  · skip
    have hf : 0 ≤ ff ∧ S.2 ff ≠ [] := by rcases hii with q | q; (exact absurd q c_297); (exact q.2)
    obtain ⟨f0, fne⟩ := hf
    have f1 := hff.2
    have hsz := hw.siz f0 f1
    have hkp := hw.kep f0 f1
    have hho := hw.hol f0 f1
    have hhm := hw.home f0 f1 fne
    have htr := tier_in (S := S) ff
    have htr0 := tier_here fne
    have hjf := hJ.2.2 ff f0 f1
    have hsz1 := hjf.2.1 fne
    have hkT := keepT_in hw f0 f1
    have hlen := hw.len f0 f1
    have hpos : 0 < (S.2 ff).length := List.length_pos_iff.mpr fne
    refine lv_aload_n hx hb dL_does_300 rfl (lv_at hl 0 rfl) ?_
    refine lv_iload hx hb dL_does_301 (lv_at hl 7 rfl) ?_
    refine d_call (As := [.int (iI (ff))]) (rest := []) ⟨hx, hb, hml, hown, hts⟩ (n_home l D cO dz mi hw hR hst (by omega) (by omega) rfl) (cwV 1 hts gL_does_X3_home rfl rfl rfl (by decide +kernel) ⟨Nat.le_of_ble_eq_true rfl, Nat.le_of_ble_eq_true rfl⟩) hEn hW hS hR.k0 rfl hl.1 rfl (Nat.le_of_ble_eq_true rfl) ⟨Nat.le_of_ble_eq_true rfl, Nat.le_of_ble_eq_true rfl⟩ dL_does_303 (fun w H locs hR hW hS => ?_)
    refine lv_istore (lv' := [(9, .int (iI (homeS S ff))), (0, .ref a0), (1, .ref lk), (2, .int (iI (v2))), (3, .int (iI (v3))), (4, .int (iI (S.1 11 0))), (5, .int (iI (S.1 11 1))), (6, .int (iI (dd))), (7, .int (iI (ff))), (8, .int (iI (ii)))]) hx hb dL_does_306 hl (by decide) rfl (fun ls hl => ?_)
    refine lv_iload_n hx hb dL_does_308 rfl (lv_at hl 4 rfl) ?_
    refine lv_iload hx hb dL_does_309 (lv_at hl 5 rfl) ?_
    refine h_irem hx hb (by omega) (by omega) (by omega) (by omega) dL_does_311 ?_
    refine lv_istore (lv' := [(10, .int (iI ((v3 % S.1 11 0)))), (9, .int (iI (homeS S ff))), (0, .ref a0), (1, .ref lk), (2, .int (iI (v2))), (3, .int (iI (v3))), (4, .int (iI (S.1 11 0))), (5, .int (iI (S.1 11 1))), (6, .int (iI (dd))), (7, .int (iI (ff))), (8, .int (iI (ii)))]) hx hb dL_does_312 hl (by decide) rfl (fun ls hl => ?_)
    refine lv_aload_n hx hb dL_does_314 rfl (lv_at hl 3 rfl) ?_
    refine lv_iload hx hb dL_does_315 (lv_at hl 9 rfl) ?_
    refine d_ild hx hb hEn hW (z := ff) (by omega) (by omega) dL_does_317 ?_
    refine lv_iload hx hb dL_does_318 (lv_at hl 0 rfl) ?_
    refine lv_ishr hx hb dL_does_320 ?_
    refine lv_iconst (v := iI 1) hx hb dL_does_321 rfl ?_
    refine lv_iand hx hb dL_does_322 ?_
    refine lv_if_ne (tgt := 330) hx hb  dL_does_323 (by decide) (fun c_323 => ?_) (fun c_323 => ?_)
    · skip
      refine lv_iconst (v := iI 0) hx hb dL_does_330 rfl ?_
      refine lv_istore (lv' := [(11, .int (iI 0)), (10, .int (iI ((v3 % S.1 11 0)))), (9, .int (iI (homeS S ff))), (0, .ref a0), (1, .ref lk), (2, .int (iI (v2))), (3, .int (iI (v3))), (4, .int (iI (S.1 11 0))), (5, .int (iI (S.1 11 1))), (6, .int (iI (dd))), (7, .int (iI (ff))), (8, .int (iI (ii)))]) hx hb dL_does_331 hl (by decide) rfl (fun ls hl => ?_)
      refine lv_aload_n hx hb dL_does_333 rfl (lv_at hl 4 rfl) ?_
      refine lv_iload hx hb dL_does_334 (lv_at hl 10 rfl) ?_
      refine lv_dup2_11 hx hb dL_does_336 rfl rfl ?_
      refine d_ild hx hb hEn hW (z := ff) (by omega) (by omega) dL_does_337 ?_
      refine lv_iconst (v := iI 1) hx hb dL_does_338 rfl ?_
      refine lv_iload hx hb dL_does_339 (lv_at hl 1 rfl) ?_
      refine lv_ishl hx hb dL_does_341 ?_
      refine lv_ior hx hb dL_does_342 ?_
      refine d_ist hx hb hEn hW hS (z := ff) (x := (fn (ff).toNat ||| (iI 1 <<< (iI ((v3 % S.1 11 0)) &&& 31)))) (by omega) (by omega) dL_does_343 (fun H locs hW hS => ?_)
      refine lv_iload hx hb dL_does_344 (lv_at hl 0 rfl) ?_
      refine h_if_eq (tgt := 372) hx hb (by omega) dL_does_346 (by decide) (fun c_346 => ?_) (fun c_346 => by exfalso; omega)
      refine lv_iconst (v := iI 1) hx hb dL_does_372 rfl ?_
      refine lv_goto (tgt := 377) hx hb dL_does_373 (by decide) ?_
      exact kk S (upd fn ff.toNat (fn (ff).toNat ||| (iI 1 <<< (iI ((v3 % S.1 11 0)) &&& 31)))) _ _ _ _ _ _ _ dL_does_377 (JJ_linked hJ (by omega) f0 _) hR hW hS (Nat.le_of_ble_eq_true rfl) (Nat.le_of_ble_eq_true rfl)
    · skip
      have hmem : (v3 % S.1 11 0) ∉ S.2 ff := fun z => by
        have z1 := hjf.2.2 _ z
        have z2 := (bt_test hto.1 (by omega)).mp c_323
        rw [z1] at z2
        cases z2
      refine lv_iconst (v := iI 1) hx hb dL_does_326 rfl ?_
      refine lv_goto (tgt := 331) hx hb dL_does_327 (by decide) ?_
      refine lv_istore (lv' := [(11, .int (iI 1)), (10, .int (iI ((v3 % S.1 11 0)))), (9, .int (iI (homeS S ff))), (0, .ref a0), (1, .ref lk), (2, .int (iI (v2))), (3, .int (iI (v3))), (4, .int (iI (S.1 11 0))), (5, .int (iI (S.1 11 1))), (6, .int (iI (dd))), (7, .int (iI (ff))), (8, .int (iI (ii)))]) hx hb dL_does_331 hl (by decide) rfl (fun ls hl => ?_)
      refine lv_aload_n hx hb dL_does_333 rfl (lv_at hl 4 rfl) ?_
      refine lv_iload hx hb dL_does_334 (lv_at hl 10 rfl) ?_
      refine lv_dup2_11 hx hb dL_does_336 rfl rfl ?_
      refine d_ild hx hb hEn hW (z := ff) (by omega) (by omega) dL_does_337 ?_
      refine lv_iconst (v := iI 1) hx hb dL_does_338 rfl ?_
      refine lv_iload hx hb dL_does_339 (lv_at hl 1 rfl) ?_
      refine lv_ishl hx hb dL_does_341 ?_
      refine lv_ior hx hb dL_does_342 ?_
      refine d_ist hx hb hEn hW hS (z := ff) (x := (fn (ff).toNat ||| (iI 1 <<< (iI ((v3 % S.1 11 0)) &&& 31)))) (by omega) (by omega) dL_does_343 (fun H locs hW hS => ?_)
      refine lv_iload hx hb dL_does_344 (lv_at hl 0 rfl) ?_
      refine h_if_eq (tgt := 372) hx hb (by omega) dL_does_346 (by decide) (fun c_346 => by exfalso; omega) (fun c_346 => ?_)
      refine lv_aload_n hx hb dL_does_349 rfl (lv_at hl 3 rfl) ?_
      refine lv_iload hx hb dL_does_350 (lv_at hl 10 rfl) ?_
      refine lv_iload hx hb dL_does_352 (lv_at hl 1 rfl) ?_
      refine d_call (As := [.int (iI (ff)), .int (iI ((v3 % S.1 11 0)))]) (rest := []) ⟨hx, hb, hml, hown, hts⟩ (n_link l D cO dz mi hw hR hst ff (v3 % S.1 11 0) (by omega) (by omega) (sv_link f0 f1 hto.1 hto.2 fne hmem)) (cwV 2 hts gL_does_X3_link rfl rfl rfl (by decide +kernel) ⟨Nat.le_of_ble_eq_true rfl, Nat.le_of_ble_eq_true rfl⟩) hEn hW hS hR.k0 rfl hl.1 rfl (Nat.le_of_ble_eq_true rfl) ⟨Nat.le_of_ble_eq_true rfl, Nat.le_of_ble_eq_true rfl⟩ dL_does_354 (fun w H locs hR hW hS => ?_)
      refine lv_iconst (v := iI 1) hx hb dL_does_357 rfl ?_
      refine h_icmp_le (tgt := 376) hx hb (by omega) (by omega) dL_does_358 (by decide) (fun c_358 => by exfalso; omega) (fun c_358 => ?_)
      refine lv_aload_n hx hb dL_does_361 rfl (lv_at hl 3 rfl) ?_
      refine lv_iload hx hb dL_does_362 (lv_at hl 10 rfl) ?_
      refine d_call (As := [.int (iI (ff))]) (rest := []) ⟨hx, hb, hml, hown, hts⟩ (n_home l D cO dz mi (JJ_link hJ (by omega) f0 hto.1 hto.2 fne hmem).1 hR hst (by omega) (show ff < (slks S ff (S.2 ff ++ [(v3 % S.1 11 0)])).1 11 1 from f1) (ln_home fne)) (cwV 1 hts gL_does_X3_home rfl rfl rfl (by decide +kernel) ⟨Nat.le_of_ble_eq_true rfl, Nat.le_of_ble_eq_true rfl⟩) hEn hW hS hR.k0 rfl hl.1 rfl (Nat.le_of_ble_eq_true rfl) ⟨Nat.le_of_ble_eq_true rfl, Nat.le_of_ble_eq_true rfl⟩ dL_does_364 (fun w H locs hR hW hS => ?_)
      refine lv_iload hx hb dL_does_367 (lv_at hl 2 rfl) ?_
      refine h_icmp_ne (tgt := 376) hx hb (by omega) (by omega) dL_does_369 (by decide) (fun c_369 => by exfalso; omega) (fun c_369 => ?_)
      refine lv_iconst (v := iI 1) hx hb dL_does_372 rfl ?_
      refine lv_goto (tgt := 377) hx hb dL_does_373 (by decide) ?_
      exact kk (slks S ff (S.2 ff ++ [(v3 % S.1 11 0)])) (upd fn ff.toNat (fn (ff).toNat ||| (iI 1 <<< (iI ((v3 % S.1 11 0)) &&& 31)))) _ _ _ _ _ _ _ dL_does_377 (JJ_link hJ (by omega) f0 hto.1 hto.2 fne hmem) hR hW hS (Nat.le_of_ble_eq_true rfl) (Nat.le_of_ble_eq_true rfl)
set_option maxRecDepth 100000 in
set_option maxHeartbeats 4000000 in
theorem does_4 {p : Program} {l : Launch} {e : Env} {s : State} {m : MethodId} {args : Array Value} {below : List Frame} {meth : Method} {c : Code} {Q : State → Prop} {D : va_G} {cO : ClassId} {dz mi : Nat} {A : Nat → Prop} {kI : ClassId} {lk a0 : Nat} (C : DC p l s m args c D cO dz mi A kI lk) {n : Int} {S : HdS} {fn : Nat → Int32} {w : CW} {H : Heap} {locs : List Loc} {v2 v3 nd nf dd ff ii : Int} (hJ : JJ S fn n) (hn : n < 60) (e0 : S.1 11 0 = nd) (e1 : S.1 11 1 = nf) (h3 : 0 ≤ v3 ∧ v3 ≤ 2147483647) (hd : 0 ≤ dd ∧ dd < nd) (hff : -1 ≤ ff ∧ ff < nf) (hii : ii = 0 ∨ (ii = 1 ∧ 0 ≤ ff ∧ S.2 ff ≠ [])) (hR : ST S w a0) (hW : dW D cO dz A kI lk w fn H) (hS : va_S (dFr A lk) s.heap H locs) (kk : DTail p l e s m args below meth c D cO dz A kI lk a0 Q n) {ls : Array Slot} (hl : lv_has ls 13 [(0, .ref a0), (1, .ref lk), (2, .int (iI v2)), (3, .int (iI v3)), (4, .int (iI nd)), (5, .int (iI nf)), (6, .int (iI dd)), (7, .int (iI ff)), (8, .int (iI ii))]) : W p l e { frames := 9, cells := 120, slots := 3700, locals := 230 } s m args below meth c H locs 4 24 Q (F0 m 380 ls []) := by
  obtain ⟨hx, hb, hml, hown, hts, hEn, hst⟩ := C
  subst e0
  subst e1
  have hw := hJ.1
  have hnn := hw.num
  have hnd := hw.nd
  have hnf := hw.nf
  have hdy := hw.day
  refine lv_iload hx hb dL_does_380 (lv_at hl 8 rfl) ?_
  refine h_if_eq (tgt := 541) hx hb (by omega) dL_does_382 (by decide) (fun c_382 => ?_) (fun c_382 => ?_)
  · skip
    refine lv_iconst (v := iI 1) hx hb dL_does_541 rfl ?_
    exact kk S fn _ _ _ _ _ _ _ dL_does_542 (JJ_up hJ (by omega)) hR hW hS (Nat.le_of_ble_eq_true rfl) (Nat.le_of_ble_eq_true rfl)
  · skip
    have hf : 0 ≤ ff ∧ S.2 ff ≠ [] := by rcases hii with q | q; (exact absurd q c_382); (exact q.2)
    obtain ⟨f0, fne⟩ := hf
    have f1 := hff.2
    have hsz := hw.siz f0 f1
    have hkp := hw.kep f0 f1
    have hho := hw.hol f0 f1
    have hhm := hw.home f0 f1 fne
    have htr := tier_in (S := S) ff
    have htr0 := tier_here fne
    have hjf := hJ.2.2 ff f0 f1
    have hsz1 := hjf.2.1 fne
    have hkT := keepT_in hw f0 f1
    have hlen := hw.len f0 f1
    have hmem := home_mem fne
    refine lv_aload_n hx hb dL_does_385 rfl (lv_at hl 0 rfl) ?_
    refine lv_iload hx hb dL_does_386 (lv_at hl 7 rfl) ?_
    refine d_call (As := [.int (iI (ff))]) (rest := []) ⟨hx, hb, hml, hown, hts⟩ (n_size l D cO dz mi hw hR hst (by omega) (by omega) rfl) (cwV 1 hts gL_does_X3_size rfl rfl rfl (by decide +kernel) ⟨Nat.le_of_ble_eq_true rfl, Nat.le_of_ble_eq_true rfl⟩) hEn hW hS hR.k0 rfl hl.1 rfl (Nat.le_of_ble_eq_true rfl) ⟨Nat.le_of_ble_eq_true rfl, Nat.le_of_ble_eq_true rfl⟩ dL_does_388 (fun w H locs hR hW hS => ?_)
    refine lv_istore (lv' := [(9, .int (iI (S.1 3 ff))), (0, .ref a0), (1, .ref lk), (2, .int (iI (v2))), (3, .int (iI (v3))), (4, .int (iI (S.1 11 0))), (5, .int (iI (S.1 11 1))), (6, .int (iI (dd))), (7, .int (iI (ff))), (8, .int (iI (ii)))]) hx hb dL_does_391 hl (by decide) rfl (fun ls hl => ?_)
    refine lv_aload_n hx hb dL_does_393 rfl (lv_at hl 1 rfl) ?_
    refine lv_iload hx hb dL_does_394 (lv_at hl 8 rfl) ?_
    refine d_call (As := [.int (iI (ff))]) (rest := []) ⟨hx, hb, hml, hown, hts⟩ (n_kept l D cO dz mi hw hR hst (by omega) (by omega) rfl) (cwV 1 hts gL_does_X3_kept rfl rfl rfl (by decide +kernel) ⟨Nat.le_of_ble_eq_true rfl, Nat.le_of_ble_eq_true rfl⟩) hEn hW hS hR.k0 rfl hl.1 rfl (Nat.le_of_ble_eq_true rfl) ⟨Nat.le_of_ble_eq_true rfl, Nat.le_of_ble_eq_true rfl⟩ dL_does_396 (fun w H locs hR hW hS => ?_)
    refine lv_istore (lv' := [(10, .int (iI (S.1 6 ff))), (9, .int (iI (S.1 3 ff))), (0, .ref a0), (1, .ref lk), (2, .int (iI (v2))), (3, .int (iI (v3))), (4, .int (iI (S.1 11 0))), (5, .int (iI (S.1 11 1))), (6, .int (iI (dd))), (7, .int (iI (ff))), (8, .int (iI (ii)))]) hx hb dL_does_399 hl (by decide) rfl (fun ls hl => ?_)
    refine lv_aload_n hx hb dL_does_401 rfl (lv_at hl 2 rfl) ?_
    refine lv_iload hx hb dL_does_402 (lv_at hl 9 rfl) ?_
    refine d_call (As := [.int (iI (ff))]) (rest := []) ⟨hx, hb, hml, hown, hts⟩ (n_holders l D cO dz mi hw hR hst (by omega) (by omega) rfl) (cwV 1 hts gL_does_X3_holders rfl rfl rfl (by decide +kernel) ⟨Nat.le_of_ble_eq_true rfl, Nat.le_of_ble_eq_true rfl⟩) hEn hW hS hR.k0 rfl hl.1 rfl (Nat.le_of_ble_eq_true rfl) ⟨Nat.le_of_ble_eq_true rfl, Nat.le_of_ble_eq_true rfl⟩ dL_does_404 (fun w H locs hR hW hS => ?_)
    refine h_if_eq (tgt := 414) hx hb (by omega) dL_does_407 (by decide) (fun c_407 => ?_) (fun c_407 => ?_)
    · skip
      have hk9 : keepT S ff = S.1 6 ff := by unfold keepT; rw [if_pos c_407]; omega
      refine lv_iconst (v := iI 0) hx hb dL_does_414 rfl ?_
      refine lv_istore (lv' := [(11, .int (iI 0)), (10, .int (iI (S.1 6 ff))), (9, .int (iI (S.1 3 ff))), (0, .ref a0), (1, .ref lk), (2, .int (iI (v2))), (3, .int (iI (v3))), (4, .int (iI (S.1 11 0))), (5, .int (iI (S.1 11 1))), (6, .int (iI (dd))), (7, .int (iI (ff))), (8, .int (iI (ii)))]) hx hb dL_does_415 hl (by decide) rfl (fun ls hl => ?_)
      refine lv_aload_n hx hb dL_does_417 rfl (lv_at hl 4 rfl) ?_
      refine lv_iload hx hb dL_does_418 (lv_at hl 10 rfl) ?_
      refine lv_dup2_11 hx hb dL_does_420 rfl rfl ?_
      refine d_ild hx hb hEn hW (z := ff) (by omega) (by omega) dL_does_421 ?_
      refine lv_iconst (v := iI 1) hx hb dL_does_422 rfl ?_
      refine lv_aload_n hx hb dL_does_423 rfl (lv_at hl 3 rfl) ?_
      refine lv_iload hx hb dL_does_424 (lv_at hl 10 rfl) ?_
      refine d_call (As := [.int (iI (ff))]) (rest := [.int (iI 1), .int (fn (ff).toNat), .int (iI (ff)), .ref lk]) ⟨hx, hb, hml, hown, hts⟩ (n_home l D cO dz mi hw hR hst (by omega) (by omega) rfl) (cwV 1 hts gL_does_X3_home rfl rfl rfl (by decide +kernel) ⟨Nat.le_of_ble_eq_true rfl, Nat.le_of_ble_eq_true rfl⟩) hEn hW hS hR.k0 rfl hl.1 rfl (Nat.le_of_ble_eq_true rfl) ⟨Nat.le_of_ble_eq_true rfl, Nat.le_of_ble_eq_true rfl⟩ dL_does_426 (fun w H locs hR hW hS => ?_)
      refine lv_ishl hx hb dL_does_429 ?_
      refine lv_iconst (v := iI (-1)) hx hb dL_does_430 rfl ?_
      refine lv_ixor hx hb dL_does_431 ?_
      refine lv_iand hx hb dL_does_432 ?_
      refine d_ist hx hb hEn hW hS (z := ff) (x := (fn (ff).toNat &&& ((iI 1 <<< (iI (homeS S ff) &&& 31)) ^^^ iI (-1)))) (by omega) (by omega) dL_does_433 (fun H locs hW hS => ?_)
      refine lv_aload_n hx hb dL_does_434 rfl (lv_at hl 3 rfl) ?_
      refine lv_iload hx hb dL_does_435 (lv_at hl 10 rfl) ?_
      refine lv_aload_n hx hb dL_does_437 rfl (lv_at hl 3 rfl) ?_
      refine lv_iload hx hb dL_does_438 (lv_at hl 10 rfl) ?_
      refine d_call (As := [.int (iI (ff))]) (rest := [.int (iI (ff)), .ref a0]) ⟨hx, hb, hml, hown, hts⟩ (n_home l D cO dz mi hw hR hst (by omega) (by omega) rfl) (cwV 1 hts gL_does_X3_home rfl rfl rfl (by decide +kernel) ⟨Nat.le_of_ble_eq_true rfl, Nat.le_of_ble_eq_true rfl⟩) hEn hW hS hR.k0 rfl hl.1 rfl (Nat.le_of_ble_eq_true rfl) ⟨Nat.le_of_ble_eq_true rfl, Nat.le_of_ble_eq_true rfl⟩ dL_does_440 (fun w H locs hR hW hS => ?_)
      refine d_call (As := [.int (iI (ff)), .int (iI (homeS S ff))]) (rest := []) ⟨hx, hb, hml, hown, hts⟩ (n_unlink l D cO dz mi hw hR hst ff (homeS S ff) (by omega) (by omega) (sv_unlink f0 f1 hhm.1 hhm.2 hmem)) (cwV 2 hts gL_does_X3_unlink rfl rfl rfl (by decide +kernel) ⟨Nat.le_of_ble_eq_true rfl, Nat.le_of_ble_eq_true rfl⟩) hEn hW hS hR.k0 rfl hl.1 rfl (Nat.le_of_ble_eq_true rfl) ⟨Nat.le_of_ble_eq_true rfl, Nat.le_of_ble_eq_true rfl⟩ dL_does_443 (fun w H locs hR hW hS => ?_)
      refine lv_istore (lv' := [(12, .int (iI ((((S.2 ff).length : Int) - 1)))), (11, .int (iI 0)), (10, .int (iI (S.1 6 ff))), (9, .int (iI (S.1 3 ff))), (0, .ref a0), (1, .ref lk), (2, .int (iI (v2))), (3, .int (iI (v3))), (4, .int (iI (S.1 11 0))), (5, .int (iI (S.1 11 1))), (6, .int (iI (dd))), (7, .int (iI (ff))), (8, .int (iI (ii)))]) hx hb dL_does_446 hl (by decide) rfl (fun ls hl => ?_)
      refine lv_iload hx hb dL_does_448 (lv_at hl 0 rfl) ?_
      refine h_if_le (tgt := 483) hx hb (by omega) dL_does_450 (by decide) (fun c_450 => ?_) (fun c_450 => ?_)
      · skip
        have hgo := un_gone hmem c_450
        refine lv_aload_n hx hb dL_does_483 rfl (lv_at hl 4 rfl) ?_
        refine lv_iload hx hb dL_does_484 (lv_at hl 11 rfl) ?_
        refine d_call (As := [.int (iI (ff))]) (rest := []) ⟨hx, hb, hml, hown, hts⟩ (n_home l D cO dz mi ((JJ_unlink hJ (by omega) f0 hhm.1 hhm.2 : JJ (s_unlink S ff (homeS S ff)) (upd fn ff.toNat (fn (ff).toNat &&& ((iI 1 <<< (iI (homeS S ff) &&& 31)) ^^^ iI (-1)))) (n + 1))).1 hR hst (by omega) (show ff < (s_unlink S ff (homeS S ff)).1 11 1 by rw [un_11]; exact f1) (home_nil (un_2 ff _ hgo))) (cwV 1 hts gL_does_X3_home rfl rfl rfl (by decide +kernel) ⟨Nat.le_of_ble_eq_true rfl, Nat.le_of_ble_eq_true rfl⟩) hEn hW hS hR.k0 rfl hl.1 rfl (Nat.le_of_ble_eq_true rfl) ⟨Nat.le_of_ble_eq_true rfl, Nat.le_of_ble_eq_true rfl⟩ dL_does_486 (fun w H locs hR hW hS => ?_)
        refine lv_iconst (v := iI (-1)) hx hb dL_does_489 rfl ?_
        refine h_icmp_ne (tgt := 539) hx hb (by omega) (by omega) dL_does_490 (by decide) (fun c_490 => by exfalso; omega) (fun c_490 => ?_)
        refine lv_aload_n hx hb dL_does_493 rfl (lv_at hl 4 rfl) ?_
        refine lv_iload hx hb dL_does_494 (lv_at hl 11 rfl) ?_
        refine d_call (As := [.int (iI (ff))]) (rest := []) ⟨hx, hb, hml, hown, hts⟩ (n_size l D cO dz mi ((JJ_unlink hJ (by omega) f0 hhm.1 hhm.2 : JJ (s_unlink S ff (homeS S ff)) (upd fn ff.toNat (fn (ff).toNat &&& ((iI 1 <<< (iI (homeS S ff) &&& 31)) ^^^ iI (-1)))) (n + 1))).1 hR hst (by omega) (show ff < (s_unlink S ff (homeS S ff)).1 11 1 by rw [un_11]; exact f1) (un_3 ff _ hgo)) (cwV 1 hts gL_does_X3_size rfl rfl rfl (by decide +kernel) ⟨Nat.le_of_ble_eq_true rfl, Nat.le_of_ble_eq_true rfl⟩) hEn hW hS hR.k0 rfl hl.1 rfl (Nat.le_of_ble_eq_true rfl) ⟨Nat.le_of_ble_eq_true rfl, Nat.le_of_ble_eq_true rfl⟩ dL_does_496 (fun w H locs hR hW hS => ?_)
        refine h_if_ne (tgt := 539) hx hb (by omega) dL_does_499 (by decide) (fun c_499 => by exfalso; omega) (fun c_499 => ?_)
        refine lv_aload_n hx hb dL_does_502 rfl (lv_at hl 4 rfl) ?_
        refine lv_iload hx hb dL_does_503 (lv_at hl 11 rfl) ?_
        refine d_call (As := [.int (iI (ff))]) (rest := []) ⟨hx, hb, hml, hown, hts⟩ (n_tier l D cO dz mi ((JJ_unlink hJ (by omega) f0 hhm.1 hhm.2 : JJ (s_unlink S ff (homeS S ff)) (upd fn ff.toNat (fn (ff).toNat &&& ((iI 1 <<< (iI (homeS S ff) &&& 31)) ^^^ iI (-1)))) (n + 1))).1 hR hst (by omega) (show ff < (s_unlink S ff (homeS S ff)).1 11 1 by rw [un_11]; exact f1) (tier_gone (un_2 ff _ hgo))) (cwV 1 hts gL_does_X3_tier rfl rfl rfl (by decide +kernel) ⟨Nat.le_of_ble_eq_true rfl, Nat.le_of_ble_eq_true rfl⟩) hEn hW hS hR.k0 rfl hl.1 rfl (Nat.le_of_ble_eq_true rfl) ⟨Nat.le_of_ble_eq_true rfl, Nat.le_of_ble_eq_true rfl⟩ dL_does_505 (fun w H locs hR hW hS => ?_)
        refine lv_iconst (v := iI (-1)) hx hb dL_does_508 rfl ?_
        refine h_icmp_ne (tgt := 539) hx hb (by omega) (by omega) dL_does_509 (by decide) (fun c_509 => by exfalso; omega) (fun c_509 => ?_)
        refine lv_aload_n hx hb dL_does_512 rfl (lv_at hl 4 rfl) ?_
        refine lv_iload hx hb dL_does_513 (lv_at hl 11 rfl) ?_
        refine d_call (As := [.int (iI (ff))]) (rest := []) ⟨hx, hb, hml, hown, hts⟩ (n_kept l D cO dz mi ((JJ_unlink hJ (by omega) f0 hhm.1 hhm.2 : JJ (s_unlink S ff (homeS S ff)) (upd fn ff.toNat (fn (ff).toNat &&& ((iI 1 <<< (iI (homeS S ff) &&& 31)) ^^^ iI (-1)))) (n + 1))).1 hR hst (by omega) (show ff < (s_unlink S ff (homeS S ff)).1 11 1 by rw [un_11]; exact f1) (un_6 ff _ hgo)) (cwV 1 hts gL_does_X3_kept rfl rfl rfl (by decide +kernel) ⟨Nat.le_of_ble_eq_true rfl, Nat.le_of_ble_eq_true rfl⟩) hEn hW hS hR.k0 rfl hl.1 rfl (Nat.le_of_ble_eq_true rfl) ⟨Nat.le_of_ble_eq_true rfl, Nat.le_of_ble_eq_true rfl⟩ dL_does_515 (fun w H locs hR hW hS => ?_)
        refine lv_iload hx hb dL_does_518 (lv_at hl 2 rfl) ?_
        refine lv_iload hx hb dL_does_520 (lv_at hl 1 rfl) ?_
        refine h_if_eq (tgt := 530) hx hb (by omega) dL_does_522 (by decide) (fun c_522 => ?_) (fun c_522 => by exfalso; omega)
        refine lv_iconst (v := iI 0) hx hb dL_does_530 rfl ?_
        refine h_iadd hx hb dL_does_531 ?_
        refine h_icmp_ne (tgt := 539) hx hb (by omega) (by omega) dL_does_532 (by decide) (fun c_532 => by exfalso; omega) (fun c_532 => ?_)
        refine lv_iconst (v := iI 1) hx hb dL_does_535 rfl ?_
        refine lv_goto (tgt := 540) hx hb dL_does_536 (by decide) ?_
        exact kk (s_unlink S ff (homeS S ff)) (upd fn ff.toNat (fn (ff).toNat &&& ((iI 1 <<< (iI (homeS S ff) &&& 31)) ^^^ iI (-1)))) _ _ _ _ _ _ _ dL_does_540 (JJ_unlink hJ (by omega) f0 hhm.1 hhm.2) hR hW hS (Nat.le_of_ble_eq_true rfl) (Nat.le_of_ble_eq_true rfl)
      · skip
        have hmo := un_more hmem c_450
        refine lv_aload_n hx hb dL_does_453 rfl (lv_at hl 4 rfl) ?_
        refine lv_iload hx hb dL_does_454 (lv_at hl 11 rfl) ?_
        refine d_call (As := [.int (iI (ff))]) (rest := []) ⟨hx, hb, hml, hown, hts⟩ (n_size l D cO dz mi ((JJ_unlink hJ (by omega) f0 hhm.1 hhm.2 : JJ (s_unlink S ff (homeS S ff)) (upd fn ff.toNat (fn (ff).toNat &&& ((iI 1 <<< (iI (homeS S ff) &&& 31)) ^^^ iI (-1)))) (n + 1))).1 hR hst (by omega) (show ff < (s_unlink S ff (homeS S ff)).1 11 1 by rw [un_11]; exact f1) (by rw [un_S ff _ hmo, slks_1])) (cwV 1 hts gL_does_X3_size rfl rfl rfl (by decide +kernel) ⟨Nat.le_of_ble_eq_true rfl, Nat.le_of_ble_eq_true rfl⟩) hEn hW hS hR.k0 rfl hl.1 rfl (Nat.le_of_ble_eq_true rfl) ⟨Nat.le_of_ble_eq_true rfl, Nat.le_of_ble_eq_true rfl⟩ dL_does_456 (fun w H locs hR hW hS => ?_)
        refine lv_iload hx hb dL_does_459 (lv_at hl 3 rfl) ?_
        refine h_icmp_ne (tgt := 479) hx hb (by omega) (by omega) dL_does_461 (by decide) (fun c_461 => by exfalso; omega) (fun c_461 => ?_)
        refine lv_aload_n hx hb dL_does_464 rfl (lv_at hl 4 rfl) ?_
        refine lv_iload hx hb dL_does_465 (lv_at hl 11 rfl) ?_
        refine d_call (As := [.int (iI (ff))]) (rest := []) ⟨hx, hb, hml, hown, hts⟩ (n_kept l D cO dz mi ((JJ_unlink hJ (by omega) f0 hhm.1 hhm.2 : JJ (s_unlink S ff (homeS S ff)) (upd fn ff.toNat (fn (ff).toNat &&& ((iI 1 <<< (iI (homeS S ff) &&& 31)) ^^^ iI (-1)))) (n + 1))).1 hR hst (by omega) (show ff < (s_unlink S ff (homeS S ff)).1 11 1 by rw [un_11]; exact f1) (by rw [un_S ff _ hmo, slks_1])) (cwV 1 hts gL_does_X3_kept rfl rfl rfl (by decide +kernel) ⟨Nat.le_of_ble_eq_true rfl, Nat.le_of_ble_eq_true rfl⟩) hEn hW hS hR.k0 rfl hl.1 rfl (Nat.le_of_ble_eq_true rfl) ⟨Nat.le_of_ble_eq_true rfl, Nat.le_of_ble_eq_true rfl⟩ dL_does_467 (fun w H locs hR hW hS => ?_)
        refine lv_iload hx hb dL_does_470 (lv_at hl 2 rfl) ?_
        refine h_icmp_ne (tgt := 479) hx hb (by omega) (by omega) dL_does_472 (by decide) (fun c_472 => by exfalso; omega) (fun c_472 => ?_)
        refine lv_iconst (v := iI 1) hx hb dL_does_475 rfl ?_
        refine lv_goto (tgt := 540) hx hb dL_does_476 (by decide) ?_
        exact kk (s_unlink S ff (homeS S ff)) (upd fn ff.toNat (fn (ff).toNat &&& ((iI 1 <<< (iI (homeS S ff) &&& 31)) ^^^ iI (-1)))) _ _ _ _ _ _ _ dL_does_540 (JJ_unlink hJ (by omega) f0 hhm.1 hhm.2) hR hW hS (Nat.le_of_ble_eq_true rfl) (Nat.le_of_ble_eq_true rfl)
    · skip
      have hk9 : keepT S ff = S.1 6 ff + S.1 3 ff := by unfold keepT; rw [if_neg c_407]
      refine lv_iconst (v := iI 1) hx hb dL_does_410 rfl ?_
      refine lv_goto (tgt := 415) hx hb dL_does_411 (by decide) ?_
      refine lv_istore (lv' := [(11, .int (iI 1)), (10, .int (iI (S.1 6 ff))), (9, .int (iI (S.1 3 ff))), (0, .ref a0), (1, .ref lk), (2, .int (iI (v2))), (3, .int (iI (v3))), (4, .int (iI (S.1 11 0))), (5, .int (iI (S.1 11 1))), (6, .int (iI (dd))), (7, .int (iI (ff))), (8, .int (iI (ii)))]) hx hb dL_does_415 hl (by decide) rfl (fun ls hl => ?_)
      refine lv_aload_n hx hb dL_does_417 rfl (lv_at hl 4 rfl) ?_
      refine lv_iload hx hb dL_does_418 (lv_at hl 10 rfl) ?_
      refine lv_dup2_11 hx hb dL_does_420 rfl rfl ?_
      refine d_ild hx hb hEn hW (z := ff) (by omega) (by omega) dL_does_421 ?_
      refine lv_iconst (v := iI 1) hx hb dL_does_422 rfl ?_
      refine lv_aload_n hx hb dL_does_423 rfl (lv_at hl 3 rfl) ?_
      refine lv_iload hx hb dL_does_424 (lv_at hl 10 rfl) ?_
      refine d_call (As := [.int (iI (ff))]) (rest := [.int (iI 1), .int (fn (ff).toNat), .int (iI (ff)), .ref lk]) ⟨hx, hb, hml, hown, hts⟩ (n_home l D cO dz mi hw hR hst (by omega) (by omega) rfl) (cwV 1 hts gL_does_X3_home rfl rfl rfl (by decide +kernel) ⟨Nat.le_of_ble_eq_true rfl, Nat.le_of_ble_eq_true rfl⟩) hEn hW hS hR.k0 rfl hl.1 rfl (Nat.le_of_ble_eq_true rfl) ⟨Nat.le_of_ble_eq_true rfl, Nat.le_of_ble_eq_true rfl⟩ dL_does_426 (fun w H locs hR hW hS => ?_)
      refine lv_ishl hx hb dL_does_429 ?_
      refine lv_iconst (v := iI (-1)) hx hb dL_does_430 rfl ?_
      refine lv_ixor hx hb dL_does_431 ?_
      refine lv_iand hx hb dL_does_432 ?_
      refine d_ist hx hb hEn hW hS (z := ff) (x := (fn (ff).toNat &&& ((iI 1 <<< (iI (homeS S ff) &&& 31)) ^^^ iI (-1)))) (by omega) (by omega) dL_does_433 (fun H locs hW hS => ?_)
      refine lv_aload_n hx hb dL_does_434 rfl (lv_at hl 3 rfl) ?_
      refine lv_iload hx hb dL_does_435 (lv_at hl 10 rfl) ?_
      refine lv_aload_n hx hb dL_does_437 rfl (lv_at hl 3 rfl) ?_
      refine lv_iload hx hb dL_does_438 (lv_at hl 10 rfl) ?_
      refine d_call (As := [.int (iI (ff))]) (rest := [.int (iI (ff)), .ref a0]) ⟨hx, hb, hml, hown, hts⟩ (n_home l D cO dz mi hw hR hst (by omega) (by omega) rfl) (cwV 1 hts gL_does_X3_home rfl rfl rfl (by decide +kernel) ⟨Nat.le_of_ble_eq_true rfl, Nat.le_of_ble_eq_true rfl⟩) hEn hW hS hR.k0 rfl hl.1 rfl (Nat.le_of_ble_eq_true rfl) ⟨Nat.le_of_ble_eq_true rfl, Nat.le_of_ble_eq_true rfl⟩ dL_does_440 (fun w H locs hR hW hS => ?_)
      refine d_call (As := [.int (iI (ff)), .int (iI (homeS S ff))]) (rest := []) ⟨hx, hb, hml, hown, hts⟩ (n_unlink l D cO dz mi hw hR hst ff (homeS S ff) (by omega) (by omega) (sv_unlink f0 f1 hhm.1 hhm.2 hmem)) (cwV 2 hts gL_does_X3_unlink rfl rfl rfl (by decide +kernel) ⟨Nat.le_of_ble_eq_true rfl, Nat.le_of_ble_eq_true rfl⟩) hEn hW hS hR.k0 rfl hl.1 rfl (Nat.le_of_ble_eq_true rfl) ⟨Nat.le_of_ble_eq_true rfl, Nat.le_of_ble_eq_true rfl⟩ dL_does_443 (fun w H locs hR hW hS => ?_)
      refine lv_istore (lv' := [(12, .int (iI ((((S.2 ff).length : Int) - 1)))), (11, .int (iI 1)), (10, .int (iI (S.1 6 ff))), (9, .int (iI (S.1 3 ff))), (0, .ref a0), (1, .ref lk), (2, .int (iI (v2))), (3, .int (iI (v3))), (4, .int (iI (S.1 11 0))), (5, .int (iI (S.1 11 1))), (6, .int (iI (dd))), (7, .int (iI (ff))), (8, .int (iI (ii)))]) hx hb dL_does_446 hl (by decide) rfl (fun ls hl => ?_)
      refine lv_iload hx hb dL_does_448 (lv_at hl 0 rfl) ?_
      refine h_if_le (tgt := 483) hx hb (by omega) dL_does_450 (by decide) (fun c_450 => ?_) (fun c_450 => ?_)
      · skip
        have hgo := un_gone hmem c_450
        refine lv_aload_n hx hb dL_does_483 rfl (lv_at hl 4 rfl) ?_
        refine lv_iload hx hb dL_does_484 (lv_at hl 11 rfl) ?_
        refine d_call (As := [.int (iI (ff))]) (rest := []) ⟨hx, hb, hml, hown, hts⟩ (n_home l D cO dz mi ((JJ_unlink hJ (by omega) f0 hhm.1 hhm.2 : JJ (s_unlink S ff (homeS S ff)) (upd fn ff.toNat (fn (ff).toNat &&& ((iI 1 <<< (iI (homeS S ff) &&& 31)) ^^^ iI (-1)))) (n + 1))).1 hR hst (by omega) (show ff < (s_unlink S ff (homeS S ff)).1 11 1 by rw [un_11]; exact f1) (home_nil (un_2 ff _ hgo))) (cwV 1 hts gL_does_X3_home rfl rfl rfl (by decide +kernel) ⟨Nat.le_of_ble_eq_true rfl, Nat.le_of_ble_eq_true rfl⟩) hEn hW hS hR.k0 rfl hl.1 rfl (Nat.le_of_ble_eq_true rfl) ⟨Nat.le_of_ble_eq_true rfl, Nat.le_of_ble_eq_true rfl⟩ dL_does_486 (fun w H locs hR hW hS => ?_)
        refine lv_iconst (v := iI (-1)) hx hb dL_does_489 rfl ?_
        refine h_icmp_ne (tgt := 539) hx hb (by omega) (by omega) dL_does_490 (by decide) (fun c_490 => by exfalso; omega) (fun c_490 => ?_)
        refine lv_aload_n hx hb dL_does_493 rfl (lv_at hl 4 rfl) ?_
        refine lv_iload hx hb dL_does_494 (lv_at hl 11 rfl) ?_
        refine d_call (As := [.int (iI (ff))]) (rest := []) ⟨hx, hb, hml, hown, hts⟩ (n_size l D cO dz mi ((JJ_unlink hJ (by omega) f0 hhm.1 hhm.2 : JJ (s_unlink S ff (homeS S ff)) (upd fn ff.toNat (fn (ff).toNat &&& ((iI 1 <<< (iI (homeS S ff) &&& 31)) ^^^ iI (-1)))) (n + 1))).1 hR hst (by omega) (show ff < (s_unlink S ff (homeS S ff)).1 11 1 by rw [un_11]; exact f1) (un_3 ff _ hgo)) (cwV 1 hts gL_does_X3_size rfl rfl rfl (by decide +kernel) ⟨Nat.le_of_ble_eq_true rfl, Nat.le_of_ble_eq_true rfl⟩) hEn hW hS hR.k0 rfl hl.1 rfl (Nat.le_of_ble_eq_true rfl) ⟨Nat.le_of_ble_eq_true rfl, Nat.le_of_ble_eq_true rfl⟩ dL_does_496 (fun w H locs hR hW hS => ?_)
        refine h_if_ne (tgt := 539) hx hb (by omega) dL_does_499 (by decide) (fun c_499 => by exfalso; omega) (fun c_499 => ?_)
        refine lv_aload_n hx hb dL_does_502 rfl (lv_at hl 4 rfl) ?_
        refine lv_iload hx hb dL_does_503 (lv_at hl 11 rfl) ?_
        refine d_call (As := [.int (iI (ff))]) (rest := []) ⟨hx, hb, hml, hown, hts⟩ (n_tier l D cO dz mi ((JJ_unlink hJ (by omega) f0 hhm.1 hhm.2 : JJ (s_unlink S ff (homeS S ff)) (upd fn ff.toNat (fn (ff).toNat &&& ((iI 1 <<< (iI (homeS S ff) &&& 31)) ^^^ iI (-1)))) (n + 1))).1 hR hst (by omega) (show ff < (s_unlink S ff (homeS S ff)).1 11 1 by rw [un_11]; exact f1) (tier_gone (un_2 ff _ hgo))) (cwV 1 hts gL_does_X3_tier rfl rfl rfl (by decide +kernel) ⟨Nat.le_of_ble_eq_true rfl, Nat.le_of_ble_eq_true rfl⟩) hEn hW hS hR.k0 rfl hl.1 rfl (Nat.le_of_ble_eq_true rfl) ⟨Nat.le_of_ble_eq_true rfl, Nat.le_of_ble_eq_true rfl⟩ dL_does_505 (fun w H locs hR hW hS => ?_)
        refine lv_iconst (v := iI (-1)) hx hb dL_does_508 rfl ?_
        refine h_icmp_ne (tgt := 539) hx hb (by omega) (by omega) dL_does_509 (by decide) (fun c_509 => by exfalso; omega) (fun c_509 => ?_)
        refine lv_aload_n hx hb dL_does_512 rfl (lv_at hl 4 rfl) ?_
        refine lv_iload hx hb dL_does_513 (lv_at hl 11 rfl) ?_
        refine d_call (As := [.int (iI (ff))]) (rest := []) ⟨hx, hb, hml, hown, hts⟩ (n_kept l D cO dz mi ((JJ_unlink hJ (by omega) f0 hhm.1 hhm.2 : JJ (s_unlink S ff (homeS S ff)) (upd fn ff.toNat (fn (ff).toNat &&& ((iI 1 <<< (iI (homeS S ff) &&& 31)) ^^^ iI (-1)))) (n + 1))).1 hR hst (by omega) (show ff < (s_unlink S ff (homeS S ff)).1 11 1 by rw [un_11]; exact f1) (un_6 ff _ hgo)) (cwV 1 hts gL_does_X3_kept rfl rfl rfl (by decide +kernel) ⟨Nat.le_of_ble_eq_true rfl, Nat.le_of_ble_eq_true rfl⟩) hEn hW hS hR.k0 rfl hl.1 rfl (Nat.le_of_ble_eq_true rfl) ⟨Nat.le_of_ble_eq_true rfl, Nat.le_of_ble_eq_true rfl⟩ dL_does_515 (fun w H locs hR hW hS => ?_)
        refine lv_iload hx hb dL_does_518 (lv_at hl 2 rfl) ?_
        refine lv_iload hx hb dL_does_520 (lv_at hl 1 rfl) ?_
        refine h_if_eq (tgt := 530) hx hb (by omega) dL_does_522 (by decide) (fun c_522 => by exfalso; omega) (fun c_522 => ?_)
        refine lv_iload hx hb dL_does_525 (lv_at hl 3 rfl) ?_
        refine lv_goto (tgt := 531) hx hb dL_does_527 (by decide) ?_
        refine h_iadd hx hb dL_does_531 ?_
        refine h_icmp_ne (tgt := 539) hx hb (by omega) (by omega) dL_does_532 (by decide) (fun c_532 => by exfalso; omega) (fun c_532 => ?_)
        refine lv_iconst (v := iI 1) hx hb dL_does_535 rfl ?_
        refine lv_goto (tgt := 540) hx hb dL_does_536 (by decide) ?_
        exact kk (s_unlink S ff (homeS S ff)) (upd fn ff.toNat (fn (ff).toNat &&& ((iI 1 <<< (iI (homeS S ff) &&& 31)) ^^^ iI (-1)))) _ _ _ _ _ _ _ dL_does_540 (JJ_unlink hJ (by omega) f0 hhm.1 hhm.2) hR hW hS (Nat.le_of_ble_eq_true rfl) (Nat.le_of_ble_eq_true rfl)
      · skip
        have hmo := un_more hmem c_450
        refine lv_aload_n hx hb dL_does_453 rfl (lv_at hl 4 rfl) ?_
        refine lv_iload hx hb dL_does_454 (lv_at hl 11 rfl) ?_
        refine d_call (As := [.int (iI (ff))]) (rest := []) ⟨hx, hb, hml, hown, hts⟩ (n_size l D cO dz mi ((JJ_unlink hJ (by omega) f0 hhm.1 hhm.2 : JJ (s_unlink S ff (homeS S ff)) (upd fn ff.toNat (fn (ff).toNat &&& ((iI 1 <<< (iI (homeS S ff) &&& 31)) ^^^ iI (-1)))) (n + 1))).1 hR hst (by omega) (show ff < (s_unlink S ff (homeS S ff)).1 11 1 by rw [un_11]; exact f1) (by rw [un_S ff _ hmo, slks_1])) (cwV 1 hts gL_does_X3_size rfl rfl rfl (by decide +kernel) ⟨Nat.le_of_ble_eq_true rfl, Nat.le_of_ble_eq_true rfl⟩) hEn hW hS hR.k0 rfl hl.1 rfl (Nat.le_of_ble_eq_true rfl) ⟨Nat.le_of_ble_eq_true rfl, Nat.le_of_ble_eq_true rfl⟩ dL_does_456 (fun w H locs hR hW hS => ?_)
        refine lv_iload hx hb dL_does_459 (lv_at hl 3 rfl) ?_
        refine h_icmp_ne (tgt := 479) hx hb (by omega) (by omega) dL_does_461 (by decide) (fun c_461 => by exfalso; omega) (fun c_461 => ?_)
        refine lv_aload_n hx hb dL_does_464 rfl (lv_at hl 4 rfl) ?_
        refine lv_iload hx hb dL_does_465 (lv_at hl 11 rfl) ?_
        refine d_call (As := [.int (iI (ff))]) (rest := []) ⟨hx, hb, hml, hown, hts⟩ (n_kept l D cO dz mi ((JJ_unlink hJ (by omega) f0 hhm.1 hhm.2 : JJ (s_unlink S ff (homeS S ff)) (upd fn ff.toNat (fn (ff).toNat &&& ((iI 1 <<< (iI (homeS S ff) &&& 31)) ^^^ iI (-1)))) (n + 1))).1 hR hst (by omega) (show ff < (s_unlink S ff (homeS S ff)).1 11 1 by rw [un_11]; exact f1) (by rw [un_S ff _ hmo, slks_1])) (cwV 1 hts gL_does_X3_kept rfl rfl rfl (by decide +kernel) ⟨Nat.le_of_ble_eq_true rfl, Nat.le_of_ble_eq_true rfl⟩) hEn hW hS hR.k0 rfl hl.1 rfl (Nat.le_of_ble_eq_true rfl) ⟨Nat.le_of_ble_eq_true rfl, Nat.le_of_ble_eq_true rfl⟩ dL_does_467 (fun w H locs hR hW hS => ?_)
        refine lv_iload hx hb dL_does_470 (lv_at hl 2 rfl) ?_
        refine h_icmp_ne (tgt := 479) hx hb (by omega) (by omega) dL_does_472 (by decide) (fun c_472 => by exfalso; omega) (fun c_472 => ?_)
        refine lv_iconst (v := iI 1) hx hb dL_does_475 rfl ?_
        refine lv_goto (tgt := 540) hx hb dL_does_476 (by decide) ?_
        exact kk (s_unlink S ff (homeS S ff)) (upd fn ff.toNat (fn (ff).toNat &&& ((iI 1 <<< (iI (homeS S ff) &&& 31)) ^^^ iI (-1)))) _ _ _ _ _ _ _ dL_does_540 (JJ_unlink hJ (by omega) f0 hhm.1 hhm.2) hR hW hS (Nat.le_of_ble_eq_true rfl) (Nat.le_of_ble_eq_true rfl)
set_option maxRecDepth 100000 in
set_option maxHeartbeats 4000000 in
theorem does_5 {p : Program} {l : Launch} {e : Env} {s : State} {m : MethodId} {args : Array Value} {below : List Frame} {meth : Method} {c : Code} {Q : State → Prop} {D : va_G} {cO : ClassId} {dz mi : Nat} {A : Nat → Prop} {kI : ClassId} {lk a0 : Nat} (C : DC p l s m args c D cO dz mi A kI lk) {n : Int} {S : HdS} {fn : Nat → Int32} {w : CW} {H : Heap} {locs : List Loc} {v2 v3 nd nf dd ff ii : Int} (hJ : JJ S fn n) (hn : n < 60) (e0 : S.1 11 0 = nd) (e1 : S.1 11 1 = nf) (h3 : 0 ≤ v3 ∧ v3 ≤ 2147483647) (hd : 0 ≤ dd ∧ dd < nd) (hff : -1 ≤ ff ∧ ff < nf) (hii : ii = 0 ∨ (ii = 1 ∧ 0 ≤ ff ∧ S.2 ff ≠ [])) (hR : ST S w a0) (hW : dW D cO dz A kI lk w fn H) (hS : va_S (dFr A lk) s.heap H locs) (kk : DTail p l e s m args below meth c D cO dz A kI lk a0 Q n) {ls : Array Slot} (hl : lv_has ls 13 [(0, .ref a0), (1, .ref lk), (2, .int (iI v2)), (3, .int (iI v3)), (4, .int (iI nd)), (5, .int (iI nf)), (6, .int (iI dd)), (7, .int (iI ff)), (8, .int (iI ii))]) : W p l e { frames := 9, cells := 120, slots := 3700, locals := 230 } s m args below meth c H locs 4 24 Q (F0 m 543 ls []) := by
  obtain ⟨hx, hb, hml, hown, hts, hEn, hst⟩ := C
  subst e0
  subst e1
  have hw := hJ.1
  have hnn := hw.num
  have hnd := hw.nd
  have hnf := hw.nf
  have hdy := hw.day
  refine lv_iload hx hb dL_does_543 (lv_at hl 8 rfl) ?_
  refine h_if_eq (tgt := 628) hx hb (by omega) dL_does_545 (by decide) (fun c_545 => ?_) (fun c_545 => ?_)
  · skip
    refine lv_iconst (v := iI 1) hx hb dL_does_628 rfl ?_
    exact kk S fn _ _ _ _ _ _ _ dL_does_629 (JJ_up hJ (by omega)) hR hW hS (Nat.le_of_ble_eq_true rfl) (Nat.le_of_ble_eq_true rfl)
  · skip
    have hf : 0 ≤ ff ∧ S.2 ff ≠ [] := by rcases hii with q | q; (exact absurd q c_545); (exact q.2)
    obtain ⟨f0, fne⟩ := hf
    have f1 := hff.2
    have hsz := hw.siz f0 f1
    have hkp := hw.kep f0 f1
    have hho := hw.hol f0 f1
    have hhm := hw.home f0 f1 fne
    have htr := tier_in (S := S) ff
    have htr0 := tier_here fne
    have hjf := hJ.2.2 ff f0 f1
    have hsz1 := hjf.2.1 fne
    have hkT := keepT_in hw f0 f1
    have hmz : 0 ≤ v3 % S.1 3 ff ∧ v3 % S.1 3 ff < S.1 3 ff := ⟨Int.emod_nonneg _ (by omega), Int.emod_lt_of_pos _ (by omega)⟩
    refine lv_aload_n hx hb dL_does_548 rfl (lv_at hl 0 rfl) ?_
    refine lv_iload hx hb dL_does_549 (lv_at hl 7 rfl) ?_
    refine d_call (As := [.int (iI (ff))]) (rest := []) ⟨hx, hb, hml, hown, hts⟩ (n_tier l D cO dz mi hw hR hst (by omega) (by omega) rfl) (cwV 1 hts gL_does_X3_tier rfl rfl rfl (by decide +kernel) ⟨Nat.le_of_ble_eq_true rfl, Nat.le_of_ble_eq_true rfl⟩) hEn hW hS hR.k0 rfl hl.1 rfl (Nat.le_of_ble_eq_true rfl) ⟨Nat.le_of_ble_eq_true rfl, Nat.le_of_ble_eq_true rfl⟩ dL_does_551 (fun w H locs hR hW hS => ?_)
    refine lv_iconst (v := iI 2) hx hb dL_does_554 rfl ?_
    refine h_icmp_ge (tgt := 628) hx hb (by omega) (by omega) dL_does_555 (by decide) (fun c_555 => ?_) (fun c_555 => ?_)
    · skip
      refine lv_iconst (v := iI 1) hx hb dL_does_628 rfl ?_
      exact kk S fn _ _ _ _ _ _ _ dL_does_629 (JJ_up hJ (by omega)) hR hW hS (Nat.le_of_ble_eq_true rfl) (Nat.le_of_ble_eq_true rfl)
    · skip
      refine lv_aload_n hx hb dL_does_558 rfl (lv_at hl 0 rfl) ?_
      refine lv_iload hx hb dL_does_559 (lv_at hl 7 rfl) ?_
      refine d_call (As := [.int (iI (ff))]) (rest := []) ⟨hx, hb, hml, hown, hts⟩ (n_size l D cO dz mi hw hR hst (by omega) (by omega) rfl) (cwV 1 hts gL_does_X3_size rfl rfl rfl (by decide +kernel) ⟨Nat.le_of_ble_eq_true rfl, Nat.le_of_ble_eq_true rfl⟩) hEn hW hS hR.k0 rfl hl.1 rfl (Nat.le_of_ble_eq_true rfl) ⟨Nat.le_of_ble_eq_true rfl, Nat.le_of_ble_eq_true rfl⟩ dL_does_561 (fun w H locs hR hW hS => ?_)
      refine lv_istore (lv' := [(9, .int (iI (S.1 3 ff))), (0, .ref a0), (1, .ref lk), (2, .int (iI (v2))), (3, .int (iI (v3))), (4, .int (iI (S.1 11 0))), (5, .int (iI (S.1 11 1))), (6, .int (iI (dd))), (7, .int (iI (ff))), (8, .int (iI (ii)))]) hx hb dL_does_564 hl (by decide) rfl (fun ls hl => ?_)
      refine lv_aload_n hx hb dL_does_566 rfl (lv_at hl 1 rfl) ?_
      refine lv_iload hx hb dL_does_567 (lv_at hl 8 rfl) ?_
      refine d_call (As := [.int (iI (ff))]) (rest := []) ⟨hx, hb, hml, hown, hts⟩ (n_kept l D cO dz mi hw hR hst (by omega) (by omega) rfl) (cwV 1 hts gL_does_X3_kept rfl rfl rfl (by decide +kernel) ⟨Nat.le_of_ble_eq_true rfl, Nat.le_of_ble_eq_true rfl⟩) hEn hW hS hR.k0 rfl hl.1 rfl (Nat.le_of_ble_eq_true rfl) ⟨Nat.le_of_ble_eq_true rfl, Nat.le_of_ble_eq_true rfl⟩ dL_does_569 (fun w H locs hR hW hS => ?_)
      refine lv_istore (lv' := [(10, .int (iI (S.1 6 ff))), (9, .int (iI (S.1 3 ff))), (0, .ref a0), (1, .ref lk), (2, .int (iI (v2))), (3, .int (iI (v3))), (4, .int (iI (S.1 11 0))), (5, .int (iI (S.1 11 1))), (6, .int (iI (dd))), (7, .int (iI (ff))), (8, .int (iI (ii)))]) hx hb dL_does_572 hl (by decide) rfl (fun ls hl => ?_)
      refine lv_iconst (v := iI 1) hx hb dL_does_574 rfl ?_
      refine lv_iload_n hx hb dL_does_575 rfl (lv_at hl 5 rfl) ?_
      refine lv_iload hx hb dL_does_576 (lv_at hl 1 rfl) ?_
      refine h_irem hx hb (by omega) (by omega) (by omega) (by omega) dL_does_578 ?_
      refine h_iadd hx hb dL_does_579 ?_
      refine lv_istore (lv' := [(11, .int (iI ((1 + (v3 % S.1 3 ff))))), (10, .int (iI (S.1 6 ff))), (9, .int (iI (S.1 3 ff))), (0, .ref a0), (1, .ref lk), (2, .int (iI (v2))), (3, .int (iI (v3))), (4, .int (iI (S.1 11 0))), (5, .int (iI (S.1 11 1))), (6, .int (iI (dd))), (7, .int (iI (ff))), (8, .int (iI (ii)))]) hx hb dL_does_580 hl (by decide) rfl (fun ls hl => ?_)
      refine lv_aload_n hx hb dL_does_582 rfl (lv_at hl 3 rfl) ?_
      refine lv_iload hx hb dL_does_583 (lv_at hl 10 rfl) ?_
      refine lv_iload hx hb dL_does_585 (lv_at hl 0 rfl) ?_
      refine d_call (As := [.int (iI (ff)), .int (iI ((1 + (v3 % S.1 3 ff))))]) (rest := []) ⟨hx, hb, hml, hown, hts⟩ (n_write l D cO dz mi hw hR hst ff (1 + (v3 % S.1 3 ff)) (by omega) (by omega) (sv_write f0 f1 (by omega) (by omega) fne (by omega) (by omega))) (cwV 2 hts gL_does_X3_write rfl rfl rfl (by decide +kernel) ⟨Nat.le_of_ble_eq_true rfl, Nat.le_of_ble_eq_true rfl⟩) hEn hW hS hR.k0 rfl hl.1 rfl (Nat.le_of_ble_eq_true rfl) ⟨Nat.le_of_ble_eq_true rfl, Nat.le_of_ble_eq_true rfl⟩ dL_does_587 (fun w H locs hR hW hS => ?_)
      refine lv_iload hx hb dL_does_590 (lv_at hl 1 rfl) ?_
      refine lv_aload_n hx hb dL_does_592 rfl (lv_at hl 3 rfl) ?_
      refine lv_iload hx hb dL_does_593 (lv_at hl 10 rfl) ?_
      refine d_call (As := [.int (iI (ff))]) (rest := [.int (iI (S.1 6 ff)), .int (iI (keepT S ff))]) ⟨hx, hb, hml, hown, hts⟩ (n_holders l D cO dz mi (JJ_write hJ (by omega) (z := (1 + (v3 % S.1 3 ff))) ⟨by omega, by omega⟩ fne (by omega)).1 hR hst (by omega) (show ff < (s_write S ff (1 + (v3 % S.1 3 ff))).1 11 1 by rw [wr_11]; exact f1) (wr_7 S ff _ ff)) (cwV 1 hts gL_does_X3_holders rfl rfl rfl (by decide +kernel) ⟨Nat.le_of_ble_eq_true rfl, Nat.le_of_ble_eq_true rfl⟩) hEn hW hS hR.k0 rfl hl.1 rfl (Nat.le_of_ble_eq_true rfl) ⟨Nat.le_of_ble_eq_true rfl, Nat.le_of_ble_eq_true rfl⟩ dL_does_595 (fun w H locs hR hW hS => ?_)
      refine h_if_eq (tgt := 606) hx hb (by omega) dL_does_598 (by decide) (fun c_598 => ?_) (fun c_598 => ?_)
      · skip
        have hk9 : keepT S ff = S.1 6 ff := by unfold keepT; rw [if_pos c_598]; omega
        refine lv_iconst (v := iI 0) hx hb dL_does_606 rfl ?_
        refine h_iadd hx hb dL_does_607 ?_
        refine h_icmp_ne (tgt := 626) hx hb (by omega) (by omega) dL_does_608 (by decide) (fun c_608 => by exfalso; omega) (fun c_608 => ?_)
        refine lv_aload_n hx hb dL_does_611 rfl (lv_at hl 3 rfl) ?_
        refine lv_iload hx hb dL_does_612 (lv_at hl 10 rfl) ?_
        refine d_call (As := [.int (iI (ff))]) (rest := []) ⟨hx, hb, hml, hown, hts⟩ (n_size l D cO dz mi (JJ_write hJ (by omega) (z := (1 + (v3 % S.1 3 ff))) ⟨by omega, by omega⟩ fne (by omega)).1 hR hst (by omega) (show ff < (s_write S ff (1 + (v3 % S.1 3 ff))).1 11 1 by rw [wr_11]; exact f1) (wr_3 S ff _)) (cwV 1 hts gL_does_X3_size rfl rfl rfl (by decide +kernel) ⟨Nat.le_of_ble_eq_true rfl, Nat.le_of_ble_eq_true rfl⟩) hEn hW hS hR.k0 rfl hl.1 rfl (Nat.le_of_ble_eq_true rfl) ⟨Nat.le_of_ble_eq_true rfl, Nat.le_of_ble_eq_true rfl⟩ dL_does_614 (fun w H locs hR hW hS => ?_)
        refine lv_iload hx hb dL_does_617 (lv_at hl 0 rfl) ?_
        refine h_icmp_ne (tgt := 626) hx hb (by omega) (by omega) dL_does_619 (by decide) (fun c_619 => by exfalso; omega) (fun c_619 => ?_)
        refine lv_iconst (v := iI 1) hx hb dL_does_622 rfl ?_
        refine lv_goto (tgt := 627) hx hb dL_does_623 (by decide) ?_
        exact kk (s_write S ff (1 + (v3 % S.1 3 ff))) fn _ _ _ _ _ _ _ dL_does_627 (JJ_write hJ (by omega) (z := (1 + (v3 % S.1 3 ff))) ⟨by omega, by omega⟩ fne (by omega)) hR hW hS (Nat.le_of_ble_eq_true rfl) (Nat.le_of_ble_eq_true rfl)
      · skip
        have hk9 : keepT S ff = S.1 6 ff + S.1 3 ff := by unfold keepT; rw [if_neg c_598]
        refine lv_iload hx hb dL_does_601 (lv_at hl 2 rfl) ?_
        refine lv_goto (tgt := 607) hx hb dL_does_603 (by decide) ?_
        refine h_iadd hx hb dL_does_607 ?_
        refine h_icmp_ne (tgt := 626) hx hb (by omega) (by omega) dL_does_608 (by decide) (fun c_608 => by exfalso; omega) (fun c_608 => ?_)
        refine lv_aload_n hx hb dL_does_611 rfl (lv_at hl 3 rfl) ?_
        refine lv_iload hx hb dL_does_612 (lv_at hl 10 rfl) ?_
        refine d_call (As := [.int (iI (ff))]) (rest := []) ⟨hx, hb, hml, hown, hts⟩ (n_size l D cO dz mi (JJ_write hJ (by omega) (z := (1 + (v3 % S.1 3 ff))) ⟨by omega, by omega⟩ fne (by omega)).1 hR hst (by omega) (show ff < (s_write S ff (1 + (v3 % S.1 3 ff))).1 11 1 by rw [wr_11]; exact f1) (wr_3 S ff _)) (cwV 1 hts gL_does_X3_size rfl rfl rfl (by decide +kernel) ⟨Nat.le_of_ble_eq_true rfl, Nat.le_of_ble_eq_true rfl⟩) hEn hW hS hR.k0 rfl hl.1 rfl (Nat.le_of_ble_eq_true rfl) ⟨Nat.le_of_ble_eq_true rfl, Nat.le_of_ble_eq_true rfl⟩ dL_does_614 (fun w H locs hR hW hS => ?_)
        refine lv_iload hx hb dL_does_617 (lv_at hl 0 rfl) ?_
        refine h_icmp_ne (tgt := 626) hx hb (by omega) (by omega) dL_does_619 (by decide) (fun c_619 => by exfalso; omega) (fun c_619 => ?_)
        refine lv_iconst (v := iI 1) hx hb dL_does_622 rfl ?_
        refine lv_goto (tgt := 627) hx hb dL_does_623 (by decide) ?_
        exact kk (s_write S ff (1 + (v3 % S.1 3 ff))) fn _ _ _ _ _ _ _ dL_does_627 (JJ_write hJ (by omega) (z := (1 + (v3 % S.1 3 ff))) ⟨by omega, by omega⟩ fne (by omega)) hR hW hS (Nat.le_of_ble_eq_true rfl) (Nat.le_of_ble_eq_true rfl)
