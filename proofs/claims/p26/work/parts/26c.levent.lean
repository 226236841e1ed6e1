/-! .. and the loop of the events -/
set_option maxRecDepth 100000 in
set_option maxHeartbeats 4000000 in
theorem law_sums {p : Program} {l : Launch} {e : Env} {s : State} {m : MethodId} {below : List Frame} {meth : Method} {c : Code} {Q : State → Prop} {b L : Nat} {xs : Nat → Int32} {D : va_G} {cO : ClassId} {dz mi : Nat} {kI : ClassId} {lk a0 : Nat} (C : LC p l s m c b L xs D cO dz mi kI lk) {S : HdS} {fn : Nat → Int32} {n : Int} (hJ : JJ S fn n) {ev : Int} (c0 s0 : Nat) (hc0 : c0 ≤ 600000) (hs0 : s0 ≤ 7000000) (kk : ∀ (w : CW) (H : Heap) (locs : List Loc) (cells slots : Nat) (ls : Array Slot), ST S w a0 → dW D cO dz (lA s.heap.size lk) kI lk w fn H → va_S (dFr (lA s.heap.size lk) lk) s.heap H locs → cells ≤ c0 + 9 → slots ≤ s0 + 54 → lv_has ls 7 [(4, .int (iI (ev + 1))), (3, .int (iI 1)), (0, .ref b), (1, .ref a0), (2, .ref lk)] → W p l e room_1 s m #[Value.ref b] below meth c H locs cells slots Q (F0 m 30 ls [])) {w : CW} {H : Heap} {locs : List Loc} {cells slots : Nat} {ls : Array Slot} (hce : cells ≤ c0) (hsl : slots ≤ s0) (hR : ST S w a0) (hW : dW D cO dz (lA s.heap.size lk) kI lk w fn H) (hS : va_S (dFr (lA s.heap.size lk) lk) s.heap H locs) (hl : lv_has ls 7 [(6, .int (iI (S.1 11 1))), (3, .int (iI 1)), (5, .int (iI (sumN S (S.1 11 1).toNat))), (0, .ref b), (1, .ref a0), (2, .ref lk), (4, .int (iI ev))]) : W p l e room_1 s m #[Value.ref b] below meth c H locs cells slots Q (F0 m 218 ls []) := by
  obtain ⟨hx, hb, hml, hown, hts, hX, hbl, hL, hEn, hlk, hst⟩ := C
  have hw := hJ.1
  have hnn := hw.num
  have hnd := hw.nd
  have hnf := hw.nf
  have hu0 := usg_in hw 0
  have hur := usg_root hw
  have hsm := sumN_in hw (S.1 11 1).toNat (by omega)
  have hc_0 := hw.coi (d := 0) (by omega) (by omega)
  have hb_0 := bil_in hw 0
  have hc_1 := hw.coi (d := 1) (by omega) (by omega)
  have hb_1 := bil_in hw 1
  have hc_2 := hw.coi (d := 2) (by omega) (by omega)
  have hb_2 := bil_in hw 2
  have hc_3 := hw.coi (d := 3) (by omega) (by omega)
  have hb_3 := bil_in hw 3
  refine lv_iload_n hx hb dL_law_218 rfl (lv_at hl 1 rfl) ?_
  refine h_if_eq (tgt := 236) hx hb (by omega) dL_law_219 (by decide) (fun c_219 => by exfalso; omega) (fun c_219 => ?_)
  refine lv_aload_n hx hb dL_law_222 rfl (lv_at hl 4 rfl) ?_
  refine lv_iconst (v := iI 0) hx hb dL_law_223 rfl ?_
  refine d_call (As := [.int (iI 0)]) (rest := []) ⟨hx, hb, hml, hown, hts⟩ (n_usage l D cO dz mi hw hR hst (by omega) (by omega) rfl) (cwV 1 hts gL_law_X3_usage rfl rfl rfl (by decide +kernel) ⟨Nat.le_of_ble_eq_true rfl, Nat.le_of_ble_eq_true rfl⟩) hEn hW hS hR.k0 rfl hl.1 rfl (Nat.le_of_ble_eq_true rfl) ⟨by show cells + 1 ≤ 662934; omega, by show slots + 6 ≤ 7112667; omega⟩ dL_law_224 (fun w H locs hR hW hS => ?_)
  refine lv_iload hx hb dL_law_227 (lv_at hl 2 rfl) ?_
  refine h_icmp_ne (tgt := 236) hx hb (by omega) (by omega) dL_law_229 (by decide) (fun c_229 => by exfalso; omega) (fun c_229 => ?_)
  refine lv_iconst (v := iI 1) hx hb dL_law_232 rfl ?_
  refine lv_goto (tgt := 237) hx hb dL_law_233 (by decide) ?_
  refine lv_istore_n (lv' := [(3, .int (iI 1)), (6, .int (iI ((S.1 11 1)))), (5, .int (iI ((sumN S (S.1 11 1).toNat)))), (0, .ref b), (1, .ref a0), (2, .ref lk), (4, .int (iI (ev)))]) hx hb dL_law_237 rfl hl (by decide) rfl (fun ls hl => ?_)
  refine lv_iconst (v := iI 0) hx hb dL_law_238 rfl ?_
  refine lv_istore (lv' := [(6, .int (iI 0)), (3, .int (iI 1)), (5, .int (iI ((sumN S (S.1 11 1).toNat)))), (0, .ref b), (1, .ref a0), (2, .ref lk), (4, .int (iI (ev)))]) hx hb dL_law_239 hl (by decide) rfl (fun ls hl => ?_)
  refine lv_iload hx hb dL_law_241 (lv_at hl 0 rfl) ?_
  refine lv_iconst (v := iI 4) hx hb dL_law_243 rfl ?_
  refine h_icmp_ge (tgt := 281) hx hb (by omega) (by omega) dL_law_244 (by decide) (fun c_244 => by exfalso; omega) (fun c_244 => ?_)
  refine lv_iload_n hx hb dL_law_247 rfl (lv_at hl 1 rfl) ?_
  refine h_if_eq (tgt := 281) hx hb (by omega) dL_law_248 (by decide) (fun c_248 => by exfalso; omega) (fun c_248 => ?_)
  refine lv_aload_n hx hb dL_law_251 rfl (lv_at hl 4 rfl) ?_
  refine lv_iload hx hb dL_law_252 (lv_at hl 0 rfl) ?_
  refine d_call (As := [.int (iI 0)]) (rest := []) ⟨hx, hb, hml, hown, hts⟩ (n_coins l D cO dz mi hw hR hst (by omega) (by omega) rfl) (cwV 1 hts gL_law_X3_coins rfl rfl rfl (by decide +kernel) ⟨Nat.le_of_ble_eq_true rfl, Nat.le_of_ble_eq_true rfl⟩) hEn hW hS hR.k0 rfl hl.1 rfl (Nat.le_of_ble_eq_true rfl) ⟨by show cells + 1 + 1 ≤ 662934; omega, by show slots + 6 + 6 ≤ 7112667; omega⟩ dL_law_254 (fun w H locs hR hW hS => ?_)
  refine h_if_lt (tgt := 273) hx hb (by omega) dL_law_257 (by decide) (fun c_257 => by exfalso; omega) (fun c_257 => ?_)
  refine lv_aload_n hx hb dL_law_260 rfl (lv_at hl 4 rfl) ?_
  refine lv_iload hx hb dL_law_261 (lv_at hl 0 rfl) ?_
  refine d_call (As := [.int (iI 0)]) (rest := []) ⟨hx, hb, hml, hown, hts⟩ (n_bill l D cO dz mi hw hR hst (by omega) (by omega) rfl) (cwV 1 hts gL_law_X3_bill rfl rfl rfl (by decide +kernel) ⟨Nat.le_of_ble_eq_true rfl, Nat.le_of_ble_eq_true rfl⟩) hEn hW hS hR.k0 rfl hl.1 rfl (Nat.le_of_ble_eq_true rfl) ⟨by show cells + 1 + 1 + 1 ≤ 662934; omega, by show slots + 6 + 6 + 6 ≤ 7112667; omega⟩ dL_law_263 (fun w H locs hR hW hS => ?_)
  refine h_if_lt (tgt := 273) hx hb (by omega) dL_law_266 (by decide) (fun c_266 => by exfalso; omega) (fun c_266 => ?_)
  refine lv_iconst (v := iI 1) hx hb dL_law_269 rfl ?_
  refine lv_goto (tgt := 274) hx hb dL_law_270 (by decide) ?_
  refine lv_istore_n (lv' := [(3, .int (iI 1)), (6, .int (iI 0)), (5, .int (iI ((sumN S (S.1 11 1).toNat)))), (0, .ref b), (1, .ref a0), (2, .ref lk), (4, .int (iI (ev)))]) hx hb dL_law_274 rfl hl (by decide) rfl (fun ls hl => ?_)
  refine lv_iinc (v := iI 1) (lv' := [(6, .int (iI 1)), (3, .int (iI 1)), (5, .int (iI ((sumN S (S.1 11 1).toNat)))), (0, .ref b), (1, .ref a0), (2, .ref lk), (4, .int (iI (ev)))]) hx hb dL_law_275 hl (k := 1) rfl (by decide) (by decide) rfl (fun ls hl => ?_)
  refine lv_goto (tgt := 241) hx hb dL_law_278 (by decide) ?_
  refine lv_iload hx hb dL_law_241 (lv_at hl 0 rfl) ?_
  refine lv_iconst (v := iI 4) hx hb dL_law_243 rfl ?_
  refine h_icmp_ge (tgt := 281) hx hb (by omega) (by omega) dL_law_244 (by decide) (fun c_244 => by exfalso; omega) (fun c_244 => ?_)
  refine lv_iload_n hx hb dL_law_247 rfl (lv_at hl 1 rfl) ?_
  refine h_if_eq (tgt := 281) hx hb (by omega) dL_law_248 (by decide) (fun c_248 => by exfalso; omega) (fun c_248 => ?_)
  refine lv_aload_n hx hb dL_law_251 rfl (lv_at hl 4 rfl) ?_
  refine lv_iload hx hb dL_law_252 (lv_at hl 0 rfl) ?_
  refine d_call (As := [.int (iI 1)]) (rest := []) ⟨hx, hb, hml, hown, hts⟩ (n_coins l D cO dz mi hw hR hst (by omega) (by omega) rfl) (cwV 1 hts gL_law_X3_coins rfl rfl rfl (by decide +kernel) ⟨Nat.le_of_ble_eq_true rfl, Nat.le_of_ble_eq_true rfl⟩) hEn hW hS hR.k0 rfl hl.1 rfl (Nat.le_of_ble_eq_true rfl) ⟨by show cells + 1 + 1 + 1 + 1 ≤ 662934; omega, by show slots + 6 + 6 + 6 + 6 ≤ 7112667; omega⟩ dL_law_254 (fun w H locs hR hW hS => ?_)
  refine h_if_lt (tgt := 273) hx hb (by omega) dL_law_257 (by decide) (fun c_257 => by exfalso; omega) (fun c_257 => ?_)
  refine lv_aload_n hx hb dL_law_260 rfl (lv_at hl 4 rfl) ?_
  refine lv_iload hx hb dL_law_261 (lv_at hl 0 rfl) ?_
  refine d_call (As := [.int (iI 1)]) (rest := []) ⟨hx, hb, hml, hown, hts⟩ (n_bill l D cO dz mi hw hR hst (by omega) (by omega) rfl) (cwV 1 hts gL_law_X3_bill rfl rfl rfl (by decide +kernel) ⟨Nat.le_of_ble_eq_true rfl, Nat.le_of_ble_eq_true rfl⟩) hEn hW hS hR.k0 rfl hl.1 rfl (Nat.le_of_ble_eq_true rfl) ⟨by show cells + 1 + 1 + 1 + 1 + 1 ≤ 662934; omega, by show slots + 6 + 6 + 6 + 6 + 6 ≤ 7112667; omega⟩ dL_law_263 (fun w H locs hR hW hS => ?_)
  refine h_if_lt (tgt := 273) hx hb (by omega) dL_law_266 (by decide) (fun c_266 => by exfalso; omega) (fun c_266 => ?_)
  refine lv_iconst (v := iI 1) hx hb dL_law_269 rfl ?_
  refine lv_goto (tgt := 274) hx hb dL_law_270 (by decide) ?_
  refine lv_istore_n (lv' := [(3, .int (iI 1)), (6, .int (iI 1)), (5, .int (iI ((sumN S (S.1 11 1).toNat)))), (0, .ref b), (1, .ref a0), (2, .ref lk), (4, .int (iI (ev)))]) hx hb dL_law_274 rfl hl (by decide) rfl (fun ls hl => ?_)
  refine lv_iinc (v := iI 2) (lv' := [(6, .int (iI 2)), (3, .int (iI 1)), (5, .int (iI ((sumN S (S.1 11 1).toNat)))), (0, .ref b), (1, .ref a0), (2, .ref lk), (4, .int (iI (ev)))]) hx hb dL_law_275 hl (k := 1) rfl (by decide) (by decide) rfl (fun ls hl => ?_)
  refine lv_goto (tgt := 241) hx hb dL_law_278 (by decide) ?_
  refine lv_iload hx hb dL_law_241 (lv_at hl 0 rfl) ?_
  refine lv_iconst (v := iI 4) hx hb dL_law_243 rfl ?_
  refine h_icmp_ge (tgt := 281) hx hb (by omega) (by omega) dL_law_244 (by decide) (fun c_244 => by exfalso; omega) (fun c_244 => ?_)
  refine lv_iload_n hx hb dL_law_247 rfl (lv_at hl 1 rfl) ?_
  refine h_if_eq (tgt := 281) hx hb (by omega) dL_law_248 (by decide) (fun c_248 => by exfalso; omega) (fun c_248 => ?_)
  refine lv_aload_n hx hb dL_law_251 rfl (lv_at hl 4 rfl) ?_
  refine lv_iload hx hb dL_law_252 (lv_at hl 0 rfl) ?_
  refine d_call (As := [.int (iI 2)]) (rest := []) ⟨hx, hb, hml, hown, hts⟩ (n_coins l D cO dz mi hw hR hst (by omega) (by omega) rfl) (cwV 1 hts gL_law_X3_coins rfl rfl rfl (by decide +kernel) ⟨Nat.le_of_ble_eq_true rfl, Nat.le_of_ble_eq_true rfl⟩) hEn hW hS hR.k0 rfl hl.1 rfl (Nat.le_of_ble_eq_true rfl) ⟨by show cells + 1 + 1 + 1 + 1 + 1 + 1 ≤ 662934; omega, by show slots + 6 + 6 + 6 + 6 + 6 + 6 ≤ 7112667; omega⟩ dL_law_254 (fun w H locs hR hW hS => ?_)
  refine h_if_lt (tgt := 273) hx hb (by omega) dL_law_257 (by decide) (fun c_257 => by exfalso; omega) (fun c_257 => ?_)
  refine lv_aload_n hx hb dL_law_260 rfl (lv_at hl 4 rfl) ?_
  refine lv_iload hx hb dL_law_261 (lv_at hl 0 rfl) ?_
  refine d_call (As := [.int (iI 2)]) (rest := []) ⟨hx, hb, hml, hown, hts⟩ (n_bill l D cO dz mi hw hR hst (by omega) (by omega) rfl) (cwV 1 hts gL_law_X3_bill rfl rfl rfl (by decide +kernel) ⟨Nat.le_of_ble_eq_true rfl, Nat.le_of_ble_eq_true rfl⟩) hEn hW hS hR.k0 rfl hl.1 rfl (Nat.le_of_ble_eq_true rfl) ⟨by show cells + 1 + 1 + 1 + 1 + 1 + 1 + 1 ≤ 662934; omega, by show slots + 6 + 6 + 6 + 6 + 6 + 6 + 6 ≤ 7112667; omega⟩ dL_law_263 (fun w H locs hR hW hS => ?_)
  refine h_if_lt (tgt := 273) hx hb (by omega) dL_law_266 (by decide) (fun c_266 => by exfalso; omega) (fun c_266 => ?_)
  refine lv_iconst (v := iI 1) hx hb dL_law_269 rfl ?_
  refine lv_goto (tgt := 274) hx hb dL_law_270 (by decide) ?_
  refine lv_istore_n (lv' := [(3, .int (iI 1)), (6, .int (iI 2)), (5, .int (iI ((sumN S (S.1 11 1).toNat)))), (0, .ref b), (1, .ref a0), (2, .ref lk), (4, .int (iI (ev)))]) hx hb dL_law_274 rfl hl (by decide) rfl (fun ls hl => ?_)
  refine lv_iinc (v := iI 3) (lv' := [(6, .int (iI 3)), (3, .int (iI 1)), (5, .int (iI ((sumN S (S.1 11 1).toNat)))), (0, .ref b), (1, .ref a0), (2, .ref lk), (4, .int (iI (ev)))]) hx hb dL_law_275 hl (k := 1) rfl (by decide) (by decide) rfl (fun ls hl => ?_)
  refine lv_goto (tgt := 241) hx hb dL_law_278 (by decide) ?_
  refine lv_iload hx hb dL_law_241 (lv_at hl 0 rfl) ?_
  refine lv_iconst (v := iI 4) hx hb dL_law_243 rfl ?_
  refine h_icmp_ge (tgt := 281) hx hb (by omega) (by omega) dL_law_244 (by decide) (fun c_244 => by exfalso; omega) (fun c_244 => ?_)
  refine lv_iload_n hx hb dL_law_247 rfl (lv_at hl 1 rfl) ?_
  refine h_if_eq (tgt := 281) hx hb (by omega) dL_law_248 (by decide) (fun c_248 => by exfalso; omega) (fun c_248 => ?_)
  refine lv_aload_n hx hb dL_law_251 rfl (lv_at hl 4 rfl) ?_
  refine lv_iload hx hb dL_law_252 (lv_at hl 0 rfl) ?_
  refine d_call (As := [.int (iI 3)]) (rest := []) ⟨hx, hb, hml, hown, hts⟩ (n_coins l D cO dz mi hw hR hst (by omega) (by omega) rfl) (cwV 1 hts gL_law_X3_coins rfl rfl rfl (by decide +kernel) ⟨Nat.le_of_ble_eq_true rfl, Nat.le_of_ble_eq_true rfl⟩) hEn hW hS hR.k0 rfl hl.1 rfl (Nat.le_of_ble_eq_true rfl) ⟨by show cells + 1 + 1 + 1 + 1 + 1 + 1 + 1 + 1 ≤ 662934; omega, by show slots + 6 + 6 + 6 + 6 + 6 + 6 + 6 + 6 ≤ 7112667; omega⟩ dL_law_254 (fun w H locs hR hW hS => ?_)
  refine h_if_lt (tgt := 273) hx hb (by omega) dL_law_257 (by decide) (fun c_257 => by exfalso; omega) (fun c_257 => ?_)
  refine lv_aload_n hx hb dL_law_260 rfl (lv_at hl 4 rfl) ?_
  refine lv_iload hx hb dL_law_261 (lv_at hl 0 rfl) ?_
  refine d_call (As := [.int (iI 3)]) (rest := []) ⟨hx, hb, hml, hown, hts⟩ (n_bill l D cO dz mi hw hR hst (by omega) (by omega) rfl) (cwV 1 hts gL_law_X3_bill rfl rfl rfl (by decide +kernel) ⟨Nat.le_of_ble_eq_true rfl, Nat.le_of_ble_eq_true rfl⟩) hEn hW hS hR.k0 rfl hl.1 rfl (Nat.le_of_ble_eq_true rfl) ⟨by show cells + 1 + 1 + 1 + 1 + 1 + 1 + 1 + 1 + 1 ≤ 662934; omega, by show slots + 6 + 6 + 6 + 6 + 6 + 6 + 6 + 6 + 6 ≤ 7112667; omega⟩ dL_law_263 (fun w H locs hR hW hS => ?_)
  refine h_if_lt (tgt := 273) hx hb (by omega) dL_law_266 (by decide) (fun c_266 => by exfalso; omega) (fun c_266 => ?_)
  refine lv_iconst (v := iI 1) hx hb dL_law_269 rfl ?_
  refine lv_goto (tgt := 274) hx hb dL_law_270 (by decide) ?_
  refine lv_istore_n (lv' := [(3, .int (iI 1)), (6, .int (iI 3)), (5, .int (iI ((sumN S (S.1 11 1).toNat)))), (0, .ref b), (1, .ref a0), (2, .ref lk), (4, .int (iI (ev)))]) hx hb dL_law_274 rfl hl (by decide) rfl (fun ls hl => ?_)
  refine lv_iinc (v := iI 4) (lv' := [(6, .int (iI 4)), (3, .int (iI 1)), (5, .int (iI ((sumN S (S.1 11 1).toNat)))), (0, .ref b), (1, .ref a0), (2, .ref lk), (4, .int (iI (ev)))]) hx hb dL_law_275 hl (k := 1) rfl (by decide) (by decide) rfl (fun ls hl => ?_)
  refine lv_goto (tgt := 241) hx hb dL_law_278 (by decide) ?_
  refine lv_iload hx hb dL_law_241 (lv_at hl 0 rfl) ?_
  refine lv_iconst (v := iI 4) hx hb dL_law_243 rfl ?_
  refine h_icmp_ge (tgt := 281) hx hb (by omega) (by omega) dL_law_244 (by decide) (fun c_244 => ?_) (fun c_244 => by exfalso; omega)
  refine lv_iinc (v := iI (ev + 1)) (lv' := [(4, .int (iI ((ev + 1)))), (6, .int (iI 4)), (3, .int (iI 1)), (5, .int (iI ((sumN S (S.1 11 1).toNat)))), (0, .ref b), (1, .ref a0), (2, .ref lk)]) hx hb dL_law_281 hl (k := 6) rfl (iI_add _ _) (by decide) rfl (fun ls hl => ?_)
  refine lv_goto (tgt := 30) hx hb dL_law_284 (by decide) ?_
  exact kk w H locs _ _ ls hR hW hS (by omega) (by omega) (lv_sub hl [0, 2, 4, 5, 6] rfl)
set_option maxRecDepth 100000 in
set_option maxHeartbeats 4000000 in
theorem law_events {p : Program} {l : Launch} {e : Env} {s : State} {m : MethodId} {below : List Frame} {meth : Method} {c : Code} {b L : Nat} {xs : Nat → Int32} {D : va_G} {cO : ClassId} {dz mi : Nat} {kI : ClassId} {lk a0 : Nat} (C : LC p l s m c b L xs D cO dz mi kI lk) (hr : meth.sig.returnType = ret) (hlocks : meth.locks = false) : ∀ (k : Nat) (ev : Int) (S : HdS) (fn : Nat → Int32) (w : CW) (H : Heap) (locs : List Loc) (cells slots : Nat) (ls : Array Slot), 0 ≤ ev → ev + (k : Int) = 60 → cells ≤ 40 + 400 * ev.toNat → slots ≤ 6000 + 6000 * ev.toNat → JJ S fn ev → ST S w a0 → dW D cO dz (lA s.heap.size lk) kI lk w fn H → va_S (dFr (lA s.heap.size lk) lk) s.heap H locs → lv_has ls 7 [(4, .int (iI ev)), (3, .int (iI 1)), (0, .ref b), (1, .ref a0), (2, .ref lk)] → W p l e room_1 s m #[Value.ref b] below meth c H locs cells slots (lw_Z below #[Value.ref b] s) (F0 m 30 ls []) := by
  have hbA : ¬ dFr (lA s.heap.size lk) lk b := by
    obtain ⟨hx, hb, hml, hown, hts, hX, hbl, hL, hEn, hlk, hst⟩ := C
    rintro (z | z)
    · exact Nat.not_le.mpr hbl z.1
    · omega
  intro k
  induction k with
  | zero =>
    intro ev S fn w H locs cells slots ls h0 h1 hce hsl hJ hR hW hS hl
    obtain ⟨hx, hb, hml, hown, hts, hX, hbl, hL, hEn, hlk, hst⟩ := C
    refine lv_iload hx hb dL_law_30 (lv_at hl 0 rfl) ?_
    refine lv_bipush (v := iI 60) hx hb dL_law_32 (by decide) ?_
    refine h_icmp_ge (tgt := 287) hx hb (by omega) (by omega) dL_law_34 (by decide) (fun c_34 => ?_) (fun c_34 => by exfalso; omega)
    refine lv_iload_n hx hb dL_law_287 rfl (lv_at hl 1 rfl) ?_
    refine h_top hx (y := 1) (by decide) ?_
    refine va_forget (fun z hz => (hS.2.2 z hz).elim (fun q => q.1) (fun q => by rw [q]; exact hlk)) ?_
    refine W.widen (k := 662934) (n := 7112667) (by omega) (by omega) ?_
    exact lw_ret hx hb hr hlocks dL_law_288
  | succ k ih =>
    intro ev S fn w H locs cells slots ls h0 h1 hce hsl hJ hR hW hS hl
    have C' := C
    obtain ⟨hx, hb, hml, hown, hts, hX, hbl, hL, hEn, hlk, hst⟩ := C
    refine lv_iload hx hb dL_law_30 (lv_at hl 0 rfl) ?_
    refine lv_bipush (v := iI 60) hx hb dL_law_32 (by decide) ?_
    refine h_icmp_ge (tgt := 287) hx hb (by omega) (by omega) dL_law_34 (by decide) (fun c_34 => by exfalso; omega) (fun c_34 => ?_)
    refine lv_iload_n hx hb dL_law_37 rfl (lv_at hl 1 rfl) ?_
    refine h_if_eq (tgt := 287) hx hb (by omega) dL_law_38 (by decide) (fun c_38 => by exfalso; omega) (fun c_38 => ?_)
    refine lv_aload_n hx hb dL_law_41 rfl (lv_at hl 3 rfl) ?_
    refine lv_aload_n hx hb dL_law_42 rfl (lv_at hl 4 rfl) ?_
    refine lv_aload_n hx hb dL_law_43 rfl (lv_at hl 2 rfl) ?_
    refine lv_iload hx hb dL_law_44 (lv_at hl 0 rfl) ?_
    refine l_told (As := [.ref b, .int (iI ev)]) (rest := [.ref lk, .ref a0]) ⟨hx, hb, hml, hown, hts⟩ (c_told l hL h0 (by omega)) (va_cwS 2 hts gL_law_L_told rfl rfl rfl (by decide +kernel) ⟨Nat.le_of_ble_eq_true rfl, Nat.le_of_ble_eq_true rfl⟩) hX hbl hbA hEn hW hS rfl hl.1 rfl (Nat.le_of_ble_eq_true rfl) ⟨by show cells ≤ 662934; omega, by show slots ≤ 7112667; omega⟩ dL_law_46 (fun v2 H locs h2 hW hS => ?_)
    refine lv_aload_n hx hb dL_law_49 rfl (lv_at hl 2 rfl) ?_
    refine lv_iload hx hb dL_law_50 (lv_at hl 0 rfl) ?_
    refine lv_iconst (v := iI 2) hx hb dL_law_52 rfl ?_
    refine h_iadd hx hb dL_law_53 ?_
    refine l_told (As := [.ref b, .int (iI (ev + 2))]) (rest := [.int (iI v2), .ref lk, .ref a0]) ⟨hx, hb, hml, hown, hts⟩ (c_told l hL (by omega) (by omega)) (va_cwS 2 hts gL_law_L_told rfl rfl rfl (by decide +kernel) ⟨Nat.le_of_ble_eq_true rfl, Nat.le_of_ble_eq_true rfl⟩) hX hbl hbA hEn hW hS rfl hl.1 rfl (Nat.le_of_ble_eq_true rfl) ⟨by show cells ≤ 662934; omega, by show slots ≤ 7112667; omega⟩ dL_law_54 (fun v3 H locs h3 hW hS => ?_)
    refine l_does (As := [.ref a0, .ref lk, .int (iI v2), .int (iI v3)]) (rest := []) ⟨hx, hb, hml, hown, hts⟩ (c_L_does l D cO dz mi kI lk hJ (by omega) hR hst h2 h3) (va_cwS 4 hts gL_law_L_does rfl rfl rfl (by decide +kernel) ⟨Nat.le_of_ble_eq_true rfl, Nat.le_of_ble_eq_true rfl⟩) hEn hW hS rfl hl.1 rfl (Nat.le_of_ble_eq_true rfl) ⟨by show cells + 120 ≤ 662934; omega, by show slots + 3700 ≤ 7112667; omega⟩ dL_law_57 (fun x H locs hp hW hS => ?_)
    obtain ⟨S1, hJ1, hR1⟩ := hp
    have hw1 := hJ1.1
    have hnd1 := hw1.nd
    have hnf1 := hw1.nf
    have kk3 : ∀ (w : CW) (H : Heap) (locs : List Loc) (cells9 slots9 : Nat) (ls : Array Slot), ST S1 w a0 → dW D cO dz (lA s.heap.size lk) kI lk w x.2 H → va_S (dFr (lA s.heap.size lk) lk) s.heap H locs → cells9 ≤ cells + 120 + 48 + 180 + 9 → slots9 ≤ slots + 3700 + 288 + 1080 + 54 → lv_has ls 7 [(4, .int (iI (ev + 1))), (3, .int (iI 1)), (0, .ref b), (1, .ref a0), (2, .ref lk)] → W p l e room_1 s m #[Value.ref b] below meth c H locs cells9 slots9 (lw_Z below #[Value.ref b] s) (F0 m 30 ls []) := by
      intro w H locs cells9 slots9 ls hR hW hS hce9 hsl9 hl
      exact ih (ev + 1) S1 x.2 w H locs _ _ ls (by omega) (by omega) (by omega) (by omega) hJ1 hR hW hS hl
    have kk2 : ∀ (w : CW) (H : Heap) (locs : List Loc) (cells9 slots9 : Nat) (ls : Array Slot), ST S1 w a0 → dW D cO dz (lA s.heap.size lk) kI lk w x.2 H → va_S (dFr (lA s.heap.size lk) lk) s.heap H locs → cells9 ≤ cells + 120 + 48 + 180 → slots9 ≤ slots + 3700 + 288 + 1080 → lv_has ls 7 [(6, .int (iI (S1.1 11 1))), (3, .int (iI 1)), (5, .int (iI (sumN S1 (S1.1 11 1).toNat))), (0, .ref b), (1, .ref a0), (2, .ref lk), (4, .int (iI ev))] → W p l e room_1 s m #[Value.ref b] below meth c H locs cells9 slots9 (lw_Z below #[Value.ref b] s) (F0 m 218 ls []) := by
      intro w H locs cells9 slots9 ls hR hW hS hce9 hsl9 hl
      exact law_sums C' hJ1 (cells + 120 + 48 + 180) (slots + 3700 + 288 + 1080) (by omega) (by omega) kk3 hce9 hsl9 hR hW hS hl
    have kk1 : ∀ (w : CW) (H : Heap) (locs : List Loc) (cells9 slots9 : Nat) (ls : Array Slot), ST S1 w a0 → dW D cO dz (lA s.heap.size lk) kI lk w x.2 H → va_S (dFr (lA s.heap.size lk) lk) s.heap H locs → cells9 ≤ cells + 120 + 48 → slots9 ≤ slots + 3700 + 288 → lv_has ls 7 [(6, .int (iI (S1.1 11 0))), (3, .int (iI 1)), (5, .int (iI 0)), (0, .ref b), (1, .ref a0), (2, .ref lk), (4, .int (iI ev))] → W p l e room_1 s m #[Value.ref b] below meth c H locs cells9 slots9 (lw_Z below #[Value.ref b] s) (F0 m 121 ls []) := by
      intro w H locs cells9 slots9 ls hR hW hS hce9 hsl9 hl
      refine lv_iconst (v := iI 0) hx hb dL_law_121 rfl ?_
      refine lv_istore (lv' := [(6, .int (iI 0)), (3, .int (iI 1)), (5, .int (iI 0)), (0, .ref b), (1, .ref a0), (2, .ref lk), (4, .int (iI (ev)))]) hx hb dL_law_122 hl (by decide) rfl (fun ls hl => ?_)
      exact law_files C' hJ1 (cells + 120 + 48) (slots + 3700 + 288) (by omega) (by omega) kk2 (S1.1 11 1).toNat 0 w H locs _ _ ls (by omega) (by omega) (by omega) (by omega) hR hW hS (lv_sub hl [0, 1, 2, 3, 4, 5, 6] rfl)
    refine lv_istore_n (lv' := [(3, .int (iI 1)), (4, .int (iI (ev))), (0, .ref b), (1, .ref a0), (2, .ref lk)]) hx hb dL_law_60 rfl hl (by decide) rfl (fun ls hl => ?_)
    refine lv_iconst (v := iI 0) hx hb dL_law_61 rfl ?_
    refine lv_istore (lv' := [(5, .int (iI 0)), (3, .int (iI 1)), (4, .int (iI (ev))), (0, .ref b), (1, .ref a0), (2, .ref lk)]) hx hb dL_law_62 hl (by decide) rfl (fun ls hl => ?_)
    refine lv_iconst (v := iI 0) hx hb dL_law_64 rfl ?_
    refine lv_istore (lv' := [(6, .int (iI 0)), (5, .int (iI 0)), (3, .int (iI 1)), (4, .int (iI (ev))), (0, .ref b), (1, .ref a0), (2, .ref lk)]) hx hb dL_law_65 hl (by decide) rfl (fun ls hl => ?_)
    exact law_dirs C' hJ1 (cells + 120) (slots + 3700) (by omega) (by omega) kk1 (S1.1 11 0).toNat 0 x.1 H locs _ _ ls (by omega) (by omega) (by omega) (by omega) hR1 hW hS (lv_sub hl [0, 2, 1, 4, 5, 6, 3] rfl)
