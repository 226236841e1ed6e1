/-! WHAT does DOES, CASE BY CASE -/
def DC (p : Program) (l : Launch) (s : State) (m : MethodId) (args : Array Value) (c : Code) (D : va_G) (cO : ClassId) (dz mi : Nat) (A : Nat → Prop) (kI : ClassId) (lk : Nat) : Prop := p.tables.exec = Jvm.exec ∧ c.code = cL_does ∧ c.maxLocals = 13 ∧ s.vm.findClass RL = some m.cls ∧ (∀ x ∈ wsL_does, x.before args s = true) ∧ DE D cO dz mi A kI lk s ∧ l.stackTraces = false
def DTail (p : Program) (l : Launch) (e : Env) (s : State) (m : MethodId) (args : Array Value) (below : List Frame) (meth : Method) (c : Code) (D : va_G) (cO : ClassId) (dz : Nat) (A : Nat → Prop) (kI : ClassId) (lk a0 : Nat) (Q : State → Prop) (n : Int) : Prop := ∀ (S : HdS) (fn : Nat → Int32) (w : CW) (H : Heap) (locs : List Loc) (pc cells slots : Nat) (ls : Array Slot), decode cL_does pc = .ok (.ireturn, 1) → JJ S fn (n + 1) → ST S w a0 → dW D cO dz A kI lk w fn H → va_S (dFr A lk) s.heap H locs → cells ≤ 120 → slots ≤ 3700 → W p l e { frames := 9, cells := 120, slots := 3700, locals := 230 } s m args below meth c H locs cells slots Q (F0 m pc ls [.int (iI 1)])
set_option maxRecDepth 100000 in
set_option maxHeartbeats 4000000 in
theorem does_0 {p : Program} {l : Launch} {e : Env} {s : State} {m : MethodId} {args : Array Value} {below : List Frame} {meth : Method} {c : Code} {Q : State → Prop} {D : va_G} {cO : ClassId} {dz mi : Nat} {A : Nat → Prop} {kI : ClassId} {lk a0 : Nat} (C : DC p l s m args c D cO dz mi A kI lk) {n : Int} {S : HdS} {fn : Nat → Int32} {w : CW} {H : Heap} {locs : List Loc} {v2 v3 nd nf dd ff ii : Int} (hJ : JJ S fn n) (hn : n < 60) (e0 : S.1 11 0 = nd) (e1 : S.1 11 1 = nf) (h3 : 0 ≤ v3 ∧ v3 ≤ 2147483647) (hd : 0 ≤ dd ∧ dd < nd) (hff : -1 ≤ ff ∧ ff < nf) (hii : ii = 0 ∨ (ii = 1 ∧ 0 ≤ ff ∧ S.2 ff ≠ [])) (hR : ST S w a0) (hW : dW D cO dz A kI lk w fn H) (hS : va_S (dFr A lk) s.heap H locs) (kk : DTail p l e s m args below meth c D cO dz A kI lk a0 Q n) {ls : Array Slot} (hl : lv_has ls 13 [(0, .ref a0), (1, .ref lk), (2, .int (iI v2)), (3, .int (iI v3)), (4, .int (iI nd)), (5, .int (iI nf)), (6, .int (iI dd)), (7, .int (iI ff)), (8, .int (iI ii))]) : W p l e { frames := 9, cells := 120, slots := 3700, locals := 230 } s m args below meth c H locs 4 24 Q (F0 m 116 ls []) := by
  obtain ⟨hx, hb, hml, hown, hts, hEn, hst⟩ := C
  subst e0
  subst e1
  have hw := hJ.1
  have hnn := hw.num
  have hnd := hw.nd
  have hnf := hw.nf
  have hdy := hw.day
  refine lv_iload hx hb dL_does_116 (lv_at hl 4 rfl) ?_
  refine lv_bipush (v := iI 12) hx hb dL_does_118 (by decide) ?_
  refine h_icmp_eq (tgt := 160) hx hb (by omega) (by omega) dL_does_120 (by decide) (fun c_120 => ?_) (fun c_120 => ?_)
  · skip
    refine lv_iconst (v := iI 1) hx hb dL_does_160 rfl ?_
    refine lv_goto (tgt := 165) hx hb dL_does_161 (by decide) ?_
    exact kk S fn _ _ _ _ _ _ _ dL_does_165 (JJ_up hJ (by omega)) hR hW hS (Nat.le_of_ble_eq_true rfl) (Nat.le_of_ble_eq_true rfl)
  · skip
    refine lv_aload_n hx hb dL_does_123 rfl (lv_at hl 0 rfl) ?_
    refine lv_iload hx hb dL_does_124 (lv_at hl 6 rfl) ?_
    refine lv_iload_n hx hb dL_does_126 rfl (lv_at hl 3 rfl) ?_
    refine lv_iconst (v := iI 4) hx hb dL_does_127 rfl ?_
    refine h_irem hx hb (by omega) (by omega) (by omega) (by omega) dL_does_128 ?_
    refine h_if_ne (tgt := 142) hx hb (by omega) dL_does_129 (by decide) (fun c_129 => ?_) (fun c_129 => ?_)
    · skip
      refine lv_iconst (v := iI (-1)) hx hb dL_does_142 rfl ?_
      refine d_call (As := [.int (iI (dd)), .int (iI (-1))]) (rest := []) ⟨hx, hb, hml, hown, hts⟩ (n_addDirectory l D cO dz mi hw hR hst dd (-1) (by omega) (by omega) (sv_addDirectory (by omega) (by omega) (by omega) (by omega) (by omega))) (cwV 2 hts gL_does_X3_addDirectory rfl rfl rfl (by decide +kernel) ⟨Nat.le_of_ble_eq_true rfl, Nat.le_of_ble_eq_true rfl⟩) hEn hW hS hR.k0 rfl hl.1 rfl (Nat.le_of_ble_eq_true rfl) ⟨Nat.le_of_ble_eq_true rfl, Nat.le_of_ble_eq_true rfl⟩ dL_does_143 (fun w H locs hR hW hS => ?_)
      refine lv_iload hx hb dL_does_146 (lv_at hl 4 rfl) ?_
      refine h_icmp_ne (tgt := 164) hx hb (by omega) (by omega) dL_does_148 (by decide) (fun c_148 => by exfalso; omega) (fun c_148 => ?_)
      refine lv_aload_n hx hb dL_does_151 rfl (lv_at hl 0 rfl) ?_
      refine lv_iload hx hb dL_does_152 (lv_at hl 4 rfl) ?_
      refine d_call (As := [.int (iI (S.1 11 0))]) (rest := []) ⟨hx, hb, hml, hown, hts⟩ (n_usage l D cO dz mi (JJ_addDir hJ (by omega) hd.1 hd.2 ⟨by omega, by omega⟩ (by omega)).1 hR hst (by omega) (show S.1 11 0 < (s_addDir S dd (-1)).1 11 0 by rw [ad_11]; omega) (ad_usg hw dd (-1))) (cwV 1 hts gL_does_X3_usage rfl rfl rfl (by decide +kernel) ⟨Nat.le_of_ble_eq_true rfl, Nat.le_of_ble_eq_true rfl⟩) hEn hW hS hR.k0 rfl hl.1 rfl (Nat.le_of_ble_eq_true rfl) ⟨Nat.le_of_ble_eq_true rfl, Nat.le_of_ble_eq_true rfl⟩ dL_does_154 (fun w H locs hR hW hS => ?_)
      refine h_if_ne (tgt := 164) hx hb (by omega) dL_does_157 (by decide) (fun c_157 => by exfalso; omega) (fun c_157 => ?_)
      refine lv_iconst (v := iI 1) hx hb dL_does_160 rfl ?_
      refine lv_goto (tgt := 165) hx hb dL_does_161 (by decide) ?_
      exact kk (s_addDir S dd (-1)) fn _ _ _ _ _ _ _ dL_does_165 (JJ_addDir hJ (by omega) hd.1 hd.2 ⟨by omega, by omega⟩ (by omega)) hR hW hS (Nat.le_of_ble_eq_true rfl) (Nat.le_of_ble_eq_true rfl)
    · skip
      refine lv_iload_n hx hb dL_does_132 rfl (lv_at hl 3 rfl) ?_
      refine lv_iconst (v := iI 4) hx hb dL_does_133 rfl ?_
      refine h_idiv hx hb (by omega) (by omega) (by omega) (by omega) dL_does_134 ?_
      refine lv_sipush (v := iI 3000) hx hb dL_does_135 (by decide) ?_
      refine h_irem hx hb (by omega) (by omega) (by omega) (by omega) dL_does_138 ?_
      refine lv_goto (tgt := 143) hx hb dL_does_139 (by decide) ?_
      refine d_call (As := [.int (iI (dd)), .int (iI (((v3 / 4) % 3000)))]) (rest := []) ⟨hx, hb, hml, hown, hts⟩ (n_addDirectory l D cO dz mi hw hR hst dd (v3 / 4 % 3000) (by omega) (by omega) (sv_addDirectory (by omega) (by omega) (by omega) (by omega) (by omega))) (cwV 2 hts gL_does_X3_addDirectory rfl rfl rfl (by decide +kernel) ⟨Nat.le_of_ble_eq_true rfl, Nat.le_of_ble_eq_true rfl⟩) hEn hW hS hR.k0 rfl hl.1 rfl (Nat.le_of_ble_eq_true rfl) ⟨Nat.le_of_ble_eq_true rfl, Nat.le_of_ble_eq_true rfl⟩ dL_does_143 (fun w H locs hR hW hS => ?_)
      refine lv_iload hx hb dL_does_146 (lv_at hl 4 rfl) ?_
      refine h_icmp_ne (tgt := 164) hx hb (by omega) (by omega) dL_does_148 (by decide) (fun c_148 => by exfalso; omega) (fun c_148 => ?_)
      refine lv_aload_n hx hb dL_does_151 rfl (lv_at hl 0 rfl) ?_
      refine lv_iload hx hb dL_does_152 (lv_at hl 4 rfl) ?_
      refine d_call (As := [.int (iI (S.1 11 0))]) (rest := []) ⟨hx, hb, hml, hown, hts⟩ (n_usage l D cO dz mi (JJ_addDir hJ (by omega) hd.1 hd.2 ⟨by omega, by omega⟩ (by omega)).1 hR hst (by omega) (show S.1 11 0 < (s_addDir S dd (v3 / 4 % 3000)).1 11 0 by rw [ad_11]; omega) (ad_usg hw dd (v3 / 4 % 3000))) (cwV 1 hts gL_does_X3_usage rfl rfl rfl (by decide +kernel) ⟨Nat.le_of_ble_eq_true rfl, Nat.le_of_ble_eq_true rfl⟩) hEn hW hS hR.k0 rfl hl.1 rfl (Nat.le_of_ble_eq_true rfl) ⟨Nat.le_of_ble_eq_true rfl, Nat.le_of_ble_eq_true rfl⟩ dL_does_154 (fun w H locs hR hW hS => ?_)
      refine h_if_ne (tgt := 164) hx hb (by omega) dL_does_157 (by decide) (fun c_157 => by exfalso; omega) (fun c_157 => ?_)
      refine lv_iconst (v := iI 1) hx hb dL_does_160 rfl ?_
      refine lv_goto (tgt := 165) hx hb dL_does_161 (by decide) ?_
      exact kk (s_addDir S dd (v3 / 4 % 3000)) fn _ _ _ _ _ _ _ dL_does_165 (JJ_addDir hJ (by omega) hd.1 hd.2 ⟨by omega, by omega⟩ (by omega)) hR hW hS (Nat.le_of_ble_eq_true rfl) (Nat.le_of_ble_eq_true rfl)
set_option maxRecDepth 100000 in
set_option maxHeartbeats 4000000 in
theorem does_1c {p : Program} {l : Launch} {e : Env} {s : State} {m : MethodId} {args : Array Value} {below : List Frame} {meth : Method} {c : Code} {Q : State → Prop} {D : va_G} {cO : ClassId} {dz mi : Nat} {A : Nat → Prop} {kI : ClassId} {lk a0 : Nat} (C : DC p l s m args c D cO dz mi A kI lk) {n : Int} {S : HdS} {fn : Nat → Int32} {w : CW} {H : Heap} {locs : List Loc} {v2 v3 nd nf dd ff ii : Int} {pp : Int} (hJ : JJ S fn n) (hn : n < 60) (e0 : S.1 11 0 = nd) (e1 : S.1 11 1 = nf) (h3 : 0 ≤ v3 ∧ v3 ≤ 2147483647) (hd : 0 ≤ dd ∧ dd < nd) (hff : -1 ≤ ff ∧ ff < nf) (hii : ii = 0 ∨ (ii = 1 ∧ 0 ≤ ff ∧ S.2 ff ≠ [])) (hp : 0 ≤ pp ∧ pp < 4) (hc : 0 < S.1 10 pp) (hlt : nf < 30) (hR : ST S w a0) (hW : dW D cO dz A kI lk w fn H) (hS : va_S (dFr A lk) s.heap H locs) (kk : DTail p l e s m args below meth c D cO dz A kI lk a0 Q n) {ls : Array Slot} (hl : lv_has ls 13 [(0, .ref a0), (1, .ref lk), (2, .int (iI v2)), (3, .int (iI v3)), (4, .int (iI nd)), (5, .int (iI nf)), (6, .int (iI dd)), (7, .int (iI ff)), (8, .int (iI ii)), (9, .int (iI pp))]) : W p l e { frames := 9, cells := 120, slots := 3700, locals := 230 } s m args below meth c H locs 14 84 Q (F0 m 211 ls []) := by
  obtain ⟨hx, hb, hml, hown, hts, hEn, hst⟩ := C
  subst e0
  subst e1
  have hw := hJ.1
  have hnn := hw.num
  have hnd := hw.nd
  have hnf := hw.nf
  have hdy := hw.day
  have hu := usg_in hw dd
  have hfv := freeV_in S (1 + ((v3 / 4) % 1000)) (S.1 11 0)
  refine lv_aload_n hx hb dL_does_211 rfl (lv_at hl 0 rfl) ?_
  refine lv_iload hx hb dL_does_212 (lv_at hl 6 rfl) ?_
  refine d_call (As := [.int (iI (dd))]) (rest := []) ⟨hx, hb, hml, hown, hts⟩ (n_usage l D cO dz mi hw hR hst (by omega) (by omega) rfl) (cwV 1 hts gL_does_X3_usage rfl rfl rfl (by decide +kernel) ⟨Nat.le_of_ble_eq_true rfl, Nat.le_of_ble_eq_true rfl⟩) hEn hW hS hR.k0 rfl hl.1 rfl (Nat.le_of_ble_eq_true rfl) ⟨Nat.le_of_ble_eq_true rfl, Nat.le_of_ble_eq_true rfl⟩ dL_does_214 (fun w H locs hR hW hS => ?_)
  refine lv_istore (lv' := [(10, .int (iI (usg S dd))), (0, .ref a0), (1, .ref lk), (2, .int (iI (v2))), (3, .int (iI (v3))), (4, .int (iI (S.1 11 0))), (5, .int (iI (S.1 11 1))), (6, .int (iI (dd))), (7, .int (iI (ff))), (8, .int (iI (ii))), (9, .int (iI (pp)))]) hx hb dL_does_217 hl (by decide) rfl (fun ls hl => ?_)
  refine lv_iconst (v := iI 1) hx hb dL_does_219 rfl ?_
  refine lv_iload_n hx hb dL_does_220 rfl (lv_at hl 4 rfl) ?_
  refine lv_iconst (v := iI 4) hx hb dL_does_221 rfl ?_
  refine h_idiv hx hb (by omega) (by omega) (by omega) (by omega) dL_does_222 ?_
  refine lv_sipush (v := iI 1000) hx hb dL_does_223 (by decide) ?_
  refine h_irem hx hb (by omega) (by omega) (by omega) (by omega) dL_does_226 ?_
  refine h_iadd hx hb dL_does_227 ?_
  refine lv_istore (lv' := [(11, .int (iI ((1 + ((v3 / 4) % 1000))))), (10, .int (iI (usg S dd))), (0, .ref a0), (1, .ref lk), (2, .int (iI (v2))), (3, .int (iI (v3))), (4, .int (iI (S.1 11 0))), (5, .int (iI (S.1 11 1))), (6, .int (iI (dd))), (7, .int (iI (ff))), (8, .int (iI (ii))), (9, .int (iI (pp)))]) hx hb dL_does_228 hl (by decide) rfl (fun ls hl => ?_)
  refine lv_aload_n hx hb dL_does_230 rfl (lv_at hl 2 rfl) ?_
  refine lv_iload hx hb dL_does_231 (lv_at hl 0 rfl) ?_
  refine d_calls (As := [.ref a0, .int (iI ((1 + ((v3 / 4) % 1000))))]) (rest := []) ⟨hx, hb, hml, hown, hts⟩ (c_L_isFree l D cO dz mi hw hR hst (z := (1 + ((v3 / 4) % 1000))) ⟨by omega, by omega⟩) (va_cwS 2 hts gL_does_L_isFree rfl rfl rfl (by decide +kernel) ⟨Nat.le_of_ble_eq_true rfl, Nat.le_of_ble_eq_true rfl⟩) hEn hW hS rfl hl.1 rfl (Nat.le_of_ble_eq_true rfl) ⟨Nat.le_of_ble_eq_true rfl, Nat.le_of_ble_eq_true rfl⟩ dL_does_233 (fun w H locs hR hW hS => ?_)
  refine h_if_ne (tgt := 241) hx hb (by omega) dL_does_236 (by decide) (fun c_236 => ?_) (fun c_236 => ?_)
  · skip
    refine lv_aload_n hx hb dL_does_241 rfl (lv_at hl 3 rfl) ?_
    refine lv_iload hx hb dL_does_242 (lv_at hl 7 rfl) ?_
    refine lv_iconst (v := iI 1) hx hb dL_does_244 rfl ?_
    refine lv_iload hx hb dL_does_245 (lv_at hl 8 rfl) ?_
    refine lv_ishl hx hb dL_does_247 ?_
    refine d_ist hx hb hEn hW hS (z := S.1 11 1) (x := (iI 1 <<< (iI (dd) &&& 31))) (by omega) (by omega) dL_does_248 (fun H locs hW hS => ?_)
    refine lv_aload_n hx hb dL_does_249 rfl (lv_at hl 2 rfl) ?_
    refine lv_iload hx hb dL_does_250 (lv_at hl 11 rfl) ?_
    refine lv_iload hx hb dL_does_252 (lv_at hl 8 rfl) ?_
    refine lv_iload hx hb dL_does_254 (lv_at hl 0 rfl) ?_
    refine d_call (As := [.int (iI (pp)), .int (iI (dd)), .int (iI ((1 + ((v3 / 4) % 1000))))]) (rest := []) ⟨hx, hb, hml, hown, hts⟩ (n_make l D cO dz mi hw hR hst pp dd (1 + ((v3 / 4) % 1000)) (by omega) (by omega) (by omega) (sv_make hp.1 hp.2 hd.1 hd.2 (by omega) (by omega) (by omega) (grow_free hw (freeV_iff c_236) hd.1 hd.2 hc))) (cwV 3 hts gL_does_X3_make rfl rfl rfl (by decide +kernel) ⟨Nat.le_of_ble_eq_true rfl, Nat.le_of_ble_eq_true rfl⟩) hEn hW hS hR.k0 rfl hl.1 rfl (Nat.le_of_ble_eq_true rfl) ⟨Nat.le_of_ble_eq_true rfl, Nat.le_of_ble_eq_true rfl⟩ dL_does_256 (fun w H locs hR hW hS => ?_)
    refine lv_iload hx hb dL_does_259 (lv_at hl 7 rfl) ?_
    refine h_icmp_ne (tgt := 291) hx hb (by omega) (by omega) dL_does_261 (by decide) (fun c_261 => by exfalso; omega) (fun c_261 => ?_)
    refine lv_aload_n hx hb dL_does_264 rfl (lv_at hl 2 rfl) ?_
    refine lv_iload hx hb dL_does_265 (lv_at hl 8 rfl) ?_
    refine d_call (As := [.int (iI (dd))]) (rest := []) ⟨hx, hb, hml, hown, hts⟩ (n_usage l D cO dz mi (JJ_make hJ (by omega) hp.1 hp.2 hd.1 hd.2 ⟨by omega, by omega⟩ (by omega)).1 hR hst (by omega) (show dd < (s_make S pp dd (1 + ((v3 / 4) % 1000))).1 11 0 by rw [(mk_11 S pp dd (1 + ((v3 / 4) % 1000))).2]; omega) (mk_usg hw hd.1 hd.2)) (cwV 1 hts gL_does_X3_usage rfl rfl rfl (by decide +kernel) ⟨Nat.le_of_ble_eq_true rfl, Nat.le_of_ble_eq_true rfl⟩) hEn hW hS hR.k0 rfl hl.1 rfl (Nat.le_of_ble_eq_true rfl) ⟨Nat.le_of_ble_eq_true rfl, Nat.le_of_ble_eq_true rfl⟩ dL_does_267 (fun w H locs hR hW hS => ?_)
    refine lv_iload hx hb dL_does_270 (lv_at hl 1 rfl) ?_
    refine lv_iload hx hb dL_does_272 (lv_at hl 0 rfl) ?_
    refine h_iadd hx hb dL_does_274 ?_
    refine h_icmp_ne (tgt := 291) hx hb (by omega) (by omega) dL_does_275 (by decide) (fun c_275 => by exfalso; omega) (fun c_275 => ?_)
    refine lv_aload_n hx hb dL_does_278 rfl (lv_at hl 2 rfl) ?_
    refine lv_iload hx hb dL_does_279 (lv_at hl 7 rfl) ?_
    refine d_call (As := [.int (iI (S.1 11 1))]) (rest := []) ⟨hx, hb, hml, hown, hts⟩ (n_tier l D cO dz mi (JJ_make hJ (by omega) hp.1 hp.2 hd.1 hd.2 ⟨by omega, by omega⟩ (by omega)).1 hR hst (by omega) (show S.1 11 1 < (s_make S pp dd (1 + ((v3 / 4) % 1000))).1 11 1 by rw [(mk_11 S pp dd (1 + ((v3 / 4) % 1000))).1]; omega) (mk_tier S pp dd (1 + ((v3 / 4) % 1000)))) (cwV 1 hts gL_does_X3_tier rfl rfl rfl (by decide +kernel) ⟨Nat.le_of_ble_eq_true rfl, Nat.le_of_ble_eq_true rfl⟩) hEn hW hS hR.k0 rfl hl.1 rfl (Nat.le_of_ble_eq_true rfl) ⟨Nat.le_of_ble_eq_true rfl, Nat.le_of_ble_eq_true rfl⟩ dL_does_281 (fun w H locs hR hW hS => ?_)
    refine h_if_ne (tgt := 291) hx hb (by omega) dL_does_284 (by decide) (fun c_284 => by exfalso; omega) (fun c_284 => ?_)
    refine lv_iconst (v := iI 1) hx hb dL_does_287 rfl ?_
    refine lv_goto (tgt := 292) hx hb dL_does_288 (by decide) ?_
    exact kk (s_make S pp dd (1 + ((v3 / 4) % 1000))) (upd fn (S.1 11 1).toNat (iI 1 <<< (iI dd &&& 31))) _ _ _ _ _ _ _ dL_does_292 (JJ_make hJ (by omega) hp.1 hp.2 hd.1 hd.2 ⟨by omega, by omega⟩ (by omega)) hR hW hS (Nat.le_of_ble_eq_true rfl) (Nat.le_of_ble_eq_true rfl)
  · skip
    refine lv_iconst (v := iI 1) hx hb dL_does_239 rfl ?_
    exact kk S fn _ _ _ _ _ _ _ dL_does_240 (JJ_up hJ (by omega)) hR hW hS (Nat.le_of_ble_eq_true rfl) (Nat.le_of_ble_eq_true rfl)
set_option maxRecDepth 100000 in
set_option maxHeartbeats 4000000 in
theorem does_1b {p : Program} {l : Launch} {e : Env} {s : State} {m : MethodId} {args : Array Value} {below : List Frame} {meth : Method} {c : Code} {Q : State → Prop} {D : va_G} {cO : ClassId} {dz mi : Nat} {A : Nat → Prop} {kI : ClassId} {lk a0 : Nat} (C : DC p l s m args c D cO dz mi A kI lk) {n : Int} {S : HdS} {fn : Nat → Int32} {w : CW} {H : Heap} {locs : List Loc} {v2 v3 nd nf dd ff ii : Int} {pp : Int} (hJ : JJ S fn n) (hn : n < 60) (e0 : S.1 11 0 = nd) (e1 : S.1 11 1 = nf) (h3 : 0 ≤ v3 ∧ v3 ≤ 2147483647) (hd : 0 ≤ dd ∧ dd < nd) (hff : -1 ≤ ff ∧ ff < nf) (hii : ii = 0 ∨ (ii = 1 ∧ 0 ≤ ff ∧ S.2 ff ≠ [])) (hp : 0 ≤ pp ∧ pp < 4) (hc : 0 < S.1 10 pp) (hlt : nf < 30) (hR : ST S w a0) (hW : dW D cO dz A kI lk w fn H) (hS : va_S (dFr A lk) s.heap H locs) (kk : DTail p l e s m args below meth c D cO dz A kI lk a0 Q n) {ls : Array Slot} (hl : lv_has ls 13 [(0, .ref a0), (1, .ref lk), (2, .int (iI v2)), (3, .int (iI v3)), (4, .int (iI nd)), (5, .int (iI nf)), (6, .int (iI dd)), (7, .int (iI ff)), (8, .int (iI ii)), (9, .int (iI pp))]) : W p l e { frames := 9, cells := 120, slots := 3700, locals := 230 } s m args below meth c H locs 8 48 Q (F0 m 196 ls []) := by
  obtain ⟨hx, hb, hml, hown, hts, hEn, hst⟩ := C
  subst e0
  subst e1
  have hw := hJ.1
  have hnn := hw.num
  have hnd := hw.nd
  have hnf := hw.nf
  have hdy := hw.day
  have hw1 : wf (sset S 1 dd (-1)) n := wf_q0 hw ⟨by omega, by omega⟩
  refine lv_aload_n hx hb dL_does_196 rfl (lv_at hl 0 rfl) ?_
  refine lv_iload hx hb dL_does_197 (lv_at hl 6 rfl) ?_
  refine lv_iconst (v := iI (-1)) hx hb dL_does_199 rfl ?_
  refine d_call (As := [.int (iI (dd)), .int (iI (-1))]) (rest := []) ⟨hx, hb, hml, hown, hts⟩ (n_setQuota l D cO dz mi hw hR hst dd (-1) (by omega) (by omega) (sv_setQuota (by omega) (by omega) (by omega) (by omega))) (cwV 2 hts gL_does_X3_setQuota rfl rfl rfl (by decide +kernel) ⟨Nat.le_of_ble_eq_true rfl, Nat.le_of_ble_eq_true rfl⟩) hEn hW hS hR.k0 rfl hl.1 rfl (Nat.le_of_ble_eq_true rfl) ⟨Nat.le_of_ble_eq_true rfl, Nat.le_of_ble_eq_true rfl⟩ dL_does_200 (fun w H locs hR hW hS => ?_)
  refine lv_pop hx hb dL_does_203 rfl ?_
  refine lv_aload_n hx hb dL_does_204 rfl (lv_at hl 0 rfl) ?_
  refine lv_iconst (v := iI 0) hx hb dL_does_205 rfl ?_
  refine lv_iconst (v := iI (-1)) hx hb dL_does_206 rfl ?_
  refine d_call (As := [.int (iI 0), .int (iI (-1))]) (rest := []) ⟨hx, hb, hml, hown, hts⟩ (n_setQuota l D cO dz mi hw1 hR hst 0 (-1) (by omega) (by omega) (sv_setQuota (by omega) (by rw [sset_off (by omega)]; omega) (by omega) (by omega))) (cwV 2 hts gL_does_X3_setQuota rfl rfl rfl (by decide +kernel) ⟨Nat.le_of_ble_eq_true rfl, Nat.le_of_ble_eq_true rfl⟩) hEn hW hS hR.k0 rfl hl.1 rfl (Nat.le_of_ble_eq_true rfl) ⟨Nat.le_of_ble_eq_true rfl, Nat.le_of_ble_eq_true rfl⟩ dL_does_207 (fun w H locs hR hW hS => ?_)
  refine lv_pop hx hb dL_does_210 rfl ?_
  exact W.widen (k := 14) (n := 84) (Nat.le_of_ble_eq_true rfl) (Nat.le_of_ble_eq_true rfl) (does_1c ⟨hx, hb, hml, hown, hts, hEn, hst⟩ (JJ_quota (JJ_quota hJ ⟨by omega, by omega⟩) ⟨by omega, by omega⟩) hn ((sset_off (by omega)).trans (sset_off (by omega))) ((sset_off (by omega)).trans (sset_off (by omega))) h3 hd hff hii hp (show 0 < (sset (sset S 1 dd (-1)) 1 0 (-1)).1 10 pp by rw [sset_off (by omega), sset_off (by omega)]; exact hc) hlt hR hW hS kk (lv_sub hl [0, 1, 2, 3, 4, 5, 6, 7, 8, 9] rfl))
set_option maxRecDepth 100000 in
set_option maxHeartbeats 4000000 in
theorem does_1 {p : Program} {l : Launch} {e : Env} {s : State} {m : MethodId} {args : Array Value} {below : List Frame} {meth : Method} {c : Code} {Q : State → Prop} {D : va_G} {cO : ClassId} {dz mi : Nat} {A : Nat → Prop} {kI : ClassId} {lk a0 : Nat} (C : DC p l s m args c D cO dz mi A kI lk) {n : Int} {S : HdS} {fn : Nat → Int32} {w : CW} {H : Heap} {locs : List Loc} {v2 v3 nd nf dd ff ii : Int} (hJ : JJ S fn n) (hn : n < 60) (e0 : S.1 11 0 = nd) (e1 : S.1 11 1 = nf) (h3 : 0 ≤ v3 ∧ v3 ≤ 2147483647) (hd : 0 ≤ dd ∧ dd < nd) (hff : -1 ≤ ff ∧ ff < nf) (hii : ii = 0 ∨ (ii = 1 ∧ 0 ≤ ff ∧ S.2 ff ≠ [])) (hR : ST S w a0) (hW : dW D cO dz A kI lk w fn H) (hS : va_S (dFr A lk) s.heap H locs) (kk : DTail p l e s m args below meth c D cO dz A kI lk a0 Q n) {ls : Array Slot} (hl : lv_has ls 13 [(0, .ref a0), (1, .ref lk), (2, .int (iI v2)), (3, .int (iI v3)), (4, .int (iI nd)), (5, .int (iI nf)), (6, .int (iI dd)), (7, .int (iI ff)), (8, .int (iI ii))]) : W p l e { frames := 9, cells := 120, slots := 3700, locals := 230 } s m args below meth c H locs 4 24 Q (F0 m 166 ls []) := by
  obtain ⟨hx, hb, hml, hown, hts, hEn, hst⟩ := C
  subst e0
  subst e1
  have hw := hJ.1
  have hnn := hw.num
  have hnd := hw.nd
  have hnf := hw.nf
  have hdy := hw.day
  have hp : 0 ≤ v3 % 4 ∧ v3 % 4 < 4 := ⟨by omega, by omega⟩
  have hco := hw.coi hp.1 hp.2
  refine lv_iload hx hb dL_does_166 (lv_at hl 5 rfl) ?_
  refine lv_bipush (v := iI 30) hx hb dL_does_168 (by decide) ?_
  refine h_icmp_ge (tgt := 293) hx hb (by omega) (by omega) dL_does_170 (by decide) (fun c_170 => ?_) (fun c_170 => ?_)
  · skip
    refine lv_iconst (v := iI 1) hx hb dL_does_293 rfl ?_
    exact kk S fn _ _ _ _ _ _ _ dL_does_294 (JJ_up hJ (by omega)) hR hW hS (Nat.le_of_ble_eq_true rfl) (Nat.le_of_ble_eq_true rfl)
  · skip
    refine lv_iload_n hx hb dL_does_173 rfl (lv_at hl 3 rfl) ?_
    refine lv_iconst (v := iI 4) hx hb dL_does_174 rfl ?_
    refine h_irem hx hb (by omega) (by omega) (by omega) (by omega) dL_does_175 ?_
    refine lv_istore (lv' := [(9, .int (iI ((v3 % 4)))), (0, .ref a0), (1, .ref lk), (2, .int (iI (v2))), (3, .int (iI (v3))), (4, .int (iI (S.1 11 0))), (5, .int (iI (S.1 11 1))), (6, .int (iI (dd))), (7, .int (iI (ff))), (8, .int (iI (ii)))]) hx hb dL_does_176 hl (by decide) rfl (fun ls hl => ?_)
    refine lv_aload_n hx hb dL_does_178 rfl (lv_at hl 1 rfl) ?_
    refine lv_iload hx hb dL_does_179 (lv_at hl 0 rfl) ?_
    refine d_call (As := [.int (iI ((v3 % 4)))]) (rest := []) ⟨hx, hb, hml, hown, hts⟩ (n_coins l D cO dz mi hw hR hst (by omega) (by omega) rfl) (cwV 1 hts gL_does_X3_coins rfl rfl rfl (by decide +kernel) ⟨Nat.le_of_ble_eq_true rfl, Nat.le_of_ble_eq_true rfl⟩) hEn hW hS hR.k0 rfl hl.1 rfl (Nat.le_of_ble_eq_true rfl) ⟨Nat.le_of_ble_eq_true rfl, Nat.le_of_ble_eq_true rfl⟩ dL_does_181 (fun w H locs hR hW hS => ?_)
    refine h_if_ne (tgt := 196) hx hb (by omega) dL_does_184 (by decide) (fun c_184 => ?_) (fun c_184 => ?_)
    · skip
      exact W.widen (k := 8) (n := 48) (Nat.le_of_ble_eq_true rfl) (Nat.le_of_ble_eq_true rfl) (does_1b ⟨hx, hb, hml, hown, hts, hEn, hst⟩ hJ hn rfl rfl h3 hd hff hii hp (show 0 < S.1 10 (v3 % 4) by omega) (by omega) hR hW hS kk (lv_sub hl [1, 2, 3, 4, 5, 6, 7, 8, 9, 0] rfl))
    · skip
      refine lv_aload_n hx hb dL_does_187 rfl (lv_at hl 1 rfl) ?_
      refine lv_iload hx hb dL_does_188 (lv_at hl 0 rfl) ?_
      refine lv_bipush (v := iI 50) hx hb dL_does_190 (by decide) ?_
      refine d_call (As := [.int (iI ((v3 % 4))), .int (iI 50)]) (rest := []) ⟨hx, hb, hml, hown, hts⟩ (n_fund l D cO dz mi hw hR hst (v3 % 4) 50 (by omega) (by omega) (sv_fund (by omega) (by omega) (by omega) (by omega) (by omega))) (cwV 2 hts gL_does_X3_fund rfl rfl rfl (by decide +kernel) ⟨Nat.le_of_ble_eq_true rfl, Nat.le_of_ble_eq_true rfl⟩) hEn hW hS hR.k0 rfl hl.1 rfl (Nat.le_of_ble_eq_true rfl) ⟨Nat.le_of_ble_eq_true rfl, Nat.le_of_ble_eq_true rfl⟩ dL_does_192 (fun w H locs hR hW hS => ?_)
      refine lv_pop hx hb dL_does_195 rfl ?_
      exact W.widen (k := 8) (n := 48) (Nat.le_of_ble_eq_true rfl) (Nat.le_of_ble_eq_true rfl) (does_1b ⟨hx, hb, hml, hown, hts, hEn, hst⟩ (JJ_coin hJ ⟨by omega, by omega⟩) hn (sset_off (by omega)) (sset_off (by omega)) h3 hd hff hii hp (show 0 < (sset S 10 (v3 % 4) (S.1 10 (v3 % 4) + 50)).1 10 (v3 % 4) by rw [sset_at]; omega) (by omega) hR hW hS kk (lv_sub hl [1, 2, 3, 4, 5, 6, 7, 8, 9, 0] rfl))
