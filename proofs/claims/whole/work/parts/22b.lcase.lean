/-! THE LAW, CASE BY CASE -/
def LCtx (p : Program) (l : Launch) (s : State) (m : MethodId) (c : Code) (b L : Nat) (xs : Nat → Int32) (D : va_G) (cO : ClassId) (dz mi : Nat) (kI cJ : ClassId) (ad : Nat → Nat) (ob : Nat) : Prop := p.tables.exec = Jvm.exec ∧ c.code = code ∧ c.maxLocals = 7 ∧ s.vm.findClass RL = some m.cls ∧ (∀ w ∈ wsL_law, w.before #[Value.ref b] s = true) ∧ va_X b L xs s s.heap ∧ b < s.heap.size ∧ L ≤ 2048 ∧ LEnv D cO dz mi kI cJ s ∧ LFix D kI s.heap.size ad ob ∧ l.stackTraces = false
def LTail (p : Program) (l : Launch) (e : Env) (s : State) (m : MethodId) (b : Nat) (below : List Frame) (meth : Method) (c : Code) (D : va_G) (cO : ClassId) (dz : Nat) (kI cJ : ClassId) (ad : Nat → Nat) (ob a0 : Nat) (Q : State → Prop) (n i : Int) (cells slots : Nat) : Prop := ∀ (H' : Heap) (ls' : Array Slot), LInv D cO dz kI cJ s ad ob a0 (n + 1) H' → lv_has ls' 7 [(0, .ref b), (1, .ref a0), (2, .ref (ad 11)), (3, .ref ob), (4, .int (iI i))] → W p l e room_1 s m #[Value.ref b] below meth c H' [] (cells + 9) (slots + 3033) Q (F0 m 1411 ls' [])
set_option maxRecDepth 100000 in
set_option maxHeartbeats 4000000 in
theorem law_addDirectory {p : Program} {l : Launch} {e : Env} {s : State} {m : MethodId} {below : List Frame} {meth : Method} {c : Code} {Q : State → Prop} {b L : Nat} {xs : Nat → Int32} {D : va_G} {cO : ClassId} {dz mi : Nat} {kI cJ : ClassId} {ad : Nat → Nat} {ob a0 : Nat} (C : LCtx p l s m c b L xs D cO dz mi kI cJ ad ob) {n i : Int} {H : Heap} {cells slots : Nat} {ls : Array Slot} (hinv : LInv D cO dz kI cJ s ad ob a0 n H) (hn : n < 512) (h0 : 0 ≤ i) (h1 : i + 4 ≤ L) (hc : cells + 9 ≤ 601024) (hs : slots + 3033 ≤ 7293034) (kk : LTail p l e s m b below meth c D cO dz kI cJ ad ob a0 Q n i cells slots) (hl : lv_has ls 7 [(0, .ref b), (1, .ref a0), (2, .ref (ad 11)), (3, .ref ob), (4, .int (iI i))]) : W p l e room_1 s m #[Value.ref b] below meth c H [] cells slots Q (F0 m 144 ls []) := by
  obtain ⟨hx, hb, hml, hown, hts, hX, hbl, hL, hEn, hFx, hst⟩ := C
  obtain ⟨S, w, g, T, u, f, hw, hR, rfl, hM, hLW, hS⟩ := hinv
  obtain ⟨u0, hDM⟩ := hFx.2.2.2
  refine lv_aload_n hx hb dL_law_144 rfl (lv_at hl 1 rfl) ?_
  refine lv_aload_n hx hb dL_law_145 rfl (lv_at hl 0 rfl) ?_
  refine lv_iload hx hb dL_law_146 (lv_at hl 4 rfl) ?_
  refine lv_iconst (v := iI 1) hx hb dL_law_148 rfl ?_
  refine h_iadd hx hb dL_law_149 ?_
  refine l_sld hx hb hX hbl hS hL (z := i + 1) (by omega) (by omega) dL_law_150 ?_
  refine lv_aload_n hx hb dL_law_151 rfl (lv_at hl 0 rfl) ?_
  refine lv_iload hx hb dL_law_152 (lv_at hl 4 rfl) ?_
  refine lv_iconst (v := iI 2) hx hb dL_law_154 rfl ?_
  refine h_iadd hx hb dL_law_155 ?_
  refine l_sld hx hb hX hbl hS hL (z := i + 2) (by omega) (by omega) dL_law_156 ?_
  refine lv_aload_n hx hb dL_law_157 rfl (lv_at hl 3 rfl) ?_
  refine l_wrap (As := [.ref (g 0 0), .int (iI ((xs (i + 1).toNat).toInt)), .int (iI ((xs (i + 2).toNat).toInt)), .ref ob]) (rest := []) ⟨hx, hb, hml, hown, hts⟩ (c_L_addDirectory l D cO dz mi hw hR hst cJ ob f ((xs (i + 1).toNat).toInt) ((xs (i + 2).toNat).toInt) (iI_inR _) (iI_inR _)) (vx_cwSW 4 hts gL_law_L_addDirectory rfl rfl rfl (by decide +kernel) ⟨Nat.le_of_ble_eq_true rfl, Nat.le_of_ble_eq_true rfl⟩) hEn hFx hLW hS rfl hl.1 rfl (Nat.le_of_ble_eq_true rfl) ⟨by show cells + 5 ≤ 601024; omega, by show slots + 1028 ≤ 7293034; omega⟩ dL_law_158 (fun w1 f1 H hrel hans hLW hS => ?_)
  obtain ⟨g1, T1, hg1, hR1⟩ := hrel
  have hq9 : 0 ≤ (sp_addDirectory S ((xs (i + 1).toNat).toInt) ((xs (i + 2).toNat).toInt)).1 ∧ (sp_addDirectory S ((xs (i + 1).toNat).toInt) ((xs (i + 2).toNat).toInt)).1 ≤ 3 := by rcases spn_addDirectory (S := S) ((xs (i + 1).toNat).toInt) ((xs (i + 2).toNat).toInt) with h9 | ⟨h9, h8, -⟩ <;> omega
  refine lv_istore (lv' := [(5, .int (iI (sp_addDirectory S ((xs (i + 1).toNat).toInt) ((xs (i + 2).toNat).toInt)).1)), (0, .ref b), (1, .ref (g 0 0)), (2, .ref (ad 11)), (3, .ref ob), (4, .int (iI i))]) hx hb dL_law_161 hl (by decide) rfl (fun ls hl => ?_)
  refine lv_aload_n hx hb dL_law_163 rfl (lv_at hl 3 rfl) ?_
  refine lv_aload_n hx hb dL_law_164 rfl (lv_at hl 1 rfl) ?_
  refine lv_iload hx hb dL_law_165 (lv_at hl 5 rfl) ?_
  refine lv_iconst (v := iI 1) hx hb dL_law_167 rfl ?_
  refine h_iadd hx hb dL_law_168 ?_
  refine l_sld hx hb hX hbl hS hL (z := i + 1) (by omega) (by omega) dL_law_169 ?_
  refine lv_aload_n hx hb dL_law_170 rfl (lv_at hl 1 rfl) ?_
  refine lv_iload hx hb dL_law_171 (lv_at hl 5 rfl) ?_
  refine lv_iconst (v := iI 2) hx hb dL_law_173 rfl ?_
  refine h_iadd hx hb dL_law_174 ?_
  refine l_sld hx hb hX hbl hS hL (z := i + 2) (by omega) (by omega) dL_law_175 ?_
  refine l_mod (As := [.int (iI ((xs (i + 1).toNat).toInt)), .int (iI ((xs (i + 2).toNat).toInt))]) (rest := []) ⟨hx, hb, hml, hown, hts⟩ (c_X4_addDirectory l D ad kI hDM hw u hM ((xs (i + 1).toNat).toInt) ((xs (i + 2).toNat).toInt) (iI_inR _) (iI_inR _)) (cwV 2 hts gL_law_X4_addDirectory rfl rfl rfl (by decide +kernel) ⟨Nat.le_of_ble_eq_true rfl, Nat.le_of_ble_eq_true rfl⟩) hEn hFx hLW hS rfl hl.1 rfl (Nat.le_of_ble_eq_true rfl) ⟨by show cells + 5 ≤ 601024; omega, by show slots + 1028 ≤ 7293034; omega⟩ dL_law_176 (fun r u1 H hp hLW hS => ?_)
  obtain ⟨rfl, ht, hM1⟩ := hp
  refine lv_istore (lv' := [(6, .int (iI (sp_addDirectory S ((xs (i + 1).toNat).toInt) ((xs (i + 2).toNat).toInt)).2.1)), (5, .int (iI (sp_addDirectory S ((xs (i + 1).toNat).toInt) ((xs (i + 2).toNat).toInt)).1)), (0, .ref b), (1, .ref (g 0 0)), (2, .ref (ad 11)), (3, .ref ob), (4, .int (iI i))]) hx hb dL_law_179 hl (by decide) rfl (fun ls hl => ?_)
  refine lv_aload_n hx hb dL_law_181 rfl (lv_at hl 4 rfl) ?_
  refine l_mod (As := []) (rest := []) ⟨hx, hb, hml, hown, hts⟩ (c_X4_thrown l D ad kI hDM u1 (sp_addDirectory S ((xs (i + 1).toNat).toInt) ((xs (i + 2).toNat).toInt)).1 ht) (cwV 0 hts gL_law_X4_thrown rfl rfl rfl (by decide +kernel) ⟨Nat.le_of_ble_eq_true rfl, Nat.le_of_ble_eq_true rfl⟩) hEn hFx hLW hS rfl hl.1 rfl (Nat.le_of_ble_eq_true rfl) ⟨by show cells + 5 ≤ 601024; omega, by show slots + 1028 ≤ 7293034; omega⟩ dL_law_182 (fun r u2 H hp hLW hS => ?_)
  obtain ⟨rfl, rfl⟩ := hp
  refine lv_iload hx hb dL_law_185 (lv_at hl 1 rfl) ?_
  refine h_icmp_eq (tgt := 192) hx hb (a := (sp_addDirectory S ((xs (i + 1).toNat).toInt) ((xs (i + 2).toNat).toInt)).1) (b := (sp_addDirectory S ((xs (i + 1).toNat).toInt) ((xs (i + 2).toNat).toInt)).1) ⟨by omega, by omega⟩ ⟨by omega, by omega⟩ dL_law_187 (by decide) (fun _ => ?_) (fun c9 => absurd rfl c9)
  refine lv_iload hx hb dL_law_192 (lv_at hl 1 rfl) ?_
  refine h_if_ne (tgt := 209) hx hb (a := (sp_addDirectory S ((xs (i + 1).toNat).toInt) ((xs (i + 2).toNat).toInt)).1) ⟨by omega, by omega⟩ dL_law_194 (by decide) (fun c8 => ?_) (fun c8 => ?_)
  · skip
    refine lv_goto (tgt := 1411) hx hb dL_law_209 (by decide) ?_
    exact W.widen (k := cells + 9) (n := slots + 3033) (by omega) (by omega) (kk _ ls ⟨(sp_addDirectory S ((xs (i + 1).toNat).toInt) ((xs (i + 2).toNat).toInt)).2.2, w1, g1, T1, u1, f1, wfs_addDirectory hw hn ((xs (i + 1).toNat).toInt) ((xs (i + 2).toNat).toInt), hR1, hg1, hM1, hLW, hS⟩ (lv_sub hl [2, 3, 4, 5, 6] rfl))
  · skip
    refine lv_aload_n hx hb dL_law_197 rfl (lv_at hl 5 rfl) ?_
    refine lv_iconst (v := iI 0) hx hb dL_law_198 rfl ?_
    refine l_lald hx hb hEn hLW (hans c8) dL_law_199 ?_
    refine lv_iload hx hb dL_law_200 (lv_at hl 0 rfl) ?_
    refine lv_i2l (v := (iI (sp_addDirectory S ((xs (i + 1).toNat).toInt) ((xs (i + 2).toNat).toInt)).2.1).toInt64) hx hb dL_law_202 rfl ?_
    refine W.lcmp hx hb dL_law_203 ?_
    refine h_top hx (y := iI 0) (cmp_same _) ?_
    refine h_if_eq (tgt := 209) hx hb (a := 0) ⟨by omega, by omega⟩ dL_law_204 (by decide) (fun _ => ?_) (fun c7 => absurd rfl c7)
    refine lv_goto (tgt := 1411) hx hb dL_law_209 (by decide) ?_
    exact W.widen (k := cells + 9) (n := slots + 3033) (by omega) (by omega) (kk _ ls ⟨(sp_addDirectory S ((xs (i + 1).toNat).toInt) ((xs (i + 2).toNat).toInt)).2.2, w1, g1, T1, u1, f1, wfs_addDirectory hw hn ((xs (i + 1).toNat).toInt) ((xs (i + 2).toNat).toInt), hR1, hg1, hM1, hLW, hS⟩ (lv_sub hl [2, 3, 4, 5, 6] rfl))

set_option maxRecDepth 100000 in
set_option maxHeartbeats 4000000 in
theorem law_setQuota {p : Program} {l : Launch} {e : Env} {s : State} {m : MethodId} {below : List Frame} {meth : Method} {c : Code} {Q : State → Prop} {b L : Nat} {xs : Nat → Int32} {D : va_G} {cO : ClassId} {dz mi : Nat} {kI cJ : ClassId} {ad : Nat → Nat} {ob a0 : Nat} (C : LCtx p l s m c b L xs D cO dz mi kI cJ ad ob) {n i : Int} {H : Heap} {cells slots : Nat} {ls : Array Slot} (hinv : LInv D cO dz kI cJ s ad ob a0 n H) (hn : n < 512) (h0 : 0 ≤ i) (h1 : i + 4 ≤ L) (hc : cells + 9 ≤ 601024) (hs : slots + 3033 ≤ 7293034) (kk : LTail p l e s m b below meth c D cO dz kI cJ ad ob a0 Q n i cells slots) (hl : lv_has ls 7 [(0, .ref b), (1, .ref a0), (2, .ref (ad 11)), (3, .ref ob), (4, .int (iI i))]) : W p l e room_1 s m #[Value.ref b] below meth c H [] cells slots Q (F0 m 212 ls []) := by
  obtain ⟨hx, hb, hml, hown, hts, hX, hbl, hL, hEn, hFx, hst⟩ := C
  obtain ⟨S, w, g, T, u, f, hw, hR, rfl, hM, hLW, hS⟩ := hinv
  obtain ⟨u0, hDM⟩ := hFx.2.2.2
  refine lv_aload_n hx hb dL_law_212 rfl (lv_at hl 1 rfl) ?_
  refine lv_aload_n hx hb dL_law_213 rfl (lv_at hl 0 rfl) ?_
  refine lv_iload hx hb dL_law_214 (lv_at hl 4 rfl) ?_
  refine lv_iconst (v := iI 1) hx hb dL_law_216 rfl ?_
  refine h_iadd hx hb dL_law_217 ?_
  refine l_sld hx hb hX hbl hS hL (z := i + 1) (by omega) (by omega) dL_law_218 ?_
  refine lv_aload_n hx hb dL_law_219 rfl (lv_at hl 0 rfl) ?_
  refine lv_iload hx hb dL_law_220 (lv_at hl 4 rfl) ?_
  refine lv_iconst (v := iI 2) hx hb dL_law_222 rfl ?_
  refine h_iadd hx hb dL_law_223 ?_
  refine l_sld hx hb hX hbl hS hL (z := i + 2) (by omega) (by omega) dL_law_224 ?_
  refine lv_aload_n hx hb dL_law_225 rfl (lv_at hl 3 rfl) ?_
  refine l_wrap (As := [.ref (g 0 0), .int (iI ((xs (i + 1).toNat).toInt)), .int (iI ((xs (i + 2).toNat).toInt)), .ref ob]) (rest := []) ⟨hx, hb, hml, hown, hts⟩ (c_L_setQuota l D cO dz mi hw hR hst cJ ob f ((xs (i + 1).toNat).toInt) ((xs (i + 2).toNat).toInt) (iI_inR _) (iI_inR _)) (vx_cwSW 4 hts gL_law_L_setQuota rfl rfl rfl (by decide +kernel) ⟨Nat.le_of_ble_eq_true rfl, Nat.le_of_ble_eq_true rfl⟩) hEn hFx hLW hS rfl hl.1 rfl (Nat.le_of_ble_eq_true rfl) ⟨by show cells + 3 ≤ 601024; omega, by show slots + 18 ≤ 7293034; omega⟩ dL_law_226 (fun w1 f1 H hrel hans hLW hS => ?_)
  obtain ⟨g1, T1, hg1, hR1⟩ := hrel
  have hq9 : 0 ≤ (sp_setQuota S ((xs (i + 1).toNat).toInt) ((xs (i + 2).toNat).toInt)).1 ∧ (sp_setQuota S ((xs (i + 1).toNat).toInt) ((xs (i + 2).toNat).toInt)).1 ≤ 3 := by rcases spn_setQuota (S := S) ((xs (i + 1).toNat).toInt) ((xs (i + 2).toNat).toInt) with h9 | ⟨h9, h8, -⟩ <;> omega
  refine lv_istore (lv' := [(5, .int (iI (sp_setQuota S ((xs (i + 1).toNat).toInt) ((xs (i + 2).toNat).toInt)).1)), (0, .ref b), (1, .ref (g 0 0)), (2, .ref (ad 11)), (3, .ref ob), (4, .int (iI i))]) hx hb dL_law_229 hl (by decide) rfl (fun ls hl => ?_)
  refine lv_aload_n hx hb dL_law_231 rfl (lv_at hl 3 rfl) ?_
  refine lv_aload_n hx hb dL_law_232 rfl (lv_at hl 1 rfl) ?_
  refine lv_iload hx hb dL_law_233 (lv_at hl 5 rfl) ?_
  refine lv_iconst (v := iI 1) hx hb dL_law_235 rfl ?_
  refine h_iadd hx hb dL_law_236 ?_
  refine l_sld hx hb hX hbl hS hL (z := i + 1) (by omega) (by omega) dL_law_237 ?_
  refine lv_aload_n hx hb dL_law_238 rfl (lv_at hl 1 rfl) ?_
  refine lv_iload hx hb dL_law_239 (lv_at hl 5 rfl) ?_
  refine lv_iconst (v := iI 2) hx hb dL_law_241 rfl ?_
  refine h_iadd hx hb dL_law_242 ?_
  refine l_sld hx hb hX hbl hS hL (z := i + 2) (by omega) (by omega) dL_law_243 ?_
  refine l_mod (As := [.int (iI ((xs (i + 1).toNat).toInt)), .int (iI ((xs (i + 2).toNat).toInt))]) (rest := []) ⟨hx, hb, hml, hown, hts⟩ (c_X4_setQuota l D ad kI hDM hw u hM ((xs (i + 1).toNat).toInt) ((xs (i + 2).toNat).toInt) (iI_inR _) (iI_inR _)) (cwV 2 hts gL_law_X4_setQuota rfl rfl rfl (by decide +kernel) ⟨Nat.le_of_ble_eq_true rfl, Nat.le_of_ble_eq_true rfl⟩) hEn hFx hLW hS rfl hl.1 rfl (Nat.le_of_ble_eq_true rfl) ⟨by show cells + 3 ≤ 601024; omega, by show slots + 18 ≤ 7293034; omega⟩ dL_law_244 (fun r u1 H hp hLW hS => ?_)
  obtain ⟨rfl, ht, hM1⟩ := hp
  refine lv_istore (lv' := [(6, .int (iI (sp_setQuota S ((xs (i + 1).toNat).toInt) ((xs (i + 2).toNat).toInt)).2.1)), (5, .int (iI (sp_setQuota S ((xs (i + 1).toNat).toInt) ((xs (i + 2).toNat).toInt)).1)), (0, .ref b), (1, .ref (g 0 0)), (2, .ref (ad 11)), (3, .ref ob), (4, .int (iI i))]) hx hb dL_law_247 hl (by decide) rfl (fun ls hl => ?_)
  refine lv_aload_n hx hb dL_law_249 rfl (lv_at hl 4 rfl) ?_
  refine l_mod (As := []) (rest := []) ⟨hx, hb, hml, hown, hts⟩ (c_X4_thrown l D ad kI hDM u1 (sp_setQuota S ((xs (i + 1).toNat).toInt) ((xs (i + 2).toNat).toInt)).1 ht) (cwV 0 hts gL_law_X4_thrown rfl rfl rfl (by decide +kernel) ⟨Nat.le_of_ble_eq_true rfl, Nat.le_of_ble_eq_true rfl⟩) hEn hFx hLW hS rfl hl.1 rfl (Nat.le_of_ble_eq_true rfl) ⟨by show cells + 3 ≤ 601024; omega, by show slots + 18 ≤ 7293034; omega⟩ dL_law_250 (fun r u2 H hp hLW hS => ?_)
  obtain ⟨rfl, rfl⟩ := hp
  refine lv_iload hx hb dL_law_253 (lv_at hl 1 rfl) ?_
  refine h_icmp_eq (tgt := 260) hx hb (a := (sp_setQuota S ((xs (i + 1).toNat).toInt) ((xs (i + 2).toNat).toInt)).1) (b := (sp_setQuota S ((xs (i + 1).toNat).toInt) ((xs (i + 2).toNat).toInt)).1) ⟨by omega, by omega⟩ ⟨by omega, by omega⟩ dL_law_255 (by decide) (fun _ => ?_) (fun c9 => absurd rfl c9)
  refine lv_iload hx hb dL_law_260 (lv_at hl 1 rfl) ?_
  refine h_if_ne (tgt := 277) hx hb (a := (sp_setQuota S ((xs (i + 1).toNat).toInt) ((xs (i + 2).toNat).toInt)).1) ⟨by omega, by omega⟩ dL_law_262 (by decide) (fun c8 => ?_) (fun c8 => ?_)
  · skip
    refine lv_goto (tgt := 1411) hx hb dL_law_277 (by decide) ?_
    exact W.widen (k := cells + 9) (n := slots + 3033) (by omega) (by omega) (kk _ ls ⟨(sp_setQuota S ((xs (i + 1).toNat).toInt) ((xs (i + 2).toNat).toInt)).2.2, w1, g1, T1, u1, f1, wfs_setQuota hw hn ((xs (i + 1).toNat).toInt) ((xs (i + 2).toNat).toInt), hR1, hg1, hM1, hLW, hS⟩ (lv_sub hl [2, 3, 4, 5, 6] rfl))
  · skip
    refine lv_aload_n hx hb dL_law_265 rfl (lv_at hl 5 rfl) ?_
    refine lv_iconst (v := iI 0) hx hb dL_law_266 rfl ?_
    refine l_lald hx hb hEn hLW (hans c8) dL_law_267 ?_
    refine lv_iload hx hb dL_law_268 (lv_at hl 0 rfl) ?_
    refine lv_i2l (v := (iI (sp_setQuota S ((xs (i + 1).toNat).toInt) ((xs (i + 2).toNat).toInt)).2.1).toInt64) hx hb dL_law_270 rfl ?_
    refine W.lcmp hx hb dL_law_271 ?_
    refine h_top hx (y := iI 0) (cmp_same _) ?_
    refine h_if_eq (tgt := 277) hx hb (a := 0) ⟨by omega, by omega⟩ dL_law_272 (by decide) (fun _ => ?_) (fun c7 => absurd rfl c7)
    refine lv_goto (tgt := 1411) hx hb dL_law_277 (by decide) ?_
    exact W.widen (k := cells + 9) (n := slots + 3033) (by omega) (by omega) (kk _ ls ⟨(sp_setQuota S ((xs (i + 1).toNat).toInt) ((xs (i + 2).toNat).toInt)).2.2, w1, g1, T1, u1, f1, wfs_setQuota hw hn ((xs (i + 1).toNat).toInt) ((xs (i + 2).toNat).toInt), hR1, hg1, hM1, hLW, hS⟩ (lv_sub hl [2, 3, 4, 5, 6] rfl))

set_option maxRecDepth 100000 in
set_option maxHeartbeats 4000000 in
theorem law_make {p : Program} {l : Launch} {e : Env} {s : State} {m : MethodId} {below : List Frame} {meth : Method} {c : Code} {Q : State → Prop} {b L : Nat} {xs : Nat → Int32} {D : va_G} {cO : ClassId} {dz mi : Nat} {kI cJ : ClassId} {ad : Nat → Nat} {ob a0 : Nat} (C : LCtx p l s m c b L xs D cO dz mi kI cJ ad ob) {n i : Int} {H : Heap} {cells slots : Nat} {ls : Array Slot} (hinv : LInv D cO dz kI cJ s ad ob a0 n H) (hn : n < 512) (h0 : 0 ≤ i) (h1 : i + 4 ≤ L) (hc : cells + 9 ≤ 601024) (hs : slots + 3033 ≤ 7293034) (kk : LTail p l e s m b below meth c D cO dz kI cJ ad ob a0 Q n i cells slots) (hl : lv_has ls 7 [(0, .ref b), (1, .ref a0), (2, .ref (ad 11)), (3, .ref ob), (4, .int (iI i))]) : W p l e room_1 s m #[Value.ref b] below meth c H [] cells slots Q (F0 m 280 ls []) := by
  obtain ⟨hx, hb, hml, hown, hts, hX, hbl, hL, hEn, hFx, hst⟩ := C
  obtain ⟨S, w, g, T, u, f, hw, hR, rfl, hM, hLW, hS⟩ := hinv
  obtain ⟨u0, hDM⟩ := hFx.2.2.2
  refine lv_aload_n hx hb dL_law_280 rfl (lv_at hl 1 rfl) ?_
  refine lv_aload_n hx hb dL_law_281 rfl (lv_at hl 0 rfl) ?_
  refine lv_iload hx hb dL_law_282 (lv_at hl 4 rfl) ?_
  refine lv_iconst (v := iI 1) hx hb dL_law_284 rfl ?_
  refine h_iadd hx hb dL_law_285 ?_
  refine l_sld hx hb hX hbl hS hL (z := i + 1) (by omega) (by omega) dL_law_286 ?_
  refine lv_aload_n hx hb dL_law_287 rfl (lv_at hl 0 rfl) ?_
  refine lv_iload hx hb dL_law_288 (lv_at hl 4 rfl) ?_
  refine lv_iconst (v := iI 2) hx hb dL_law_290 rfl ?_
  refine h_iadd hx hb dL_law_291 ?_
  refine l_sld hx hb hX hbl hS hL (z := i + 2) (by omega) (by omega) dL_law_292 ?_
  refine lv_aload_n hx hb dL_law_293 rfl (lv_at hl 0 rfl) ?_
  refine lv_iload hx hb dL_law_294 (lv_at hl 4 rfl) ?_
  refine lv_iconst (v := iI 3) hx hb dL_law_296 rfl ?_
  refine h_iadd hx hb dL_law_297 ?_
  refine l_sld hx hb hX hbl hS hL (z := i + 3) (by omega) (by omega) dL_law_298 ?_
  refine lv_aload_n hx hb dL_law_299 rfl (lv_at hl 3 rfl) ?_
  refine l_wrap (As := [.ref (g 0 0), .int (iI ((xs (i + 1).toNat).toInt)), .int (iI ((xs (i + 2).toNat).toInt)), .int (iI ((xs (i + 3).toNat).toInt)), .ref ob]) (rest := []) ⟨hx, hb, hml, hown, hts⟩ (c_L_make l D cO dz mi hw hR hst cJ ob f ((xs (i + 1).toNat).toInt) ((xs (i + 2).toNat).toInt) ((xs (i + 3).toNat).toInt) (iI_inR _) (iI_inR _) (iI_inR _)) (vx_cwSW 5 hts gL_law_L_make rfl rfl rfl (by decide +kernel) ⟨Nat.le_of_ble_eq_true rfl, Nat.le_of_ble_eq_true rfl⟩) hEn hFx hLW hS rfl hl.1 rfl (Nat.le_of_ble_eq_true rfl) ⟨by show cells + 9 ≤ 601024; omega, by show slots + 3033 ≤ 7293034; omega⟩ dL_law_300 (fun w1 f1 H hrel hans hLW hS => ?_)
  obtain ⟨g1, T1, hg1, hR1⟩ := hrel
  have hq9 : 0 ≤ (sp_make S ((xs (i + 1).toNat).toInt) ((xs (i + 2).toNat).toInt) ((xs (i + 3).toNat).toInt)).1 ∧ (sp_make S ((xs (i + 1).toNat).toInt) ((xs (i + 2).toNat).toInt) ((xs (i + 3).toNat).toInt)).1 ≤ 3 := by rcases spn_make (S := S) ((xs (i + 1).toNat).toInt) ((xs (i + 2).toNat).toInt) ((xs (i + 3).toNat).toInt) with h9 | ⟨h9, h8, -⟩ <;> omega
  refine lv_istore (lv' := [(5, .int (iI (sp_make S ((xs (i + 1).toNat).toInt) ((xs (i + 2).toNat).toInt) ((xs (i + 3).toNat).toInt)).1)), (0, .ref b), (1, .ref (g 0 0)), (2, .ref (ad 11)), (3, .ref ob), (4, .int (iI i))]) hx hb dL_law_303 hl (by decide) rfl (fun ls hl => ?_)
  refine lv_aload_n hx hb dL_law_305 rfl (lv_at hl 3 rfl) ?_
  refine lv_aload_n hx hb dL_law_306 rfl (lv_at hl 1 rfl) ?_
  refine lv_iload hx hb dL_law_307 (lv_at hl 5 rfl) ?_
  refine lv_iconst (v := iI 1) hx hb dL_law_309 rfl ?_
  refine h_iadd hx hb dL_law_310 ?_
  refine l_sld hx hb hX hbl hS hL (z := i + 1) (by omega) (by omega) dL_law_311 ?_
  refine lv_aload_n hx hb dL_law_312 rfl (lv_at hl 1 rfl) ?_
  refine lv_iload hx hb dL_law_313 (lv_at hl 5 rfl) ?_
  refine lv_iconst (v := iI 2) hx hb dL_law_315 rfl ?_
  refine h_iadd hx hb dL_law_316 ?_
  refine l_sld hx hb hX hbl hS hL (z := i + 2) (by omega) (by omega) dL_law_317 ?_
  refine lv_aload_n hx hb dL_law_318 rfl (lv_at hl 1 rfl) ?_
  refine lv_iload hx hb dL_law_319 (lv_at hl 5 rfl) ?_
  refine lv_iconst (v := iI 3) hx hb dL_law_321 rfl ?_
  refine h_iadd hx hb dL_law_322 ?_
  refine l_sld hx hb hX hbl hS hL (z := i + 3) (by omega) (by omega) dL_law_323 ?_
  refine l_mod (As := [.int (iI ((xs (i + 1).toNat).toInt)), .int (iI ((xs (i + 2).toNat).toInt)), .int (iI ((xs (i + 3).toNat).toInt))]) (rest := []) ⟨hx, hb, hml, hown, hts⟩ (c_X4_make l D ad kI hDM hw u hM ((xs (i + 1).toNat).toInt) ((xs (i + 2).toNat).toInt) ((xs (i + 3).toNat).toInt) (iI_inR _) (iI_inR _) (iI_inR _)) (cwV 3 hts gL_law_X4_make rfl rfl rfl (by decide +kernel) ⟨Nat.le_of_ble_eq_true rfl, Nat.le_of_ble_eq_true rfl⟩) hEn hFx hLW hS rfl hl.1 rfl (Nat.le_of_ble_eq_true rfl) ⟨by show cells + 9 ≤ 601024; omega, by show slots + 3033 ≤ 7293034; omega⟩ dL_law_324 (fun r u1 H hp hLW hS => ?_)
  obtain ⟨rfl, ht, hM1⟩ := hp
  refine lv_istore (lv' := [(6, .int (iI (sp_make S ((xs (i + 1).toNat).toInt) ((xs (i + 2).toNat).toInt) ((xs (i + 3).toNat).toInt)).2.1)), (5, .int (iI (sp_make S ((xs (i + 1).toNat).toInt) ((xs (i + 2).toNat).toInt) ((xs (i + 3).toNat).toInt)).1)), (0, .ref b), (1, .ref (g 0 0)), (2, .ref (ad 11)), (3, .ref ob), (4, .int (iI i))]) hx hb dL_law_327 hl (by decide) rfl (fun ls hl => ?_)
  refine lv_aload_n hx hb dL_law_329 rfl (lv_at hl 4 rfl) ?_
  refine l_mod (As := []) (rest := []) ⟨hx, hb, hml, hown, hts⟩ (c_X4_thrown l D ad kI hDM u1 (sp_make S ((xs (i + 1).toNat).toInt) ((xs (i + 2).toNat).toInt) ((xs (i + 3).toNat).toInt)).1 ht) (cwV 0 hts gL_law_X4_thrown rfl rfl rfl (by decide +kernel) ⟨Nat.le_of_ble_eq_true rfl, Nat.le_of_ble_eq_true rfl⟩) hEn hFx hLW hS rfl hl.1 rfl (Nat.le_of_ble_eq_true rfl) ⟨by show cells + 9 ≤ 601024; omega, by show slots + 3033 ≤ 7293034; omega⟩ dL_law_330 (fun r u2 H hp hLW hS => ?_)
  obtain ⟨rfl, rfl⟩ := hp
  refine lv_iload hx hb dL_law_333 (lv_at hl 1 rfl) ?_
  refine h_icmp_eq (tgt := 340) hx hb (a := (sp_make S ((xs (i + 1).toNat).toInt) ((xs (i + 2).toNat).toInt) ((xs (i + 3).toNat).toInt)).1) (b := (sp_make S ((xs (i + 1).toNat).toInt) ((xs (i + 2).toNat).toInt) ((xs (i + 3).toNat).toInt)).1) ⟨by omega, by omega⟩ ⟨by omega, by omega⟩ dL_law_335 (by decide) (fun _ => ?_) (fun c9 => absurd rfl c9)
  refine lv_iload hx hb dL_law_340 (lv_at hl 1 rfl) ?_
  refine h_if_ne (tgt := 357) hx hb (a := (sp_make S ((xs (i + 1).toNat).toInt) ((xs (i + 2).toNat).toInt) ((xs (i + 3).toNat).toInt)).1) ⟨by omega, by omega⟩ dL_law_342 (by decide) (fun c8 => ?_) (fun c8 => ?_)
  · skip
    refine lv_goto (tgt := 1411) hx hb dL_law_357 (by decide) ?_
    exact W.widen (k := cells + 9) (n := slots + 3033) (by omega) (by omega) (kk _ ls ⟨(sp_make S ((xs (i + 1).toNat).toInt) ((xs (i + 2).toNat).toInt) ((xs (i + 3).toNat).toInt)).2.2, w1, g1, T1, u1, f1, wfs_make hw hn ((xs (i + 1).toNat).toInt) ((xs (i + 2).toNat).toInt) ((xs (i + 3).toNat).toInt), hR1, hg1, hM1, hLW, hS⟩ (lv_sub hl [2, 3, 4, 5, 6] rfl))
  · skip
    refine lv_aload_n hx hb dL_law_345 rfl (lv_at hl 5 rfl) ?_
    refine lv_iconst (v := iI 0) hx hb dL_law_346 rfl ?_
    refine l_lald hx hb hEn hLW (hans c8) dL_law_347 ?_
    refine lv_iload hx hb dL_law_348 (lv_at hl 0 rfl) ?_
    refine lv_i2l (v := (iI (sp_make S ((xs (i + 1).toNat).toInt) ((xs (i + 2).toNat).toInt) ((xs (i + 3).toNat).toInt)).2.1).toInt64) hx hb dL_law_350 rfl ?_
    refine W.lcmp hx hb dL_law_351 ?_
    refine h_top hx (y := iI 0) (cmp_same _) ?_
    refine h_if_eq (tgt := 357) hx hb (a := 0) ⟨by omega, by omega⟩ dL_law_352 (by decide) (fun _ => ?_) (fun c7 => absurd rfl c7)
    refine lv_goto (tgt := 1411) hx hb dL_law_357 (by decide) ?_
    exact W.widen (k := cells + 9) (n := slots + 3033) (by omega) (by omega) (kk _ ls ⟨(sp_make S ((xs (i + 1).toNat).toInt) ((xs (i + 2).toNat).toInt) ((xs (i + 3).toNat).toInt)).2.2, w1, g1, T1, u1, f1, wfs_make hw hn ((xs (i + 1).toNat).toInt) ((xs (i + 2).toNat).toInt) ((xs (i + 3).toNat).toInt), hR1, hg1, hM1, hLW, hS⟩ (lv_sub hl [2, 3, 4, 5, 6] rfl))

set_option maxRecDepth 100000 in
set_option maxHeartbeats 4000000 in
theorem law_link {p : Program} {l : Launch} {e : Env} {s : State} {m : MethodId} {below : List Frame} {meth : Method} {c : Code} {Q : State → Prop} {b L : Nat} {xs : Nat → Int32} {D : va_G} {cO : ClassId} {dz mi : Nat} {kI cJ : ClassId} {ad : Nat → Nat} {ob a0 : Nat} (C : LCtx p l s m c b L xs D cO dz mi kI cJ ad ob) {n i : Int} {H : Heap} {cells slots : Nat} {ls : Array Slot} (hinv : LInv D cO dz kI cJ s ad ob a0 n H) (hn : n < 512) (h0 : 0 ≤ i) (h1 : i + 4 ≤ L) (hc : cells + 9 ≤ 601024) (hs : slots + 3033 ≤ 7293034) (kk : LTail p l e s m b below meth c D cO dz kI cJ ad ob a0 Q n i cells slots) (hl : lv_has ls 7 [(0, .ref b), (1, .ref a0), (2, .ref (ad 11)), (3, .ref ob), (4, .int (iI i))]) : W p l e room_1 s m #[Value.ref b] below meth c H [] cells slots Q (F0 m 360 ls []) := by
  obtain ⟨hx, hb, hml, hown, hts, hX, hbl, hL, hEn, hFx, hst⟩ := C
  obtain ⟨S, w, g, T, u, f, hw, hR, rfl, hM, hLW, hS⟩ := hinv
  obtain ⟨u0, hDM⟩ := hFx.2.2.2
  refine lv_aload_n hx hb dL_law_360 rfl (lv_at hl 1 rfl) ?_
  refine lv_aload_n hx hb dL_law_361 rfl (lv_at hl 0 rfl) ?_
  refine lv_iload hx hb dL_law_362 (lv_at hl 4 rfl) ?_
  refine lv_iconst (v := iI 1) hx hb dL_law_364 rfl ?_
  refine h_iadd hx hb dL_law_365 ?_
  refine l_sld hx hb hX hbl hS hL (z := i + 1) (by omega) (by omega) dL_law_366 ?_
  refine lv_aload_n hx hb dL_law_367 rfl (lv_at hl 0 rfl) ?_
  refine lv_iload hx hb dL_law_368 (lv_at hl 4 rfl) ?_
  refine lv_iconst (v := iI 2) hx hb dL_law_370 rfl ?_
  refine h_iadd hx hb dL_law_371 ?_
  refine l_sld hx hb hX hbl hS hL (z := i + 2) (by omega) (by omega) dL_law_372 ?_
  refine lv_aload_n hx hb dL_law_373 rfl (lv_at hl 3 rfl) ?_
  refine l_wrap (As := [.ref (g 0 0), .int (iI ((xs (i + 1).toNat).toInt)), .int (iI ((xs (i + 2).toNat).toInt)), .ref ob]) (rest := []) ⟨hx, hb, hml, hown, hts⟩ (c_L_link l D cO dz mi hw hR hst cJ ob f ((xs (i + 1).toNat).toInt) ((xs (i + 2).toNat).toInt) (iI_inR _) (iI_inR _)) (vx_cwSW 4 hts gL_law_L_link rfl rfl rfl (by decide +kernel) ⟨Nat.le_of_ble_eq_true rfl, Nat.le_of_ble_eq_true rfl⟩) hEn hFx hLW hS rfl hl.1 rfl (Nat.le_of_ble_eq_true rfl) ⟨by show cells + 5 ≤ 601024; omega, by show slots + 1024 ≤ 7293034; omega⟩ dL_law_374 (fun w1 f1 H hrel hans hLW hS => ?_)
  obtain ⟨g1, T1, hg1, hR1⟩ := hrel
  have hq9 : 0 ≤ (sp_link S ((xs (i + 1).toNat).toInt) ((xs (i + 2).toNat).toInt)).1 ∧ (sp_link S ((xs (i + 1).toNat).toInt) ((xs (i + 2).toNat).toInt)).1 ≤ 3 := by rcases spn_link (S := S) ((xs (i + 1).toNat).toInt) ((xs (i + 2).toNat).toInt) with h9 | ⟨h9, h8, -⟩ <;> omega
  refine lv_istore (lv' := [(5, .int (iI (sp_link S ((xs (i + 1).toNat).toInt) ((xs (i + 2).toNat).toInt)).1)), (0, .ref b), (1, .ref (g 0 0)), (2, .ref (ad 11)), (3, .ref ob), (4, .int (iI i))]) hx hb dL_law_377 hl (by decide) rfl (fun ls hl => ?_)
  refine lv_aload_n hx hb dL_law_379 rfl (lv_at hl 3 rfl) ?_
  refine lv_aload_n hx hb dL_law_380 rfl (lv_at hl 1 rfl) ?_
  refine lv_iload hx hb dL_law_381 (lv_at hl 5 rfl) ?_
  refine lv_iconst (v := iI 1) hx hb dL_law_383 rfl ?_
  refine h_iadd hx hb dL_law_384 ?_
  refine l_sld hx hb hX hbl hS hL (z := i + 1) (by omega) (by omega) dL_law_385 ?_
  refine lv_aload_n hx hb dL_law_386 rfl (lv_at hl 1 rfl) ?_
  refine lv_iload hx hb dL_law_387 (lv_at hl 5 rfl) ?_
  refine lv_iconst (v := iI 2) hx hb dL_law_389 rfl ?_
  refine h_iadd hx hb dL_law_390 ?_
  refine l_sld hx hb hX hbl hS hL (z := i + 2) (by omega) (by omega) dL_law_391 ?_
  refine l_mod (As := [.int (iI ((xs (i + 1).toNat).toInt)), .int (iI ((xs (i + 2).toNat).toInt))]) (rest := []) ⟨hx, hb, hml, hown, hts⟩ (c_X4_link l D ad kI hDM hw u hM ((xs (i + 1).toNat).toInt) ((xs (i + 2).toNat).toInt) (iI_inR _) (iI_inR _)) (cwV 2 hts gL_law_X4_link rfl rfl rfl (by decide +kernel) ⟨Nat.le_of_ble_eq_true rfl, Nat.le_of_ble_eq_true rfl⟩) hEn hFx hLW hS rfl hl.1 rfl (Nat.le_of_ble_eq_true rfl) ⟨by show cells + 5 ≤ 601024; omega, by show slots + 1024 ≤ 7293034; omega⟩ dL_law_392 (fun r u1 H hp hLW hS => ?_)
  obtain ⟨rfl, ht, hM1⟩ := hp
  refine lv_istore (lv' := [(6, .int (iI (sp_link S ((xs (i + 1).toNat).toInt) ((xs (i + 2).toNat).toInt)).2.1)), (5, .int (iI (sp_link S ((xs (i + 1).toNat).toInt) ((xs (i + 2).toNat).toInt)).1)), (0, .ref b), (1, .ref (g 0 0)), (2, .ref (ad 11)), (3, .ref ob), (4, .int (iI i))]) hx hb dL_law_395 hl (by decide) rfl (fun ls hl => ?_)
  refine lv_aload_n hx hb dL_law_397 rfl (lv_at hl 4 rfl) ?_
  refine l_mod (As := []) (rest := []) ⟨hx, hb, hml, hown, hts⟩ (c_X4_thrown l D ad kI hDM u1 (sp_link S ((xs (i + 1).toNat).toInt) ((xs (i + 2).toNat).toInt)).1 ht) (cwV 0 hts gL_law_X4_thrown rfl rfl rfl (by decide +kernel) ⟨Nat.le_of_ble_eq_true rfl, Nat.le_of_ble_eq_true rfl⟩) hEn hFx hLW hS rfl hl.1 rfl (Nat.le_of_ble_eq_true rfl) ⟨by show cells + 5 ≤ 601024; omega, by show slots + 1024 ≤ 7293034; omega⟩ dL_law_398 (fun r u2 H hp hLW hS => ?_)
  obtain ⟨rfl, rfl⟩ := hp
  refine lv_iload hx hb dL_law_401 (lv_at hl 1 rfl) ?_
  refine h_icmp_eq (tgt := 408) hx hb (a := (sp_link S ((xs (i + 1).toNat).toInt) ((xs (i + 2).toNat).toInt)).1) (b := (sp_link S ((xs (i + 1).toNat).toInt) ((xs (i + 2).toNat).toInt)).1) ⟨by omega, by omega⟩ ⟨by omega, by omega⟩ dL_law_403 (by decide) (fun _ => ?_) (fun c9 => absurd rfl c9)
  refine lv_iload hx hb dL_law_408 (lv_at hl 1 rfl) ?_
  refine h_if_ne (tgt := 425) hx hb (a := (sp_link S ((xs (i + 1).toNat).toInt) ((xs (i + 2).toNat).toInt)).1) ⟨by omega, by omega⟩ dL_law_410 (by decide) (fun c8 => ?_) (fun c8 => ?_)
  · skip
    refine lv_goto (tgt := 1411) hx hb dL_law_425 (by decide) ?_
    exact W.widen (k := cells + 9) (n := slots + 3033) (by omega) (by omega) (kk _ ls ⟨(sp_link S ((xs (i + 1).toNat).toInt) ((xs (i + 2).toNat).toInt)).2.2, w1, g1, T1, u1, f1, wfs_link hw hn ((xs (i + 1).toNat).toInt) ((xs (i + 2).toNat).toInt), hR1, hg1, hM1, hLW, hS⟩ (lv_sub hl [2, 3, 4, 5, 6] rfl))
  · skip
    refine lv_aload_n hx hb dL_law_413 rfl (lv_at hl 5 rfl) ?_
    refine lv_iconst (v := iI 0) hx hb dL_law_414 rfl ?_
    refine l_lald hx hb hEn hLW (hans c8) dL_law_415 ?_
    refine lv_iload hx hb dL_law_416 (lv_at hl 0 rfl) ?_
    refine lv_i2l (v := (iI (sp_link S ((xs (i + 1).toNat).toInt) ((xs (i + 2).toNat).toInt)).2.1).toInt64) hx hb dL_law_418 rfl ?_
    refine W.lcmp hx hb dL_law_419 ?_
    refine h_top hx (y := iI 0) (cmp_same _) ?_
    refine h_if_eq (tgt := 425) hx hb (a := 0) ⟨by omega, by omega⟩ dL_law_420 (by decide) (fun _ => ?_) (fun c7 => absurd rfl c7)
    refine lv_goto (tgt := 1411) hx hb dL_law_425 (by decide) ?_
    exact W.widen (k := cells + 9) (n := slots + 3033) (by omega) (by omega) (kk _ ls ⟨(sp_link S ((xs (i + 1).toNat).toInt) ((xs (i + 2).toNat).toInt)).2.2, w1, g1, T1, u1, f1, wfs_link hw hn ((xs (i + 1).toNat).toInt) ((xs (i + 2).toNat).toInt), hR1, hg1, hM1, hLW, hS⟩ (lv_sub hl [2, 3, 4, 5, 6] rfl))

set_option maxRecDepth 100000 in
set_option maxHeartbeats 4000000 in
theorem law_unlink {p : Program} {l : Launch} {e : Env} {s : State} {m : MethodId} {below : List Frame} {meth : Method} {c : Code} {Q : State → Prop} {b L : Nat} {xs : Nat → Int32} {D : va_G} {cO : ClassId} {dz mi : Nat} {kI cJ : ClassId} {ad : Nat → Nat} {ob a0 : Nat} (C : LCtx p l s m c b L xs D cO dz mi kI cJ ad ob) {n i : Int} {H : Heap} {cells slots : Nat} {ls : Array Slot} (hinv : LInv D cO dz kI cJ s ad ob a0 n H) (hn : n < 512) (h0 : 0 ≤ i) (h1 : i + 4 ≤ L) (hc : cells + 9 ≤ 601024) (hs : slots + 3033 ≤ 7293034) (kk : LTail p l e s m b below meth c D cO dz kI cJ ad ob a0 Q n i cells slots) (hl : lv_has ls 7 [(0, .ref b), (1, .ref a0), (2, .ref (ad 11)), (3, .ref ob), (4, .int (iI i))]) : W p l e room_1 s m #[Value.ref b] below meth c H [] cells slots Q (F0 m 428 ls []) := by
  obtain ⟨hx, hb, hml, hown, hts, hX, hbl, hL, hEn, hFx, hst⟩ := C
  obtain ⟨S, w, g, T, u, f, hw, hR, rfl, hM, hLW, hS⟩ := hinv
  obtain ⟨u0, hDM⟩ := hFx.2.2.2
  refine lv_aload_n hx hb dL_law_428 rfl (lv_at hl 1 rfl) ?_
  refine lv_aload_n hx hb dL_law_429 rfl (lv_at hl 0 rfl) ?_
  refine lv_iload hx hb dL_law_430 (lv_at hl 4 rfl) ?_
  refine lv_iconst (v := iI 1) hx hb dL_law_432 rfl ?_
  refine h_iadd hx hb dL_law_433 ?_
  refine l_sld hx hb hX hbl hS hL (z := i + 1) (by omega) (by omega) dL_law_434 ?_
  refine lv_aload_n hx hb dL_law_435 rfl (lv_at hl 0 rfl) ?_
  refine lv_iload hx hb dL_law_436 (lv_at hl 4 rfl) ?_
  refine lv_iconst (v := iI 2) hx hb dL_law_438 rfl ?_
  refine h_iadd hx hb dL_law_439 ?_
  refine l_sld hx hb hX hbl hS hL (z := i + 2) (by omega) (by omega) dL_law_440 ?_
  refine lv_aload_n hx hb dL_law_441 rfl (lv_at hl 3 rfl) ?_
  refine l_wrap (As := [.ref (g 0 0), .int (iI ((xs (i + 1).toNat).toInt)), .int (iI ((xs (i + 2).toNat).toInt)), .ref ob]) (rest := []) ⟨hx, hb, hml, hown, hts⟩ (c_L_unlink l D cO dz mi hw hR hst cJ ob f ((xs (i + 1).toNat).toInt) ((xs (i + 2).toNat).toInt) (iI_inR _) (iI_inR _)) (vx_cwSW 4 hts gL_law_L_unlink rfl rfl rfl (by decide +kernel) ⟨Nat.le_of_ble_eq_true rfl, Nat.le_of_ble_eq_true rfl⟩) hEn hFx hLW hS rfl hl.1 rfl (Nat.le_of_ble_eq_true rfl) ⟨by show cells + 3 ≤ 601024; omega, by show slots + 18 ≤ 7293034; omega⟩ dL_law_442 (fun w1 f1 H hrel hans hLW hS => ?_)
  obtain ⟨g1, T1, hg1, hR1⟩ := hrel
  have hq9 : 0 ≤ (sp_unlink S ((xs (i + 1).toNat).toInt) ((xs (i + 2).toNat).toInt)).1 ∧ (sp_unlink S ((xs (i + 1).toNat).toInt) ((xs (i + 2).toNat).toInt)).1 ≤ 3 := by rcases spn_unlink (S := S) ((xs (i + 1).toNat).toInt) ((xs (i + 2).toNat).toInt) with h9 | ⟨h9, h8, -⟩ <;> omega
  refine lv_istore (lv' := [(5, .int (iI (sp_unlink S ((xs (i + 1).toNat).toInt) ((xs (i + 2).toNat).toInt)).1)), (0, .ref b), (1, .ref (g 0 0)), (2, .ref (ad 11)), (3, .ref ob), (4, .int (iI i))]) hx hb dL_law_445 hl (by decide) rfl (fun ls hl => ?_)
  refine lv_aload_n hx hb dL_law_447 rfl (lv_at hl 3 rfl) ?_
  refine lv_aload_n hx hb dL_law_448 rfl (lv_at hl 1 rfl) ?_
  refine lv_iload hx hb dL_law_449 (lv_at hl 5 rfl) ?_
  refine lv_iconst (v := iI 1) hx hb dL_law_451 rfl ?_
  refine h_iadd hx hb dL_law_452 ?_
  refine l_sld hx hb hX hbl hS hL (z := i + 1) (by omega) (by omega) dL_law_453 ?_
  refine lv_aload_n hx hb dL_law_454 rfl (lv_at hl 1 rfl) ?_
  refine lv_iload hx hb dL_law_455 (lv_at hl 5 rfl) ?_
  refine lv_iconst (v := iI 2) hx hb dL_law_457 rfl ?_
  refine h_iadd hx hb dL_law_458 ?_
  refine l_sld hx hb hX hbl hS hL (z := i + 2) (by omega) (by omega) dL_law_459 ?_
  refine l_mod (As := [.int (iI ((xs (i + 1).toNat).toInt)), .int (iI ((xs (i + 2).toNat).toInt))]) (rest := []) ⟨hx, hb, hml, hown, hts⟩ (c_X4_unlink l D ad kI hDM hw u hM ((xs (i + 1).toNat).toInt) ((xs (i + 2).toNat).toInt) (iI_inR _) (iI_inR _)) (cwV 2 hts gL_law_X4_unlink rfl rfl rfl (by decide +kernel) ⟨Nat.le_of_ble_eq_true rfl, Nat.le_of_ble_eq_true rfl⟩) hEn hFx hLW hS rfl hl.1 rfl (Nat.le_of_ble_eq_true rfl) ⟨by show cells + 3 ≤ 601024; omega, by show slots + 18 ≤ 7293034; omega⟩ dL_law_460 (fun r u1 H hp hLW hS => ?_)
  obtain ⟨rfl, ht, hM1⟩ := hp
  refine lv_istore (lv' := [(6, .int (iI (sp_unlink S ((xs (i + 1).toNat).toInt) ((xs (i + 2).toNat).toInt)).2.1)), (5, .int (iI (sp_unlink S ((xs (i + 1).toNat).toInt) ((xs (i + 2).toNat).toInt)).1)), (0, .ref b), (1, .ref (g 0 0)), (2, .ref (ad 11)), (3, .ref ob), (4, .int (iI i))]) hx hb dL_law_463 hl (by decide) rfl (fun ls hl => ?_)
  refine lv_aload_n hx hb dL_law_465 rfl (lv_at hl 4 rfl) ?_
  refine l_mod (As := []) (rest := []) ⟨hx, hb, hml, hown, hts⟩ (c_X4_thrown l D ad kI hDM u1 (sp_unlink S ((xs (i + 1).toNat).toInt) ((xs (i + 2).toNat).toInt)).1 ht) (cwV 0 hts gL_law_X4_thrown rfl rfl rfl (by decide +kernel) ⟨Nat.le_of_ble_eq_true rfl, Nat.le_of_ble_eq_true rfl⟩) hEn hFx hLW hS rfl hl.1 rfl (Nat.le_of_ble_eq_true rfl) ⟨by show cells + 3 ≤ 601024; omega, by show slots + 18 ≤ 7293034; omega⟩ dL_law_466 (fun r u2 H hp hLW hS => ?_)
  obtain ⟨rfl, rfl⟩ := hp
  refine lv_iload hx hb dL_law_469 (lv_at hl 1 rfl) ?_
  refine h_icmp_eq (tgt := 476) hx hb (a := (sp_unlink S ((xs (i + 1).toNat).toInt) ((xs (i + 2).toNat).toInt)).1) (b := (sp_unlink S ((xs (i + 1).toNat).toInt) ((xs (i + 2).toNat).toInt)).1) ⟨by omega, by omega⟩ ⟨by omega, by omega⟩ dL_law_471 (by decide) (fun _ => ?_) (fun c9 => absurd rfl c9)
  refine lv_iload hx hb dL_law_476 (lv_at hl 1 rfl) ?_
  refine h_if_ne (tgt := 493) hx hb (a := (sp_unlink S ((xs (i + 1).toNat).toInt) ((xs (i + 2).toNat).toInt)).1) ⟨by omega, by omega⟩ dL_law_478 (by decide) (fun c8 => ?_) (fun c8 => ?_)
  · skip
    refine lv_goto (tgt := 1411) hx hb dL_law_493 (by decide) ?_
    exact W.widen (k := cells + 9) (n := slots + 3033) (by omega) (by omega) (kk _ ls ⟨(sp_unlink S ((xs (i + 1).toNat).toInt) ((xs (i + 2).toNat).toInt)).2.2, w1, g1, T1, u1, f1, wfs_unlink hw hn ((xs (i + 1).toNat).toInt) ((xs (i + 2).toNat).toInt), hR1, hg1, hM1, hLW, hS⟩ (lv_sub hl [2, 3, 4, 5, 6] rfl))
  · skip
    refine lv_aload_n hx hb dL_law_481 rfl (lv_at hl 5 rfl) ?_
    refine lv_iconst (v := iI 0) hx hb dL_law_482 rfl ?_
    refine l_lald hx hb hEn hLW (hans c8) dL_law_483 ?_
    refine lv_iload hx hb dL_law_484 (lv_at hl 0 rfl) ?_
    refine lv_i2l (v := (iI (sp_unlink S ((xs (i + 1).toNat).toInt) ((xs (i + 2).toNat).toInt)).2.1).toInt64) hx hb dL_law_486 rfl ?_
    refine W.lcmp hx hb dL_law_487 ?_
    refine h_top hx (y := iI 0) (cmp_same _) ?_
    refine h_if_eq (tgt := 493) hx hb (a := 0) ⟨by omega, by omega⟩ dL_law_488 (by decide) (fun _ => ?_) (fun c7 => absurd rfl c7)
    refine lv_goto (tgt := 1411) hx hb dL_law_493 (by decide) ?_
    exact W.widen (k := cells + 9) (n := slots + 3033) (by omega) (by omega) (kk _ ls ⟨(sp_unlink S ((xs (i + 1).toNat).toInt) ((xs (i + 2).toNat).toInt)).2.2, w1, g1, T1, u1, f1, wfs_unlink hw hn ((xs (i + 1).toNat).toInt) ((xs (i + 2).toNat).toInt), hR1, hg1, hM1, hLW, hS⟩ (lv_sub hl [2, 3, 4, 5, 6] rfl))

set_option maxRecDepth 100000 in
set_option maxHeartbeats 4000000 in
theorem law_write {p : Program} {l : Launch} {e : Env} {s : State} {m : MethodId} {below : List Frame} {meth : Method} {c : Code} {Q : State → Prop} {b L : Nat} {xs : Nat → Int32} {D : va_G} {cO : ClassId} {dz mi : Nat} {kI cJ : ClassId} {ad : Nat → Nat} {ob a0 : Nat} (C : LCtx p l s m c b L xs D cO dz mi kI cJ ad ob) {n i : Int} {H : Heap} {cells slots : Nat} {ls : Array Slot} (hinv : LInv D cO dz kI cJ s ad ob a0 n H) (hn : n < 512) (h0 : 0 ≤ i) (h1 : i + 4 ≤ L) (hc : cells + 9 ≤ 601024) (hs : slots + 3033 ≤ 7293034) (kk : LTail p l e s m b below meth c D cO dz kI cJ ad ob a0 Q n i cells slots) (hl : lv_has ls 7 [(0, .ref b), (1, .ref a0), (2, .ref (ad 11)), (3, .ref ob), (4, .int (iI i))]) : W p l e room_1 s m #[Value.ref b] below meth c H [] cells slots Q (F0 m 496 ls []) := by
  obtain ⟨hx, hb, hml, hown, hts, hX, hbl, hL, hEn, hFx, hst⟩ := C
  obtain ⟨S, w, g, T, u, f, hw, hR, rfl, hM, hLW, hS⟩ := hinv
  obtain ⟨u0, hDM⟩ := hFx.2.2.2
  refine lv_aload_n hx hb dL_law_496 rfl (lv_at hl 1 rfl) ?_
  refine lv_aload_n hx hb dL_law_497 rfl (lv_at hl 0 rfl) ?_
  refine lv_iload hx hb dL_law_498 (lv_at hl 4 rfl) ?_
  refine lv_iconst (v := iI 1) hx hb dL_law_500 rfl ?_
  refine h_iadd hx hb dL_law_501 ?_
  refine l_sld hx hb hX hbl hS hL (z := i + 1) (by omega) (by omega) dL_law_502 ?_
  refine lv_aload_n hx hb dL_law_503 rfl (lv_at hl 0 rfl) ?_
  refine lv_iload hx hb dL_law_504 (lv_at hl 4 rfl) ?_
  refine lv_iconst (v := iI 2) hx hb dL_law_506 rfl ?_
  refine h_iadd hx hb dL_law_507 ?_
  refine l_sld hx hb hX hbl hS hL (z := i + 2) (by omega) (by omega) dL_law_508 ?_
  refine lv_aload_n hx hb dL_law_509 rfl (lv_at hl 3 rfl) ?_
  refine l_wrap (As := [.ref (g 0 0), .int (iI ((xs (i + 1).toNat).toInt)), .int (iI ((xs (i + 2).toNat).toInt)), .ref ob]) (rest := []) ⟨hx, hb, hml, hown, hts⟩ (c_L_write l D cO dz mi hw hR hst cJ ob f ((xs (i + 1).toNat).toInt) ((xs (i + 2).toNat).toInt) (iI_inR _) (iI_inR _)) (vx_cwSW 4 hts gL_law_L_write rfl rfl rfl (by decide +kernel) ⟨Nat.le_of_ble_eq_true rfl, Nat.le_of_ble_eq_true rfl⟩) hEn hFx hLW hS rfl hl.1 rfl (Nat.le_of_ble_eq_true rfl) ⟨by show cells + 4 ≤ 601024; omega, by show slots + 24 ≤ 7293034; omega⟩ dL_law_510 (fun w1 f1 H hrel hans hLW hS => ?_)
  obtain ⟨g1, T1, hg1, hR1⟩ := hrel
  have hq9 : 0 ≤ (sp_write S ((xs (i + 1).toNat).toInt) ((xs (i + 2).toNat).toInt)).1 ∧ (sp_write S ((xs (i + 1).toNat).toInt) ((xs (i + 2).toNat).toInt)).1 ≤ 3 := by rcases spn_write (S := S) ((xs (i + 1).toNat).toInt) ((xs (i + 2).toNat).toInt) with h9 | ⟨h9, h8, -⟩ <;> omega
  refine lv_istore (lv' := [(5, .int (iI (sp_write S ((xs (i + 1).toNat).toInt) ((xs (i + 2).toNat).toInt)).1)), (0, .ref b), (1, .ref (g 0 0)), (2, .ref (ad 11)), (3, .ref ob), (4, .int (iI i))]) hx hb dL_law_513 hl (by decide) rfl (fun ls hl => ?_)
  refine lv_aload_n hx hb dL_law_515 rfl (lv_at hl 3 rfl) ?_
  refine lv_aload_n hx hb dL_law_516 rfl (lv_at hl 1 rfl) ?_
  refine lv_iload hx hb dL_law_517 (lv_at hl 5 rfl) ?_
  refine lv_iconst (v := iI 1) hx hb dL_law_519 rfl ?_
  refine h_iadd hx hb dL_law_520 ?_
  refine l_sld hx hb hX hbl hS hL (z := i + 1) (by omega) (by omega) dL_law_521 ?_
  refine lv_aload_n hx hb dL_law_522 rfl (lv_at hl 1 rfl) ?_
  refine lv_iload hx hb dL_law_523 (lv_at hl 5 rfl) ?_
  refine lv_iconst (v := iI 2) hx hb dL_law_525 rfl ?_
  refine h_iadd hx hb dL_law_526 ?_
  refine l_sld hx hb hX hbl hS hL (z := i + 2) (by omega) (by omega) dL_law_527 ?_
  refine l_mod (As := [.int (iI ((xs (i + 1).toNat).toInt)), .int (iI ((xs (i + 2).toNat).toInt))]) (rest := []) ⟨hx, hb, hml, hown, hts⟩ (c_X4_write l D ad kI hDM hw u hM ((xs (i + 1).toNat).toInt) ((xs (i + 2).toNat).toInt) (iI_inR _) (iI_inR _)) (cwV 2 hts gL_law_X4_write rfl rfl rfl (by decide +kernel) ⟨Nat.le_of_ble_eq_true rfl, Nat.le_of_ble_eq_true rfl⟩) hEn hFx hLW hS rfl hl.1 rfl (Nat.le_of_ble_eq_true rfl) ⟨by show cells + 4 ≤ 601024; omega, by show slots + 24 ≤ 7293034; omega⟩ dL_law_528 (fun r u1 H hp hLW hS => ?_)
  obtain ⟨rfl, ht, hM1⟩ := hp
  refine lv_istore (lv' := [(6, .int (iI (sp_write S ((xs (i + 1).toNat).toInt) ((xs (i + 2).toNat).toInt)).2.1)), (5, .int (iI (sp_write S ((xs (i + 1).toNat).toInt) ((xs (i + 2).toNat).toInt)).1)), (0, .ref b), (1, .ref (g 0 0)), (2, .ref (ad 11)), (3, .ref ob), (4, .int (iI i))]) hx hb dL_law_531 hl (by decide) rfl (fun ls hl => ?_)
  refine lv_aload_n hx hb dL_law_533 rfl (lv_at hl 4 rfl) ?_
  refine l_mod (As := []) (rest := []) ⟨hx, hb, hml, hown, hts⟩ (c_X4_thrown l D ad kI hDM u1 (sp_write S ((xs (i + 1).toNat).toInt) ((xs (i + 2).toNat).toInt)).1 ht) (cwV 0 hts gL_law_X4_thrown rfl rfl rfl (by decide +kernel) ⟨Nat.le_of_ble_eq_true rfl, Nat.le_of_ble_eq_true rfl⟩) hEn hFx hLW hS rfl hl.1 rfl (Nat.le_of_ble_eq_true rfl) ⟨by show cells + 4 ≤ 601024; omega, by show slots + 24 ≤ 7293034; omega⟩ dL_law_534 (fun r u2 H hp hLW hS => ?_)
  obtain ⟨rfl, rfl⟩ := hp
  refine lv_iload hx hb dL_law_537 (lv_at hl 1 rfl) ?_
  refine h_icmp_eq (tgt := 544) hx hb (a := (sp_write S ((xs (i + 1).toNat).toInt) ((xs (i + 2).toNat).toInt)).1) (b := (sp_write S ((xs (i + 1).toNat).toInt) ((xs (i + 2).toNat).toInt)).1) ⟨by omega, by omega⟩ ⟨by omega, by omega⟩ dL_law_539 (by decide) (fun _ => ?_) (fun c9 => absurd rfl c9)
  refine lv_iload hx hb dL_law_544 (lv_at hl 1 rfl) ?_
  refine h_if_ne (tgt := 561) hx hb (a := (sp_write S ((xs (i + 1).toNat).toInt) ((xs (i + 2).toNat).toInt)).1) ⟨by omega, by omega⟩ dL_law_546 (by decide) (fun c8 => ?_) (fun c8 => ?_)
  · skip
    refine lv_goto (tgt := 1411) hx hb dL_law_561 (by decide) ?_
    exact W.widen (k := cells + 9) (n := slots + 3033) (by omega) (by omega) (kk _ ls ⟨(sp_write S ((xs (i + 1).toNat).toInt) ((xs (i + 2).toNat).toInt)).2.2, w1, g1, T1, u1, f1, wfs_write hw hn ((xs (i + 1).toNat).toInt) ((xs (i + 2).toNat).toInt), hR1, hg1, hM1, hLW, hS⟩ (lv_sub hl [2, 3, 4, 5, 6] rfl))
  · skip
    refine lv_aload_n hx hb dL_law_549 rfl (lv_at hl 5 rfl) ?_
    refine lv_iconst (v := iI 0) hx hb dL_law_550 rfl ?_
    refine l_lald hx hb hEn hLW (hans c8) dL_law_551 ?_
    refine lv_iload hx hb dL_law_552 (lv_at hl 0 rfl) ?_
    refine lv_i2l (v := (iI (sp_write S ((xs (i + 1).toNat).toInt) ((xs (i + 2).toNat).toInt)).2.1).toInt64) hx hb dL_law_554 rfl ?_
    refine W.lcmp hx hb dL_law_555 ?_
    refine h_top hx (y := iI 0) (cmp_same _) ?_
    refine h_if_eq (tgt := 561) hx hb (a := 0) ⟨by omega, by omega⟩ dL_law_556 (by decide) (fun _ => ?_) (fun c7 => absurd rfl c7)
    refine lv_goto (tgt := 1411) hx hb dL_law_561 (by decide) ?_
    exact W.widen (k := cells + 9) (n := slots + 3033) (by omega) (by omega) (kk _ ls ⟨(sp_write S ((xs (i + 1).toNat).toInt) ((xs (i + 2).toNat).toInt)).2.2, w1, g1, T1, u1, f1, wfs_write hw hn ((xs (i + 1).toNat).toInt) ((xs (i + 2).toNat).toInt), hR1, hg1, hM1, hLW, hS⟩ (lv_sub hl [2, 3, 4, 5, 6] rfl))

set_option maxRecDepth 100000 in
set_option maxHeartbeats 4000000 in
theorem law_read {p : Program} {l : Launch} {e : Env} {s : State} {m : MethodId} {below : List Frame} {meth : Method} {c : Code} {Q : State → Prop} {b L : Nat} {xs : Nat → Int32} {D : va_G} {cO : ClassId} {dz mi : Nat} {kI cJ : ClassId} {ad : Nat → Nat} {ob a0 : Nat} (C : LCtx p l s m c b L xs D cO dz mi kI cJ ad ob) {n i : Int} {H : Heap} {cells slots : Nat} {ls : Array Slot} (hinv : LInv D cO dz kI cJ s ad ob a0 n H) (hn : n < 512) (h0 : 0 ≤ i) (h1 : i + 4 ≤ L) (hc : cells + 9 ≤ 601024) (hs : slots + 3033 ≤ 7293034) (kk : LTail p l e s m b below meth c D cO dz kI cJ ad ob a0 Q n i cells slots) (hl : lv_has ls 7 [(0, .ref b), (1, .ref a0), (2, .ref (ad 11)), (3, .ref ob), (4, .int (iI i))]) : W p l e room_1 s m #[Value.ref b] below meth c H [] cells slots Q (F0 m 564 ls []) := by
  obtain ⟨hx, hb, hml, hown, hts, hX, hbl, hL, hEn, hFx, hst⟩ := C
  obtain ⟨S, w, g, T, u, f, hw, hR, rfl, hM, hLW, hS⟩ := hinv
  obtain ⟨u0, hDM⟩ := hFx.2.2.2
  refine lv_aload_n hx hb dL_law_564 rfl (lv_at hl 1 rfl) ?_
  refine lv_aload_n hx hb dL_law_565 rfl (lv_at hl 0 rfl) ?_
  refine lv_iload hx hb dL_law_566 (lv_at hl 4 rfl) ?_
  refine lv_iconst (v := iI 1) hx hb dL_law_568 rfl ?_
  refine h_iadd hx hb dL_law_569 ?_
  refine l_sld hx hb hX hbl hS hL (z := i + 1) (by omega) (by omega) dL_law_570 ?_
  refine lv_aload_n hx hb dL_law_571 rfl (lv_at hl 3 rfl) ?_
  refine l_wrap (As := [.ref (g 0 0), .int (iI ((xs (i + 1).toNat).toInt)), .ref ob]) (rest := []) ⟨hx, hb, hml, hown, hts⟩ (c_L_read l D cO dz mi hw hR hst cJ ob f ((xs (i + 1).toNat).toInt) (iI_inR _)) (vx_cwSW 3 hts gL_law_L_read rfl rfl rfl (by decide +kernel) ⟨Nat.le_of_ble_eq_true rfl, Nat.le_of_ble_eq_true rfl⟩) hEn hFx hLW hS rfl hl.1 rfl (Nat.le_of_ble_eq_true rfl) ⟨by show cells + 3 ≤ 601024; omega, by show slots + 18 ≤ 7293034; omega⟩ dL_law_572 (fun w1 f1 H hrel hans hLW hS => ?_)
  obtain ⟨g1, T1, hg1, hR1⟩ := hrel
  have hq9 : 0 ≤ (sp_read S ((xs (i + 1).toNat).toInt)).1 ∧ (sp_read S ((xs (i + 1).toNat).toInt)).1 ≤ 3 := by rcases spn_read (S := S) ((xs (i + 1).toNat).toInt) with h9 | ⟨h9, h8, -⟩ <;> omega
  refine lv_istore (lv' := [(5, .int (iI (sp_read S ((xs (i + 1).toNat).toInt)).1)), (0, .ref b), (1, .ref (g 0 0)), (2, .ref (ad 11)), (3, .ref ob), (4, .int (iI i))]) hx hb dL_law_575 hl (by decide) rfl (fun ls hl => ?_)
  refine lv_aload_n hx hb dL_law_577 rfl (lv_at hl 3 rfl) ?_
  refine lv_aload_n hx hb dL_law_578 rfl (lv_at hl 1 rfl) ?_
  refine lv_iload hx hb dL_law_579 (lv_at hl 5 rfl) ?_
  refine lv_iconst (v := iI 1) hx hb dL_law_581 rfl ?_
  refine h_iadd hx hb dL_law_582 ?_
  refine l_sld hx hb hX hbl hS hL (z := i + 1) (by omega) (by omega) dL_law_583 ?_
  refine l_mod (As := [.int (iI ((xs (i + 1).toNat).toInt))]) (rest := []) ⟨hx, hb, hml, hown, hts⟩ (c_X4_read l D ad kI hDM hw u hM ((xs (i + 1).toNat).toInt) (iI_inR _)) (cwV 1 hts gL_law_X4_read rfl rfl rfl (by decide +kernel) ⟨Nat.le_of_ble_eq_true rfl, Nat.le_of_ble_eq_true rfl⟩) hEn hFx hLW hS rfl hl.1 rfl (Nat.le_of_ble_eq_true rfl) ⟨by show cells + 3 ≤ 601024; omega, by show slots + 18 ≤ 7293034; omega⟩ dL_law_584 (fun r u1 H hp hLW hS => ?_)
  obtain ⟨rfl, ht, hM1⟩ := hp
  refine lv_istore (lv' := [(6, .int (iI (sp_read S ((xs (i + 1).toNat).toInt)).2.1)), (5, .int (iI (sp_read S ((xs (i + 1).toNat).toInt)).1)), (0, .ref b), (1, .ref (g 0 0)), (2, .ref (ad 11)), (3, .ref ob), (4, .int (iI i))]) hx hb dL_law_587 hl (by decide) rfl (fun ls hl => ?_)
  refine lv_aload_n hx hb dL_law_589 rfl (lv_at hl 4 rfl) ?_
  refine l_mod (As := []) (rest := []) ⟨hx, hb, hml, hown, hts⟩ (c_X4_thrown l D ad kI hDM u1 (sp_read S ((xs (i + 1).toNat).toInt)).1 ht) (cwV 0 hts gL_law_X4_thrown rfl rfl rfl (by decide +kernel) ⟨Nat.le_of_ble_eq_true rfl, Nat.le_of_ble_eq_true rfl⟩) hEn hFx hLW hS rfl hl.1 rfl (Nat.le_of_ble_eq_true rfl) ⟨by show cells + 3 ≤ 601024; omega, by show slots + 18 ≤ 7293034; omega⟩ dL_law_590 (fun r u2 H hp hLW hS => ?_)
  obtain ⟨rfl, rfl⟩ := hp
  refine lv_iload hx hb dL_law_593 (lv_at hl 1 rfl) ?_
  refine h_icmp_eq (tgt := 600) hx hb (a := (sp_read S ((xs (i + 1).toNat).toInt)).1) (b := (sp_read S ((xs (i + 1).toNat).toInt)).1) ⟨by omega, by omega⟩ ⟨by omega, by omega⟩ dL_law_595 (by decide) (fun _ => ?_) (fun c9 => absurd rfl c9)
  refine lv_iload hx hb dL_law_600 (lv_at hl 1 rfl) ?_
  refine h_if_ne (tgt := 617) hx hb (a := (sp_read S ((xs (i + 1).toNat).toInt)).1) ⟨by omega, by omega⟩ dL_law_602 (by decide) (fun c8 => ?_) (fun c8 => ?_)
  · skip
    refine lv_goto (tgt := 1411) hx hb dL_law_617 (by decide) ?_
    exact W.widen (k := cells + 9) (n := slots + 3033) (by omega) (by omega) (kk _ ls ⟨(sp_read S ((xs (i + 1).toNat).toInt)).2.2, w1, g1, T1, u1, f1, wfs_read hw hn ((xs (i + 1).toNat).toInt), hR1, hg1, hM1, hLW, hS⟩ (lv_sub hl [2, 3, 4, 5, 6] rfl))
  · skip
    refine lv_aload_n hx hb dL_law_605 rfl (lv_at hl 5 rfl) ?_
    refine lv_iconst (v := iI 0) hx hb dL_law_606 rfl ?_
    refine l_lald hx hb hEn hLW (hans c8) dL_law_607 ?_
    refine lv_iload hx hb dL_law_608 (lv_at hl 0 rfl) ?_
    refine lv_i2l (v := (iI (sp_read S ((xs (i + 1).toNat).toInt)).2.1).toInt64) hx hb dL_law_610 rfl ?_
    refine W.lcmp hx hb dL_law_611 ?_
    refine h_top hx (y := iI 0) (cmp_same _) ?_
    refine h_if_eq (tgt := 617) hx hb (a := 0) ⟨by omega, by omega⟩ dL_law_612 (by decide) (fun _ => ?_) (fun c7 => absurd rfl c7)
    refine lv_goto (tgt := 1411) hx hb dL_law_617 (by decide) ?_
    exact W.widen (k := cells + 9) (n := slots + 3033) (by omega) (by omega) (kk _ ls ⟨(sp_read S ((xs (i + 1).toNat).toInt)).2.2, w1, g1, T1, u1, f1, wfs_read hw hn ((xs (i + 1).toNat).toInt), hR1, hg1, hM1, hLW, hS⟩ (lv_sub hl [2, 3, 4, 5, 6] rfl))

set_option maxRecDepth 100000 in
set_option maxHeartbeats 4000000 in
theorem law_hold {p : Program} {l : Launch} {e : Env} {s : State} {m : MethodId} {below : List Frame} {meth : Method} {c : Code} {Q : State → Prop} {b L : Nat} {xs : Nat → Int32} {D : va_G} {cO : ClassId} {dz mi : Nat} {kI cJ : ClassId} {ad : Nat → Nat} {ob a0 : Nat} (C : LCtx p l s m c b L xs D cO dz mi kI cJ ad ob) {n i : Int} {H : Heap} {cells slots : Nat} {ls : Array Slot} (hinv : LInv D cO dz kI cJ s ad ob a0 n H) (hn : n < 512) (h0 : 0 ≤ i) (h1 : i + 4 ≤ L) (hc : cells + 9 ≤ 601024) (hs : slots + 3033 ≤ 7293034) (kk : LTail p l e s m b below meth c D cO dz kI cJ ad ob a0 Q n i cells slots) (hl : lv_has ls 7 [(0, .ref b), (1, .ref a0), (2, .ref (ad 11)), (3, .ref ob), (4, .int (iI i))]) : W p l e room_1 s m #[Value.ref b] below meth c H [] cells slots Q (F0 m 620 ls []) := by
  obtain ⟨hx, hb, hml, hown, hts, hX, hbl, hL, hEn, hFx, hst⟩ := C
  obtain ⟨S, w, g, T, u, f, hw, hR, rfl, hM, hLW, hS⟩ := hinv
  obtain ⟨u0, hDM⟩ := hFx.2.2.2
  refine lv_aload_n hx hb dL_law_620 rfl (lv_at hl 1 rfl) ?_
  refine lv_aload_n hx hb dL_law_621 rfl (lv_at hl 0 rfl) ?_
  refine lv_iload hx hb dL_law_622 (lv_at hl 4 rfl) ?_
  refine lv_iconst (v := iI 1) hx hb dL_law_624 rfl ?_
  refine h_iadd hx hb dL_law_625 ?_
  refine l_sld hx hb hX hbl hS hL (z := i + 1) (by omega) (by omega) dL_law_626 ?_
  refine lv_aload_n hx hb dL_law_627 rfl (lv_at hl 0 rfl) ?_
  refine lv_iload hx hb dL_law_628 (lv_at hl 4 rfl) ?_
  refine lv_iconst (v := iI 2) hx hb dL_law_630 rfl ?_
  refine h_iadd hx hb dL_law_631 ?_
  refine l_sld hx hb hX hbl hS hL (z := i + 2) (by omega) (by omega) dL_law_632 ?_
  refine lv_aload_n hx hb dL_law_633 rfl (lv_at hl 3 rfl) ?_
  refine l_wrap (As := [.ref (g 0 0), .int (iI ((xs (i + 1).toNat).toInt)), .int (iI ((xs (i + 2).toNat).toInt)), .ref ob]) (rest := []) ⟨hx, hb, hml, hown, hts⟩ (c_L_hold l D cO dz mi hw hR hst cJ ob f ((xs (i + 1).toNat).toInt) ((xs (i + 2).toNat).toInt) (iI_inR _) (iI_inR _)) (vx_cwSW 4 hts gL_law_L_hold rfl rfl rfl (by decide +kernel) ⟨Nat.le_of_ble_eq_true rfl, Nat.le_of_ble_eq_true rfl⟩) hEn hFx hLW hS rfl hl.1 rfl (Nat.le_of_ble_eq_true rfl) ⟨by show cells + 3 ≤ 601024; omega, by show slots + 18 ≤ 7293034; omega⟩ dL_law_634 (fun w1 f1 H hrel hans hLW hS => ?_)
  obtain ⟨g1, T1, hg1, hR1⟩ := hrel
  have hq9 : 0 ≤ (sp_hold S ((xs (i + 1).toNat).toInt) ((xs (i + 2).toNat).toInt)).1 ∧ (sp_hold S ((xs (i + 1).toNat).toInt) ((xs (i + 2).toNat).toInt)).1 ≤ 3 := by rcases spn_hold (S := S) ((xs (i + 1).toNat).toInt) ((xs (i + 2).toNat).toInt) with h9 | ⟨h9, h8, -⟩ <;> omega
  refine lv_istore (lv' := [(5, .int (iI (sp_hold S ((xs (i + 1).toNat).toInt) ((xs (i + 2).toNat).toInt)).1)), (0, .ref b), (1, .ref (g 0 0)), (2, .ref (ad 11)), (3, .ref ob), (4, .int (iI i))]) hx hb dL_law_637 hl (by decide) rfl (fun ls hl => ?_)
  refine lv_aload_n hx hb dL_law_639 rfl (lv_at hl 3 rfl) ?_
  refine lv_aload_n hx hb dL_law_640 rfl (lv_at hl 1 rfl) ?_
  refine lv_iload hx hb dL_law_641 (lv_at hl 5 rfl) ?_
  refine lv_iconst (v := iI 1) hx hb dL_law_643 rfl ?_
  refine h_iadd hx hb dL_law_644 ?_
  refine l_sld hx hb hX hbl hS hL (z := i + 1) (by omega) (by omega) dL_law_645 ?_
  refine lv_aload_n hx hb dL_law_646 rfl (lv_at hl 1 rfl) ?_
  refine lv_iload hx hb dL_law_647 (lv_at hl 5 rfl) ?_
  refine lv_iconst (v := iI 2) hx hb dL_law_649 rfl ?_
  refine h_iadd hx hb dL_law_650 ?_
  refine l_sld hx hb hX hbl hS hL (z := i + 2) (by omega) (by omega) dL_law_651 ?_
  refine l_mod (As := [.int (iI ((xs (i + 1).toNat).toInt)), .int (iI ((xs (i + 2).toNat).toInt))]) (rest := []) ⟨hx, hb, hml, hown, hts⟩ (c_X4_hold l D ad kI hDM hw u hM ((xs (i + 1).toNat).toInt) ((xs (i + 2).toNat).toInt) (iI_inR _) (iI_inR _)) (cwV 2 hts gL_law_X4_hold rfl rfl rfl (by decide +kernel) ⟨Nat.le_of_ble_eq_true rfl, Nat.le_of_ble_eq_true rfl⟩) hEn hFx hLW hS rfl hl.1 rfl (Nat.le_of_ble_eq_true rfl) ⟨by show cells + 3 ≤ 601024; omega, by show slots + 18 ≤ 7293034; omega⟩ dL_law_652 (fun r u1 H hp hLW hS => ?_)
  obtain ⟨rfl, ht, hM1⟩ := hp
  refine lv_istore (lv' := [(6, .int (iI (sp_hold S ((xs (i + 1).toNat).toInt) ((xs (i + 2).toNat).toInt)).2.1)), (5, .int (iI (sp_hold S ((xs (i + 1).toNat).toInt) ((xs (i + 2).toNat).toInt)).1)), (0, .ref b), (1, .ref (g 0 0)), (2, .ref (ad 11)), (3, .ref ob), (4, .int (iI i))]) hx hb dL_law_655 hl (by decide) rfl (fun ls hl => ?_)
  refine lv_aload_n hx hb dL_law_657 rfl (lv_at hl 4 rfl) ?_
  refine l_mod (As := []) (rest := []) ⟨hx, hb, hml, hown, hts⟩ (c_X4_thrown l D ad kI hDM u1 (sp_hold S ((xs (i + 1).toNat).toInt) ((xs (i + 2).toNat).toInt)).1 ht) (cwV 0 hts gL_law_X4_thrown rfl rfl rfl (by decide +kernel) ⟨Nat.le_of_ble_eq_true rfl, Nat.le_of_ble_eq_true rfl⟩) hEn hFx hLW hS rfl hl.1 rfl (Nat.le_of_ble_eq_true rfl) ⟨by show cells + 3 ≤ 601024; omega, by show slots + 18 ≤ 7293034; omega⟩ dL_law_658 (fun r u2 H hp hLW hS => ?_)
  obtain ⟨rfl, rfl⟩ := hp
  refine lv_iload hx hb dL_law_661 (lv_at hl 1 rfl) ?_
  refine h_icmp_eq (tgt := 668) hx hb (a := (sp_hold S ((xs (i + 1).toNat).toInt) ((xs (i + 2).toNat).toInt)).1) (b := (sp_hold S ((xs (i + 1).toNat).toInt) ((xs (i + 2).toNat).toInt)).1) ⟨by omega, by omega⟩ ⟨by omega, by omega⟩ dL_law_663 (by decide) (fun _ => ?_) (fun c9 => absurd rfl c9)
  refine lv_iload hx hb dL_law_668 (lv_at hl 1 rfl) ?_
  refine h_if_ne (tgt := 685) hx hb (a := (sp_hold S ((xs (i + 1).toNat).toInt) ((xs (i + 2).toNat).toInt)).1) ⟨by omega, by omega⟩ dL_law_670 (by decide) (fun c8 => ?_) (fun c8 => ?_)
  · skip
    refine lv_goto (tgt := 1411) hx hb dL_law_685 (by decide) ?_
    exact W.widen (k := cells + 9) (n := slots + 3033) (by omega) (by omega) (kk _ ls ⟨(sp_hold S ((xs (i + 1).toNat).toInt) ((xs (i + 2).toNat).toInt)).2.2, w1, g1, T1, u1, f1, wfs_hold hw hn ((xs (i + 1).toNat).toInt) ((xs (i + 2).toNat).toInt), hR1, hg1, hM1, hLW, hS⟩ (lv_sub hl [2, 3, 4, 5, 6] rfl))
  · skip
    refine lv_aload_n hx hb dL_law_673 rfl (lv_at hl 5 rfl) ?_
    refine lv_iconst (v := iI 0) hx hb dL_law_674 rfl ?_
    refine l_lald hx hb hEn hLW (hans c8) dL_law_675 ?_
    refine lv_iload hx hb dL_law_676 (lv_at hl 0 rfl) ?_
    refine lv_i2l (v := (iI (sp_hold S ((xs (i + 1).toNat).toInt) ((xs (i + 2).toNat).toInt)).2.1).toInt64) hx hb dL_law_678 rfl ?_
    refine W.lcmp hx hb dL_law_679 ?_
    refine h_top hx (y := iI 0) (cmp_same _) ?_
    refine h_if_eq (tgt := 685) hx hb (a := 0) ⟨by omega, by omega⟩ dL_law_680 (by decide) (fun _ => ?_) (fun c7 => absurd rfl c7)
    refine lv_goto (tgt := 1411) hx hb dL_law_685 (by decide) ?_
    exact W.widen (k := cells + 9) (n := slots + 3033) (by omega) (by omega) (kk _ ls ⟨(sp_hold S ((xs (i + 1).toNat).toInt) ((xs (i + 2).toNat).toInt)).2.2, w1, g1, T1, u1, f1, wfs_hold hw hn ((xs (i + 1).toNat).toInt) ((xs (i + 2).toNat).toInt), hR1, hg1, hM1, hLW, hS⟩ (lv_sub hl [2, 3, 4, 5, 6] rfl))

set_option maxRecDepth 100000 in
set_option maxHeartbeats 4000000 in
theorem law_release {p : Program} {l : Launch} {e : Env} {s : State} {m : MethodId} {below : List Frame} {meth : Method} {c : Code} {Q : State → Prop} {b L : Nat} {xs : Nat → Int32} {D : va_G} {cO : ClassId} {dz mi : Nat} {kI cJ : ClassId} {ad : Nat → Nat} {ob a0 : Nat} (C : LCtx p l s m c b L xs D cO dz mi kI cJ ad ob) {n i : Int} {H : Heap} {cells slots : Nat} {ls : Array Slot} (hinv : LInv D cO dz kI cJ s ad ob a0 n H) (hn : n < 512) (h0 : 0 ≤ i) (h1 : i + 4 ≤ L) (hc : cells + 9 ≤ 601024) (hs : slots + 3033 ≤ 7293034) (kk : LTail p l e s m b below meth c D cO dz kI cJ ad ob a0 Q n i cells slots) (hl : lv_has ls 7 [(0, .ref b), (1, .ref a0), (2, .ref (ad 11)), (3, .ref ob), (4, .int (iI i))]) : W p l e room_1 s m #[Value.ref b] below meth c H [] cells slots Q (F0 m 688 ls []) := by
  obtain ⟨hx, hb, hml, hown, hts, hX, hbl, hL, hEn, hFx, hst⟩ := C
  obtain ⟨S, w, g, T, u, f, hw, hR, rfl, hM, hLW, hS⟩ := hinv
  obtain ⟨u0, hDM⟩ := hFx.2.2.2
  refine lv_aload_n hx hb dL_law_688 rfl (lv_at hl 1 rfl) ?_
  refine lv_aload_n hx hb dL_law_689 rfl (lv_at hl 0 rfl) ?_
  refine lv_iload hx hb dL_law_690 (lv_at hl 4 rfl) ?_
  refine lv_iconst (v := iI 1) hx hb dL_law_692 rfl ?_
  refine h_iadd hx hb dL_law_693 ?_
  refine l_sld hx hb hX hbl hS hL (z := i + 1) (by omega) (by omega) dL_law_694 ?_
  refine lv_aload_n hx hb dL_law_695 rfl (lv_at hl 3 rfl) ?_
  refine l_wrap (As := [.ref (g 0 0), .int (iI ((xs (i + 1).toNat).toInt)), .ref ob]) (rest := []) ⟨hx, hb, hml, hown, hts⟩ (c_L_release l D cO dz mi hw hR hst cJ ob f ((xs (i + 1).toNat).toInt) (iI_inR _)) (vx_cwSW 3 hts gL_law_L_release rfl rfl rfl (by decide +kernel) ⟨Nat.le_of_ble_eq_true rfl, Nat.le_of_ble_eq_true rfl⟩) hEn hFx hLW hS rfl hl.1 rfl (Nat.le_of_ble_eq_true rfl) ⟨by show cells + 1 ≤ 601024; omega, by show slots + 6 ≤ 7293034; omega⟩ dL_law_696 (fun w1 f1 H hrel hans hLW hS => ?_)
  obtain ⟨g1, T1, hg1, hR1⟩ := hrel
  have hq9 : 0 ≤ (sp_release S ((xs (i + 1).toNat).toInt)).1 ∧ (sp_release S ((xs (i + 1).toNat).toInt)).1 ≤ 3 := by rcases spn_release (S := S) ((xs (i + 1).toNat).toInt) with h9 | ⟨h9, h8, -⟩ <;> omega
  refine lv_istore (lv' := [(5, .int (iI (sp_release S ((xs (i + 1).toNat).toInt)).1)), (0, .ref b), (1, .ref (g 0 0)), (2, .ref (ad 11)), (3, .ref ob), (4, .int (iI i))]) hx hb dL_law_699 hl (by decide) rfl (fun ls hl => ?_)
  refine lv_aload_n hx hb dL_law_701 rfl (lv_at hl 3 rfl) ?_
  refine lv_aload_n hx hb dL_law_702 rfl (lv_at hl 1 rfl) ?_
  refine lv_iload hx hb dL_law_703 (lv_at hl 5 rfl) ?_
  refine lv_iconst (v := iI 1) hx hb dL_law_705 rfl ?_
  refine h_iadd hx hb dL_law_706 ?_
  refine l_sld hx hb hX hbl hS hL (z := i + 1) (by omega) (by omega) dL_law_707 ?_
  refine l_mod (As := [.int (iI ((xs (i + 1).toNat).toInt))]) (rest := []) ⟨hx, hb, hml, hown, hts⟩ (c_X4_release l D ad kI hDM hw u hM ((xs (i + 1).toNat).toInt) (iI_inR _)) (cwV 1 hts gL_law_X4_release rfl rfl rfl (by decide +kernel) ⟨Nat.le_of_ble_eq_true rfl, Nat.le_of_ble_eq_true rfl⟩) hEn hFx hLW hS rfl hl.1 rfl (Nat.le_of_ble_eq_true rfl) ⟨by show cells + 1 ≤ 601024; omega, by show slots + 6 ≤ 7293034; omega⟩ dL_law_708 (fun r u1 H hp hLW hS => ?_)
  obtain ⟨rfl, ht, hM1⟩ := hp
  refine lv_istore (lv' := [(6, .int (iI (sp_release S ((xs (i + 1).toNat).toInt)).2.1)), (5, .int (iI (sp_release S ((xs (i + 1).toNat).toInt)).1)), (0, .ref b), (1, .ref (g 0 0)), (2, .ref (ad 11)), (3, .ref ob), (4, .int (iI i))]) hx hb dL_law_711 hl (by decide) rfl (fun ls hl => ?_)
  refine lv_aload_n hx hb dL_law_713 rfl (lv_at hl 4 rfl) ?_
  refine l_mod (As := []) (rest := []) ⟨hx, hb, hml, hown, hts⟩ (c_X4_thrown l D ad kI hDM u1 (sp_release S ((xs (i + 1).toNat).toInt)).1 ht) (cwV 0 hts gL_law_X4_thrown rfl rfl rfl (by decide +kernel) ⟨Nat.le_of_ble_eq_true rfl, Nat.le_of_ble_eq_true rfl⟩) hEn hFx hLW hS rfl hl.1 rfl (Nat.le_of_ble_eq_true rfl) ⟨by show cells + 1 ≤ 601024; omega, by show slots + 6 ≤ 7293034; omega⟩ dL_law_714 (fun r u2 H hp hLW hS => ?_)
  obtain ⟨rfl, rfl⟩ := hp
  refine lv_iload hx hb dL_law_717 (lv_at hl 1 rfl) ?_
  refine h_icmp_eq (tgt := 724) hx hb (a := (sp_release S ((xs (i + 1).toNat).toInt)).1) (b := (sp_release S ((xs (i + 1).toNat).toInt)).1) ⟨by omega, by omega⟩ ⟨by omega, by omega⟩ dL_law_719 (by decide) (fun _ => ?_) (fun c9 => absurd rfl c9)
  refine lv_iload hx hb dL_law_724 (lv_at hl 1 rfl) ?_
  refine h_if_ne (tgt := 741) hx hb (a := (sp_release S ((xs (i + 1).toNat).toInt)).1) ⟨by omega, by omega⟩ dL_law_726 (by decide) (fun c8 => ?_) (fun c8 => ?_)
  · skip
    refine lv_goto (tgt := 1411) hx hb dL_law_741 (by decide) ?_
    exact W.widen (k := cells + 9) (n := slots + 3033) (by omega) (by omega) (kk _ ls ⟨(sp_release S ((xs (i + 1).toNat).toInt)).2.2, w1, g1, T1, u1, f1, wfs_release hw hn ((xs (i + 1).toNat).toInt), hR1, hg1, hM1, hLW, hS⟩ (lv_sub hl [2, 3, 4, 5, 6] rfl))
  · skip
    refine lv_aload_n hx hb dL_law_729 rfl (lv_at hl 5 rfl) ?_
    refine lv_iconst (v := iI 0) hx hb dL_law_730 rfl ?_
    refine l_lald hx hb hEn hLW (hans c8) dL_law_731 ?_
    refine lv_iload hx hb dL_law_732 (lv_at hl 0 rfl) ?_
    refine lv_i2l (v := (iI (sp_release S ((xs (i + 1).toNat).toInt)).2.1).toInt64) hx hb dL_law_734 rfl ?_
    refine W.lcmp hx hb dL_law_735 ?_
    refine h_top hx (y := iI 0) (cmp_same _) ?_
    refine h_if_eq (tgt := 741) hx hb (a := 0) ⟨by omega, by omega⟩ dL_law_736 (by decide) (fun _ => ?_) (fun c7 => absurd rfl c7)
    refine lv_goto (tgt := 1411) hx hb dL_law_741 (by decide) ?_
    exact W.widen (k := cells + 9) (n := slots + 3033) (by omega) (by omega) (kk _ ls ⟨(sp_release S ((xs (i + 1).toNat).toInt)).2.2, w1, g1, T1, u1, f1, wfs_release hw hn ((xs (i + 1).toNat).toInt), hR1, hg1, hM1, hLW, hS⟩ (lv_sub hl [2, 3, 4, 5, 6] rfl))

set_option maxRecDepth 100000 in
set_option maxHeartbeats 4000000 in
theorem law_fund {p : Program} {l : Launch} {e : Env} {s : State} {m : MethodId} {below : List Frame} {meth : Method} {c : Code} {Q : State → Prop} {b L : Nat} {xs : Nat → Int32} {D : va_G} {cO : ClassId} {dz mi : Nat} {kI cJ : ClassId} {ad : Nat → Nat} {ob a0 : Nat} (C : LCtx p l s m c b L xs D cO dz mi kI cJ ad ob) {n i : Int} {H : Heap} {cells slots : Nat} {ls : Array Slot} (hinv : LInv D cO dz kI cJ s ad ob a0 n H) (hn : n < 512) (h0 : 0 ≤ i) (h1 : i + 4 ≤ L) (hc : cells + 9 ≤ 601024) (hs : slots + 3033 ≤ 7293034) (kk : LTail p l e s m b below meth c D cO dz kI cJ ad ob a0 Q n i cells slots) (hl : lv_has ls 7 [(0, .ref b), (1, .ref a0), (2, .ref (ad 11)), (3, .ref ob), (4, .int (iI i))]) : W p l e room_1 s m #[Value.ref b] below meth c H [] cells slots Q (F0 m 744 ls []) := by
  obtain ⟨hx, hb, hml, hown, hts, hX, hbl, hL, hEn, hFx, hst⟩ := C
  obtain ⟨S, w, g, T, u, f, hw, hR, rfl, hM, hLW, hS⟩ := hinv
  obtain ⟨u0, hDM⟩ := hFx.2.2.2
  refine lv_aload_n hx hb dL_law_744 rfl (lv_at hl 1 rfl) ?_
  refine lv_aload_n hx hb dL_law_745 rfl (lv_at hl 0 rfl) ?_
  refine lv_iload hx hb dL_law_746 (lv_at hl 4 rfl) ?_
  refine lv_iconst (v := iI 1) hx hb dL_law_748 rfl ?_
  refine h_iadd hx hb dL_law_749 ?_
  refine l_sld hx hb hX hbl hS hL (z := i + 1) (by omega) (by omega) dL_law_750 ?_
  refine lv_aload_n hx hb dL_law_751 rfl (lv_at hl 0 rfl) ?_
  refine lv_iload hx hb dL_law_752 (lv_at hl 4 rfl) ?_
  refine lv_iconst (v := iI 2) hx hb dL_law_754 rfl ?_
  refine h_iadd hx hb dL_law_755 ?_
  refine l_sld hx hb hX hbl hS hL (z := i + 2) (by omega) (by omega) dL_law_756 ?_
  refine lv_aload_n hx hb dL_law_757 rfl (lv_at hl 3 rfl) ?_
  refine l_wrap (As := [.ref (g 0 0), .int (iI ((xs (i + 1).toNat).toInt)), .int (iI ((xs (i + 2).toNat).toInt)), .ref ob]) (rest := []) ⟨hx, hb, hml, hown, hts⟩ (c_L_fund l D cO dz mi hw hR hst cJ ob f ((xs (i + 1).toNat).toInt) ((xs (i + 2).toNat).toInt) (iI_inR _) (iI_inR _)) (vx_cwSW 4 hts gL_law_L_fund rfl rfl rfl (by decide +kernel) ⟨Nat.le_of_ble_eq_true rfl, Nat.le_of_ble_eq_true rfl⟩) hEn hFx hLW hS rfl hl.1 rfl (Nat.le_of_ble_eq_true rfl) ⟨by show cells + 3 ≤ 601024; omega, by show slots + 18 ≤ 7293034; omega⟩ dL_law_758 (fun w1 f1 H hrel hans hLW hS => ?_)
  obtain ⟨g1, T1, hg1, hR1⟩ := hrel
  have hq9 : 0 ≤ (sp_fund S ((xs (i + 1).toNat).toInt) ((xs (i + 2).toNat).toInt)).1 ∧ (sp_fund S ((xs (i + 1).toNat).toInt) ((xs (i + 2).toNat).toInt)).1 ≤ 3 := by rcases spn_fund (S := S) ((xs (i + 1).toNat).toInt) ((xs (i + 2).toNat).toInt) with h9 | ⟨h9, h8, -⟩ <;> omega
  refine lv_istore (lv' := [(5, .int (iI (sp_fund S ((xs (i + 1).toNat).toInt) ((xs (i + 2).toNat).toInt)).1)), (0, .ref b), (1, .ref (g 0 0)), (2, .ref (ad 11)), (3, .ref ob), (4, .int (iI i))]) hx hb dL_law_761 hl (by decide) rfl (fun ls hl => ?_)
  refine lv_aload_n hx hb dL_law_763 rfl (lv_at hl 3 rfl) ?_
  refine lv_aload_n hx hb dL_law_764 rfl (lv_at hl 1 rfl) ?_
  refine lv_iload hx hb dL_law_765 (lv_at hl 5 rfl) ?_
  refine lv_iconst (v := iI 1) hx hb dL_law_767 rfl ?_
  refine h_iadd hx hb dL_law_768 ?_
  refine l_sld hx hb hX hbl hS hL (z := i + 1) (by omega) (by omega) dL_law_769 ?_
  refine lv_aload_n hx hb dL_law_770 rfl (lv_at hl 1 rfl) ?_
  refine lv_iload hx hb dL_law_771 (lv_at hl 5 rfl) ?_
  refine lv_iconst (v := iI 2) hx hb dL_law_773 rfl ?_
  refine h_iadd hx hb dL_law_774 ?_
  refine l_sld hx hb hX hbl hS hL (z := i + 2) (by omega) (by omega) dL_law_775 ?_
  refine l_mod (As := [.int (iI ((xs (i + 1).toNat).toInt)), .int (iI ((xs (i + 2).toNat).toInt))]) (rest := []) ⟨hx, hb, hml, hown, hts⟩ (c_X4_fund l D ad kI hDM hw u hM ((xs (i + 1).toNat).toInt) ((xs (i + 2).toNat).toInt) (iI_inR _) (iI_inR _)) (cwV 2 hts gL_law_X4_fund rfl rfl rfl (by decide +kernel) ⟨Nat.le_of_ble_eq_true rfl, Nat.le_of_ble_eq_true rfl⟩) hEn hFx hLW hS rfl hl.1 rfl (Nat.le_of_ble_eq_true rfl) ⟨by show cells + 3 ≤ 601024; omega, by show slots + 18 ≤ 7293034; omega⟩ dL_law_776 (fun r u1 H hp hLW hS => ?_)
  obtain ⟨rfl, ht, hM1⟩ := hp
  refine lv_istore (lv' := [(6, .int (iI (sp_fund S ((xs (i + 1).toNat).toInt) ((xs (i + 2).toNat).toInt)).2.1)), (5, .int (iI (sp_fund S ((xs (i + 1).toNat).toInt) ((xs (i + 2).toNat).toInt)).1)), (0, .ref b), (1, .ref (g 0 0)), (2, .ref (ad 11)), (3, .ref ob), (4, .int (iI i))]) hx hb dL_law_779 hl (by decide) rfl (fun ls hl => ?_)
  refine lv_aload_n hx hb dL_law_781 rfl (lv_at hl 4 rfl) ?_
  refine l_mod (As := []) (rest := []) ⟨hx, hb, hml, hown, hts⟩ (c_X4_thrown l D ad kI hDM u1 (sp_fund S ((xs (i + 1).toNat).toInt) ((xs (i + 2).toNat).toInt)).1 ht) (cwV 0 hts gL_law_X4_thrown rfl rfl rfl (by decide +kernel) ⟨Nat.le_of_ble_eq_true rfl, Nat.le_of_ble_eq_true rfl⟩) hEn hFx hLW hS rfl hl.1 rfl (Nat.le_of_ble_eq_true rfl) ⟨by show cells + 3 ≤ 601024; omega, by show slots + 18 ≤ 7293034; omega⟩ dL_law_782 (fun r u2 H hp hLW hS => ?_)
  obtain ⟨rfl, rfl⟩ := hp
  refine lv_iload hx hb dL_law_785 (lv_at hl 1 rfl) ?_
  refine h_icmp_eq (tgt := 792) hx hb (a := (sp_fund S ((xs (i + 1).toNat).toInt) ((xs (i + 2).toNat).toInt)).1) (b := (sp_fund S ((xs (i + 1).toNat).toInt) ((xs (i + 2).toNat).toInt)).1) ⟨by omega, by omega⟩ ⟨by omega, by omega⟩ dL_law_787 (by decide) (fun _ => ?_) (fun c9 => absurd rfl c9)
  refine lv_iload hx hb dL_law_792 (lv_at hl 1 rfl) ?_
  refine h_if_ne (tgt := 809) hx hb (a := (sp_fund S ((xs (i + 1).toNat).toInt) ((xs (i + 2).toNat).toInt)).1) ⟨by omega, by omega⟩ dL_law_794 (by decide) (fun c8 => ?_) (fun c8 => ?_)
  · skip
    refine lv_goto (tgt := 1411) hx hb dL_law_809 (by decide) ?_
    exact W.widen (k := cells + 9) (n := slots + 3033) (by omega) (by omega) (kk _ ls ⟨(sp_fund S ((xs (i + 1).toNat).toInt) ((xs (i + 2).toNat).toInt)).2.2, w1, g1, T1, u1, f1, wfs_fund hw hn ((xs (i + 1).toNat).toInt) ((xs (i + 2).toNat).toInt), hR1, hg1, hM1, hLW, hS⟩ (lv_sub hl [2, 3, 4, 5, 6] rfl))
  · skip
    refine lv_aload_n hx hb dL_law_797 rfl (lv_at hl 5 rfl) ?_
    refine lv_iconst (v := iI 0) hx hb dL_law_798 rfl ?_
    refine l_lald hx hb hEn hLW (hans c8) dL_law_799 ?_
    refine lv_iload hx hb dL_law_800 (lv_at hl 0 rfl) ?_
    refine lv_i2l (v := (iI (sp_fund S ((xs (i + 1).toNat).toInt) ((xs (i + 2).toNat).toInt)).2.1).toInt64) hx hb dL_law_802 rfl ?_
    refine W.lcmp hx hb dL_law_803 ?_
    refine h_top hx (y := iI 0) (cmp_same _) ?_
    refine h_if_eq (tgt := 809) hx hb (a := 0) ⟨by omega, by omega⟩ dL_law_804 (by decide) (fun _ => ?_) (fun c7 => absurd rfl c7)
    refine lv_goto (tgt := 1411) hx hb dL_law_809 (by decide) ?_
    exact W.widen (k := cells + 9) (n := slots + 3033) (by omega) (by omega) (kk _ ls ⟨(sp_fund S ((xs (i + 1).toNat).toInt) ((xs (i + 2).toNat).toInt)).2.2, w1, g1, T1, u1, f1, wfs_fund hw hn ((xs (i + 1).toNat).toInt) ((xs (i + 2).toNat).toInt), hR1, hg1, hM1, hLW, hS⟩ (lv_sub hl [2, 3, 4, 5, 6] rfl))

set_option maxRecDepth 100000 in
set_option maxHeartbeats 4000000 in
theorem law_pass {p : Program} {l : Launch} {e : Env} {s : State} {m : MethodId} {below : List Frame} {meth : Method} {c : Code} {Q : State → Prop} {b L : Nat} {xs : Nat → Int32} {D : va_G} {cO : ClassId} {dz mi : Nat} {kI cJ : ClassId} {ad : Nat → Nat} {ob a0 : Nat} (C : LCtx p l s m c b L xs D cO dz mi kI cJ ad ob) {n i : Int} {H : Heap} {cells slots : Nat} {ls : Array Slot} (hinv : LInv D cO dz kI cJ s ad ob a0 n H) (hn : n < 512) (h0 : 0 ≤ i) (h1 : i + 4 ≤ L) (hc : cells + 9 ≤ 601024) (hs : slots + 3033 ≤ 7293034) (kk : LTail p l e s m b below meth c D cO dz kI cJ ad ob a0 Q n i cells slots) (hl : lv_has ls 7 [(0, .ref b), (1, .ref a0), (2, .ref (ad 11)), (3, .ref ob), (4, .int (iI i))]) : W p l e room_1 s m #[Value.ref b] below meth c H [] cells slots Q (F0 m 812 ls []) := by
  obtain ⟨hx, hb, hml, hown, hts, hX, hbl, hL, hEn, hFx, hst⟩ := C
  obtain ⟨S, w, g, T, u, f, hw, hR, rfl, hM, hLW, hS⟩ := hinv
  obtain ⟨u0, hDM⟩ := hFx.2.2.2
  refine lv_aload_n hx hb dL_law_812 rfl (lv_at hl 1 rfl) ?_
  refine lv_aload_n hx hb dL_law_813 rfl (lv_at hl 0 rfl) ?_
  refine lv_iload hx hb dL_law_814 (lv_at hl 4 rfl) ?_
  refine lv_iconst (v := iI 1) hx hb dL_law_816 rfl ?_
  refine h_iadd hx hb dL_law_817 ?_
  refine l_sld hx hb hX hbl hS hL (z := i + 1) (by omega) (by omega) dL_law_818 ?_
  refine lv_aload_n hx hb dL_law_819 rfl (lv_at hl 3 rfl) ?_
  refine l_wrap (As := [.ref (g 0 0), .int (iI ((xs (i + 1).toNat).toInt)), .ref ob]) (rest := []) ⟨hx, hb, hml, hown, hts⟩ (c_L_pass l D cO dz mi hw hR hst cJ ob f ((xs (i + 1).toNat).toInt) (iI_inR _)) (vx_cwSW 3 hts gL_law_L_pass rfl rfl rfl (by decide +kernel) ⟨Nat.le_of_ble_eq_true rfl, Nat.le_of_ble_eq_true rfl⟩) hEn hFx hLW hS rfl hl.1 rfl (Nat.le_of_ble_eq_true rfl) ⟨by show cells + 2 ≤ 601024; omega, by show slots + 12 ≤ 7293034; omega⟩ dL_law_820 (fun w1 f1 H hrel hans hLW hS => ?_)
  obtain ⟨g1, T1, hg1, hR1⟩ := hrel
  have hq9 : 0 ≤ (sp_pass S ((xs (i + 1).toNat).toInt)).1 ∧ (sp_pass S ((xs (i + 1).toNat).toInt)).1 ≤ 3 := by rcases spn_pass (S := S) ((xs (i + 1).toNat).toInt) with h9 | ⟨h9, h8, -⟩ <;> omega
  refine lv_istore (lv' := [(5, .int (iI (sp_pass S ((xs (i + 1).toNat).toInt)).1)), (0, .ref b), (1, .ref (g 0 0)), (2, .ref (ad 11)), (3, .ref ob), (4, .int (iI i))]) hx hb dL_law_823 hl (by decide) rfl (fun ls hl => ?_)
  refine lv_aload_n hx hb dL_law_825 rfl (lv_at hl 3 rfl) ?_
  refine lv_aload_n hx hb dL_law_826 rfl (lv_at hl 1 rfl) ?_
  refine lv_iload hx hb dL_law_827 (lv_at hl 5 rfl) ?_
  refine lv_iconst (v := iI 1) hx hb dL_law_829 rfl ?_
  refine h_iadd hx hb dL_law_830 ?_
  refine l_sld hx hb hX hbl hS hL (z := i + 1) (by omega) (by omega) dL_law_831 ?_
  refine l_mod (As := [.int (iI ((xs (i + 1).toNat).toInt))]) (rest := []) ⟨hx, hb, hml, hown, hts⟩ (c_X4_pass l D ad kI hDM hw u hM ((xs (i + 1).toNat).toInt) (iI_inR _)) (cwV 1 hts gL_law_X4_pass rfl rfl rfl (by decide +kernel) ⟨Nat.le_of_ble_eq_true rfl, Nat.le_of_ble_eq_true rfl⟩) hEn hFx hLW hS rfl hl.1 rfl (Nat.le_of_ble_eq_true rfl) ⟨by show cells + 2 ≤ 601024; omega, by show slots + 12 ≤ 7293034; omega⟩ dL_law_832 (fun r u1 H hp hLW hS => ?_)
  obtain ⟨rfl, ht, hM1⟩ := hp
  refine lv_istore (lv' := [(6, .int (iI (sp_pass S ((xs (i + 1).toNat).toInt)).2.1)), (5, .int (iI (sp_pass S ((xs (i + 1).toNat).toInt)).1)), (0, .ref b), (1, .ref (g 0 0)), (2, .ref (ad 11)), (3, .ref ob), (4, .int (iI i))]) hx hb dL_law_835 hl (by decide) rfl (fun ls hl => ?_)
  refine lv_aload_n hx hb dL_law_837 rfl (lv_at hl 4 rfl) ?_
  refine l_mod (As := []) (rest := []) ⟨hx, hb, hml, hown, hts⟩ (c_X4_thrown l D ad kI hDM u1 (sp_pass S ((xs (i + 1).toNat).toInt)).1 ht) (cwV 0 hts gL_law_X4_thrown rfl rfl rfl (by decide +kernel) ⟨Nat.le_of_ble_eq_true rfl, Nat.le_of_ble_eq_true rfl⟩) hEn hFx hLW hS rfl hl.1 rfl (Nat.le_of_ble_eq_true rfl) ⟨by show cells + 2 ≤ 601024; omega, by show slots + 12 ≤ 7293034; omega⟩ dL_law_838 (fun r u2 H hp hLW hS => ?_)
  obtain ⟨rfl, rfl⟩ := hp
  refine lv_iload hx hb dL_law_841 (lv_at hl 1 rfl) ?_
  refine h_icmp_eq (tgt := 848) hx hb (a := (sp_pass S ((xs (i + 1).toNat).toInt)).1) (b := (sp_pass S ((xs (i + 1).toNat).toInt)).1) ⟨by omega, by omega⟩ ⟨by omega, by omega⟩ dL_law_843 (by decide) (fun _ => ?_) (fun c9 => absurd rfl c9)
  refine lv_iload hx hb dL_law_848 (lv_at hl 1 rfl) ?_
  refine h_if_ne (tgt := 865) hx hb (a := (sp_pass S ((xs (i + 1).toNat).toInt)).1) ⟨by omega, by omega⟩ dL_law_850 (by decide) (fun c8 => ?_) (fun c8 => ?_)
  · skip
    refine lv_goto (tgt := 1411) hx hb dL_law_865 (by decide) ?_
    exact W.widen (k := cells + 9) (n := slots + 3033) (by omega) (by omega) (kk _ ls ⟨(sp_pass S ((xs (i + 1).toNat).toInt)).2.2, w1, g1, T1, u1, f1, wfs_pass hw hn ((xs (i + 1).toNat).toInt), hR1, hg1, hM1, hLW, hS⟩ (lv_sub hl [2, 3, 4, 5, 6] rfl))
  · skip
    refine lv_aload_n hx hb dL_law_853 rfl (lv_at hl 5 rfl) ?_
    refine lv_iconst (v := iI 0) hx hb dL_law_854 rfl ?_
    refine l_lald hx hb hEn hLW (hans c8) dL_law_855 ?_
    refine lv_iload hx hb dL_law_856 (lv_at hl 0 rfl) ?_
    refine lv_i2l (v := (iI (sp_pass S ((xs (i + 1).toNat).toInt)).2.1).toInt64) hx hb dL_law_858 rfl ?_
    refine W.lcmp hx hb dL_law_859 ?_
    refine h_top hx (y := iI 0) (cmp_same _) ?_
    refine h_if_eq (tgt := 865) hx hb (a := 0) ⟨by omega, by omega⟩ dL_law_860 (by decide) (fun _ => ?_) (fun c7 => absurd rfl c7)
    refine lv_goto (tgt := 1411) hx hb dL_law_865 (by decide) ?_
    exact W.widen (k := cells + 9) (n := slots + 3033) (by omega) (by omega) (kk _ ls ⟨(sp_pass S ((xs (i + 1).toNat).toInt)).2.2, w1, g1, T1, u1, f1, wfs_pass hw hn ((xs (i + 1).toNat).toInt), hR1, hg1, hM1, hLW, hS⟩ (lv_sub hl [2, 3, 4, 5, 6] rfl))

set_option maxRecDepth 100000 in
set_option maxHeartbeats 4000000 in
theorem law_day {p : Program} {l : Launch} {e : Env} {s : State} {m : MethodId} {below : List Frame} {meth : Method} {c : Code} {Q : State → Prop} {b L : Nat} {xs : Nat → Int32} {D : va_G} {cO : ClassId} {dz mi : Nat} {kI cJ : ClassId} {ad : Nat → Nat} {ob a0 : Nat} (C : LCtx p l s m c b L xs D cO dz mi kI cJ ad ob) {n i : Int} {H : Heap} {cells slots : Nat} {ls : Array Slot} (hinv : LInv D cO dz kI cJ s ad ob a0 n H) (hn : n < 512) (h0 : 0 ≤ i) (h1 : i + 4 ≤ L) (hc : cells + 9 ≤ 601024) (hs : slots + 3033 ≤ 7293034) (kk : LTail p l e s m b below meth c D cO dz kI cJ ad ob a0 Q n i cells slots) (hl : lv_has ls 7 [(0, .ref b), (1, .ref a0), (2, .ref (ad 11)), (3, .ref ob), (4, .int (iI i))]) : W p l e room_1 s m #[Value.ref b] below meth c H [] cells slots Q (F0 m 868 ls []) := by
  obtain ⟨hx, hb, hml, hown, hts, hX, hbl, hL, hEn, hFx, hst⟩ := C
  obtain ⟨S, w, g, T, u, f, hw, hR, rfl, hM, hLW, hS⟩ := hinv
  obtain ⟨u0, hDM⟩ := hFx.2.2.2
  refine lv_aload_n hx hb dL_law_868 rfl (lv_at hl 1 rfl) ?_
  refine l_sys (As := []) (rest := []) (v := S.1 11 2) ⟨hx, hb, hml, hown, hts⟩ (c_day l D cO dz mi hw hR) (cwV 0 hts gL_law_X3_day rfl rfl rfl (by decide +kernel) ⟨Nat.le_of_ble_eq_true rfl, Nat.le_of_ble_eq_true rfl⟩) hEn hLW hS hR.k0 rfl hl.1 rfl (Nat.le_of_ble_eq_true rfl) ⟨by show cells ≤ 601024; omega, by show slots ≤ 7293034; omega⟩ dL_law_869 (fun H hLW hS => ?_)
  refine lv_aload_n hx hb dL_law_872 rfl (lv_at hl 2 rfl) ?_
  refine l_mod (As := []) (rest := [.int (iI (S.1 11 2))]) ⟨hx, hb, hml, hown, hts⟩ (c_X4_day l D ad kI hDM hw u hM) (cwV 0 hts gL_law_X4_day rfl rfl rfl (by decide +kernel) ⟨Nat.le_of_ble_eq_true rfl, Nat.le_of_ble_eq_true rfl⟩) hEn hFx hLW hS rfl hl.1 rfl (Nat.le_of_ble_eq_true rfl) ⟨by show cells ≤ 601024; omega, by show slots ≤ 7293034; omega⟩ dL_law_873 (fun r u1 H hp hLW hS => ?_)
  obtain ⟨rfl, ht, hM1⟩ := hp
  have hnd := hw.nd
  have hnf := hw.nf
  have hdy := hw.day
  refine h_icmp_eq (tgt := 1411) hx hb (a := S.1 11 2) (b := S.1 11 2) ⟨by omega, by omega⟩ ⟨by omega, by omega⟩ dL_law_876 (by decide) (fun _ => ?_) (fun c9 => absurd rfl c9)
  exact W.widen (k := cells + 9) (n := slots + 3033) (by omega) (by omega) (kk _ ls ⟨S, w, g, T, u1, f, wf_up hw hn, hR, rfl, hM1, hLW, hS⟩ (lv_sub hl [0, 1, 2, 3, 4] rfl))
