/-! THE CLAIM OUT OF ONE WALK OF THE LAW'S BODY. Your part is whole_start (and what it stands on); all else here is the same for every law, but numbers. -/
def R_law : String := "HoldServerLaw"
def lw_P (b : Addr) (xs : List Int32) (args : Array Value) (s : State) : Prop := args = #[.ref b] ∧ s.IntsAt b xs ∧ xs.length ≤ 2048 ∧ (Jvm.Cond.and given_1 narrow_1).before args s = true
def lw_Q (_ : Array Value) (s : State) (o : Outcome) (t : State) : Prop := o = .returned (some (.int 1)) ∧ Framed s o t [] 601024 7293034
def lw_Z (below : List Frame) (a : Array Value) (s : State) : State → Prop := fun t => ∃ o, t.status = .running ∧ Ended t below o ∧ lw_Q a s o t
/-- the law's own end, with 1 on the stack, nothing written that was there before, its room as the claim has it -/
theorem lw_ret {p : Program} {l : Launch} {e : Env} {s : State} {m : MethodId} {below : List Frame} {meth : Method} {c : Code} {b : Nat} (hx : p.tables.exec = Jvm.exec) (hb : c.code = code) (hr : meth.sig.returnType = ret) (hlocks : meth.locks = false) {pc : Nat} {H : Heap} {ls : Array Slot} (hdg : decode code pc = .ok (.ireturn, 1)) : W p l e room_1 s m #[Value.ref b] below meth c H [] 601024 7293034 (lw_Z below #[Value.ref b] s) (F0 m pc ls [.int 1]) := by
  intro T hT X
  obtain ⟨fs, hret, hrun, hended, hW, hframe⟩ := X.leave (v := some (.int 1)) (hlocks := hlocks) (fun h => by rw [hr] at h; cases h)
  have hmeth' : T.vm.method? m = some meth := X.method'
  refine ⟨T.setFrames fs, ?_, .returned (some (.int 1)), hrun, hended, rfl, ⟨_, rfl⟩, hW, hframe⟩
  jvm_step X.here [X.here.top, hx, hb, hdg, hmeth', hr, ret, narrow_b1]
  (try refine ⟨rfl, ?_⟩); (try refine ⟨rfl, ?_⟩)
  first | (intro acts; rw [hret _ acts rfl rfl rfl]) | rw [hret _ _ rfl rfl rfl]
  exact Steps.refl _
/-- what holds at the law's entry: the machine, the code, the tables' words (any of lw_tbl by 'hts w (by decide +kernel)'), the script of L ints xs at the cell b, what the Statement gives of the start (any of its parts by flat_of_before) -/
def lw_At (p : Program) (s : State) (m : MethodId) (meth : Method) (c : Code) (b L : Nat) (xs : Nat → Int32) : Prop :=
  p.tables.exec = Jvm.exec ∧ c.code = code ∧ meth.sig.returnType = ret ∧ c.maxLocals = 7 ∧ s.vm.findClass R_law = some m.cls ∧ (∀ w ∈ lw_tbl, w.before #[Value.ref b] s = true) ∧ va_X b L xs s s.heap ∧ b < s.heap.size ∧ meth.locks = false ∧ (Jvm.Cond.and given_1 narrow_1).before #[Value.ref b] s = true
theorem LInv.up {D : va_G} {cO : ClassId} {dz : Nat} {kI cJ : ClassId} {s : State} {ad : Nat → Nat} {ob a0 : Nat} {n : Int} {H : Heap} (h : LInv D cO dz kI cJ s ad ob a0 n H) (hn : n < 512) : LInv D cO dz kI cJ s ad ob a0 (n + 1) H := by
  obtain ⟨S, w, g, T, u, f, hw, hR, hg, hM, hLW, hS⟩ := h
  exact ⟨S, w, g, T, u, f, wf_up hw hn, hR, hg, hM, hLW, hS⟩
theorem LInv.S {D : va_G} {cO : ClassId} {dz : Nat} {kI cJ : ClassId} {s : State} {ad : Nat → Nat} {ob a0 : Nat} {n : Int} {H : Heap} (h : LInv D cO dz kI cJ s ad ob a0 n H) : va_S (fun q => s.heap.size ≤ q) s.heap H [] := by
  obtain ⟨S, w, g, T, u, f, hw, hR, hg, hM, hLW, hS⟩ := h
  exact hS
set_option maxRecDepth 100000 in
set_option maxHeartbeats 4000000 in
theorem law_loop {p : Program} {l : Launch} {e : Env} {s : State} {m : MethodId} {below : List Frame} {meth : Method} {c : Code} {b L : Nat} {xs : Nat → Int32} {D : va_G} {cO : ClassId} {dz mi : Nat} {kI cJ : ClassId} {ad : Nat → Nat} {ob a0 : Nat} (C : LCtx p l s m c b L xs D cO dz mi kI cJ ad ob) (hr : meth.sig.returnType = ret) (hlocks : meth.locks = false) : ∀ (k j : Nat) (i : Int) (H : Heap) (cells slots : Nat) (ls : Array Slot), (L : Int) + 4 - i < (k : Int) → i = 4 * (j : Int) → i ≤ (L : Int) + 4 → cells ≤ 100 + 9 * j → slots ≤ 20000 + 3033 * j → LInv D cO dz kI cJ s ad ob a0 (j : Int) H → lv_has ls 7 [(0, .ref b), (1, .ref a0), (2, .ref (ad 11)), (3, .ref ob), (4, .int (iI i))] → W p l e room_1 s m #[Value.ref b] below meth c H [] cells slots (lw_Z below #[Value.ref b] s) (F0 m 23 ls []) := by
  intro k
  induction k with
  | zero => intro j i H cells slots ls h1 h2 h3 h4 h5 hinv hl; exfalso; omega
  | succ k ih =>
    intro j i H cells slots ls h1 h2 h3 h4 h5 hinv hl
    obtain ⟨hx, hb, hml, hown, hts, hX, hbl, hL, hEn, hFx, hst⟩ := id C
    have hS := hinv.S
    refine lv_iload hx hb dL_law_23 (lv_at hl 4 rfl) ?_
    refine lv_aload_n hx hb dL_law_25 rfl (lv_at hl 0 rfl) ?_
    refine va_slen hx hb hX hbl (A := fun q => s.heap.size ≤ q) (Nat.not_le.mpr hbl) hS dL_law_26 ?_
    refine h_top hx (y := iI (L : Int)) (iI_nat L) ?_
    refine lv_iconst (v := iI 4) hx hb dL_law_27 rfl ?_
    refine h_isub hx hb dL_law_28 ?_
    refine h_icmp_gt (tgt := 1417) hx hb (a := i) (b := (L : Int) - 4) ⟨by omega, by omega⟩ ⟨by omega, by omega⟩ dL_law_29 (by decide) (fun c9 => ?_) (fun c9 => ?_)
    · skip
      refine lv_iconst (v := 1) hx hb dL_law_1417 rfl ?_
      refine W.widen (k := 601024) (n := 7293034) (by omega) (by omega) ?_
      exact lw_ret hx hb hr hlocks dL_law_1418
    · skip
      have hn : (j : Int) < 512 := by omega
      have h0 : 0 ≤ i := by omega
      have h6 : i + 4 ≤ (L : Int) := by omega
      have hc : cells + 9 ≤ 601024 := by omega
      have hs : slots + 3033 ≤ 7293034 := by omega
      have kk : LTail p l e s m b below meth c D cO dz kI cJ ad ob a0 (lw_Z below #[Value.ref b] s) (j : Int) i cells slots := by
        intro H' ls' hinv' hl'
        refine lv_iinc (v := iI (i + 4)) (lv' := [(4, .int (iI (i + 4))), (0, .ref b), (1, .ref a0), (2, .ref (ad 11)), (3, .ref ob)]) hx hb dL_law_1411 hl' (k := 4) rfl (iI_add _ _) (by decide) rfl (fun ls hl => ?_)
        refine lv_goto (tgt := 23) hx hb dL_law_1414 (by decide) ?_
        exact ih (j + 1) (i + 4) H' (cells + 9) (slots + 3033) ls (by omega) (by omega) (by omega) (by omega) (by omega) (by rw [show ((j + 1 : Nat) : Int) = (j : Int) + 1 by omega]; exact hinv') (lv_sub hl [1, 2, 3, 4, 0] rfl)
      refine lv_aload_n hx hb dL_law_32 rfl (lv_at hl 0 rfl) ?_
      refine lv_iload hx hb dL_law_33 (lv_at hl 4 rfl) ?_
      refine l_sld hx hb hX hbl hS hL (z := i) (by omega) (by omega) dL_law_35 ?_
      refine lv_bipush (v := iI 31) hx hb dL_law_36 (by decide) ?_
      refine lv_iand hx hb dL_law_38 ?_
      obtain ⟨x9, x0, x1, hx9⟩ := and31 (iI (xs i.toNat).toInt)
      refine h_top hx hx9 ?_
      rcases (show x9 = 0 ∨ x9 = 1 ∨ x9 = 2 ∨ x9 = 3 ∨ x9 = 4 ∨ x9 = 5 ∨ x9 = 6 ∨ x9 = 7 ∨ x9 = 8 ∨ x9 = 9 ∨ x9 = 10 ∨ x9 = 11 ∨ x9 = 12 ∨ x9 = 13 ∨ x9 = 14 ∨ x9 = 15 ∨ x9 = 16 ∨ x9 = 17 ∨ x9 = 18 ∨ x9 = 19 ∨ x9 = 20 ∨ x9 = 21 ∨ x9 = 22 ∨ 22 < x9 by omega) with rfl | rfl | rfl | rfl | rfl | rfl | rfl | rfl | rfl | rfl | rfl | rfl | rfl | rfl | rfl | rfl | rfl | rfl | rfl | rfl | rfl | rfl | rfl | hk
      · exact lv_tableIn (off := 105) (tgt := 144) hx hb dL_law_39 (by decide +kernel) (by decide +kernel) (by decide +kernel) (by decide) (law_addDirectory C hinv hn h0 h6 hc hs kk hl)
      · exact lv_tableIn (off := 173) (tgt := 212) hx hb dL_law_39 (by decide +kernel) (by decide +kernel) (by decide +kernel) (by decide) (law_setQuota C hinv hn h0 h6 hc hs kk hl)
      · exact lv_tableIn (off := 241) (tgt := 280) hx hb dL_law_39 (by decide +kernel) (by decide +kernel) (by decide +kernel) (by decide) (law_make C hinv hn h0 h6 hc hs kk hl)
      · exact lv_tableIn (off := 321) (tgt := 360) hx hb dL_law_39 (by decide +kernel) (by decide +kernel) (by decide +kernel) (by decide) (law_link C hinv hn h0 h6 hc hs kk hl)
      · exact lv_tableIn (off := 389) (tgt := 428) hx hb dL_law_39 (by decide +kernel) (by decide +kernel) (by decide +kernel) (by decide) (law_unlink C hinv hn h0 h6 hc hs kk hl)
      · exact lv_tableIn (off := 457) (tgt := 496) hx hb dL_law_39 (by decide +kernel) (by decide +kernel) (by decide +kernel) (by decide) (law_write C hinv hn h0 h6 hc hs kk hl)
      · exact lv_tableIn (off := 525) (tgt := 564) hx hb dL_law_39 (by decide +kernel) (by decide +kernel) (by decide +kernel) (by decide) (law_read C hinv hn h0 h6 hc hs kk hl)
      · exact lv_tableIn (off := 581) (tgt := 620) hx hb dL_law_39 (by decide +kernel) (by decide +kernel) (by decide +kernel) (by decide) (law_hold C hinv hn h0 h6 hc hs kk hl)
      · exact lv_tableIn (off := 649) (tgt := 688) hx hb dL_law_39 (by decide +kernel) (by decide +kernel) (by decide +kernel) (by decide) (law_release C hinv hn h0 h6 hc hs kk hl)
      · exact lv_tableIn (off := 705) (tgt := 744) hx hb dL_law_39 (by decide +kernel) (by decide +kernel) (by decide +kernel) (by decide) (law_fund C hinv hn h0 h6 hc hs kk hl)
      · exact lv_tableIn (off := 773) (tgt := 812) hx hb dL_law_39 (by decide +kernel) (by decide +kernel) (by decide +kernel) (by decide) (law_pass C hinv hn h0 h6 hc hs kk hl)
      · exact lv_tableIn (off := 829) (tgt := 868) hx hb dL_law_39 (by decide +kernel) (by decide +kernel) (by decide +kernel) (by decide) (law_day C hinv hn h0 h6 hc hs kk hl)
      · exact lv_tableIn (off := 842) (tgt := 881) hx hb dL_law_39 (by decide +kernel) (by decide +kernel) (by decide +kernel) (by decide) (law_directories C hinv hn h0 h6 hc hs kk hl)
      · exact lv_tableIn (off := 855) (tgt := 894) hx hb dL_law_39 (by decide +kernel) (by decide +kernel) (by decide +kernel) (by decide) (law_files C hinv hn h0 h6 hc hs kk hl)
      · exact lv_tableIn (off := 868) (tgt := 907) hx hb dL_law_39 (by decide +kernel) (by decide +kernel) (by decide +kernel) (by decide) (law_usage C hinv hn h0 h6 hc hs kk hl)
      · exact lv_tableIn (off := 924) (tgt := 963) hx hb dL_law_39 (by decide +kernel) (by decide +kernel) (by decide +kernel) (by decide) (law_usageByWalking C hinv hn h0 h6 hc hs kk hl)
      · exact lv_tableIn (off := 980) (tgt := 1019) hx hb dL_law_39 (by decide +kernel) (by decide +kernel) (by decide +kernel) (by decide) (law_size C hinv hn h0 h6 hc hs kk hl)
      · exact lv_tableIn (off := 1036) (tgt := 1075) hx hb dL_law_39 (by decide +kernel) (by decide +kernel) (by decide +kernel) (by decide) (law_home C hinv hn h0 h6 hc hs kk hl)
      · exact lv_tableIn (off := 1092) (tgt := 1131) hx hb dL_law_39 (by decide +kernel) (by decide +kernel) (by decide +kernel) (by decide) (law_kept C hinv hn h0 h6 hc hs kk hl)
      · exact lv_tableIn (off := 1148) (tgt := 1187) hx hb dL_law_39 (by decide +kernel) (by decide +kernel) (by decide +kernel) (by decide) (law_holders C hinv hn h0 h6 hc hs kk hl)
      · exact lv_tableIn (off := 1204) (tgt := 1243) hx hb dL_law_39 (by decide +kernel) (by decide +kernel) (by decide +kernel) (by decide) (law_tier C hinv hn h0 h6 hc hs kk hl)
      · exact lv_tableIn (off := 1260) (tgt := 1299) hx hb dL_law_39 (by decide +kernel) (by decide +kernel) (by decide +kernel) (by decide) (law_coins C hinv hn h0 h6 hc hs kk hl)
      · exact lv_tableIn (off := 1316) (tgt := 1355) hx hb dL_law_39 (by decide +kernel) (by decide +kernel) (by decide +kernel) (by decide) (law_bill C hinv hn h0 h6 hc hs kk hl)
      · refine lv_tableOut (tgt := 1411) hx hb dL_law_39 (Or.inr (by rw [iI_toInt ⟨by omega, by omega⟩]; exact hk)) (by decide) ?_
        exact W.widen (k := cells + 9) (n := slots + 3033) (by omega) (by omega) (kk H ls (hinv.up hn) hl)
