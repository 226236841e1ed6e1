/-! THE LAW'S CHECKS BEHIND EACH EVENT -/
set_option maxRecDepth 100000 in
set_option maxHeartbeats 4000000 in
theorem law_dirs {p : Program} {l : Launch} {e : Env} {s : State} {m : MethodId} {below : List Frame} {meth : Method} {c : Code} {Q : State → Prop} {b L : Nat} {xs : Nat → Int32} {D : va_G} {cO : ClassId} {dz mi : Nat} {kI : ClassId} {lk a0 : Nat} (C : LC p l s m c b L xs D cO dz mi kI lk) {S : HdS} {fn : Nat → Int32} {n : Int} (hJ : JJ S fn n) {ev : Int} (c0 s0 : Nat) (hc0 : c0 ≤ 600000) (hs0 : s0 ≤ 7000000) (kk : ∀ (w : CW) (H : Heap) (locs : List Loc) (cells slots : Nat) (ls : Array Slot), ST S w a0 → dW D cO dz (lA s.heap.size lk) kI lk w fn H → va_S (dFr (lA s.heap.size lk) lk) s.heap H locs → cells ≤ c0 + 48 → slots ≤ s0 + 288 → lv_has ls 7 [(6, .int (iI (S.1 11 0))), (3, .int (iI 1)), (5, .int (iI 0)), (0, .ref b), (1, .ref a0), (2, .ref lk), (4, .int (iI ev))] → W p l e room_1 s m #[Value.ref b] below meth c H locs cells slots Q (F0 m 121 ls [])) : ∀ (k : Nat) (d : Int) (w : CW) (H : Heap) (locs : List Loc) (cells slots : Nat) (ls : Array Slot), 0 ≤ d → d + (k : Int) = S.1 11 0 → cells ≤ c0 + 4 * d.toNat → slots ≤ s0 + 24 * d.toNat → ST S w a0 → dW D cO dz (lA s.heap.size lk) kI lk w fn H → va_S (dFr (lA s.heap.size lk) lk) s.heap H locs → lv_has ls 7 [(6, .int (iI d)), (3, .int (iI 1)), (5, .int (iI 0)), (0, .ref b), (1, .ref a0), (2, .ref lk), (4, .int (iI ev))] → W p l e room_1 s m #[Value.ref b] below meth c H locs cells slots Q (F0 m 67 ls []) := by
  obtain ⟨hx, hb, hml, hown, hts, hX, hbl, hL, hEn, hlk, hst⟩ := C
  have hw := hJ.1
  have hnn := hw.num
  have hnd := hw.nd
  have hnf := hw.nf
  intro k
  induction k with
  | zero =>
    intro d w H locs cells slots ls h0 h1 hce hsl hR hW hS hl
    have h1 : d = S.1 11 0 := by omega
    subst h1
    refine lv_iload hx hb dL_law_67 (lv_at hl 0 rfl) ?_
    refine lv_aload_n hx hb dL_law_69 rfl (lv_at hl 4 rfl) ?_
    refine d_call (As := []) (rest := [.int (iI ((S.1 11 0)))]) ⟨hx, hb, hml, hown, hts⟩ (n_directories l D cO dz mi hw hR) (cwV 0 hts gL_law_X3_directories rfl rfl rfl (by decide +kernel) ⟨Nat.le_of_ble_eq_true rfl, Nat.le_of_ble_eq_true rfl⟩) hEn hW hS hR.k0 rfl hl.1 rfl (Nat.le_of_ble_eq_true rfl) ⟨by show cells + 0 ≤ 662934; omega, by show slots + 0 ≤ 7112667; omega⟩ dL_law_70 (fun w H locs hR hW hS => ?_)
    refine h_icmp_ge (tgt := 121) hx hb (by omega) (by omega) dL_law_73 (by decide) (fun c_73 => ?_) (fun c_73 => by exfalso; omega)
    exact kk w H locs _ _ ls hR hW hS (by omega) (by omega) (lv_sub hl [0, 1, 2, 3, 4, 5, 6] rfl)
  | succ k ih =>
    intro d w H locs cells slots ls h0 h1 hce hsl hR hW hS hl
    have hu := usg_in hw d
    have hu0 := usg_in hw 0
    have hul := usg_le hw d
    refine lv_iload hx hb dL_law_67 (lv_at hl 0 rfl) ?_
    refine lv_aload_n hx hb dL_law_69 rfl (lv_at hl 4 rfl) ?_
    refine d_call (As := []) (rest := [.int (iI (d))]) ⟨hx, hb, hml, hown, hts⟩ (n_directories l D cO dz mi hw hR) (cwV 0 hts gL_law_X3_directories rfl rfl rfl (by decide +kernel) ⟨Nat.le_of_ble_eq_true rfl, Nat.le_of_ble_eq_true rfl⟩) hEn hW hS hR.k0 rfl hl.1 rfl (Nat.le_of_ble_eq_true rfl) ⟨by show cells + 0 ≤ 662934; omega, by show slots + 0 ≤ 7112667; omega⟩ dL_law_70 (fun w H locs hR hW hS => ?_)
    refine h_icmp_ge (tgt := 121) hx hb (by omega) (by omega) dL_law_73 (by decide) (fun c_73 => by exfalso; omega) (fun c_73 => ?_)
    refine lv_iload_n hx hb dL_law_76 rfl (lv_at hl 1 rfl) ?_
    refine h_if_eq (tgt := 121) hx hb (by omega) dL_law_77 (by decide) (fun c_77 => by exfalso; omega) (fun c_77 => ?_)
    refine lv_aload_n hx hb dL_law_80 rfl (lv_at hl 4 rfl) ?_
    refine lv_iload hx hb dL_law_81 (lv_at hl 0 rfl) ?_
    refine d_call (As := [.int (iI (d))]) (rest := []) ⟨hx, hb, hml, hown, hts⟩ (n_usage l D cO dz mi hw hR hst (by omega) (by omega) rfl) (cwV 1 hts gL_law_X3_usage rfl rfl rfl (by decide +kernel) ⟨Nat.le_of_ble_eq_true rfl, Nat.le_of_ble_eq_true rfl⟩) hEn hW hS hR.k0 rfl hl.1 rfl (Nat.le_of_ble_eq_true rfl) ⟨by show cells + 0 + 1 ≤ 662934; omega, by show slots + 0 + 6 ≤ 7112667; omega⟩ dL_law_83 (fun w H locs hR hW hS => ?_)
    refine lv_aload_n hx hb dL_law_86 rfl (lv_at hl 4 rfl) ?_
    refine lv_iload hx hb dL_law_87 (lv_at hl 0 rfl) ?_
    refine d_call (As := [.int (iI (d))]) (rest := [.int (iI (usg S d))]) ⟨hx, hb, hml, hown, hts⟩ (n_usageByWalking l D cO dz mi hw hR hst (by omega) (by omega) rfl) (cwV 1 hts gL_law_X3_usageByWalking rfl rfl rfl (by decide +kernel) ⟨Nat.le_of_ble_eq_true rfl, Nat.le_of_ble_eq_true rfl⟩) hEn hW hS hR.k0 rfl hl.1 rfl (Nat.le_of_ble_eq_true rfl) ⟨by show cells + 0 + 1 + 1 ≤ 662934; omega, by show slots + 0 + 6 + 6 ≤ 7112667; omega⟩ dL_law_89 (fun w H locs hR hW hS => ?_)
    refine h_icmp_ne (tgt := 113) hx hb (by omega) (by omega) dL_law_92 (by decide) (fun c_92 => by exfalso; omega) (fun c_92 => ?_)
    refine lv_aload_n hx hb dL_law_95 rfl (lv_at hl 4 rfl) ?_
    refine lv_iload hx hb dL_law_96 (lv_at hl 0 rfl) ?_
    refine d_call (As := [.int (iI (d))]) (rest := []) ⟨hx, hb, hml, hown, hts⟩ (n_usage l D cO dz mi hw hR hst (by omega) (by omega) rfl) (cwV 1 hts gL_law_X3_usage rfl rfl rfl (by decide +kernel) ⟨Nat.le_of_ble_eq_true rfl, Nat.le_of_ble_eq_true rfl⟩) hEn hW hS hR.k0 rfl hl.1 rfl (Nat.le_of_ble_eq_true rfl) ⟨by show cells + 0 + 1 + 1 + 1 ≤ 662934; omega, by show slots + 0 + 6 + 6 + 6 ≤ 7112667; omega⟩ dL_law_98 (fun w H locs hR hW hS => ?_)
    refine lv_aload_n hx hb dL_law_101 rfl (lv_at hl 4 rfl) ?_
    refine lv_iconst (v := iI 0) hx hb dL_law_102 rfl ?_
    refine d_call (As := [.int (iI 0)]) (rest := [.int (iI (usg S d))]) ⟨hx, hb, hml, hown, hts⟩ (n_usage l D cO dz mi hw hR hst (by omega) (by omega) rfl) (cwV 1 hts gL_law_X3_usage rfl rfl rfl (by decide +kernel) ⟨Nat.le_of_ble_eq_true rfl, Nat.le_of_ble_eq_true rfl⟩) hEn hW hS hR.k0 rfl hl.1 rfl (Nat.le_of_ble_eq_true rfl) ⟨by show cells + 0 + 1 + 1 + 1 + 1 ≤ 662934; omega, by show slots + 0 + 6 + 6 + 6 + 6 ≤ 7112667; omega⟩ dL_law_103 (fun w H locs hR hW hS => ?_)
    refine h_icmp_gt (tgt := 113) hx hb (by omega) (by omega) dL_law_106 (by decide) (fun c_106 => by exfalso; omega) (fun c_106 => ?_)
    refine lv_iconst (v := iI 1) hx hb dL_law_109 rfl ?_
    refine lv_goto (tgt := 114) hx hb dL_law_110 (by decide) ?_
    refine lv_istore_n (lv' := [(3, .int (iI 1)), (6, .int (iI (d))), (5, .int (iI 0)), (0, .ref b), (1, .ref a0), (2, .ref lk), (4, .int (iI (ev)))]) hx hb dL_law_114 rfl hl (by decide) rfl (fun ls hl => ?_)
    refine lv_iinc (v := iI (d + 1)) (lv' := [(6, .int (iI ((d + 1)))), (3, .int (iI 1)), (5, .int (iI 0)), (0, .ref b), (1, .ref a0), (2, .ref lk), (4, .int (iI (ev)))]) hx hb dL_law_115 hl (k := 1) rfl (iI_add _ _) (by decide) rfl (fun ls hl => ?_)
    refine lv_goto (tgt := 67) hx hb dL_law_118 (by decide) ?_
    exact ih (d + 1) w H locs _ _ ls (by omega) (by omega) (by omega) (by omega) hR hW hS (lv_sub hl [0, 1, 2, 3, 4, 5, 6] rfl)
set_option maxRecDepth 100000 in
set_option maxHeartbeats 4000000 in
theorem law_files {p : Program} {l : Launch} {e : Env} {s : State} {m : MethodId} {below : List Frame} {meth : Method} {c : Code} {Q : State → Prop} {b L : Nat} {xs : Nat → Int32} {D : va_G} {cO : ClassId} {dz mi : Nat} {kI : ClassId} {lk a0 : Nat} (C : LC p l s m c b L xs D cO dz mi kI lk) {S : HdS} {fn : Nat → Int32} {n : Int} (hJ : JJ S fn n) {ev : Int} (c0 s0 : Nat) (hc0 : c0 ≤ 600000) (hs0 : s0 ≤ 7000000) (kk : ∀ (w : CW) (H : Heap) (locs : List Loc) (cells slots : Nat) (ls : Array Slot), ST S w a0 → dW D cO dz (lA s.heap.size lk) kI lk w fn H → va_S (dFr (lA s.heap.size lk) lk) s.heap H locs → cells ≤ c0 + 180 → slots ≤ s0 + 1080 → lv_has ls 7 [(6, .int (iI (S.1 11 1))), (3, .int (iI 1)), (5, .int (iI (sumN S (S.1 11 1).toNat))), (0, .ref b), (1, .ref a0), (2, .ref lk), (4, .int (iI ev))] → W p l e room_1 s m #[Value.ref b] below meth c H locs cells slots Q (F0 m 218 ls [])) : ∀ (k : Nat) (f : Int) (w : CW) (H : Heap) (locs : List Loc) (cells slots : Nat) (ls : Array Slot), 0 ≤ f → f + (k : Int) = S.1 11 1 → cells ≤ c0 + 6 * f.toNat → slots ≤ s0 + 36 * f.toNat → ST S w a0 → dW D cO dz (lA s.heap.size lk) kI lk w fn H → va_S (dFr (lA s.heap.size lk) lk) s.heap H locs → lv_has ls 7 [(6, .int (iI f)), (3, .int (iI 1)), (5, .int (iI (sumN S f.toNat))), (0, .ref b), (1, .ref a0), (2, .ref lk), (4, .int (iI ev))] → W p l e room_1 s m #[Value.ref b] below meth c H locs cells slots Q (F0 m 124 ls []) := by
  obtain ⟨hx, hb, hml, hown, hts, hX, hbl, hL, hEn, hlk, hst⟩ := C
  have hw := hJ.1
  have hnn := hw.num
  have hnd := hw.nd
  have hnf := hw.nf
  intro k
  induction k with
  | zero =>
    intro f w H locs cells slots ls h0 h1 hce hsl hR hW hS hl
    have h1 : f = S.1 11 1 := by omega
    subst h1
    refine lv_iload hx hb dL_law_124 (lv_at hl 0 rfl) ?_
    refine lv_aload_n hx hb dL_law_126 rfl (lv_at hl 4 rfl) ?_
    refine d_call (As := []) (rest := [.int (iI ((S.1 11 1)))]) ⟨hx, hb, hml, hown, hts⟩ (n_files l D cO dz mi hw hR) (cwV 0 hts gL_law_X3_files rfl rfl rfl (by decide +kernel) ⟨Nat.le_of_ble_eq_true rfl, Nat.le_of_ble_eq_true rfl⟩) hEn hW hS hR.k0 rfl hl.1 rfl (Nat.le_of_ble_eq_true rfl) ⟨by show cells + 0 ≤ 662934; omega, by show slots + 0 ≤ 7112667; omega⟩ dL_law_127 (fun w H locs hR hW hS => ?_)
    refine h_icmp_ge (tgt := 218) hx hb (by omega) (by omega) dL_law_130 (by decide) (fun c_130 => ?_) (fun c_130 => by exfalso; omega)
    exact kk w H locs _ _ ls hR hW hS (by omega) (by omega) (lv_sub hl [0, 1, 2, 3, 4, 5, 6] rfl)
  | succ k ih =>
    intro f w H locs cells slots ls h0 h1 hce hsl hR hW hS hl
    have f1 : f < S.1 11 1 := by omega
    have hsz := hw.siz h0 f1
    have hkp := hw.kep h0 f1
    have hho := hw.hol h0 f1
    have hjf := (hJ.2.2 f h0 f1).1
    have hht := home_tier hw h0 f1
    have hhi := home_in hw h0 f1
    have htr := tier_in (S := S) f
    have hsm := sumN_in hw f.toNat (by omega)
    have hsn : sumN S f.toNat + S.1 3 f = sumN S (f + 1).toNat := by
      have e1 : (f + 1).toNat = f.toNat + 1 := by omega
      rw [e1]
      show _ = sumN S f.toNat + S.1 3 ((f.toNat : Nat) : Int)
      rw [Int.toNat_of_nonneg h0]
    refine lv_iload hx hb dL_law_124 (lv_at hl 0 rfl) ?_
    refine lv_aload_n hx hb dL_law_126 rfl (lv_at hl 4 rfl) ?_
    refine d_call (As := []) (rest := [.int (iI (f))]) ⟨hx, hb, hml, hown, hts⟩ (n_files l D cO dz mi hw hR) (cwV 0 hts gL_law_X3_files rfl rfl rfl (by decide +kernel) ⟨Nat.le_of_ble_eq_true rfl, Nat.le_of_ble_eq_true rfl⟩) hEn hW hS hR.k0 rfl hl.1 rfl (Nat.le_of_ble_eq_true rfl) ⟨by show cells + 0 ≤ 662934; omega, by show slots + 0 ≤ 7112667; omega⟩ dL_law_127 (fun w H locs hR hW hS => ?_)
    refine h_icmp_ge (tgt := 218) hx hb (by omega) (by omega) dL_law_130 (by decide) (fun c_130 => by exfalso; omega) (fun c_130 => ?_)
    refine lv_iload_n hx hb dL_law_133 rfl (lv_at hl 1 rfl) ?_
    refine h_if_eq (tgt := 218) hx hb (by omega) dL_law_134 (by decide) (fun c_134 => by exfalso; omega) (fun c_134 => ?_)
    refine lv_iload hx hb dL_law_137 (lv_at hl 2 rfl) ?_
    refine lv_aload_n hx hb dL_law_139 rfl (lv_at hl 4 rfl) ?_
    refine lv_iload hx hb dL_law_140 (lv_at hl 0 rfl) ?_
    refine d_call (As := [.int (iI (f))]) (rest := [.int (iI ((sumN S f.toNat)))]) ⟨hx, hb, hml, hown, hts⟩ (n_size l D cO dz mi hw hR hst (by omega) (by omega) rfl) (cwV 1 hts gL_law_X3_size rfl rfl rfl (by decide +kernel) ⟨Nat.le_of_ble_eq_true rfl, Nat.le_of_ble_eq_true rfl⟩) hEn hW hS hR.k0 rfl hl.1 rfl (Nat.le_of_ble_eq_true rfl) ⟨by show cells + 0 + 1 ≤ 662934; omega, by show slots + 0 + 6 ≤ 7112667; omega⟩ dL_law_142 (fun w H locs hR hW hS => ?_)
    refine h_iadd hx hb dL_law_145 ?_
    refine lv_istore (lv' := [(5, .int (iI (((sumN S f.toNat) + S.1 3 f)))), (6, .int (iI (f))), (3, .int (iI 1)), (0, .ref b), (1, .ref a0), (2, .ref lk), (4, .int (iI (ev)))]) hx hb dL_law_146 hl (by decide) rfl (fun ls hl => ?_)
    refine lv_aload_n hx hb dL_law_148 rfl (lv_at hl 4 rfl) ?_
    refine lv_iload hx hb dL_law_149 (lv_at hl 1 rfl) ?_
    refine d_call (As := [.int (iI (f))]) (rest := []) ⟨hx, hb, hml, hown, hts⟩ (n_kept l D cO dz mi hw hR hst (by omega) (by omega) rfl) (cwV 1 hts gL_law_X3_kept rfl rfl rfl (by decide +kernel) ⟨Nat.le_of_ble_eq_true rfl, Nat.le_of_ble_eq_true rfl⟩) hEn hW hS hR.k0 rfl hl.1 rfl (Nat.le_of_ble_eq_true rfl) ⟨by show cells + 0 + 1 + 1 ≤ 662934; omega, by show slots + 0 + 6 + 6 ≤ 7112667; omega⟩ dL_law_151 (fun w H locs hR hW hS => ?_)
    refine h_if_lt (tgt := 210) hx hb (by omega) dL_law_154 (by decide) (fun c_154 => by exfalso; omega) (fun c_154 => ?_)
    refine lv_aload_n hx hb dL_law_157 rfl (lv_at hl 4 rfl) ?_
    refine lv_iload hx hb dL_law_158 (lv_at hl 1 rfl) ?_
    refine d_call (As := [.int (iI (f))]) (rest := []) ⟨hx, hb, hml, hown, hts⟩ (n_holders l D cO dz mi hw hR hst (by omega) (by omega) rfl) (cwV 1 hts gL_law_X3_holders rfl rfl rfl (by decide +kernel) ⟨Nat.le_of_ble_eq_true rfl, Nat.le_of_ble_eq_true rfl⟩) hEn hW hS hR.k0 rfl hl.1 rfl (Nat.le_of_ble_eq_true rfl) ⟨by show cells + 0 + 1 + 1 + 1 ≤ 662934; omega, by show slots + 0 + 6 + 6 + 6 ≤ 7112667; omega⟩ dL_law_160 (fun w H locs hR hW hS => ?_)
    refine h_if_ne (tgt := 175) hx hb (by omega) dL_law_163 (by decide) (fun c_163 => ?_) (fun c_163 => ?_)
    · skip
      refine lv_aload_n hx hb dL_law_175 rfl (lv_at hl 4 rfl) ?_
      refine lv_iload hx hb dL_law_176 (lv_at hl 1 rfl) ?_
      refine d_call (As := [.int (iI (f))]) (rest := []) ⟨hx, hb, hml, hown, hts⟩ (n_home l D cO dz mi hw hR hst (by omega) (by omega) rfl) (cwV 1 hts gL_law_X3_home rfl rfl rfl (by decide +kernel) ⟨Nat.le_of_ble_eq_true rfl, Nat.le_of_ble_eq_true rfl⟩) hEn hW hS hR.k0 rfl hl.1 rfl (Nat.le_of_ble_eq_true rfl) ⟨by show cells + 0 + 1 + 1 + 1 + 1 ≤ 662934; omega, by show slots + 0 + 6 + 6 + 6 + 6 ≤ 7112667; omega⟩ dL_law_178 (fun w H locs hR hW hS => ?_)
      refine h_if_ge (tgt := 188) hx hb (by omega) dL_law_181 (by decide) (fun c_181 => ?_) (fun c_181 => ?_)
      · skip
        refine lv_iconst (v := iI 0) hx hb dL_law_188 rfl ?_
        refine lv_aload_n hx hb dL_law_189 rfl (lv_at hl 4 rfl) ?_
        refine lv_iload hx hb dL_law_190 (lv_at hl 1 rfl) ?_
        refine d_call (As := [.int (iI (f))]) (rest := [.int (iI 0)]) ⟨hx, hb, hml, hown, hts⟩ (n_tier l D cO dz mi hw hR hst (by omega) (by omega) rfl) (cwV 1 hts gL_law_X3_tier rfl rfl rfl (by decide +kernel) ⟨Nat.le_of_ble_eq_true rfl, Nat.le_of_ble_eq_true rfl⟩) hEn hW hS hR.k0 rfl hl.1 rfl (Nat.le_of_ble_eq_true rfl) ⟨by show cells + 0 + 1 + 1 + 1 + 1 + 1 ≤ 662934; omega, by show slots + 0 + 6 + 6 + 6 + 6 + 6 ≤ 7112667; omega⟩ dL_law_192 (fun w H locs hR hW hS => ?_)
        refine h_if_ge (tgt := 202) hx hb (by omega) dL_law_195 (by decide) (fun c_195 => ?_) (fun c_195 => by exfalso; omega)
        refine lv_iconst (v := iI 0) hx hb dL_law_202 rfl ?_
        refine h_icmp_ne (tgt := 210) hx hb (by omega) (by omega) dL_law_203 (by decide) (fun c_203 => by exfalso; omega) (fun c_203 => ?_)
        refine lv_iconst (v := iI 1) hx hb dL_law_206 rfl ?_
        refine lv_goto (tgt := 211) hx hb dL_law_207 (by decide) ?_
        refine lv_istore_n (lv' := [(3, .int (iI 1)), (5, .int (iI (((sumN S f.toNat) + S.1 3 f)))), (6, .int (iI (f))), (0, .ref b), (1, .ref a0), (2, .ref lk), (4, .int (iI (ev)))]) hx hb dL_law_211 rfl hl (by decide) rfl (fun ls hl => ?_)
        refine lv_iinc (v := iI (f + 1)) (lv' := [(6, .int (iI ((f + 1)))), (3, .int (iI 1)), (5, .int (iI (((sumN S f.toNat) + S.1 3 f)))), (0, .ref b), (1, .ref a0), (2, .ref lk), (4, .int (iI (ev)))]) hx hb dL_law_212 hl (k := 2) rfl (iI_add _ _) (by decide) rfl (fun ls hl => ?_)
        refine lv_goto (tgt := 124) hx hb dL_law_215 (by decide) ?_
        exact ih (f + 1) w H locs _ _ ls (by omega) (by omega) (by omega) (by omega) hR hW hS (by rw [← hsn]; exact lv_sub hl [0, 1, 2, 3, 4, 5, 6] rfl)
      · skip
        refine lv_iconst (v := iI 1) hx hb dL_law_184 rfl ?_
        refine lv_goto (tgt := 189) hx hb dL_law_185 (by decide) ?_
        refine lv_aload_n hx hb dL_law_189 rfl (lv_at hl 4 rfl) ?_
        refine lv_iload hx hb dL_law_190 (lv_at hl 1 rfl) ?_
        refine d_call (As := [.int (iI (f))]) (rest := [.int (iI 1)]) ⟨hx, hb, hml, hown, hts⟩ (n_tier l D cO dz mi hw hR hst (by omega) (by omega) rfl) (cwV 1 hts gL_law_X3_tier rfl rfl rfl (by decide +kernel) ⟨Nat.le_of_ble_eq_true rfl, Nat.le_of_ble_eq_true rfl⟩) hEn hW hS hR.k0 rfl hl.1 rfl (Nat.le_of_ble_eq_true rfl) ⟨by show cells + 0 + 1 + 1 + 1 + 1 + 1 ≤ 662934; omega, by show slots + 0 + 6 + 6 + 6 + 6 + 6 ≤ 7112667; omega⟩ dL_law_192 (fun w H locs hR hW hS => ?_)
        refine h_if_ge (tgt := 202) hx hb (by omega) dL_law_195 (by decide) (fun c_195 => by exfalso; omega) (fun c_195 => ?_)
        refine lv_iconst (v := iI 1) hx hb dL_law_198 rfl ?_
        refine lv_goto (tgt := 203) hx hb dL_law_199 (by decide) ?_
        refine h_icmp_ne (tgt := 210) hx hb (by omega) (by omega) dL_law_203 (by decide) (fun c_203 => by exfalso; omega) (fun c_203 => ?_)
        refine lv_iconst (v := iI 1) hx hb dL_law_206 rfl ?_
        refine lv_goto (tgt := 211) hx hb dL_law_207 (by decide) ?_
        refine lv_istore_n (lv' := [(3, .int (iI 1)), (5, .int (iI (((sumN S f.toNat) + S.1 3 f)))), (6, .int (iI (f))), (0, .ref b), (1, .ref a0), (2, .ref lk), (4, .int (iI (ev)))]) hx hb dL_law_211 rfl hl (by decide) rfl (fun ls hl => ?_)
        refine lv_iinc (v := iI (f + 1)) (lv' := [(6, .int (iI ((f + 1)))), (3, .int (iI 1)), (5, .int (iI (((sumN S f.toNat) + S.1 3 f)))), (0, .ref b), (1, .ref a0), (2, .ref lk), (4, .int (iI (ev)))]) hx hb dL_law_212 hl (k := 2) rfl (iI_add _ _) (by decide) rfl (fun ls hl => ?_)
        refine lv_goto (tgt := 124) hx hb dL_law_215 (by decide) ?_
        exact ih (f + 1) w H locs _ _ ls (by omega) (by omega) (by omega) (by omega) hR hW hS (by rw [← hsn]; exact lv_sub hl [0, 1, 2, 3, 4, 5, 6] rfl)
    · skip
      have hk0 := hjf c_163
      refine lv_aload_n hx hb dL_law_166 rfl (lv_at hl 4 rfl) ?_
      refine lv_iload hx hb dL_law_167 (lv_at hl 1 rfl) ?_
      refine d_call (As := [.int (iI (f))]) (rest := []) ⟨hx, hb, hml, hown, hts⟩ (n_kept l D cO dz mi hw hR hst (by omega) (by omega) rfl) (cwV 1 hts gL_law_X3_kept rfl rfl rfl (by decide +kernel) ⟨Nat.le_of_ble_eq_true rfl, Nat.le_of_ble_eq_true rfl⟩) hEn hW hS hR.k0 rfl hl.1 rfl (Nat.le_of_ble_eq_true rfl) ⟨by show cells + 0 + 1 + 1 + 1 + 1 ≤ 662934; omega, by show slots + 0 + 6 + 6 + 6 + 6 ≤ 7112667; omega⟩ dL_law_169 (fun w H locs hR hW hS => ?_)
      refine h_if_ne (tgt := 210) hx hb (by omega) dL_law_172 (by decide) (fun c_172 => by exfalso; omega) (fun c_172 => ?_)
      refine lv_aload_n hx hb dL_law_175 rfl (lv_at hl 4 rfl) ?_
      refine lv_iload hx hb dL_law_176 (lv_at hl 1 rfl) ?_
      refine d_call (As := [.int (iI (f))]) (rest := []) ⟨hx, hb, hml, hown, hts⟩ (n_home l D cO dz mi hw hR hst (by omega) (by omega) rfl) (cwV 1 hts gL_law_X3_home rfl rfl rfl (by decide +kernel) ⟨Nat.le_of_ble_eq_true rfl, Nat.le_of_ble_eq_true rfl⟩) hEn hW hS hR.k0 rfl hl.1 rfl (Nat.le_of_ble_eq_true rfl) ⟨by show cells + 0 + 1 + 1 + 1 + 1 + 1 ≤ 662934; omega, by show slots + 0 + 6 + 6 + 6 + 6 + 6 ≤ 7112667; omega⟩ dL_law_178 (fun w H locs hR hW hS => ?_)
      refine h_if_ge (tgt := 188) hx hb (by omega) dL_law_181 (by decide) (fun c_181 => ?_) (fun c_181 => ?_)
      · skip
        refine lv_iconst (v := iI 0) hx hb dL_law_188 rfl ?_
        refine lv_aload_n hx hb dL_law_189 rfl (lv_at hl 4 rfl) ?_
        refine lv_iload hx hb dL_law_190 (lv_at hl 1 rfl) ?_
        refine d_call (As := [.int (iI (f))]) (rest := [.int (iI 0)]) ⟨hx, hb, hml, hown, hts⟩ (n_tier l D cO dz mi hw hR hst (by omega) (by omega) rfl) (cwV 1 hts gL_law_X3_tier rfl rfl rfl (by decide +kernel) ⟨Nat.le_of_ble_eq_true rfl, Nat.le_of_ble_eq_true rfl⟩) hEn hW hS hR.k0 rfl hl.1 rfl (Nat.le_of_ble_eq_true rfl) ⟨by show cells + 0 + 1 + 1 + 1 + 1 + 1 + 1 ≤ 662934; omega, by show slots + 0 + 6 + 6 + 6 + 6 + 6 + 6 ≤ 7112667; omega⟩ dL_law_192 (fun w H locs hR hW hS => ?_)
        refine h_if_ge (tgt := 202) hx hb (by omega) dL_law_195 (by decide) (fun c_195 => ?_) (fun c_195 => by exfalso; omega)
        refine lv_iconst (v := iI 0) hx hb dL_law_202 rfl ?_
        refine h_icmp_ne (tgt := 210) hx hb (by omega) (by omega) dL_law_203 (by decide) (fun c_203 => by exfalso; omega) (fun c_203 => ?_)
        refine lv_iconst (v := iI 1) hx hb dL_law_206 rfl ?_
        refine lv_goto (tgt := 211) hx hb dL_law_207 (by decide) ?_
        refine lv_istore_n (lv' := [(3, .int (iI 1)), (5, .int (iI (((sumN S f.toNat) + S.1 3 f)))), (6, .int (iI (f))), (0, .ref b), (1, .ref a0), (2, .ref lk), (4, .int (iI (ev)))]) hx hb dL_law_211 rfl hl (by decide) rfl (fun ls hl => ?_)
        refine lv_iinc (v := iI (f + 1)) (lv' := [(6, .int (iI ((f + 1)))), (3, .int (iI 1)), (5, .int (iI (((sumN S f.toNat) + S.1 3 f)))), (0, .ref b), (1, .ref a0), (2, .ref lk), (4, .int (iI (ev)))]) hx hb dL_law_212 hl (k := 2) rfl (iI_add _ _) (by decide) rfl (fun ls hl => ?_)
        refine lv_goto (tgt := 124) hx hb dL_law_215 (by decide) ?_
        exact ih (f + 1) w H locs _ _ ls (by omega) (by omega) (by omega) (by omega) hR hW hS (by rw [← hsn]; exact lv_sub hl [0, 1, 2, 3, 4, 5, 6] rfl)
      · skip
        refine lv_iconst (v := iI 1) hx hb dL_law_184 rfl ?_
        refine lv_goto (tgt := 189) hx hb dL_law_185 (by decide) ?_
        refine lv_aload_n hx hb dL_law_189 rfl (lv_at hl 4 rfl) ?_
        refine lv_iload hx hb dL_law_190 (lv_at hl 1 rfl) ?_
        refine d_call (As := [.int (iI (f))]) (rest := [.int (iI 1)]) ⟨hx, hb, hml, hown, hts⟩ (n_tier l D cO dz mi hw hR hst (by omega) (by omega) rfl) (cwV 1 hts gL_law_X3_tier rfl rfl rfl (by decide +kernel) ⟨Nat.le_of_ble_eq_true rfl, Nat.le_of_ble_eq_true rfl⟩) hEn hW hS hR.k0 rfl hl.1 rfl (Nat.le_of_ble_eq_true rfl) ⟨by show cells + 0 + 1 + 1 + 1 + 1 + 1 + 1 ≤ 662934; omega, by show slots + 0 + 6 + 6 + 6 + 6 + 6 + 6 ≤ 7112667; omega⟩ dL_law_192 (fun w H locs hR hW hS => ?_)
        refine h_if_ge (tgt := 202) hx hb (by omega) dL_law_195 (by decide) (fun c_195 => by exfalso; omega) (fun c_195 => ?_)
        refine lv_iconst (v := iI 1) hx hb dL_law_198 rfl ?_
        refine lv_goto (tgt := 203) hx hb dL_law_199 (by decide) ?_
        refine h_icmp_ne (tgt := 210) hx hb (by omega) (by omega) dL_law_203 (by decide) (fun c_203 => by exfalso; omega) (fun c_203 => ?_)
        refine lv_iconst (v := iI 1) hx hb dL_law_206 rfl ?_
        refine lv_goto (tgt := 211) hx hb dL_law_207 (by decide) ?_
        refine lv_istore_n (lv' := [(3, .int (iI 1)), (5, .int (iI (((sumN S f.toNat) + S.1 3 f)))), (6, .int (iI (f))), (0, .ref b), (1, .ref a0), (2, .ref lk), (4, .int (iI (ev)))]) hx hb dL_law_211 rfl hl (by decide) rfl (fun ls hl => ?_)
        refine lv_iinc (v := iI (f + 1)) (lv' := [(6, .int (iI ((f + 1)))), (3, .int (iI 1)), (5, .int (iI (((sumN S f.toNat) + S.1 3 f)))), (0, .ref b), (1, .ref a0), (2, .ref lk), (4, .int (iI (ev)))]) hx hb dL_law_212 hl (k := 2) rfl (iI_add _ _) (by decide) rfl (fun ls hl => ?_)
        refine lv_goto (tgt := 124) hx hb dL_law_215 (by decide) ?_
        exact ih (f + 1) w H locs _ _ ls (by omega) (by omega) (by omega) (by omega) hR hW hS (by rw [← hsn]; exact lv_sub hl [0, 1, 2, 3, 4, 5, 6] rfl)
