set_option maxHeartbeats 8000000 in
set_option maxRecDepth 100000 in
theorem pq_case_item {p : Program} {l : Launch} {e : Env} {s : State} {m : MethodId} {below : List Frame} {meth : Method} {c : Code} {D : va_G} {cy : Nat → ClassId} {b L : Nat} {xs : Nat → Int32} {tS h0 m0 : Nat} {v : Nat → Nat} {x3 : Int32} (C0 : lw_At p s m meth c b L xs) (hK : va_K D vwCl (pq_tys cy) s) (hT : pq_St s.heap.size tS s s.heap) (hend : pq_End p l e s m below meth c D cy b h0 m0 v x3) (hvv : ∀ k : Nat, 0 < k → k < 7 → vp_in (x3 + nI k) L) (u : Nat → Nat → Nat) (xI : Nat → Int32) (xA : Nat → Nat → Int32) (xL : Nat → Nat → Int64) (aw : Nat → Nat → Int32) (mI : Nat → Int32) (mA : Nat → Nat → Int32) (mL : Nat → Int64) (hR : pq_R xI xA xL aw mI mA mL) (H : Heap) (locs : List Loc) (ls : Array Slot) (hP : va_P D vwCl (pq_wl cy h0 u m0 v xI xA xL aw mI mA mL) H) (hD : va_D (fun q : Nat => s.heap.size ≤ q) (pq_wl cy h0 u m0 v xI xA xL aw mI mA mL)) (hS : va_S (fun q : Nat => s.heap.size ≤ q) s.heap H locs) (hl : lv_has ls 4 [(0, .ref b), (1, .ref h0), (2, .ref m0), (3, .int x3)]) : W p l e room_1 s m #[Value.ref b] below meth c H locs 109 13218 (lw_Z below #[Value.ref b] s) (F0 m 991 ls []) := by
  obtain ⟨hx, hb, hr, hml, hown, hts0, hX, hbl, hlocks, hgv⟩ := C0
  have hts := fun w h => hts0 w (wsL_law_in w h)
  have hown : s.vm.findClass RL = some m.cls := hown
  have hb : c.code = cL_law := hb
  have hA : ∀ q : Nat, s.heap.size ≤ q → (fun q : Nat => s.heap.size ≤ q) q := fun _ h => h
  have hbA : ¬ (fun q : Nat => s.heap.size ≤ q) b := Nat.not_le.mpr hbl
  have hAb : ∀ q, (fun q : Nat => s.heap.size ≤ q) q → s.heap.size ≤ q := fun _ h => h
  have hbs : s.heap.size ≤ s.heap.size := Nat.le_refl _
  have hv1 : vp_in (x3 + 1) L := hvv 1 (by decide) (by decide)
  have hv2 : vp_in (x3 + 2) L := hvv 2 (by decide) (by decide)
  have hv3 : vp_in (x3 + 3) L := hvv 3 (by decide) (by decide)
  have hv4 : vp_in (x3 + 4) L := hvv 4 (by decide) (by decide)
  have hv5 : vp_in (x3 + 5) L := hvv 5 (by decide) (by decide)
  have hk126 : Cond.constantLong RL 126 (4294967295) ∈ wsL_law := by decide +kernel
  obtain ⟨zc, zm, hc, hm, hrr, hR⟩ := sim_item hR (xs (x3 + 1).toNatClampNeg) (xs (x3 + 2).toNatClampNeg) (xs (x3 + 3).toNatClampNeg) ((((xs (x3 + 4).toNatClampNeg).toInt64) <<< ((32 : Int32).toInt64 &&& 63)) ||| (((xs (x3 + 5).toNatClampNeg).toInt64) &&& 4294967295))
  refine lv_aload_n hx hb dL_law_991 rfl (lv_at hl 1 rfl) ?_
  refine lv_aload_n hx hb dL_law_992 rfl (lv_at hl 0 rfl) ?_
  refine lv_iload_n hx hb dL_law_993 rfl (lv_at hl 3 rfl) ?_
  refine lv_iconst (v := 1) hx hb dL_law_994 (by decide) ?_
  refine lv_iadd hx hb dL_law_995 ?_
  refine va_sld hx hb hX hbl hbA hS hv1 dL_law_996 ?_
  refine lv_aload_n hx hb dL_law_997 rfl (lv_at hl 0 rfl) ?_
  refine lv_iload_n hx hb dL_law_998 rfl (lv_at hl 3 rfl) ?_
  refine lv_iconst (v := 2) hx hb dL_law_999 (by decide) ?_
  refine lv_iadd hx hb dL_law_1000 ?_
  refine va_sld hx hb hX hbl hbA hS hv2 dL_law_1001 ?_
  refine lv_aload_n hx hb dL_law_1002 rfl (lv_at hl 0 rfl) ?_
  refine lv_iload_n hx hb dL_law_1003 rfl (lv_at hl 3 rfl) ?_
  refine lv_iconst (v := 3) hx hb dL_law_1004 (by decide) ?_
  refine lv_iadd hx hb dL_law_1005 ?_
  refine va_sld hx hb hX hbl hbA hS hv3 dL_law_1006 ?_
  refine lv_aload_n hx hb dL_law_1007 rfl (lv_at hl 0 rfl) ?_
  refine lv_iload_n hx hb dL_law_1008 rfl (lv_at hl 3 rfl) ?_
  refine lv_iconst (v := 4) hx hb dL_law_1009 (by decide) ?_
  refine lv_iadd hx hb dL_law_1010 ?_
  refine va_sld hx hb hX hbl hbA hS hv4 dL_law_1011 ?_
  refine lv_i2l (v := (xs (x3 + 4).toNatClampNeg).toInt64) hx hb dL_law_1012 rfl ?_
  refine lv_bipush (v := 32) hx hb dL_law_1013 (by decide) ?_
  refine lv_lshl (v := (((xs (x3 + 4).toNatClampNeg).toInt64) <<< ((32 : Int32).toInt64 &&& 63))) hx hb dL_law_1015 rfl ?_
  refine lv_aload_n hx hb dL_law_1016 rfl (lv_at hl 0 rfl) ?_
  refine lv_iload_n hx hb dL_law_1017 rfl (lv_at hl 3 rfl) ?_
  refine lv_iconst (v := 5) hx hb dL_law_1018 (by decide) ?_
  refine lv_iadd hx hb dL_law_1019 ?_
  refine va_sld hx hb hX hbl hbA hS hv5 dL_law_1020 ?_
  refine lv_i2l (v := (xs (x3 + 5).toNatClampNeg).toInt64) hx hb dL_law_1021 rfl ?_
  refine lv_ldc2 (v := 4294967295) hx hb hown (hts (.constantLong RL 126 (4294967295)) hk126) dL_law_1022 ?_
  refine lv_land hx hb dL_law_1025 ?_
  refine lv_lor hx hb dL_law_1026 ?_
  refine pq_dVl (As := [.int (xs (x3 + 1).toNatClampNeg), .int (xs (x3 + 2).toNatClampNeg), .int (xs (x3 + 3).toNatClampNeg), .long ((((xs (x3 + 4).toNatClampNeg).toInt64) <<< ((32 : Int32).toInt64 &&& 63)) ||| (((xs (x3 + 5).toNatClampNeg).toInt64) &&& 4294967295))]) (rest := []) (b := h0) (C := RX7) (ws1 := pq_wl cy h0 u m0 v xI xA (va_up (va_up (va_up (va_up xL 0 zc.2.1) 1 zc.2.2.1) 2 zc.2.2.2.1) 3 zc.2.2.2.2) aw mI mA mL) (wr := (pq_pick [1, 2, 3, 4, 5, 6, 7, 8, 9, 10, 11, 12, 13, 14, 15, 16, 17, 18, 19, 20, 21, 22, 23, 24, 25, 26, 27, 28, 29, 30, 31, 32, 33, 34, 35, 36, 37, 38, 48, 49, 50, 51, 52, 53, 54, 55, 56, 57, 58, 59, 60, 61, 62, 63, 64, 65, 66, 67, 68, 69, 70, 71, 72, 73, 74, 75, 76, 77, 78, 79, 80, 81, 82, 83, 84, 85, 86, 87, 88, 89, 90, 91, 92, 93, 94, 95, 96, 97, 98, 99, 100, 101, 102, 103, 104, 105, 106, 107, 108] (pq_wl cy h0 u m0 v xI xA xL aw mI mA mL))) ⟨hx, hb, hml, hown, hts⟩ (c_X7_item l D cy pq_N h0 (u 0) (u 9) (u 10) (u 11) (u 12) (u 13) (xI 25) (xI 26) (xI 27) (xL 0) (xI 28) (xI 29) (xI 30) (xL 1) (xI 31) (xI 32) (xI 33) (xL 2) (xI 34) (xI 35) (xI 36) (xL 3) (xs (x3 + 1).toNatClampNeg) (xs (x3 + 2).toNatClampNeg) (xs (x3 + 3).toNatClampNeg) ((((xs (x3 + 4).toNatClampNeg).toInt64) <<< ((32 : Int32).toInt64 &&& 63)) ||| (((xs (x3 + 5).toNatClampNeg).toInt64) &&& 4294967295)) zc hc) (cwV 4 hts gL_law_X7_item rfl rfl rfl (by decide +kernel) ⟨Nat.le_of_ble_eq_true rfl, Nat.le_of_ble_eq_true rfl⟩) hK hP hD hS hA 0 7 rfl rfl [0, 39, 40, 41, 42, 43, 44, 45, 46, 47] [1, 2, 3, 4, 5, 6, 7, 8, 9, 10, 11, 12, 13, 14, 15, 16, 17, 18, 19, 20, 21, 22, 23, 24, 25, 26, 27, 28, 29, 30, 31, 32, 33, 34, 35, 36, 37, 38, 48, 49, 50, 51, 52, 53, 54, 55, 56, 57, 58, 59, 60, 61, 62, 63, 64, 65, 66, 67, 68, 69, 70, 71, 72, 73, 74, 75, 76, 77, 78, 79, 80, 81, 82, 83, 84, 85, 86, 87, 88, 89, 90, 91, 92, 93, 94, 95, 96, 97, 98, 99, 100, 101, 102, 103, 104, 105, 106, 107, 108] [99, 0, 1, 2, 3, 4, 5, 6, 7, 8, 9, 10, 11, 12, 13, 14, 15, 16, 17, 18, 19, 20, 21, 22, 23, 24, 25, 26, 27, 28, 29, 30, 31, 32, 33, 34, 35, 36, 37, 100, 101, 102, 103, 104, 105, 106, 107, 108, 38, 39, 40, 41, 42, 43, 44, 45, 46, 47, 48, 49, 50, 51, 52, 53, 54, 55, 56, 57, 58, 59, 60, 61, 62, 63, 64, 65, 66, 67, 68, 69, 70, 71, 72, 73, 74, 75, 76, 77, 78, 79, 80, 81, 82, 83, 84, 85, 86, 87, 88, 89, 90, 91, 92, 93, 94, 95, 96, 97, 98] rfl rfl rfl rfl (by decide) rfl rfl rfl hl.1 rfl (Nat.le_of_ble_eq_true rfl) ⟨Nat.le_of_ble_eq_true rfl, Nat.le_of_ble_eq_true rfl⟩ dL_law_1027 (fun H locs hP hD hS => ?_)
  refine lv_aload_n hx hb dL_law_1030 rfl (lv_at hl 2 rfl) ?_
  refine lv_aload_n hx hb dL_law_1031 rfl (lv_at hl 0 rfl) ?_
  refine lv_iload_n hx hb dL_law_1032 rfl (lv_at hl 3 rfl) ?_
  refine lv_iconst (v := 1) hx hb dL_law_1033 (by decide) ?_
  refine lv_iadd hx hb dL_law_1034 ?_
  refine va_sld hx hb hX hbl hbA hS hv1 dL_law_1035 ?_
  refine lv_aload_n hx hb dL_law_1036 rfl (lv_at hl 0 rfl) ?_
  refine lv_iload_n hx hb dL_law_1037 rfl (lv_at hl 3 rfl) ?_
  refine lv_iconst (v := 2) hx hb dL_law_1038 (by decide) ?_
  refine lv_iadd hx hb dL_law_1039 ?_
  refine va_sld hx hb hX hbl hbA hS hv2 dL_law_1040 ?_
  refine lv_aload_n hx hb dL_law_1041 rfl (lv_at hl 0 rfl) ?_
  refine lv_iload_n hx hb dL_law_1042 rfl (lv_at hl 3 rfl) ?_
  refine lv_iconst (v := 3) hx hb dL_law_1043 (by decide) ?_
  refine lv_iadd hx hb dL_law_1044 ?_
  refine va_sld hx hb hX hbl hbA hS hv3 dL_law_1045 ?_
  refine lv_aload_n hx hb dL_law_1046 rfl (lv_at hl 0 rfl) ?_
  refine lv_iload_n hx hb dL_law_1047 rfl (lv_at hl 3 rfl) ?_
  refine lv_iconst (v := 4) hx hb dL_law_1048 (by decide) ?_
  refine lv_iadd hx hb dL_law_1049 ?_
  refine va_sld hx hb hX hbl hbA hS hv4 dL_law_1050 ?_
  refine lv_i2l (v := (xs (x3 + 4).toNatClampNeg).toInt64) hx hb dL_law_1051 rfl ?_
  refine lv_bipush (v := 32) hx hb dL_law_1052 (by decide) ?_
  refine lv_lshl (v := (((xs (x3 + 4).toNatClampNeg).toInt64) <<< ((32 : Int32).toInt64 &&& 63))) hx hb dL_law_1054 rfl ?_
  refine lv_aload_n hx hb dL_law_1055 rfl (lv_at hl 0 rfl) ?_
  refine lv_iload_n hx hb dL_law_1056 rfl (lv_at hl 3 rfl) ?_
  refine lv_iconst (v := 5) hx hb dL_law_1057 (by decide) ?_
  refine lv_iadd hx hb dL_law_1058 ?_
  refine va_sld hx hb hX hbl hbA hS hv5 dL_law_1059 ?_
  refine lv_i2l (v := (xs (x3 + 5).toNatClampNeg).toInt64) hx hb dL_law_1060 rfl ?_
  refine lv_ldc2 (v := 4294967295) hx hb hown (hts (.constantLong RL 126 (4294967295)) hk126) dL_law_1061 ?_
  refine lv_land hx hb dL_law_1064 ?_
  refine lv_lor hx hb dL_law_1065 ?_
  refine pq_dVl (As := [.int (xs (x3 + 1).toNatClampNeg), .int (xs (x3 + 2).toNatClampNeg), .int (xs (x3 + 3).toNatClampNeg), .long ((((xs (x3 + 4).toNatClampNeg).toInt64) <<< ((32 : Int32).toInt64 &&& 63)) ||| (((xs (x3 + 5).toNatClampNeg).toInt64) &&& 4294967295))]) (rest := [.long zc.1]) (b := m0) (C := RX8) (ws1 := pq_wl cy h0 u m0 v xI xA (va_up (va_up (va_up (va_up xL 0 zc.2.1) 1 zc.2.2.1) 2 zc.2.2.2.1) 3 zc.2.2.2.2) aw mI mA zm.2) (wr := (pq_pick [0, 1, 2, 3, 4, 5, 6, 7, 8, 9, 10, 11, 12, 13, 14, 15, 16, 17, 18, 19, 20, 21, 22, 23, 24, 25, 26, 27, 28, 29, 30, 31, 32, 33, 34, 35, 36, 37, 38, 39, 40, 41, 42, 43, 44, 45, 46, 47, 48, 49, 50, 51, 52, 53, 54, 55, 56, 57, 58, 59, 60, 61, 62, 63, 64, 65, 66, 67, 85, 86, 87, 88, 89, 90, 91, 92, 93, 94, 95, 96, 97, 98, 99, 100, 101, 102, 103, 104, 105, 106, 107, 108] (pq_wl cy h0 u m0 v xI xA (va_up (va_up (va_up (va_up xL 0 zc.2.1) 1 zc.2.2.1) 2 zc.2.2.2.1) 3 zc.2.2.2.2) aw mI mA mL))) ⟨hx, hb, hml, hown, hts⟩ (c_X8_item l D cy pq_N m0 v (mI 3) (mI 5) (mI 12) (mI 16) (mI 18) (mI 19) (mA 0) (mA 1) mL (mA 4) (mA 6) (mA 7) (mA 8) (mA 9) (mA 10) (mA 11) (mA 13) (mA 14) (mA 15) (mA 17) (mA 20) (mA 21) (xs (x3 + 1).toNatClampNeg) (xs (x3 + 2).toNatClampNeg) (xs (x3 + 3).toNatClampNeg) ((((xs (x3 + 4).toNatClampNeg).toInt64) <<< ((32 : Int32).toInt64 &&& 63)) ||| (((xs (x3 + 5).toNatClampNeg).toInt64) &&& 4294967295)) zm hm) (cwV 4 hts gL_law_X8_item rfl rfl rfl (by decide +kernel) ⟨Nat.le_of_ble_eq_true rfl, Nat.le_of_ble_eq_true rfl⟩) hK hP hD hS hA 0 8 rfl rfl [68, 69, 70, 71, 72, 73, 74, 75, 76, 77, 78, 79, 80, 81, 82, 83, 84] [0, 1, 2, 3, 4, 5, 6, 7, 8, 9, 10, 11, 12, 13, 14, 15, 16, 17, 18, 19, 20, 21, 22, 23, 24, 25, 26, 27, 28, 29, 30, 31, 32, 33, 34, 35, 36, 37, 38, 39, 40, 41, 42, 43, 44, 45, 46, 47, 48, 49, 50, 51, 52, 53, 54, 55, 56, 57, 58, 59, 60, 61, 62, 63, 64, 65, 66, 67, 85, 86, 87, 88, 89, 90, 91, 92, 93, 94, 95, 96, 97, 98, 99, 100, 101, 102, 103, 104, 105, 106, 107, 108] [0, 1, 2, 3, 4, 5, 6, 7, 8, 9, 10, 11, 12, 13, 14, 15, 16, 17, 18, 19, 20, 21, 22, 23, 24, 25, 26, 27, 28, 29, 30, 31, 32, 33, 34, 35, 36, 37, 38, 39, 40, 41, 42, 43, 44, 45, 46, 47, 48, 49, 50, 51, 52, 53, 54, 55, 56, 57, 58, 59, 60, 61, 62, 63, 64, 65, 66, 67, 92, 93, 94, 95, 96, 97, 98, 99, 100, 101, 102, 103, 104, 105, 106, 107, 108, 68, 69, 70, 71, 72, 73, 74, 75, 76, 77, 78, 79, 80, 81, 82, 83, 84, 85, 86, 87, 88, 89, 90, 91] rfl rfl rfl rfl (by decide) rfl rfl rfl hl.1 rfl (Nat.le_of_ble_eq_true rfl) ⟨Nat.le_of_ble_eq_true rfl, Nat.le_of_ble_eq_true rfl⟩ dL_law_1066 (fun H locs hP hD hS => ?_)
  refine W.lcmp hx hb dL_law_1069 ?_
  refine lv_if_eq (tgt := 1364) hx hb dL_law_1070 (by decide) (fun _ => ?_) (fun h => absurd (by rw [hrr]; exact pq_cmp0 _) h)
  exact hend u xI xA (va_up (va_up (va_up (va_up xL 0 zc.2.1) 1 zc.2.2.1) 2 zc.2.2.2.1) 3 zc.2.2.2.2) aw mI mA zm.2 hR _ _ _ hP hD hS hl

set_option maxHeartbeats 8000000 in
set_option maxRecDepth 100000 in
theorem pq_case_copy {p : Program} {l : Launch} {e : Env} {s : State} {m : MethodId} {below : List Frame} {meth : Method} {c : Code} {D : va_G} {cy : Nat → ClassId} {b L : Nat} {xs : Nat → Int32} {tS h0 m0 : Nat} {v : Nat → Nat} {x3 : Int32} (C0 : lw_At p s m meth c b L xs) (hK : va_K D vwCl (pq_tys cy) s) (hT : pq_St s.heap.size tS s s.heap) (hend : pq_End p l e s m below meth c D cy b h0 m0 v x3) (hvv : ∀ k : Nat, 0 < k → k < 7 → vp_in (x3 + nI k) L) (u : Nat → Nat → Nat) (xI : Nat → Int32) (xA : Nat → Nat → Int32) (xL : Nat → Nat → Int64) (aw : Nat → Nat → Int32) (mI : Nat → Int32) (mA : Nat → Nat → Int32) (mL : Nat → Int64) (hR : pq_R xI xA xL aw mI mA mL) (H : Heap) (locs : List Loc) (ls : Array Slot) (hP : va_P D vwCl (pq_wl cy h0 u m0 v xI xA xL aw mI mA mL) H) (hD : va_D (fun q : Nat => s.heap.size ≤ q) (pq_wl cy h0 u m0 v xI xA xL aw mI mA mL)) (hS : va_S (fun q : Nat => s.heap.size ≤ q) s.heap H locs) (hl : lv_has ls 4 [(0, .ref b), (1, .ref h0), (2, .ref m0), (3, .int x3)]) : W p l e room_1 s m #[Value.ref b] below meth c H locs 109 13218 (lw_Z below #[Value.ref b] s) (F0 m 1075 ls []) := by
  obtain ⟨hx, hb, hr, hml, hown, hts0, hX, hbl, hlocks, hgv⟩ := C0
  have hts := fun w h => hts0 w (wsL_law_in w h)
  have hown : s.vm.findClass RL = some m.cls := hown
  have hb : c.code = cL_law := hb
  have hA : ∀ q : Nat, s.heap.size ≤ q → (fun q : Nat => s.heap.size ≤ q) q := fun _ h => h
  have hbA : ¬ (fun q : Nat => s.heap.size ≤ q) b := Nat.not_le.mpr hbl
  have hAb : ∀ q, (fun q : Nat => s.heap.size ≤ q) q → s.heap.size ≤ q := fun _ h => h
  have hbs : s.heap.size ≤ s.heap.size := Nat.le_refl _
  have hv1 : vp_in (x3 + 1) L := hvv 1 (by decide) (by decide)
  have hv2 : vp_in (x3 + 2) L := hvv 2 (by decide) (by decide)
  have hv3 : vp_in (x3 + 3) L := hvv 3 (by decide) (by decide)
  have hv4 : vp_in (x3 + 4) L := hvv 4 (by decide) (by decide)
  have hv5 : vp_in (x3 + 5) L := hvv 5 (by decide) (by decide)
  obtain ⟨zc, zm, hc, hm, hrr, hR⟩ := sim_copy hR (xs (x3 + 1).toNatClampNeg) (xs (x3 + 2).toNatClampNeg) (xs (x3 + 3).toNatClampNeg) (xs (x3 + 4).toNatClampNeg) (xs (x3 + 5).toNatClampNeg)
  refine lv_aload_n hx hb dL_law_1075 rfl (lv_at hl 1 rfl) ?_
  refine lv_aload_n hx hb dL_law_1076 rfl (lv_at hl 0 rfl) ?_
  refine lv_iload_n hx hb dL_law_1077 rfl (lv_at hl 3 rfl) ?_
  refine lv_iconst (v := 1) hx hb dL_law_1078 (by decide) ?_
  refine lv_iadd hx hb dL_law_1079 ?_
  refine va_sld hx hb hX hbl hbA hS hv1 dL_law_1080 ?_
  refine lv_aload_n hx hb dL_law_1081 rfl (lv_at hl 0 rfl) ?_
  refine lv_iload_n hx hb dL_law_1082 rfl (lv_at hl 3 rfl) ?_
  refine lv_iconst (v := 2) hx hb dL_law_1083 (by decide) ?_
  refine lv_iadd hx hb dL_law_1084 ?_
  refine va_sld hx hb hX hbl hbA hS hv2 dL_law_1085 ?_
  refine lv_aload_n hx hb dL_law_1086 rfl (lv_at hl 0 rfl) ?_
  refine lv_iload_n hx hb dL_law_1087 rfl (lv_at hl 3 rfl) ?_
  refine lv_iconst (v := 3) hx hb dL_law_1088 (by decide) ?_
  refine lv_iadd hx hb dL_law_1089 ?_
  refine va_sld hx hb hX hbl hbA hS hv3 dL_law_1090 ?_
  refine lv_aload_n hx hb dL_law_1091 rfl (lv_at hl 0 rfl) ?_
  refine lv_iload_n hx hb dL_law_1092 rfl (lv_at hl 3 rfl) ?_
  refine lv_iconst (v := 4) hx hb dL_law_1093 (by decide) ?_
  refine lv_iadd hx hb dL_law_1094 ?_
  refine va_sld hx hb hX hbl hbA hS hv4 dL_law_1095 ?_
  refine lv_aload_n hx hb dL_law_1096 rfl (lv_at hl 0 rfl) ?_
  refine lv_iload_n hx hb dL_law_1097 rfl (lv_at hl 3 rfl) ?_
  refine lv_iconst (v := 5) hx hb dL_law_1098 (by decide) ?_
  refine lv_iadd hx hb dL_law_1099 ?_
  refine va_sld hx hb hX hbl hbA hS hv5 dL_law_1100 ?_
  refine pq_dVi (As := [.int (xs (x3 + 1).toNatClampNeg), .int (xs (x3 + 2).toNatClampNeg), .int (xs (x3 + 3).toNatClampNeg), .int (xs (x3 + 4).toNatClampNeg), .int (xs (x3 + 5).toNatClampNeg)]) (rest := []) (b := h0) (C := RX7) (ws1 := pq_wl cy h0 u m0 v xI xA (va_up (va_up (va_up (va_up xL 0 zc.2.1) 1 zc.2.2.1) 2 zc.2.2.2.1) 3 zc.2.2.2.2) aw mI mA mL) (wr := (pq_pick [1, 2, 3, 4, 5, 6, 7, 8, 9, 10, 11, 12, 13, 14, 15, 16, 17, 18, 19, 20, 21, 22, 23, 24, 25, 26, 27, 28, 29, 30, 31, 32, 33, 34, 35, 36, 37, 38, 48, 49, 50, 51, 52, 53, 54, 55, 56, 57, 58, 59, 60, 61, 62, 63, 64, 65, 66, 67, 68, 69, 70, 71, 72, 73, 74, 75, 76, 77, 78, 79, 80, 81, 82, 83, 84, 85, 86, 87, 88, 89, 90, 91, 92, 93, 94, 95, 96, 97, 98, 99, 100, 101, 102, 103, 104, 105, 106, 107, 108] (pq_wl cy h0 u m0 v xI xA xL aw mI mA mL))) ⟨hx, hb, hml, hown, hts⟩ (c_X7_copy l D cy pq_N h0 (u 0) (u 9) (u 10) (u 11) (u 12) (u 13) (xI 25) (xI 26) (xI 27) (xL 0) (xI 28) (xI 29) (xI 30) (xL 1) (xI 31) (xI 32) (xI 33) (xL 2) (xI 34) (xI 35) (xI 36) (xL 3) (xs (x3 + 1).toNatClampNeg) (xs (x3 + 2).toNatClampNeg) (xs (x3 + 3).toNatClampNeg) (xs (x3 + 4).toNatClampNeg) (xs (x3 + 5).toNatClampNeg) zc hc) (cwV 5 hts gL_law_X7_copy rfl rfl rfl (by decide +kernel) ⟨Nat.le_of_ble_eq_true rfl, Nat.le_of_ble_eq_true rfl⟩) hK hP hD hS hA 0 7 rfl rfl [0, 39, 40, 41, 42, 43, 44, 45, 46, 47] [1, 2, 3, 4, 5, 6, 7, 8, 9, 10, 11, 12, 13, 14, 15, 16, 17, 18, 19, 20, 21, 22, 23, 24, 25, 26, 27, 28, 29, 30, 31, 32, 33, 34, 35, 36, 37, 38, 48, 49, 50, 51, 52, 53, 54, 55, 56, 57, 58, 59, 60, 61, 62, 63, 64, 65, 66, 67, 68, 69, 70, 71, 72, 73, 74, 75, 76, 77, 78, 79, 80, 81, 82, 83, 84, 85, 86, 87, 88, 89, 90, 91, 92, 93, 94, 95, 96, 97, 98, 99, 100, 101, 102, 103, 104, 105, 106, 107, 108] [99, 0, 1, 2, 3, 4, 5, 6, 7, 8, 9, 10, 11, 12, 13, 14, 15, 16, 17, 18, 19, 20, 21, 22, 23, 24, 25, 26, 27, 28, 29, 30, 31, 32, 33, 34, 35, 36, 37, 100, 101, 102, 103, 104, 105, 106, 107, 108, 38, 39, 40, 41, 42, 43, 44, 45, 46, 47, 48, 49, 50, 51, 52, 53, 54, 55, 56, 57, 58, 59, 60, 61, 62, 63, 64, 65, 66, 67, 68, 69, 70, 71, 72, 73, 74, 75, 76, 77, 78, 79, 80, 81, 82, 83, 84, 85, 86, 87, 88, 89, 90, 91, 92, 93, 94, 95, 96, 97, 98] rfl rfl rfl rfl (by decide) rfl rfl rfl hl.1 rfl (Nat.le_of_ble_eq_true rfl) ⟨Nat.le_of_ble_eq_true rfl, Nat.le_of_ble_eq_true rfl⟩ dL_law_1101 (fun H locs hP hD hS => ?_)
  refine lv_aload_n hx hb dL_law_1104 rfl (lv_at hl 2 rfl) ?_
  refine lv_aload_n hx hb dL_law_1105 rfl (lv_at hl 0 rfl) ?_
  refine lv_iload_n hx hb dL_law_1106 rfl (lv_at hl 3 rfl) ?_
  refine lv_iconst (v := 1) hx hb dL_law_1107 (by decide) ?_
  refine lv_iadd hx hb dL_law_1108 ?_
  refine va_sld hx hb hX hbl hbA hS hv1 dL_law_1109 ?_
  refine lv_aload_n hx hb dL_law_1110 rfl (lv_at hl 0 rfl) ?_
  refine lv_iload_n hx hb dL_law_1111 rfl (lv_at hl 3 rfl) ?_
  refine lv_iconst (v := 2) hx hb dL_law_1112 (by decide) ?_
  refine lv_iadd hx hb dL_law_1113 ?_
  refine va_sld hx hb hX hbl hbA hS hv2 dL_law_1114 ?_
  refine lv_aload_n hx hb dL_law_1115 rfl (lv_at hl 0 rfl) ?_
  refine lv_iload_n hx hb dL_law_1116 rfl (lv_at hl 3 rfl) ?_
  refine lv_iconst (v := 3) hx hb dL_law_1117 (by decide) ?_
  refine lv_iadd hx hb dL_law_1118 ?_
  refine va_sld hx hb hX hbl hbA hS hv3 dL_law_1119 ?_
  refine lv_aload_n hx hb dL_law_1120 rfl (lv_at hl 0 rfl) ?_
  refine lv_iload_n hx hb dL_law_1121 rfl (lv_at hl 3 rfl) ?_
  refine lv_iconst (v := 4) hx hb dL_law_1122 (by decide) ?_
  refine lv_iadd hx hb dL_law_1123 ?_
  refine va_sld hx hb hX hbl hbA hS hv4 dL_law_1124 ?_
  refine lv_aload_n hx hb dL_law_1125 rfl (lv_at hl 0 rfl) ?_
  refine lv_iload_n hx hb dL_law_1126 rfl (lv_at hl 3 rfl) ?_
  refine lv_iconst (v := 5) hx hb dL_law_1127 (by decide) ?_
  refine lv_iadd hx hb dL_law_1128 ?_
  refine va_sld hx hb hX hbl hbA hS hv5 dL_law_1129 ?_
  refine pq_dVi (As := [.int (xs (x3 + 1).toNatClampNeg), .int (xs (x3 + 2).toNatClampNeg), .int (xs (x3 + 3).toNatClampNeg), .int (xs (x3 + 4).toNatClampNeg), .int (xs (x3 + 5).toNatClampNeg)]) (rest := [.int zc.1]) (b := m0) (C := RX8) (ws1 := pq_wl cy h0 u m0 v xI xA (va_up (va_up (va_up (va_up xL 0 zc.2.1) 1 zc.2.2.1) 2 zc.2.2.2.1) 3 zc.2.2.2.2) aw mI mA zm.2) (wr := (pq_pick [0, 1, 2, 3, 4, 5, 6, 7, 8, 9, 10, 11, 12, 13, 14, 15, 16, 17, 18, 19, 20, 21, 22, 23, 24, 25, 26, 27, 28, 29, 30, 31, 32, 33, 34, 35, 36, 37, 38, 39, 40, 41, 42, 43, 44, 45, 46, 47, 48, 49, 50, 51, 52, 53, 54, 55, 56, 57, 58, 59, 60, 61, 62, 63, 64, 65, 66, 67, 85, 86, 87, 88, 89, 90, 91, 92, 93, 94, 95, 96, 97, 98, 99, 100, 101, 102, 103, 104, 105, 106, 107, 108] (pq_wl cy h0 u m0 v xI xA (va_up (va_up (va_up (va_up xL 0 zc.2.1) 1 zc.2.2.1) 2 zc.2.2.2.1) 3 zc.2.2.2.2) aw mI mA mL))) ⟨hx, hb, hml, hown, hts⟩ (c_X8_copy l D cy pq_N m0 v (mI 3) (mI 5) (mI 12) (mI 16) (mI 18) (mI 19) (mA 0) (mA 1) mL (mA 4) (mA 6) (mA 7) (mA 8) (mA 9) (mA 10) (mA 11) (mA 13) (mA 14) (mA 15) (mA 17) (mA 20) (mA 21) (xs (x3 + 1).toNatClampNeg) (xs (x3 + 2).toNatClampNeg) (xs (x3 + 3).toNatClampNeg) (xs (x3 + 4).toNatClampNeg) (xs (x3 + 5).toNatClampNeg) zm hm) (cwV 5 hts gL_law_X8_copy rfl rfl rfl (by decide +kernel) ⟨Nat.le_of_ble_eq_true rfl, Nat.le_of_ble_eq_true rfl⟩) hK hP hD hS hA 0 8 rfl rfl [68, 69, 70, 71, 72, 73, 74, 75, 76, 77, 78, 79, 80, 81, 82, 83, 84] [0, 1, 2, 3, 4, 5, 6, 7, 8, 9, 10, 11, 12, 13, 14, 15, 16, 17, 18, 19, 20, 21, 22, 23, 24, 25, 26, 27, 28, 29, 30, 31, 32, 33, 34, 35, 36, 37, 38, 39, 40, 41, 42, 43, 44, 45, 46, 47, 48, 49, 50, 51, 52, 53, 54, 55, 56, 57, 58, 59, 60, 61, 62, 63, 64, 65, 66, 67, 85, 86, 87, 88, 89, 90, 91, 92, 93, 94, 95, 96, 97, 98, 99, 100, 101, 102, 103, 104, 105, 106, 107, 108] [0, 1, 2, 3, 4, 5, 6, 7, 8, 9, 10, 11, 12, 13, 14, 15, 16, 17, 18, 19, 20, 21, 22, 23, 24, 25, 26, 27, 28, 29, 30, 31, 32, 33, 34, 35, 36, 37, 38, 39, 40, 41, 42, 43, 44, 45, 46, 47, 48, 49, 50, 51, 52, 53, 54, 55, 56, 57, 58, 59, 60, 61, 62, 63, 64, 65, 66, 67, 92, 93, 94, 95, 96, 97, 98, 99, 100, 101, 102, 103, 104, 105, 106, 107, 108, 68, 69, 70, 71, 72, 73, 74, 75, 76, 77, 78, 79, 80, 81, 82, 83, 84, 85, 86, 87, 88, 89, 90, 91] rfl rfl rfl rfl (by decide) rfl rfl rfl hl.1 rfl (Nat.le_of_ble_eq_true rfl) ⟨Nat.le_of_ble_eq_true rfl, Nat.le_of_ble_eq_true rfl⟩ dL_law_1130 (fun H locs hP hD hS => ?_)
  refine lv_icmp_eq (tgt := 1364) hx hb dL_law_1133 (by decide) (fun _ => ?_) (fun h => absurd hrr h)
  exact hend u xI xA (va_up (va_up (va_up (va_up xL 0 zc.2.1) 1 zc.2.2.1) 2 zc.2.2.2.1) 3 zc.2.2.2.2) aw mI mA zm.2 hR _ _ _ hP hD hS hl

set_option maxHeartbeats 8000000 in
set_option maxRecDepth 100000 in
theorem pq_case_log {p : Program} {l : Launch} {e : Env} {s : State} {m : MethodId} {below : List Frame} {meth : Method} {c : Code} {D : va_G} {cy : Nat → ClassId} {b L : Nat} {xs : Nat → Int32} {tS h0 m0 : Nat} {v : Nat → Nat} {x3 : Int32} (C0 : lw_At p s m meth c b L xs) (hK : va_K D vwCl (pq_tys cy) s) (hT : pq_St s.heap.size tS s s.heap) (hend : pq_End p l e s m below meth c D cy b h0 m0 v x3) (hvv : ∀ k : Nat, 0 < k → k < 7 → vp_in (x3 + nI k) L) (u : Nat → Nat → Nat) (xI : Nat → Int32) (xA : Nat → Nat → Int32) (xL : Nat → Nat → Int64) (aw : Nat → Nat → Int32) (mI : Nat → Int32) (mA : Nat → Nat → Int32) (mL : Nat → Int64) (hR : pq_R xI xA xL aw mI mA mL) (H : Heap) (locs : List Loc) (ls : Array Slot) (hP : va_P D vwCl (pq_wl cy h0 u m0 v xI xA xL aw mI mA mL) H) (hD : va_D (fun q : Nat => s.heap.size ≤ q) (pq_wl cy h0 u m0 v xI xA xL aw mI mA mL)) (hS : va_S (fun q : Nat => s.heap.size ≤ q) s.heap H locs) (hl : lv_has ls 4 [(0, .ref b), (1, .ref h0), (2, .ref m0), (3, .int x3)]) : W p l e room_1 s m #[Value.ref b] below meth c H locs 109 13218 (lw_Z below #[Value.ref b] s) (F0 m 1138 ls []) := by
  obtain ⟨hx, hb, hr, hml, hown, hts0, hX, hbl, hlocks, hgv⟩ := C0
  have hts := fun w h => hts0 w (wsL_law_in w h)
  have hown : s.vm.findClass RL = some m.cls := hown
  have hb : c.code = cL_law := hb
  have hA : ∀ q : Nat, s.heap.size ≤ q → (fun q : Nat => s.heap.size ≤ q) q := fun _ h => h
  have hbA : ¬ (fun q : Nat => s.heap.size ≤ q) b := Nat.not_le.mpr hbl
  have hAb : ∀ q, (fun q : Nat => s.heap.size ≤ q) q → s.heap.size ≤ q := fun _ h => h
  have hbs : s.heap.size ≤ s.heap.size := Nat.le_refl _
  have hv1 : vp_in (x3 + 1) L := hvv 1 (by decide) (by decide)
  have hv2 : vp_in (x3 + 2) L := hvv 2 (by decide) (by decide)
  have hv3 : vp_in (x3 + 3) L := hvv 3 (by decide) (by decide)
  have hv4 : vp_in (x3 + 4) L := hvv 4 (by decide) (by decide)
  obtain ⟨zc, zm, hc, hm, hrr, hR⟩ := sim_log hR (xs (x3 + 1).toNatClampNeg) (xs (x3 + 2).toNatClampNeg) (xs (x3 + 3).toNatClampNeg) (xs (x3 + 4).toNatClampNeg)
  refine lv_aload_n hx hb dL_law_1138 rfl (lv_at hl 1 rfl) ?_
  refine lv_aload_n hx hb dL_law_1139 rfl (lv_at hl 0 rfl) ?_
  refine lv_iload_n hx hb dL_law_1140 rfl (lv_at hl 3 rfl) ?_
  refine lv_iconst (v := 1) hx hb dL_law_1141 (by decide) ?_
  refine lv_iadd hx hb dL_law_1142 ?_
  refine va_sld hx hb hX hbl hbA hS hv1 dL_law_1143 ?_
  refine lv_aload_n hx hb dL_law_1144 rfl (lv_at hl 0 rfl) ?_
  refine lv_iload_n hx hb dL_law_1145 rfl (lv_at hl 3 rfl) ?_
  refine lv_iconst (v := 2) hx hb dL_law_1146 (by decide) ?_
  refine lv_iadd hx hb dL_law_1147 ?_
  refine va_sld hx hb hX hbl hbA hS hv2 dL_law_1148 ?_
  refine lv_aload_n hx hb dL_law_1149 rfl (lv_at hl 0 rfl) ?_
  refine lv_iload_n hx hb dL_law_1150 rfl (lv_at hl 3 rfl) ?_
  refine lv_iconst (v := 3) hx hb dL_law_1151 (by decide) ?_
  refine lv_iadd hx hb dL_law_1152 ?_
  refine va_sld hx hb hX hbl hbA hS hv3 dL_law_1153 ?_
  refine lv_aload_n hx hb dL_law_1154 rfl (lv_at hl 0 rfl) ?_
  refine lv_iload_n hx hb dL_law_1155 rfl (lv_at hl 3 rfl) ?_
  refine lv_iconst (v := 4) hx hb dL_law_1156 (by decide) ?_
  refine lv_iadd hx hb dL_law_1157 ?_
  refine va_sld hx hb hX hbl hbA hS hv4 dL_law_1158 ?_
  refine pq_dVi (As := [.int (xs (x3 + 1).toNatClampNeg), .int (xs (x3 + 2).toNatClampNeg), .int (xs (x3 + 3).toNatClampNeg), .int (xs (x3 + 4).toNatClampNeg)]) (rest := []) (b := h0) (C := RX7) (ws1 := pq_wl cy h0 u m0 v (va_up (va_up (va_up (va_up (va_up xI 15 zc.2.2.2.2.2.1) 16 zc.2.2.2.2.2.2.1) 17 zc.2.2.2.2.2.2.2.1) 18 zc.2.2.2.2.2.2.2.2.1) 19 zc.2.2.2.2.2.2.2.2.2.1) (va_up (va_up (va_up (va_up (va_up (va_up (va_up (va_up (va_up xA 27 zc.2.2.2.2.2.2.2.2.2.2.1) 28 zc.2.2.2.2.2.2.2.2.2.2.2.1) 29 zc.2.2.2.2.2.2.2.2.2.2.2.2.1) 30 zc.2.2.2.2.2.2.2.2.2.2.2.2.2.1) 31 zc.2.2.2.2.2.2.2.2.2.2.2.2.2.2.1) 32 zc.2.2.2.2.2.2.2.2.2.2.2.2.2.2.2.1) 33 zc.2.2.2.2.2.2.2.2.2.2.2.2.2.2.2.2.1) 34 zc.2.2.2.2.2.2.2.2.2.2.2.2.2.2.2.2.2.1) 35 zc.2.2.2.2.2.2.2.2.2.2.2.2.2.2.2.2.2.2) (va_up (va_up (va_up (va_up xL 0 zc.2.1) 1 zc.2.2.1) 2 zc.2.2.2.1) 3 zc.2.2.2.2.1) aw mI mA mL) (wr := (pq_pick [1, 2, 3, 4, 5, 6, 7, 8, 9, 10, 11, 12, 13, 14, 15, 16, 17, 18, 19, 20, 21, 22, 23, 24, 25, 26, 27, 28, 29, 30, 31, 32, 33, 34, 35, 36, 37, 38, 68, 69, 70, 71, 72, 73, 74, 75, 76, 77, 78, 79, 80, 81, 82, 83, 84, 85, 86, 87, 88, 89, 90, 91, 92, 93, 94, 95, 96, 97, 98, 99, 100, 101, 102, 103, 104, 105, 106, 107, 108] (pq_wl cy h0 u m0 v xI xA xL aw mI mA mL))) ⟨hx, hb, hml, hown, hts⟩ (c_X7_log l D cy pq_N h0 (u 0) (u 9) (u 10) (u 11) (u 12) (u 13) (u 14) (u 15) (xI 25) (xI 26) (xI 27) (xL 0) (xI 28) (xI 29) (xI 30) (xL 1) (xI 31) (xI 32) (xI 33) (xL 2) (xI 34) (xI 35) (xI 36) (xL 3) (xI 10) (xI 11) (xI 12) (xI 13) (xI 14) (xA 18) (xA 19) (xA 20) (xA 21) (xA 22) (xA 23) (xA 24) (xA 25) (xA 26) (xI 15) (xI 16) (xI 17) (xI 18) (xI 19) (xA 27) (xA 28) (xA 29) (xA 30) (xA 31) (xA 32) (xA 33) (xA 34) (xA 35) (xs (x3 + 1).toNatClampNeg) (xs (x3 + 2).toNatClampNeg) (xs (x3 + 3).toNatClampNeg) (xs (x3 + 4).toNatClampNeg) zc hc) (cwV 4 hts gL_law_X7_log rfl rfl rfl (by decide +kernel) ⟨Nat.le_of_ble_eq_true rfl, Nat.le_of_ble_eq_true rfl⟩) hK hP hD hS hA 0 7 rfl rfl [0, 39, 40, 41, 42, 43, 44, 45, 46, 47, 48, 49, 50, 51, 52, 53, 54, 55, 56, 57, 58, 59, 60, 61, 62, 63, 64, 65, 66, 67] [1, 2, 3, 4, 5, 6, 7, 8, 9, 10, 11, 12, 13, 14, 15, 16, 17, 18, 19, 20, 21, 22, 23, 24, 25, 26, 27, 28, 29, 30, 31, 32, 33, 34, 35, 36, 37, 38, 68, 69, 70, 71, 72, 73, 74, 75, 76, 77, 78, 79, 80, 81, 82, 83, 84, 85, 86, 87, 88, 89, 90, 91, 92, 93, 94, 95, 96, 97, 98, 99, 100, 101, 102, 103, 104, 105, 106, 107, 108] [79, 0, 1, 2, 3, 4, 5, 6, 7, 8, 9, 10, 11, 12, 13, 14, 15, 16, 17, 18, 19, 20, 21, 22, 23, 24, 25, 26, 27, 28, 29, 30, 31, 32, 33, 34, 35, 36, 37, 80, 81, 82, 83, 84, 85, 86, 87, 88, 89, 90, 91, 92, 93, 94, 95, 96, 97, 98, 99, 100, 101, 102, 103, 104, 105, 106, 107, 108, 38, 39, 40, 41, 42, 43, 44, 45, 46, 47, 48, 49, 50, 51, 52, 53, 54, 55, 56, 57, 58, 59, 60, 61, 62, 63, 64, 65, 66, 67, 68, 69, 70, 71, 72, 73, 74, 75, 76, 77, 78] rfl rfl rfl rfl (by decide) rfl rfl rfl hl.1 rfl (Nat.le_of_ble_eq_true rfl) ⟨Nat.le_of_ble_eq_true rfl, Nat.le_of_ble_eq_true rfl⟩ dL_law_1159 (fun H locs hP hD hS => ?_)
  refine lv_aload_n hx hb dL_law_1162 rfl (lv_at hl 2 rfl) ?_
  refine lv_aload_n hx hb dL_law_1163 rfl (lv_at hl 0 rfl) ?_
  refine lv_iload_n hx hb dL_law_1164 rfl (lv_at hl 3 rfl) ?_
  refine lv_iconst (v := 1) hx hb dL_law_1165 (by decide) ?_
  refine lv_iadd hx hb dL_law_1166 ?_
  refine va_sld hx hb hX hbl hbA hS hv1 dL_law_1167 ?_
  refine lv_aload_n hx hb dL_law_1168 rfl (lv_at hl 0 rfl) ?_
  refine lv_iload_n hx hb dL_law_1169 rfl (lv_at hl 3 rfl) ?_
  refine lv_iconst (v := 2) hx hb dL_law_1170 (by decide) ?_
  refine lv_iadd hx hb dL_law_1171 ?_
  refine va_sld hx hb hX hbl hbA hS hv2 dL_law_1172 ?_
  refine lv_aload_n hx hb dL_law_1173 rfl (lv_at hl 0 rfl) ?_
  refine lv_iload_n hx hb dL_law_1174 rfl (lv_at hl 3 rfl) ?_
  refine lv_iconst (v := 3) hx hb dL_law_1175 (by decide) ?_
  refine lv_iadd hx hb dL_law_1176 ?_
  refine va_sld hx hb hX hbl hbA hS hv3 dL_law_1177 ?_
  refine lv_aload_n hx hb dL_law_1178 rfl (lv_at hl 0 rfl) ?_
  refine lv_iload_n hx hb dL_law_1179 rfl (lv_at hl 3 rfl) ?_
  refine lv_iconst (v := 4) hx hb dL_law_1180 (by decide) ?_
  refine lv_iadd hx hb dL_law_1181 ?_
  refine va_sld hx hb hX hbl hbA hS hv4 dL_law_1182 ?_
  refine pq_dVi (As := [.int (xs (x3 + 1).toNatClampNeg), .int (xs (x3 + 2).toNatClampNeg), .int (xs (x3 + 3).toNatClampNeg), .int (xs (x3 + 4).toNatClampNeg)]) (rest := [.int zc.1]) (b := m0) (C := RX8) (ws1 := pq_wl cy h0 u m0 v (va_up (va_up (va_up (va_up (va_up xI 15 zc.2.2.2.2.2.1) 16 zc.2.2.2.2.2.2.1) 17 zc.2.2.2.2.2.2.2.1) 18 zc.2.2.2.2.2.2.2.2.1) 19 zc.2.2.2.2.2.2.2.2.2.1) (va_up (va_up (va_up (va_up (va_up (va_up (va_up (va_up (va_up xA 27 zc.2.2.2.2.2.2.2.2.2.2.1) 28 zc.2.2.2.2.2.2.2.2.2.2.2.1) 29 zc.2.2.2.2.2.2.2.2.2.2.2.2.1) 30 zc.2.2.2.2.2.2.2.2.2.2.2.2.2.1) 31 zc.2.2.2.2.2.2.2.2.2.2.2.2.2.2.1) 32 zc.2.2.2.2.2.2.2.2.2.2.2.2.2.2.2.1) 33 zc.2.2.2.2.2.2.2.2.2.2.2.2.2.2.2.2.1) 34 zc.2.2.2.2.2.2.2.2.2.2.2.2.2.2.2.2.2.1) 35 zc.2.2.2.2.2.2.2.2.2.2.2.2.2.2.2.2.2.2) (va_up (va_up (va_up (va_up xL 0 zc.2.1) 1 zc.2.2.1) 2 zc.2.2.2.1) 3 zc.2.2.2.2.1) aw mI (va_up mA 8 zm.2.2) zm.2.1) (wr := (pq_pick [0, 1, 2, 3, 4, 5, 6, 7, 8, 9, 10, 11, 12, 13, 14, 15, 16, 17, 18, 19, 20, 21, 22, 23, 24, 25, 26, 27, 28, 29, 30, 31, 32, 33, 34, 35, 36, 37, 38, 39, 40, 41, 42, 43, 44, 45, 46, 47, 48, 49, 50, 51, 52, 53, 54, 55, 56, 57, 58, 59, 60, 61, 62, 63, 64, 65, 66, 67, 85, 86, 87, 88, 89, 90, 91, 92, 93, 94, 95, 96, 97, 98, 99, 100, 101, 102, 103, 104, 105, 106, 107, 108] (pq_wl cy h0 u m0 v (va_up (va_up (va_up (va_up (va_up xI 15 zc.2.2.2.2.2.1) 16 zc.2.2.2.2.2.2.1) 17 zc.2.2.2.2.2.2.2.1) 18 zc.2.2.2.2.2.2.2.2.1) 19 zc.2.2.2.2.2.2.2.2.2.1) (va_up (va_up (va_up (va_up (va_up (va_up (va_up (va_up (va_up xA 27 zc.2.2.2.2.2.2.2.2.2.2.1) 28 zc.2.2.2.2.2.2.2.2.2.2.2.1) 29 zc.2.2.2.2.2.2.2.2.2.2.2.2.1) 30 zc.2.2.2.2.2.2.2.2.2.2.2.2.2.1) 31 zc.2.2.2.2.2.2.2.2.2.2.2.2.2.2.1) 32 zc.2.2.2.2.2.2.2.2.2.2.2.2.2.2.2.1) 33 zc.2.2.2.2.2.2.2.2.2.2.2.2.2.2.2.2.1) 34 zc.2.2.2.2.2.2.2.2.2.2.2.2.2.2.2.2.2.1) 35 zc.2.2.2.2.2.2.2.2.2.2.2.2.2.2.2.2.2.2) (va_up (va_up (va_up (va_up xL 0 zc.2.1) 1 zc.2.2.1) 2 zc.2.2.2.1) 3 zc.2.2.2.2.1) aw mI mA mL))) ⟨hx, hb, hml, hown, hts⟩ (c_X8_log l D cy pq_N m0 v (mI 3) (mI 5) (mI 12) (mI 16) (mI 18) (mI 19) (mA 0) (mA 1) mL (mA 4) (mA 6) (mA 7) (mA 8) (mA 9) (mA 10) (mA 11) (mA 13) (mA 14) (mA 15) (mA 17) (mA 20) (mA 21) (xs (x3 + 1).toNatClampNeg) (xs (x3 + 2).toNatClampNeg) (xs (x3 + 3).toNatClampNeg) (xs (x3 + 4).toNatClampNeg) zm hm) (cwV 4 hts gL_law_X8_log rfl rfl rfl (by decide +kernel) ⟨Nat.le_of_ble_eq_true rfl, Nat.le_of_ble_eq_true rfl⟩) hK hP hD hS hA 0 8 rfl rfl [68, 69, 70, 71, 72, 73, 74, 75, 76, 77, 78, 79, 80, 81, 82, 83, 84] [0, 1, 2, 3, 4, 5, 6, 7, 8, 9, 10, 11, 12, 13, 14, 15, 16, 17, 18, 19, 20, 21, 22, 23, 24, 25, 26, 27, 28, 29, 30, 31, 32, 33, 34, 35, 36, 37, 38, 39, 40, 41, 42, 43, 44, 45, 46, 47, 48, 49, 50, 51, 52, 53, 54, 55, 56, 57, 58, 59, 60, 61, 62, 63, 64, 65, 66, 67, 85, 86, 87, 88, 89, 90, 91, 92, 93, 94, 95, 96, 97, 98, 99, 100, 101, 102, 103, 104, 105, 106, 107, 108] [0, 1, 2, 3, 4, 5, 6, 7, 8, 9, 10, 11, 12, 13, 14, 15, 16, 17, 18, 19, 20, 21, 22, 23, 24, 25, 26, 27, 28, 29, 30, 31, 32, 33, 34, 35, 36, 37, 38, 39, 40, 41, 42, 43, 44, 45, 46, 47, 48, 49, 50, 51, 52, 53, 54, 55, 56, 57, 58, 59, 60, 61, 62, 63, 64, 65, 66, 67, 92, 93, 94, 95, 96, 97, 98, 99, 100, 101, 102, 103, 104, 105, 106, 107, 108, 68, 69, 70, 71, 72, 73, 74, 75, 76, 77, 78, 79, 80, 81, 82, 83, 84, 85, 86, 87, 88, 89, 90, 91] rfl rfl rfl rfl (by decide) rfl rfl rfl hl.1 rfl (Nat.le_of_ble_eq_true rfl) ⟨Nat.le_of_ble_eq_true rfl, Nat.le_of_ble_eq_true rfl⟩ dL_law_1183 (fun H locs hP hD hS => ?_)
  refine lv_icmp_eq (tgt := 1364) hx hb dL_law_1186 (by decide) (fun _ => ?_) (fun h => absurd hrr h)
  exact hend u (va_up (va_up (va_up (va_up (va_up xI 15 zc.2.2.2.2.2.1) 16 zc.2.2.2.2.2.2.1) 17 zc.2.2.2.2.2.2.2.1) 18 zc.2.2.2.2.2.2.2.2.1) 19 zc.2.2.2.2.2.2.2.2.2.1) (va_up (va_up (va_up (va_up (va_up (va_up (va_up (va_up (va_up xA 27 zc.2.2.2.2.2.2.2.2.2.2.1) 28 zc.2.2.2.2.2.2.2.2.2.2.2.1) 29 zc.2.2.2.2.2.2.2.2.2.2.2.2.1) 30 zc.2.2.2.2.2.2.2.2.2.2.2.2.2.1) 31 zc.2.2.2.2.2.2.2.2.2.2.2.2.2.2.1) 32 zc.2.2.2.2.2.2.2.2.2.2.2.2.2.2.2.1) 33 zc.2.2.2.2.2.2.2.2.2.2.2.2.2.2.2.2.1) 34 zc.2.2.2.2.2.2.2.2.2.2.2.2.2.2.2.2.2.1) 35 zc.2.2.2.2.2.2.2.2.2.2.2.2.2.2.2.2.2.2) (va_up (va_up (va_up (va_up xL 0 zc.2.1) 1 zc.2.2.1) 2 zc.2.2.2.1) 3 zc.2.2.2.2.1) aw mI (va_up mA 8 zm.2.2) zm.2.1 hR _ _ _ hP hD hS hl

set_option maxHeartbeats 8000000 in
set_option maxRecDepth 100000 in
theorem pq_case_leans {p : Program} {l : Launch} {e : Env} {s : State} {m : MethodId} {below : List Frame} {meth : Method} {c : Code} {D : va_G} {cy : Nat → ClassId} {b L : Nat} {xs : Nat → Int32} {tS h0 m0 : Nat} {v : Nat → Nat} {x3 : Int32} (C0 : lw_At p s m meth c b L xs) (hK : va_K D vwCl (pq_tys cy) s) (hT : pq_St s.heap.size tS s s.heap) (hend : pq_End p l e s m below meth c D cy b h0 m0 v x3) (hvv : ∀ k : Nat, 0 < k → k < 7 → vp_in (x3 + nI k) L) (u : Nat → Nat → Nat) (xI : Nat → Int32) (xA : Nat → Nat → Int32) (xL : Nat → Nat → Int64) (aw : Nat → Nat → Int32) (mI : Nat → Int32) (mA : Nat → Nat → Int32) (mL : Nat → Int64) (hR : pq_R xI xA xL aw mI mA mL) (H : Heap) (locs : List Loc) (ls : Array Slot) (hP : va_P D vwCl (pq_wl cy h0 u m0 v xI xA xL aw mI mA mL) H) (hD : va_D (fun q : Nat => s.heap.size ≤ q) (pq_wl cy h0 u m0 v xI xA xL aw mI mA mL)) (hS : va_S (fun q : Nat => s.heap.size ≤ q) s.heap H locs) (hl : lv_has ls 4 [(0, .ref b), (1, .ref h0), (2, .ref m0), (3, .int x3)]) : W p l e room_1 s m #[Value.ref b] below meth c H locs 109 13218 (lw_Z below #[Value.ref b] s) (F0 m 1191 ls []) := by
  obtain ⟨hx, hb, hr, hml, hown, hts0, hX, hbl, hlocks, hgv⟩ := C0
  have hts := fun w h => hts0 w (wsL_law_in w h)
  have hown : s.vm.findClass RL = some m.cls := hown
  have hb : c.code = cL_law := hb
  have hA : ∀ q : Nat, s.heap.size ≤ q → (fun q : Nat => s.heap.size ≤ q) q := fun _ h => h
  have hbA : ¬ (fun q : Nat => s.heap.size ≤ q) b := Nat.not_le.mpr hbl
  have hAb : ∀ q, (fun q : Nat => s.heap.size ≤ q) q → s.heap.size ≤ q := fun _ h => h
  have hbs : s.heap.size ≤ s.heap.size := Nat.le_refl _
  have hv1 : vp_in (x3 + 1) L := hvv 1 (by decide) (by decide)
  have hv2 : vp_in (x3 + 2) L := hvv 2 (by decide) (by decide)
  have hv3 : vp_in (x3 + 3) L := hvv 3 (by decide) (by decide)
  have hv4 : vp_in (x3 + 4) L := hvv 4 (by decide) (by decide)
  have hv5 : vp_in (x3 + 5) L := hvv 5 (by decide) (by decide)
  have hv6 : vp_in (x3 + 6) L := hvv 6 (by decide) (by decide)
  obtain ⟨zc, zm, hc, hm, hrr, hR⟩ := sim_leans hR (xs (x3 + 1).toNatClampNeg) (xs (x3 + 2).toNatClampNeg) (xs (x3 + 3).toNatClampNeg) (xs (x3 + 4).toNatClampNeg) (xs (x3 + 5).toNatClampNeg) (xs (x3 + 6).toNatClampNeg)
  refine lv_aload_n hx hb dL_law_1191 rfl (lv_at hl 1 rfl) ?_
  refine lv_aload_n hx hb dL_law_1192 rfl (lv_at hl 0 rfl) ?_
  refine lv_iload_n hx hb dL_law_1193 rfl (lv_at hl 3 rfl) ?_
  refine lv_iconst (v := 1) hx hb dL_law_1194 (by decide) ?_
  refine lv_iadd hx hb dL_law_1195 ?_
  refine va_sld hx hb hX hbl hbA hS hv1 dL_law_1196 ?_
  refine lv_aload_n hx hb dL_law_1197 rfl (lv_at hl 0 rfl) ?_
  refine lv_iload_n hx hb dL_law_1198 rfl (lv_at hl 3 rfl) ?_
  refine lv_iconst (v := 2) hx hb dL_law_1199 (by decide) ?_
  refine lv_iadd hx hb dL_law_1200 ?_
  refine va_sld hx hb hX hbl hbA hS hv2 dL_law_1201 ?_
  refine lv_aload_n hx hb dL_law_1202 rfl (lv_at hl 0 rfl) ?_
  refine lv_iload_n hx hb dL_law_1203 rfl (lv_at hl 3 rfl) ?_
  refine lv_iconst (v := 3) hx hb dL_law_1204 (by decide) ?_
  refine lv_iadd hx hb dL_law_1205 ?_
  refine va_sld hx hb hX hbl hbA hS hv3 dL_law_1206 ?_
  refine lv_aload_n hx hb dL_law_1207 rfl (lv_at hl 0 rfl) ?_
  refine lv_iload_n hx hb dL_law_1208 rfl (lv_at hl 3 rfl) ?_
  refine lv_iconst (v := 4) hx hb dL_law_1209 (by decide) ?_
  refine lv_iadd hx hb dL_law_1210 ?_
  refine va_sld hx hb hX hbl hbA hS hv4 dL_law_1211 ?_
  refine lv_aload_n hx hb dL_law_1212 rfl (lv_at hl 0 rfl) ?_
  refine lv_iload_n hx hb dL_law_1213 rfl (lv_at hl 3 rfl) ?_
  refine lv_iconst (v := 5) hx hb dL_law_1214 (by decide) ?_
  refine lv_iadd hx hb dL_law_1215 ?_
  refine va_sld hx hb hX hbl hbA hS hv5 dL_law_1216 ?_
  refine lv_aload_n hx hb dL_law_1217 rfl (lv_at hl 0 rfl) ?_
  refine lv_iload_n hx hb dL_law_1218 rfl (lv_at hl 3 rfl) ?_
  refine lv_bipush (v := 6) hx hb dL_law_1219 (by decide) ?_
  refine lv_iadd hx hb dL_law_1221 ?_
  refine va_sld hx hb hX hbl hbA hS hv6 dL_law_1222 ?_
  refine pq_dVi (As := [.int (xs (x3 + 1).toNatClampNeg), .int (xs (x3 + 2).toNatClampNeg), .int (xs (x3 + 3).toNatClampNeg), .int (xs (x3 + 4).toNatClampNeg), .int (xs (x3 + 5).toNatClampNeg), .int (xs (x3 + 6).toNatClampNeg)]) (rest := []) (b := h0) (C := RX7) (ws1 := pq_wl cy h0 u m0 v (va_up xI 24 zc.2.1) (va_up (va_up xA 45 zc.2.2.1) 46 zc.2.2.2) xL aw mI mA mL) (wr := (pq_pick [1, 2, 3, 4, 5, 6, 7, 8, 9, 10, 11, 12, 13, 18, 19, 20, 21, 22, 23, 24, 25, 26, 27, 28, 29, 30, 31, 32, 33, 34, 35, 36, 37, 38, 58, 59, 60, 61, 62, 63, 64, 65, 66, 67, 68, 69, 70, 71, 72, 73, 74, 75, 76, 77, 78, 79, 80, 81, 82, 83, 84, 85, 86, 87, 88, 89, 90, 91, 92, 93, 94, 95, 96, 97, 98, 99, 100, 101, 102, 103, 104, 105, 106, 107, 108] (pq_wl cy h0 u m0 v xI xA xL aw mI mA mL))) ⟨hx, hb, hml, hown, hts⟩ (c_X7_leans l D cy pq_N h0 (u 0) (u 5) (u 9) (u 10) (u 11) (u 12) (u 13) (u 14) (xI 24) (xA 45) (xA 46) (xA 47) (xI 25) (xI 26) (xI 27) (xL 0) (xI 28) (xI 29) (xI 30) (xL 1) (xI 31) (xI 32) (xI 33) (xL 2) (xI 34) (xI 35) (xI 36) (xL 3) (xI 10) (xI 11) (xI 12) (xI 13) (xI 14) (xA 18) (xA 19) (xA 20) (xA 21) (xA 22) (xA 23) (xA 24) (xA 25) (xA 26) (xs (x3 + 1).toNatClampNeg) (xs (x3 + 2).toNatClampNeg) (xs (x3 + 3).toNatClampNeg) (xs (x3 + 4).toNatClampNeg) (xs (x3 + 5).toNatClampNeg) (xs (x3 + 6).toNatClampNeg) zc hc) (cwV 6 hts gL_law_X7_leans rfl rfl rfl (by decide +kernel) ⟨Nat.le_of_ble_eq_true rfl, Nat.le_of_ble_eq_true rfl⟩) hK hP hD hS hA 0 7 rfl rfl [0, 14, 15, 16, 17, 39, 40, 41, 42, 43, 44, 45, 46, 47, 48, 49, 50, 51, 52, 53, 54, 55, 56, 57] [1, 2, 3, 4, 5, 6, 7, 8, 9, 10, 11, 12, 13, 18, 19, 20, 21, 22, 23, 24, 25, 26, 27, 28, 29, 30, 31, 32, 33, 34, 35, 36, 37, 38, 58, 59, 60, 61, 62, 63, 64, 65, 66, 67, 68, 69, 70, 71, 72, 73, 74, 75, 76, 77, 78, 79, 80, 81, 82, 83, 84, 85, 86, 87, 88, 89, 90, 91, 92, 93, 94, 95, 96, 97, 98, 99, 100, 101, 102, 103, 104, 105, 106, 107, 108] [85, 0, 1, 2, 3, 4, 5, 6, 7, 8, 9, 10, 11, 12, 86, 87, 88, 89, 13, 14, 15, 16, 17, 18, 19, 20, 21, 22, 23, 24, 25, 26, 27, 28, 29, 30, 31, 32, 33, 90, 91, 92, 93, 94, 95, 96, 97, 98, 99, 100, 101, 102, 103, 104, 105, 106, 107, 108, 34, 35, 36, 37, 38, 39, 40, 41, 42, 43, 44, 45, 46, 47, 48, 49, 50, 51, 52, 53, 54, 55, 56, 57, 58, 59, 60, 61, 62, 63, 64, 65, 66, 67, 68, 69, 70, 71, 72, 73, 74, 75, 76, 77, 78, 79, 80, 81, 82, 83, 84] rfl rfl rfl rfl (by decide) rfl rfl rfl hl.1 rfl (Nat.le_of_ble_eq_true rfl) ⟨Nat.le_of_ble_eq_true rfl, Nat.le_of_ble_eq_true rfl⟩ dL_law_1223 (fun H locs hP hD hS => ?_)
  refine lv_aload_n hx hb dL_law_1226 rfl (lv_at hl 2 rfl) ?_
  refine lv_aload_n hx hb dL_law_1227 rfl (lv_at hl 0 rfl) ?_
  refine lv_iload_n hx hb dL_law_1228 rfl (lv_at hl 3 rfl) ?_
  refine lv_iconst (v := 1) hx hb dL_law_1229 (by decide) ?_
  refine lv_iadd hx hb dL_law_1230 ?_
  refine va_sld hx hb hX hbl hbA hS hv1 dL_law_1231 ?_
  refine lv_aload_n hx hb dL_law_1232 rfl (lv_at hl 0 rfl) ?_
  refine lv_iload_n hx hb dL_law_1233 rfl (lv_at hl 3 rfl) ?_
  refine lv_iconst (v := 2) hx hb dL_law_1234 (by decide) ?_
  refine lv_iadd hx hb dL_law_1235 ?_
  refine va_sld hx hb hX hbl hbA hS hv2 dL_law_1236 ?_
  refine lv_aload_n hx hb dL_law_1237 rfl (lv_at hl 0 rfl) ?_
  refine lv_iload_n hx hb dL_law_1238 rfl (lv_at hl 3 rfl) ?_
  refine lv_iconst (v := 3) hx hb dL_law_1239 (by decide) ?_
  refine lv_iadd hx hb dL_law_1240 ?_
  refine va_sld hx hb hX hbl hbA hS hv3 dL_law_1241 ?_
  refine lv_aload_n hx hb dL_law_1242 rfl (lv_at hl 0 rfl) ?_
  refine lv_iload_n hx hb dL_law_1243 rfl (lv_at hl 3 rfl) ?_
  refine lv_iconst (v := 4) hx hb dL_law_1244 (by decide) ?_
  refine lv_iadd hx hb dL_law_1245 ?_
  refine va_sld hx hb hX hbl hbA hS hv4 dL_law_1246 ?_
  refine lv_aload_n hx hb dL_law_1247 rfl (lv_at hl 0 rfl) ?_
  refine lv_iload_n hx hb dL_law_1248 rfl (lv_at hl 3 rfl) ?_
  refine lv_iconst (v := 5) hx hb dL_law_1249 (by decide) ?_
  refine lv_iadd hx hb dL_law_1250 ?_
  refine va_sld hx hb hX hbl hbA hS hv5 dL_law_1251 ?_
  refine lv_aload_n hx hb dL_law_1252 rfl (lv_at hl 0 rfl) ?_
  refine lv_iload_n hx hb dL_law_1253 rfl (lv_at hl 3 rfl) ?_
  refine lv_bipush (v := 6) hx hb dL_law_1254 (by decide) ?_
  refine lv_iadd hx hb dL_law_1256 ?_
  refine va_sld hx hb hX hbl hbA hS hv6 dL_law_1257 ?_
  refine pq_dVi (As := [.int (xs (x3 + 1).toNatClampNeg), .int (xs (x3 + 2).toNatClampNeg), .int (xs (x3 + 3).toNatClampNeg), .int (xs (x3 + 4).toNatClampNeg), .int (xs (x3 + 5).toNatClampNeg), .int (xs (x3 + 6).toNatClampNeg)]) (rest := [.int zc.1]) (b := m0) (C := RX8) (ws1 := pq_wl cy h0 u m0 v (va_up xI 24 zc.2.1) (va_up (va_up xA 45 zc.2.2.1) 46 zc.2.2.2) xL aw mI mA mL) (wr := (pq_pick [0, 1, 2, 3, 4, 5, 6, 7, 8, 9, 10, 11, 12, 13, 14, 15, 16, 17, 18, 19, 20, 21, 22, 23, 24, 25, 26, 27, 28, 29, 30, 31, 32, 33, 34, 35, 36, 37, 38, 39, 40, 41, 42, 43, 44, 45, 46, 47, 48, 49, 50, 51, 52, 53, 54, 55, 56, 57, 58, 59, 60, 61, 62, 63, 64, 65, 66, 67, 85, 86, 87, 88, 89, 90, 91, 92, 93, 94, 95, 96, 97, 98, 99, 100, 101, 102, 103, 104, 105, 106, 107, 108] (pq_wl cy h0 u m0 v (va_up xI 24 zc.2.1) (va_up (va_up xA 45 zc.2.2.1) 46 zc.2.2.2) xL aw mI mA mL))) ⟨hx, hb, hml, hown, hts⟩ (c_X8_leans l D cy pq_N m0 v (mI 3) (mI 5) (mI 12) (mI 16) (mI 18) (mI 19) (mA 0) (mA 1) mL (mA 4) (mA 6) (mA 7) (mA 8) (mA 9) (mA 10) (mA 11) (mA 13) (mA 14) (mA 15) (mA 17) (mA 20) (mA 21) (xs (x3 + 1).toNatClampNeg) (xs (x3 + 2).toNatClampNeg) (xs (x3 + 3).toNatClampNeg) (xs (x3 + 4).toNatClampNeg) (xs (x3 + 5).toNatClampNeg) (xs (x3 + 6).toNatClampNeg) zm hm) (cwV 6 hts gL_law_X8_leans rfl rfl rfl (by decide +kernel) ⟨Nat.le_of_ble_eq_true rfl, Nat.le_of_ble_eq_true rfl⟩) hK hP hD hS hA 0 8 rfl rfl [68, 69, 70, 71, 72, 73, 74, 75, 76, 77, 78, 79, 80, 81, 82, 83, 84] [0, 1, 2, 3, 4, 5, 6, 7, 8, 9, 10, 11, 12, 13, 14, 15, 16, 17, 18, 19, 20, 21, 22, 23, 24, 25, 26, 27, 28, 29, 30, 31, 32, 33, 34, 35, 36, 37, 38, 39, 40, 41, 42, 43, 44, 45, 46, 47, 48, 49, 50, 51, 52, 53, 54, 55, 56, 57, 58, 59, 60, 61, 62, 63, 64, 65, 66, 67, 85, 86, 87, 88, 89, 90, 91, 92, 93, 94, 95, 96, 97, 98, 99, 100, 101, 102, 103, 104, 105, 106, 107, 108] [0, 1, 2, 3, 4, 5, 6, 7, 8, 9, 10, 11, 12, 13, 14, 15, 16, 17, 18, 19, 20, 21, 22, 23, 24, 25, 26, 27, 28, 29, 30, 31, 32, 33, 34, 35, 36, 37, 38, 39, 40, 41, 42, 43, 44, 45, 46, 47, 48, 49, 50, 51, 52, 53, 54, 55, 56, 57, 58, 59, 60, 61, 62, 63, 64, 65, 66, 67, 92, 93, 94, 95, 96, 97, 98, 99, 100, 101, 102, 103, 104, 105, 106, 107, 108, 68, 69, 70, 71, 72, 73, 74, 75, 76, 77, 78, 79, 80, 81, 82, 83, 84, 85, 86, 87, 88, 89, 90, 91] rfl rfl rfl rfl (by decide) rfl rfl rfl hl.1 rfl (Nat.le_of_ble_eq_true rfl) ⟨Nat.le_of_ble_eq_true rfl, Nat.le_of_ble_eq_true rfl⟩ dL_law_1258 (fun H locs hP hD hS => ?_)
  refine lv_icmp_eq (tgt := 1364) hx hb dL_law_1261 (by decide) (fun _ => ?_) (fun h => absurd hrr h)
  exact hend u (va_up xI 24 zc.2.1) (va_up (va_up xA 45 zc.2.2.1) 46 zc.2.2.2) xL aw mI mA mL hR _ _ _ hP hD hS hl

set_option maxHeartbeats 8000000 in
set_option maxRecDepth 100000 in
theorem pq_case_kinds {p : Program} {l : Launch} {e : Env} {s : State} {m : MethodId} {below : List Frame} {meth : Method} {c : Code} {D : va_G} {cy : Nat → ClassId} {b L : Nat} {xs : Nat → Int32} {tS h0 m0 : Nat} {v : Nat → Nat} {x3 : Int32} (C0 : lw_At p s m meth c b L xs) (hK : va_K D vwCl (pq_tys cy) s) (hT : pq_St s.heap.size tS s s.heap) (hend : pq_End p l e s m below meth c D cy b h0 m0 v x3) (hvv : ∀ k : Nat, 0 < k → k < 7 → vp_in (x3 + nI k) L) (u : Nat → Nat → Nat) (xI : Nat → Int32) (xA : Nat → Nat → Int32) (xL : Nat → Nat → Int64) (aw : Nat → Nat → Int32) (mI : Nat → Int32) (mA : Nat → Nat → Int32) (mL : Nat → Int64) (hR : pq_R xI xA xL aw mI mA mL) (H : Heap) (locs : List Loc) (ls : Array Slot) (hP : va_P D vwCl (pq_wl cy h0 u m0 v xI xA xL aw mI mA mL) H) (hD : va_D (fun q : Nat => s.heap.size ≤ q) (pq_wl cy h0 u m0 v xI xA xL aw mI mA mL)) (hS : va_S (fun q : Nat => s.heap.size ≤ q) s.heap H locs) (hl : lv_has ls 4 [(0, .ref b), (1, .ref h0), (2, .ref m0), (3, .int x3)]) : W p l e room_1 s m #[Value.ref b] below meth c H locs 109 13218 (lw_Z below #[Value.ref b] s) (F0 m 1266 ls []) := by
  obtain ⟨hx, hb, hr, hml, hown, hts0, hX, hbl, hlocks, hgv⟩ := C0
  have hts := fun w h => hts0 w (wsL_law_in w h)
  have hown : s.vm.findClass RL = some m.cls := hown
  have hb : c.code = cL_law := hb
  have hA : ∀ q : Nat, s.heap.size ≤ q → (fun q : Nat => s.heap.size ≤ q) q := fun _ h => h
  have hbA : ¬ (fun q : Nat => s.heap.size ≤ q) b := Nat.not_le.mpr hbl
  have hAb : ∀ q, (fun q : Nat => s.heap.size ≤ q) q → s.heap.size ≤ q := fun _ h => h
  have hbs : s.heap.size ≤ s.heap.size := Nat.le_refl _
  have hv1 : vp_in (x3 + 1) L := hvv 1 (by decide) (by decide)
  have hv2 : vp_in (x3 + 2) L := hvv 2 (by decide) (by decide)
  have hv3 : vp_in (x3 + 3) L := hvv 3 (by decide) (by decide)
  have hv4 : vp_in (x3 + 4) L := hvv 4 (by decide) (by decide)
  have hv5 : vp_in (x3 + 5) L := hvv 5 (by decide) (by decide)
  have hv6 : vp_in (x3 + 6) L := hvv 6 (by decide) (by decide)
  obtain ⟨zc, zm, hc, hm, hrr, hR⟩ := sim_kinds hR (xs (x3 + 1).toNatClampNeg) (xs (x3 + 2).toNatClampNeg) (xs (x3 + 3).toNatClampNeg) (xs (x3 + 4).toNatClampNeg) (xs (x3 + 5).toNatClampNeg) (xs (x3 + 6).toNatClampNeg)
  refine lv_aload_n hx hb dL_law_1266 rfl (lv_at hl 1 rfl) ?_
  refine lv_aload_n hx hb dL_law_1267 rfl (lv_at hl 0 rfl) ?_
  refine lv_iload_n hx hb dL_law_1268 rfl (lv_at hl 3 rfl) ?_
  refine lv_iconst (v := 1) hx hb dL_law_1269 (by decide) ?_
  refine lv_iadd hx hb dL_law_1270 ?_
  refine va_sld hx hb hX hbl hbA hS hv1 dL_law_1271 ?_
  refine lv_aload_n hx hb dL_law_1272 rfl (lv_at hl 0 rfl) ?_
  refine lv_iload_n hx hb dL_law_1273 rfl (lv_at hl 3 rfl) ?_
  refine lv_iconst (v := 2) hx hb dL_law_1274 (by decide) ?_
  refine lv_iadd hx hb dL_law_1275 ?_
  refine va_sld hx hb hX hbl hbA hS hv2 dL_law_1276 ?_
  refine lv_aload_n hx hb dL_law_1277 rfl (lv_at hl 0 rfl) ?_
  refine lv_iload_n hx hb dL_law_1278 rfl (lv_at hl 3 rfl) ?_
  refine lv_iconst (v := 3) hx hb dL_law_1279 (by decide) ?_
  refine lv_iadd hx hb dL_law_1280 ?_
  refine va_sld hx hb hX hbl hbA hS hv3 dL_law_1281 ?_
  refine lv_aload_n hx hb dL_law_1282 rfl (lv_at hl 0 rfl) ?_
  refine lv_iload_n hx hb dL_law_1283 rfl (lv_at hl 3 rfl) ?_
  refine lv_iconst (v := 4) hx hb dL_law_1284 (by decide) ?_
  refine lv_iadd hx hb dL_law_1285 ?_
  refine va_sld hx hb hX hbl hbA hS hv4 dL_law_1286 ?_
  refine lv_aload_n hx hb dL_law_1287 rfl (lv_at hl 0 rfl) ?_
  refine lv_iload_n hx hb dL_law_1288 rfl (lv_at hl 3 rfl) ?_
  refine lv_iconst (v := 5) hx hb dL_law_1289 (by decide) ?_
  refine lv_iadd hx hb dL_law_1290 ?_
  refine va_sld hx hb hX hbl hbA hS hv5 dL_law_1291 ?_
  refine lv_aload_n hx hb dL_law_1292 rfl (lv_at hl 0 rfl) ?_
  refine lv_iload_n hx hb dL_law_1293 rfl (lv_at hl 3 rfl) ?_
  refine lv_bipush (v := 6) hx hb dL_law_1294 (by decide) ?_
  refine lv_iadd hx hb dL_law_1296 ?_
  refine va_sld hx hb hX hbl hbA hS hv6 dL_law_1297 ?_
  refine pq_dVi (As := [.int (xs (x3 + 1).toNatClampNeg), .int (xs (x3 + 2).toNatClampNeg), .int (xs (x3 + 3).toNatClampNeg), .int (xs (x3 + 4).toNatClampNeg), .int (xs (x3 + 5).toNatClampNeg), .int (xs (x3 + 6).toNatClampNeg)]) (rest := []) (b := h0) (C := RX7) (ws1 := pq_wl cy h0 u m0 v (va_up xI 24 zc.2.1) (va_up (va_up (va_up xA 45 zc.2.2.1) 46 zc.2.2.2.1) 47 zc.2.2.2.2) xL aw mI mA mL) (wr := (pq_pick [1, 2, 3, 4, 5, 6, 7, 8, 9, 10, 11, 12, 13, 18, 19, 20, 21, 22, 23, 24, 25, 26, 27, 28, 29, 30, 31, 32, 33, 34, 35, 36, 37, 38, 58, 59, 60, 61, 62, 63, 64, 65, 66, 67, 68, 69, 70, 71, 72, 73, 74, 75, 76, 77, 78, 79, 80, 81, 82, 83, 84, 85, 86, 87, 88, 89, 90, 91, 92, 93, 94, 95, 96, 97, 98, 99, 100, 101, 102, 103, 104, 105, 106, 107, 108] (pq_wl cy h0 u m0 v xI xA xL aw mI mA mL))) ⟨hx, hb, hml, hown, hts⟩ (c_X7_kinds l D cy pq_N h0 (u 0) (u 5) (u 9) (u 10) (u 11) (u 12) (u 13) (u 14) (xI 24) (xA 45) (xA 46) (xA 47) (xI 25) (xI 26) (xI 27) (xL 0) (xI 28) (xI 29) (xI 30) (xL 1) (xI 31) (xI 32) (xI 33) (xL 2) (xI 34) (xI 35) (xI 36) (xL 3) (xI 10) (xI 11) (xI 12) (xI 13) (xI 14) (xA 18) (xA 19) (xA 20) (xA 21) (xA 22) (xA 23) (xA 24) (xA 25) (xA 26) (xs (x3 + 1).toNatClampNeg) (xs (x3 + 2).toNatClampNeg) (xs (x3 + 3).toNatClampNeg) (xs (x3 + 4).toNatClampNeg) (xs (x3 + 5).toNatClampNeg) (xs (x3 + 6).toNatClampNeg) zc hc) (cwV 6 hts gL_law_X7_kinds rfl rfl rfl (by decide +kernel) ⟨Nat.le_of_ble_eq_true rfl, Nat.le_of_ble_eq_true rfl⟩) hK hP hD hS hA 0 7 rfl rfl [0, 14, 15, 16, 17, 39, 40, 41, 42, 43, 44, 45, 46, 47, 48, 49, 50, 51, 52, 53, 54, 55, 56, 57] [1, 2, 3, 4, 5, 6, 7, 8, 9, 10, 11, 12, 13, 18, 19, 20, 21, 22, 23, 24, 25, 26, 27, 28, 29, 30, 31, 32, 33, 34, 35, 36, 37, 38, 58, 59, 60, 61, 62, 63, 64, 65, 66, 67, 68, 69, 70, 71, 72, 73, 74, 75, 76, 77, 78, 79, 80, 81, 82, 83, 84, 85, 86, 87, 88, 89, 90, 91, 92, 93, 94, 95, 96, 97, 98, 99, 100, 101, 102, 103, 104, 105, 106, 107, 108] [85, 0, 1, 2, 3, 4, 5, 6, 7, 8, 9, 10, 11, 12, 86, 87, 88, 89, 13, 14, 15, 16, 17, 18, 19, 20, 21, 22, 23, 24, 25, 26, 27, 28, 29, 30, 31, 32, 33, 90, 91, 92, 93, 94, 95, 96, 97, 98, 99, 100, 101, 102, 103, 104, 105, 106, 107, 108, 34, 35, 36, 37, 38, 39, 40, 41, 42, 43, 44, 45, 46, 47, 48, 49, 50, 51, 52, 53, 54, 55, 56, 57, 58, 59, 60, 61, 62, 63, 64, 65, 66, 67, 68, 69, 70, 71, 72, 73, 74, 75, 76, 77, 78, 79, 80, 81, 82, 83, 84] rfl rfl rfl rfl (by decide) rfl rfl rfl hl.1 rfl (Nat.le_of_ble_eq_true rfl) ⟨Nat.le_of_ble_eq_true rfl, Nat.le_of_ble_eq_true rfl⟩ dL_law_1298 (fun H locs hP hD hS => ?_)
  refine lv_aload_n hx hb dL_law_1301 rfl (lv_at hl 2 rfl) ?_
  refine lv_aload_n hx hb dL_law_1302 rfl (lv_at hl 0 rfl) ?_
  refine lv_iload_n hx hb dL_law_1303 rfl (lv_at hl 3 rfl) ?_
  refine lv_iconst (v := 1) hx hb dL_law_1304 (by decide) ?_
  refine lv_iadd hx hb dL_law_1305 ?_
  refine va_sld hx hb hX hbl hbA hS hv1 dL_law_1306 ?_
  refine lv_aload_n hx hb dL_law_1307 rfl (lv_at hl 0 rfl) ?_
  refine lv_iload_n hx hb dL_law_1308 rfl (lv_at hl 3 rfl) ?_
  refine lv_iconst (v := 2) hx hb dL_law_1309 (by decide) ?_
  refine lv_iadd hx hb dL_law_1310 ?_
  refine va_sld hx hb hX hbl hbA hS hv2 dL_law_1311 ?_
  refine lv_aload_n hx hb dL_law_1312 rfl (lv_at hl 0 rfl) ?_
  refine lv_iload_n hx hb dL_law_1313 rfl (lv_at hl 3 rfl) ?_
  refine lv_iconst (v := 3) hx hb dL_law_1314 (by decide) ?_
  refine lv_iadd hx hb dL_law_1315 ?_
  refine va_sld hx hb hX hbl hbA hS hv3 dL_law_1316 ?_
  refine lv_aload_n hx hb dL_law_1317 rfl (lv_at hl 0 rfl) ?_
  refine lv_iload_n hx hb dL_law_1318 rfl (lv_at hl 3 rfl) ?_
  refine lv_iconst (v := 4) hx hb dL_law_1319 (by decide) ?_
  refine lv_iadd hx hb dL_law_1320 ?_
  refine va_sld hx hb hX hbl hbA hS hv4 dL_law_1321 ?_
  refine lv_aload_n hx hb dL_law_1322 rfl (lv_at hl 0 rfl) ?_
  refine lv_iload_n hx hb dL_law_1323 rfl (lv_at hl 3 rfl) ?_
  refine lv_iconst (v := 5) hx hb dL_law_1324 (by decide) ?_
  refine lv_iadd hx hb dL_law_1325 ?_
  refine va_sld hx hb hX hbl hbA hS hv5 dL_law_1326 ?_
  refine lv_aload_n hx hb dL_law_1327 rfl (lv_at hl 0 rfl) ?_
  refine lv_iload_n hx hb dL_law_1328 rfl (lv_at hl 3 rfl) ?_
  refine lv_bipush (v := 6) hx hb dL_law_1329 (by decide) ?_
  refine lv_iadd hx hb dL_law_1331 ?_
  refine va_sld hx hb hX hbl hbA hS hv6 dL_law_1332 ?_
  refine pq_dVi (As := [.int (xs (x3 + 1).toNatClampNeg), .int (xs (x3 + 2).toNatClampNeg), .int (xs (x3 + 3).toNatClampNeg), .int (xs (x3 + 4).toNatClampNeg), .int (xs (x3 + 5).toNatClampNeg), .int (xs (x3 + 6).toNatClampNeg)]) (rest := [.int zc.1]) (b := m0) (C := RX8) (ws1 := pq_wl cy h0 u m0 v (va_up xI 24 zc.2.1) (va_up (va_up (va_up xA 45 zc.2.2.1) 46 zc.2.2.2.1) 47 zc.2.2.2.2) xL aw mI mA mL) (wr := (pq_pick [0, 1, 2, 3, 4, 5, 6, 7, 8, 9, 10, 11, 12, 13, 14, 15, 16, 17, 18, 19, 20, 21, 22, 23, 24, 25, 26, 27, 28, 29, 30, 31, 32, 33, 34, 35, 36, 37, 38, 39, 40, 41, 42, 43, 44, 45, 46, 47, 48, 49, 50, 51, 52, 53, 54, 55, 56, 57, 58, 59, 60, 61, 62, 63, 64, 65, 66, 67, 85, 86, 87, 88, 89, 90, 91, 92, 93, 94, 95, 96, 97, 98, 99, 100, 101, 102, 103, 104, 105, 106, 107, 108] (pq_wl cy h0 u m0 v (va_up xI 24 zc.2.1) (va_up (va_up (va_up xA 45 zc.2.2.1) 46 zc.2.2.2.1) 47 zc.2.2.2.2) xL aw mI mA mL))) ⟨hx, hb, hml, hown, hts⟩ (c_X8_kinds l D cy pq_N m0 v (mI 3) (mI 5) (mI 12) (mI 16) (mI 18) (mI 19) (mA 0) (mA 1) mL (mA 4) (mA 6) (mA 7) (mA 8) (mA 9) (mA 10) (mA 11) (mA 13) (mA 14) (mA 15) (mA 17) (mA 20) (mA 21) (xs (x3 + 1).toNatClampNeg) (xs (x3 + 2).toNatClampNeg) (xs (x3 + 3).toNatClampNeg) (xs (x3 + 4).toNatClampNeg) (xs (x3 + 5).toNatClampNeg) (xs (x3 + 6).toNatClampNeg) zm hm) (cwV 6 hts gL_law_X8_kinds rfl rfl rfl (by decide +kernel) ⟨Nat.le_of_ble_eq_true rfl, Nat.le_of_ble_eq_true rfl⟩) hK hP hD hS hA 0 8 rfl rfl [68, 69, 70, 71, 72, 73, 74, 75, 76, 77, 78, 79, 80, 81, 82, 83, 84] [0, 1, 2, 3, 4, 5, 6, 7, 8, 9, 10, 11, 12, 13, 14, 15, 16, 17, 18, 19, 20, 21, 22, 23, 24, 25, 26, 27, 28, 29, 30, 31, 32, 33, 34, 35, 36, 37, 38, 39, 40, 41, 42, 43, 44, 45, 46, 47, 48, 49, 50, 51, 52, 53, 54, 55, 56, 57, 58, 59, 60, 61, 62, 63, 64, 65, 66, 67, 85, 86, 87, 88, 89, 90, 91, 92, 93, 94, 95, 96, 97, 98, 99, 100, 101, 102, 103, 104, 105, 106, 107, 108] [0, 1, 2, 3, 4, 5, 6, 7, 8, 9, 10, 11, 12, 13, 14, 15, 16, 17, 18, 19, 20, 21, 22, 23, 24, 25, 26, 27, 28, 29, 30, 31, 32, 33, 34, 35, 36, 37, 38, 39, 40, 41, 42, 43, 44, 45, 46, 47, 48, 49, 50, 51, 52, 53, 54, 55, 56, 57, 58, 59, 60, 61, 62, 63, 64, 65, 66, 67, 92, 93, 94, 95, 96, 97, 98, 99, 100, 101, 102, 103, 104, 105, 106, 107, 108, 68, 69, 70, 71, 72, 73, 74, 75, 76, 77, 78, 79, 80, 81, 82, 83, 84, 85, 86, 87, 88, 89, 90, 91] rfl rfl rfl rfl (by decide) rfl rfl rfl hl.1 rfl (Nat.le_of_ble_eq_true rfl) ⟨Nat.le_of_ble_eq_true rfl, Nat.le_of_ble_eq_true rfl⟩ dL_law_1333 (fun H locs hP hD hS => ?_)
  refine lv_icmp_eq (tgt := 1364) hx hb dL_law_1336 (by decide) (fun _ => ?_) (fun h => absurd hrr h)
  exact hend u (va_up xI 24 zc.2.1) (va_up (va_up (va_up xA 45 zc.2.2.1) 46 zc.2.2.2.1) 47 zc.2.2.2.2) xL aw mI mA mL hR _ _ _ hP hD hS hl

set_option maxHeartbeats 8000000 in
set_option maxRecDepth 100000 in
theorem pq_case_count {p : Program} {l : Launch} {e : Env} {s : State} {m : MethodId} {below : List Frame} {meth : Method} {c : Code} {D : va_G} {cy : Nat → ClassId} {b L : Nat} {xs : Nat → Int32} {tS h0 m0 : Nat} {v : Nat → Nat} {x3 : Int32} (C0 : lw_At p s m meth c b L xs) (hK : va_K D vwCl (pq_tys cy) s) (hT : pq_St s.heap.size tS s s.heap) (hend : pq_End p l e s m below meth c D cy b h0 m0 v x3) (hvv : ∀ k : Nat, 0 < k → k < 7 → vp_in (x3 + nI k) L) (u : Nat → Nat → Nat) (xI : Nat → Int32) (xA : Nat → Nat → Int32) (xL : Nat → Nat → Int64) (aw : Nat → Nat → Int32) (mI : Nat → Int32) (mA : Nat → Nat → Int32) (mL : Nat → Int64) (hR : pq_R xI xA xL aw mI mA mL) (H : Heap) (locs : List Loc) (ls : Array Slot) (hP : va_P D vwCl (pq_wl cy h0 u m0 v xI xA xL aw mI mA mL) H) (hD : va_D (fun q : Nat => s.heap.size ≤ q) (pq_wl cy h0 u m0 v xI xA xL aw mI mA mL)) (hS : va_S (fun q : Nat => s.heap.size ≤ q) s.heap H locs) (hl : lv_has ls 4 [(0, .ref b), (1, .ref h0), (2, .ref m0), (3, .int x3)]) : W p l e room_1 s m #[Value.ref b] below meth c H locs 109 13218 (lw_Z below #[Value.ref b] s) (F0 m 1341 ls []) := by
  obtain ⟨hx, hb, hr, hml, hown, hts0, hX, hbl, hlocks, hgv⟩ := C0
  have hts := fun w h => hts0 w (wsL_law_in w h)
  have hown : s.vm.findClass RL = some m.cls := hown
  have hb : c.code = cL_law := hb
  have hA : ∀ q : Nat, s.heap.size ≤ q → (fun q : Nat => s.heap.size ≤ q) q := fun _ h => h
  have hbA : ¬ (fun q : Nat => s.heap.size ≤ q) b := Nat.not_le.mpr hbl
  have hAb : ∀ q, (fun q : Nat => s.heap.size ≤ q) q → s.heap.size ≤ q := fun _ h => h
  have hbs : s.heap.size ≤ s.heap.size := Nat.le_refl _
  have hv1 : vp_in (x3 + 1) L := hvv 1 (by decide) (by decide)
  obtain ⟨zc, zm, hc, hm, hrr, hR⟩ := sim_count hR (xs (x3 + 1).toNatClampNeg)
  refine lv_aload_n hx hb dL_law_1341 rfl (lv_at hl 1 rfl) ?_
  refine lv_aload_n hx hb dL_law_1342 rfl (lv_at hl 0 rfl) ?_
  refine lv_iload_n hx hb dL_law_1343 rfl (lv_at hl 3 rfl) ?_
  refine lv_iconst (v := 1) hx hb dL_law_1344 (by decide) ?_
  refine lv_iadd hx hb dL_law_1345 ?_
  refine va_sld hx hb hX hbl hbA hS hv1 dL_law_1346 ?_
  refine pq_dVi (As := [.int (xs (x3 + 1).toNatClampNeg)]) (rest := []) (b := h0) (C := RX7) (ws1 := pq_wl cy h0 u m0 v xI xA xL aw mI mA mL) (wr := (pq_pick [4, 5, 6, 7, 8, 9, 10, 11, 12, 13, 14, 15, 16, 17, 18, 19, 20, 21, 22, 23, 24, 25, 26, 27, 28, 29, 30, 31, 32, 33, 34, 35, 36, 37, 38, 39, 40, 41, 42, 43, 44, 45, 46, 47, 58, 59, 60, 61, 62, 63, 64, 65, 66, 67, 68, 69, 70, 71, 72, 73, 74, 75, 76, 77, 78, 79, 80, 81, 82, 83, 84, 85, 86, 87, 88, 89, 90, 91, 92, 93, 94, 95, 96, 97, 98, 99, 100, 101, 102, 103, 104, 105, 106, 107, 108] (pq_wl cy h0 u m0 v xI xA xL aw mI mA mL))) ⟨hx, hb, hml, hown, hts⟩ (c_X7_count l D cy pq_N h0 (u 0) (u 1) (u 2) (u 14) (xI 20) (xI 21) (xA 36) (xI 22) (xI 23) (xI 10) (xI 11) (xI 12) (xI 13) (xI 14) (xA 18) (xA 19) (xA 20) (xA 21) (xA 22) (xA 23) (xA 24) (xA 25) (xA 26) (xs (x3 + 1).toNatClampNeg) zc hc) (cwV 1 hts gL_law_X7_count rfl rfl rfl (by decide +kernel) ⟨Nat.le_of_ble_eq_true rfl, Nat.le_of_ble_eq_true rfl⟩) hK hP hD hS hA 0 7 rfl rfl [0, 1, 2, 3, 48, 49, 50, 51, 52, 53, 54, 55, 56, 57] [4, 5, 6, 7, 8, 9, 10, 11, 12, 13, 14, 15, 16, 17, 18, 19, 20, 21, 22, 23, 24, 25, 26, 27, 28, 29, 30, 31, 32, 33, 34, 35, 36, 37, 38, 39, 40, 41, 42, 43, 44, 45, 46, 47, 58, 59, 60, 61, 62, 63, 64, 65, 66, 67, 68, 69, 70, 71, 72, 73, 74, 75, 76, 77, 78, 79, 80, 81, 82, 83, 84, 85, 86, 87, 88, 89, 90, 91, 92, 93, 94, 95, 96, 97, 98, 99, 100, 101, 102, 103, 104, 105, 106, 107, 108] [95, 96, 97, 98, 0, 1, 2, 3, 4, 5, 6, 7, 8, 9, 10, 11, 12, 13, 14, 15, 16, 17, 18, 19, 20, 21, 22, 23, 24, 25, 26, 27, 28, 29, 30, 31, 32, 33, 34, 35, 36, 37, 38, 39, 40, 41, 42, 43, 99, 100, 101, 102, 103, 104, 105, 106, 107, 108, 44, 45, 46, 47, 48, 49, 50, 51, 52, 53, 54, 55, 56, 57, 58, 59, 60, 61, 62, 63, 64, 65, 66, 67, 68, 69, 70, 71, 72, 73, 74, 75, 76, 77, 78, 79, 80, 81, 82, 83, 84, 85, 86, 87, 88, 89, 90, 91, 92, 93, 94] rfl rfl rfl rfl (by decide) rfl rfl rfl hl.1 rfl (Nat.le_of_ble_eq_true rfl) ⟨Nat.le_of_ble_eq_true rfl, Nat.le_of_ble_eq_true rfl⟩ dL_law_1347 (fun H locs hP hD hS => ?_)
  refine lv_aload_n hx hb dL_law_1350 rfl (lv_at hl 2 rfl) ?_
  refine lv_aload_n hx hb dL_law_1351 rfl (lv_at hl 0 rfl) ?_
  refine lv_iload_n hx hb dL_law_1352 rfl (lv_at hl 3 rfl) ?_
  refine lv_iconst (v := 1) hx hb dL_law_1353 (by decide) ?_
  refine lv_iadd hx hb dL_law_1354 ?_
  refine va_sld hx hb hX hbl hbA hS hv1 dL_law_1355 ?_
  refine pq_dVi (As := [.int (xs (x3 + 1).toNatClampNeg)]) (rest := [.int zc]) (b := m0) (C := RX8) (ws1 := pq_wl cy h0 u m0 v xI xA xL aw mI mA mL) (wr := (pq_pick [0, 1, 2, 3, 4, 5, 6, 7, 8, 9, 10, 11, 12, 13, 14, 15, 16, 17, 18, 19, 20, 21, 22, 23, 24, 25, 26, 27, 28, 29, 30, 31, 32, 33, 34, 35, 36, 37, 38, 39, 40, 41, 42, 43, 44, 45, 46, 47, 48, 49, 50, 51, 52, 53, 54, 55, 56, 57, 58, 59, 60, 61, 62, 63, 64, 65, 66, 67, 85, 86, 87, 88, 89, 90, 91, 92, 93, 94, 95, 96, 97, 98, 99, 100, 101, 102, 103, 104, 105, 106, 107, 108] (pq_wl cy h0 u m0 v xI xA xL aw mI mA mL))) ⟨hx, hb, hml, hown, hts⟩ (c_X8_count l D cy pq_N m0 v (mI 3) (mI 5) (mI 12) (mI 16) (mI 18) (mI 19) (mA 0) (mA 1) mL (mA 4) (mA 6) (mA 7) (mA 8) (mA 9) (mA 10) (mA 11) (mA 13) (mA 14) (mA 15) (mA 17) (mA 20) (mA 21) (xs (x3 + 1).toNatClampNeg) zm hm) (cwV 1 hts gL_law_X8_count rfl rfl rfl (by decide +kernel) ⟨Nat.le_of_ble_eq_true rfl, Nat.le_of_ble_eq_true rfl⟩) hK hP hD hS hA 0 8 rfl rfl [68, 69, 70, 71, 72, 73, 74, 75, 76, 77, 78, 79, 80, 81, 82, 83, 84] [0, 1, 2, 3, 4, 5, 6, 7, 8, 9, 10, 11, 12, 13, 14, 15, 16, 17, 18, 19, 20, 21, 22, 23, 24, 25, 26, 27, 28, 29, 30, 31, 32, 33, 34, 35, 36, 37, 38, 39, 40, 41, 42, 43, 44, 45, 46, 47, 48, 49, 50, 51, 52, 53, 54, 55, 56, 57, 58, 59, 60, 61, 62, 63, 64, 65, 66, 67, 85, 86, 87, 88, 89, 90, 91, 92, 93, 94, 95, 96, 97, 98, 99, 100, 101, 102, 103, 104, 105, 106, 107, 108] [0, 1, 2, 3, 4, 5, 6, 7, 8, 9, 10, 11, 12, 13, 14, 15, 16, 17, 18, 19, 20, 21, 22, 23, 24, 25, 26, 27, 28, 29, 30, 31, 32, 33, 34, 35, 36, 37, 38, 39, 40, 41, 42, 43, 44, 45, 46, 47, 48, 49, 50, 51, 52, 53, 54, 55, 56, 57, 58, 59, 60, 61, 62, 63, 64, 65, 66, 67, 92, 93, 94, 95, 96, 97, 98, 99, 100, 101, 102, 103, 104, 105, 106, 107, 108, 68, 69, 70, 71, 72, 73, 74, 75, 76, 77, 78, 79, 80, 81, 82, 83, 84, 85, 86, 87, 88, 89, 90, 91] rfl rfl rfl rfl (by decide) rfl rfl rfl hl.1 rfl (Nat.le_of_ble_eq_true rfl) ⟨Nat.le_of_ble_eq_true rfl, Nat.le_of_ble_eq_true rfl⟩ dL_law_1356 (fun H locs hP hD hS => ?_)
  refine lv_icmp_eq (tgt := 1364) hx hb dL_law_1359 (by decide) (fun _ => ?_) (fun h => absurd hrr h)
  exact hend u xI xA xL aw mI mA mL hR _ _ _ hP hD hS hl
