set_option maxHeartbeats 8000000 in
set_option maxRecDepth 100000 in
theorem pq_case_worth {p : Program} {l : Launch} {e : Env} {s : State} {m : MethodId} {below : List Frame} {meth : Method} {c : Code} {D : va_G} {cy : Nat → ClassId} {b L : Nat} {xs : Nat → Int32} {tS h0 m0 : Nat} {v : Nat → Nat} {x3 : Int32} (C0 : lw_At p s m meth c b L xs) (hK : va_K D vwCl (pq_tys cy) s) (hT : pq_St s.heap.size tS s s.heap) (hend : pq_End p l e s m below meth c D cy b h0 m0 v x3) (hvv : ∀ k : Nat, 0 < k → k < 7 → vp_in (x3 + nI k) L) (u : Nat → Nat → Nat) (xI : Nat → Int32) (xA : Nat → Nat → Int32) (xL : Nat → Nat → Int64) (aw : Nat → Nat → Int32) (mI : Nat → Int32) (mA : Nat → Nat → Int32) (mL : Nat → Int64) (hR : pq_R xI xA xL aw mI mA mL) (H : Heap) (locs : List Loc) (ls : Array Slot) (hP : va_P D vwCl (pq_wl cy h0 u m0 v xI xA xL aw mI mA mL) H) (hD : va_D (fun q : Nat => s.heap.size ≤ q) (pq_wl cy h0 u m0 v xI xA xL aw mI mA mL)) (hS : va_S (fun q : Nat => s.heap.size ≤ q) s.heap H locs) (hl : lv_has ls 4 [(0, .ref b), (1, .ref h0), (2, .ref m0), (3, .int x3)]) : W p l e room_1 s m #[Value.ref b] below meth c H locs 109 13218 (lw_Z below #[Value.ref b] s) (F0 m 674 ls []) := by
  obtain ⟨hx, hb, hr, hml, hown, hts0, hX, hbl, hlocks, hgv⟩ := C0
  have hts := fun w h => hts0 w (wsL_law_in w h)
  have hown : s.vm.findClass RL = some m.cls := hown
  have hb : c.code = cL_law := hb
  have hA : ∀ q : Nat, s.heap.size ≤ q → (fun q : Nat => s.heap.size ≤ q) q := fun _ h => h
  have hbA : ¬ (fun q : Nat => s.heap.size ≤ q) b := Nat.not_le.mpr hbl
  have hAb : ∀ q, (fun q : Nat => s.heap.size ≤ q) q → s.heap.size ≤ q := fun _ h => h
  have hbs : s.heap.size ≤ s.heap.size := Nat.le_refl _
  have hv1 : vp_in (x3 + 1) L := hvv 1 (by decide) (by decide)
  obtain ⟨zc, zm, hc, hm, hrr, hR⟩ := sim_worth hR (xs (x3 + 1).toNatClampNeg)
  refine lv_aload_n hx hb dL_law_674 rfl (lv_at hl 1 rfl) ?_
  refine lv_aload_n hx hb dL_law_675 rfl (lv_at hl 0 rfl) ?_
  refine lv_iload_n hx hb dL_law_676 rfl (lv_at hl 3 rfl) ?_
  refine lv_iconst (v := 1) hx hb dL_law_677 (by decide) ?_
  refine lv_iadd hx hb dL_law_678 ?_
  refine va_sld hx hb hX hbl hbA hS hv1 dL_law_679 ?_
  refine pq_dVi (As := [.int (xs (x3 + 1).toNatClampNeg)]) (rest := []) (b := h0) (C := RX7) (ws1 := pq_wl cy h0 u m0 v xI (va_up (va_up xA 37 zc.2.1) 38 zc.2.2) xL aw mI mA mL) (wr := (pq_pick [1, 2, 3, 4, 14, 15, 16, 17, 18, 19, 20, 21, 22, 23, 24, 25, 26, 27, 28, 29, 30, 31, 32, 33, 34, 35, 36, 37, 38, 39, 40, 41, 42, 43, 44, 45, 46, 47, 58, 59, 60, 61, 62, 63, 64, 65, 66, 67, 68, 69, 70, 71, 72, 73, 74, 75, 76, 77, 78, 79, 80, 81, 82, 83, 84, 85, 86, 87, 88, 89, 90, 91, 92, 93, 94, 95, 96, 97, 98, 99, 100, 101, 102, 103, 104, 105, 106, 107, 108] (pq_wl cy h0 u m0 v xI xA xL aw mI mA mL))) ⟨hx, hb, hml, hown, hts⟩ (c_X7_worth l D cy pq_N h0 (u 0) (u 4) (u 14) (xA 37) (xA 38) (xA 39) (xA 40) (xA 41) (xA 42) (xA 43) (xA 44) (xI 10) (xI 11) (xI 12) (xI 13) (xI 14) (xA 18) (xA 19) (xA 20) (xA 21) (xA 22) (xA 23) (xA 24) (xA 25) (xA 26) (xs (x3 + 1).toNatClampNeg) zc hc) (cwV 1 hts gL_law_X7_worth rfl rfl rfl (by decide +kernel) ⟨Nat.le_of_ble_eq_true rfl, Nat.le_of_ble_eq_true rfl⟩) hK hP hD hS hA 0 7 rfl rfl [0, 5, 6, 7, 8, 9, 10, 11, 12, 13, 48, 49, 50, 51, 52, 53, 54, 55, 56, 57] [1, 2, 3, 4, 14, 15, 16, 17, 18, 19, 20, 21, 22, 23, 24, 25, 26, 27, 28, 29, 30, 31, 32, 33, 34, 35, 36, 37, 38, 39, 40, 41, 42, 43, 44, 45, 46, 47, 58, 59, 60, 61, 62, 63, 64, 65, 66, 67, 68, 69, 70, 71, 72, 73, 74, 75, 76, 77, 78, 79, 80, 81, 82, 83, 84, 85, 86, 87, 88, 89, 90, 91, 92, 93, 94, 95, 96, 97, 98, 99, 100, 101, 102, 103, 104, 105, 106, 107, 108] [89, 0, 1, 2, 3, 90, 91, 92, 93, 94, 95, 96, 97, 98, 4, 5, 6, 7, 8, 9, 10, 11, 12, 13, 14, 15, 16, 17, 18, 19, 20, 21, 22, 23, 24, 25, 26, 27, 28, 29, 30, 31, 32, 33, 34, 35, 36, 37, 99, 100, 101, 102, 103, 104, 105, 106, 107, 108, 38, 39, 40, 41, 42, 43, 44, 45, 46, 47, 48, 49, 50, 51, 52, 53, 54, 55, 56, 57, 58, 59, 60, 61, 62, 63, 64, 65, 66, 67, 68, 69, 70, 71, 72, 73, 74, 75, 76, 77, 78, 79, 80, 81, 82, 83, 84, 85, 86, 87, 88] rfl rfl rfl rfl (by decide) rfl rfl rfl hl.1 rfl (Nat.le_of_ble_eq_true rfl) ⟨Nat.le_of_ble_eq_true rfl, Nat.le_of_ble_eq_true rfl⟩ dL_law_680 (fun H locs hP hD hS => ?_)
  refine lv_aload_n hx hb dL_law_683 rfl (lv_at hl 2 rfl) ?_
  refine lv_aload_n hx hb dL_law_684 rfl (lv_at hl 0 rfl) ?_
  refine lv_iload_n hx hb dL_law_685 rfl (lv_at hl 3 rfl) ?_
  refine lv_iconst (v := 1) hx hb dL_law_686 (by decide) ?_
  refine lv_iadd hx hb dL_law_687 ?_
  refine va_sld hx hb hX hbl hbA hS hv1 dL_law_688 ?_
  refine pq_dVi (As := [.int (xs (x3 + 1).toNatClampNeg)]) (rest := [.int zc.1]) (b := m0) (C := RX8) (ws1 := pq_wl cy h0 u m0 v xI (va_up (va_up xA 37 zc.2.1) 38 zc.2.2) xL aw mI (va_up mA 8 zm.2) mL) (wr := (pq_pick [0, 1, 2, 3, 4, 5, 6, 7, 8, 9, 10, 11, 12, 13, 14, 15, 16, 17, 18, 19, 20, 21, 22, 23, 24, 25, 26, 27, 28, 29, 30, 31, 32, 33, 34, 35, 36, 37, 38, 39, 40, 41, 42, 43, 44, 45, 46, 47, 48, 49, 50, 51, 52, 53, 54, 55, 56, 57, 58, 59, 60, 61, 62, 63, 64, 65, 66, 67, 85, 86, 87, 88, 89, 90, 91, 92, 93, 94, 95, 96, 97, 98, 99, 100, 101, 102, 103, 104, 105, 106, 107, 108] (pq_wl cy h0 u m0 v xI (va_up (va_up xA 37 zc.2.1) 38 zc.2.2) xL aw mI mA mL))) ⟨hx, hb, hml, hown, hts⟩ (c_X8_worth l D cy pq_N m0 v (mI 3) (mI 5) (mI 12) (mI 16) (mI 18) (mI 19) (mA 0) (mA 1) mL (mA 4) (mA 6) (mA 7) (mA 8) (mA 9) (mA 10) (mA 11) (mA 13) (mA 14) (mA 15) (mA 17) (mA 20) (mA 21) (xs (x3 + 1).toNatClampNeg) zm hm) (cwV 1 hts gL_law_X8_worth rfl rfl rfl (by decide +kernel) ⟨Nat.le_of_ble_eq_true rfl, Nat.le_of_ble_eq_true rfl⟩) hK hP hD hS hA 0 8 rfl rfl [68, 69, 70, 71, 72, 73, 74, 75, 76, 77, 78, 79, 80, 81, 82, 83, 84] [0, 1, 2, 3, 4, 5, 6, 7, 8, 9, 10, 11, 12, 13, 14, 15, 16, 17, 18, 19, 20, 21, 22, 23, 24, 25, 26, 27, 28, 29, 30, 31, 32, 33, 34, 35, 36, 37, 38, 39, 40, 41, 42, 43, 44, 45, 46, 47, 48, 49, 50, 51, 52, 53, 54, 55, 56, 57, 58, 59, 60, 61, 62, 63, 64, 65, 66, 67, 85, 86, 87, 88, 89, 90, 91, 92, 93, 94, 95, 96, 97, 98, 99, 100, 101, 102, 103, 104, 105, 106, 107, 108] [0, 1, 2, 3, 4, 5, 6, 7, 8, 9, 10, 11, 12, 13, 14, 15, 16, 17, 18, 19, 20, 21, 22, 23, 24, 25, 26, 27, 28, 29, 30, 31, 32, 33, 34, 35, 36, 37, 38, 39, 40, 41, 42, 43, 44, 45, 46, 47, 48, 49, 50, 51, 52, 53, 54, 55, 56, 57, 58, 59, 60, 61, 62, 63, 64, 65, 66, 67, 92, 93, 94, 95, 96, 97, 98, 99, 100, 101, 102, 103, 104, 105, 106, 107, 108, 68, 69, 70, 71, 72, 73, 74, 75, 76, 77, 78, 79, 80, 81, 82, 83, 84, 85, 86, 87, 88, 89, 90, 91] rfl rfl rfl rfl (by decide) rfl rfl rfl hl.1 rfl (Nat.le_of_ble_eq_true rfl) ⟨Nat.le_of_ble_eq_true rfl, Nat.le_of_ble_eq_true rfl⟩ dL_law_689 (fun H locs hP hD hS => ?_)
  refine lv_icmp_eq (tgt := 1364) hx hb dL_law_692 (by decide) (fun _ => ?_) (fun h => absurd hrr h)
  exact hend u xI (va_up (va_up xA 37 zc.2.1) 38 zc.2.2) xL aw mI (va_up mA 8 zm.2) mL hR _ _ _ hP hD hS hl

set_option maxHeartbeats 8000000 in
set_option maxRecDepth 100000 in
theorem pq_case_duel {p : Program} {l : Launch} {e : Env} {s : State} {m : MethodId} {below : List Frame} {meth : Method} {c : Code} {D : va_G} {cy : Nat → ClassId} {b L : Nat} {xs : Nat → Int32} {tS h0 m0 : Nat} {v : Nat → Nat} {x3 : Int32} (C0 : lw_At p s m meth c b L xs) (hK : va_K D vwCl (pq_tys cy) s) (hT : pq_St s.heap.size tS s s.heap) (hend : pq_End p l e s m below meth c D cy b h0 m0 v x3) (hvv : ∀ k : Nat, 0 < k → k < 7 → vp_in (x3 + nI k) L) (u : Nat → Nat → Nat) (xI : Nat → Int32) (xA : Nat → Nat → Int32) (xL : Nat → Nat → Int64) (aw : Nat → Nat → Int32) (mI : Nat → Int32) (mA : Nat → Nat → Int32) (mL : Nat → Int64) (hR : pq_R xI xA xL aw mI mA mL) (H : Heap) (locs : List Loc) (ls : Array Slot) (hP : va_P D vwCl (pq_wl cy h0 u m0 v xI xA xL aw mI mA mL) H) (hD : va_D (fun q : Nat => s.heap.size ≤ q) (pq_wl cy h0 u m0 v xI xA xL aw mI mA mL)) (hS : va_S (fun q : Nat => s.heap.size ≤ q) s.heap H locs) (hl : lv_has ls 4 [(0, .ref b), (1, .ref h0), (2, .ref m0), (3, .int x3)]) : W p l e room_1 s m #[Value.ref b] below meth c H locs 109 13218 (lw_Z below #[Value.ref b] s) (F0 m 697 ls []) := by
  obtain ⟨hx, hb, hr, hml, hown, hts0, hX, hbl, hlocks, hgv⟩ := C0
  have hts := fun w h => hts0 w (wsL_law_in w h)
  have hown : s.vm.findClass RL = some m.cls := hown
  have hb : c.code = cL_law := hb
  have hA : ∀ q : Nat, s.heap.size ≤ q → (fun q : Nat => s.heap.size ≤ q) q := fun _ h => h
  have hbA : ¬ (fun q : Nat => s.heap.size ≤ q) b := Nat.not_le.mpr hbl
  have hAb : ∀ q, (fun q : Nat => s.heap.size ≤ q) q → s.heap.size ≤ q := fun _ h => h
  have hbs : s.heap.size ≤ s.heap.size := Nat.le_refl _
  have hv1 : vp_in (x3 + 1) L := hvv 1 (by decide) (by decide)
  have hv2 : vp_in (x3 + 2) L := hvv 2 (by decide) (by decide)
  have hv3 : vp_in (x3 + 3) L := hvv 3 (by decide) (by decide)
  obtain ⟨zc, zm, hc, hm, hrr, hR⟩ := sim_duel hR (xs (x3 + 1).toNatClampNeg) (xs (x3 + 2).toNatClampNeg) (xs (x3 + 3).toNatClampNeg)
  refine lv_aload_n hx hb dL_law_697 rfl (lv_at hl 1 rfl) ?_
  refine lv_aload_n hx hb dL_law_698 rfl (lv_at hl 0 rfl) ?_
  refine lv_iload_n hx hb dL_law_699 rfl (lv_at hl 3 rfl) ?_
  refine lv_iconst (v := 1) hx hb dL_law_700 (by decide) ?_
  refine lv_iadd hx hb dL_law_701 ?_
  refine va_sld hx hb hX hbl hbA hS hv1 dL_law_702 ?_
  refine lv_aload_n hx hb dL_law_703 rfl (lv_at hl 0 rfl) ?_
  refine lv_iload_n hx hb dL_law_704 rfl (lv_at hl 3 rfl) ?_
  refine lv_iconst (v := 2) hx hb dL_law_705 (by decide) ?_
  refine lv_iadd hx hb dL_law_706 ?_
  refine va_sld hx hb hX hbl hbA hS hv2 dL_law_707 ?_
  refine lv_aload_n hx hb dL_law_708 rfl (lv_at hl 0 rfl) ?_
  refine lv_iload_n hx hb dL_law_709 rfl (lv_at hl 3 rfl) ?_
  refine lv_iconst (v := 3) hx hb dL_law_710 (by decide) ?_
  refine lv_iadd hx hb dL_law_711 ?_
  refine va_sld hx hb hX hbl hbA hS hv3 dL_law_712 ?_
  refine pq_dVi (As := [.int (xs (x3 + 1).toNatClampNeg), .int (xs (x3 + 2).toNatClampNeg), .int (xs (x3 + 3).toNatClampNeg)]) (rest := []) (b := h0) (C := RX7) (ws1 := pq_wl cy h0 u m0 v xI (va_up (va_up xA 37 zc.2.1) 38 zc.2.2) xL aw mI mA mL) (wr := (pq_pick [1, 2, 3, 4, 14, 15, 16, 17, 18, 19, 20, 21, 22, 23, 24, 25, 26, 27, 28, 29, 30, 31, 32, 33, 34, 35, 36, 37, 38, 39, 40, 41, 42, 43, 44, 45, 46, 47, 58, 59, 60, 61, 62, 63, 64, 65, 66, 67, 68, 69, 70, 71, 72, 73, 74, 75, 76, 77, 78, 79, 80, 81, 82, 83, 84, 85, 86, 87, 88, 89, 90, 91, 92, 93, 94, 95, 96, 97, 98, 99, 100, 101, 102, 103, 104, 105, 106, 107, 108] (pq_wl cy h0 u m0 v xI xA xL aw mI mA mL))) ⟨hx, hb, hml, hown, hts⟩ (c_X7_duel l D cy pq_N h0 (u 0) (u 4) (u 14) (xA 37) (xA 38) (xA 39) (xA 40) (xA 41) (xA 42) (xA 43) (xA 44) (xI 10) (xI 11) (xI 12) (xI 13) (xI 14) (xA 18) (xA 19) (xA 20) (xA 21) (xA 22) (xA 23) (xA 24) (xA 25) (xA 26) (xs (x3 + 1).toNatClampNeg) (xs (x3 + 2).toNatClampNeg) (xs (x3 + 3).toNatClampNeg) zc hc) (cwV 3 hts gL_law_X7_duel rfl rfl rfl (by decide +kernel) ⟨Nat.le_of_ble_eq_true rfl, Nat.le_of_ble_eq_true rfl⟩) hK hP hD hS hA 0 7 rfl rfl [0, 5, 6, 7, 8, 9, 10, 11, 12, 13, 48, 49, 50, 51, 52, 53, 54, 55, 56, 57] [1, 2, 3, 4, 14, 15, 16, 17, 18, 19, 20, 21, 22, 23, 24, 25, 26, 27, 28, 29, 30, 31, 32, 33, 34, 35, 36, 37, 38, 39, 40, 41, 42, 43, 44, 45, 46, 47, 58, 59, 60, 61, 62, 63, 64, 65, 66, 67, 68, 69, 70, 71, 72, 73, 74, 75, 76, 77, 78, 79, 80, 81, 82, 83, 84, 85, 86, 87, 88, 89, 90, 91, 92, 93, 94, 95, 96, 97, 98, 99, 100, 101, 102, 103, 104, 105, 106, 107, 108] [89, 0, 1, 2, 3, 90, 91, 92, 93, 94, 95, 96, 97, 98, 4, 5, 6, 7, 8, 9, 10, 11, 12, 13, 14, 15, 16, 17, 18, 19, 20, 21, 22, 23, 24, 25, 26, 27, 28, 29, 30, 31, 32, 33, 34, 35, 36, 37, 99, 100, 101, 102, 103, 104, 105, 106, 107, 108, 38, 39, 40, 41, 42, 43, 44, 45, 46, 47, 48, 49, 50, 51, 52, 53, 54, 55, 56, 57, 58, 59, 60, 61, 62, 63, 64, 65, 66, 67, 68, 69, 70, 71, 72, 73, 74, 75, 76, 77, 78, 79, 80, 81, 82, 83, 84, 85, 86, 87, 88] rfl rfl rfl rfl (by decide) rfl rfl rfl hl.1 rfl (Nat.le_of_ble_eq_true rfl) ⟨Nat.le_of_ble_eq_true rfl, Nat.le_of_ble_eq_true rfl⟩ dL_law_713 (fun H locs hP hD hS => ?_)
  refine lv_aload_n hx hb dL_law_716 rfl (lv_at hl 2 rfl) ?_
  refine lv_aload_n hx hb dL_law_717 rfl (lv_at hl 0 rfl) ?_
  refine lv_iload_n hx hb dL_law_718 rfl (lv_at hl 3 rfl) ?_
  refine lv_iconst (v := 1) hx hb dL_law_719 (by decide) ?_
  refine lv_iadd hx hb dL_law_720 ?_
  refine va_sld hx hb hX hbl hbA hS hv1 dL_law_721 ?_
  refine lv_aload_n hx hb dL_law_722 rfl (lv_at hl 0 rfl) ?_
  refine lv_iload_n hx hb dL_law_723 rfl (lv_at hl 3 rfl) ?_
  refine lv_iconst (v := 2) hx hb dL_law_724 (by decide) ?_
  refine lv_iadd hx hb dL_law_725 ?_
  refine va_sld hx hb hX hbl hbA hS hv2 dL_law_726 ?_
  refine lv_aload_n hx hb dL_law_727 rfl (lv_at hl 0 rfl) ?_
  refine lv_iload_n hx hb dL_law_728 rfl (lv_at hl 3 rfl) ?_
  refine lv_iconst (v := 3) hx hb dL_law_729 (by decide) ?_
  refine lv_iadd hx hb dL_law_730 ?_
  refine va_sld hx hb hX hbl hbA hS hv3 dL_law_731 ?_
  refine pq_dVi (As := [.int (xs (x3 + 1).toNatClampNeg), .int (xs (x3 + 2).toNatClampNeg), .int (xs (x3 + 3).toNatClampNeg)]) (rest := [.int zc.1]) (b := m0) (C := RX8) (ws1 := pq_wl cy h0 u m0 v xI (va_up (va_up xA 37 zc.2.1) 38 zc.2.2) xL aw mI (va_up (va_up mA 8 zm.2.1) 13 zm.2.2) mL) (wr := (pq_pick [0, 1, 2, 3, 4, 5, 6, 7, 8, 9, 10, 11, 12, 13, 14, 15, 16, 17, 18, 19, 20, 21, 22, 23, 24, 25, 26, 27, 28, 29, 30, 31, 32, 33, 34, 35, 36, 37, 38, 39, 40, 41, 42, 43, 44, 45, 46, 47, 48, 49, 50, 51, 52, 53, 54, 55, 56, 57, 58, 59, 60, 61, 62, 63, 64, 65, 66, 67, 85, 86, 87, 88, 89, 90, 91, 92, 93, 94, 95, 96, 97, 98, 99, 100, 101, 102, 103, 104, 105, 106, 107, 108] (pq_wl cy h0 u m0 v xI (va_up (va_up xA 37 zc.2.1) 38 zc.2.2) xL aw mI mA mL))) ⟨hx, hb, hml, hown, hts⟩ (c_X8_duel l D cy pq_N m0 v (mI 3) (mI 5) (mI 12) (mI 16) (mI 18) (mI 19) (mA 0) (mA 1) mL (mA 4) (mA 6) (mA 7) (mA 8) (mA 9) (mA 10) (mA 11) (mA 13) (mA 14) (mA 15) (mA 17) (mA 20) (mA 21) (xs (x3 + 1).toNatClampNeg) (xs (x3 + 2).toNatClampNeg) (xs (x3 + 3).toNatClampNeg) zm hm) (cwV 3 hts gL_law_X8_duel rfl rfl rfl (by decide +kernel) ⟨Nat.le_of_ble_eq_true rfl, Nat.le_of_ble_eq_true rfl⟩) hK hP hD hS hA 0 8 rfl rfl [68, 69, 70, 71, 72, 73, 74, 75, 76, 77, 78, 79, 80, 81, 82, 83, 84] [0, 1, 2, 3, 4, 5, 6, 7, 8, 9, 10, 11, 12, 13, 14, 15, 16, 17, 18, 19, 20, 21, 22, 23, 24, 25, 26, 27, 28, 29, 30, 31, 32, 33, 34, 35, 36, 37, 38, 39, 40, 41, 42, 43, 44, 45, 46, 47, 48, 49, 50, 51, 52, 53, 54, 55, 56, 57, 58, 59, 60, 61, 62, 63, 64, 65, 66, 67, 85, 86, 87, 88, 89, 90, 91, 92, 93, 94, 95, 96, 97, 98, 99, 100, 101, 102, 103, 104, 105, 106, 107, 108] [0, 1, 2, 3, 4, 5, 6, 7, 8, 9, 10, 11, 12, 13, 14, 15, 16, 17, 18, 19, 20, 21, 22, 23, 24, 25, 26, 27, 28, 29, 30, 31, 32, 33, 34, 35, 36, 37, 38, 39, 40, 41, 42, 43, 44, 45, 46, 47, 48, 49, 50, 51, 52, 53, 54, 55, 56, 57, 58, 59, 60, 61, 62, 63, 64, 65, 66, 67, 92, 93, 94, 95, 96, 97, 98, 99, 100, 101, 102, 103, 104, 105, 106, 107, 108, 68, 69, 70, 71, 72, 73, 74, 75, 76, 77, 78, 79, 80, 81, 82, 83, 84, 85, 86, 87, 88, 89, 90, 91] rfl rfl rfl rfl (by decide) rfl rfl rfl hl.1 rfl (Nat.le_of_ble_eq_true rfl) ⟨Nat.le_of_ble_eq_true rfl, Nat.le_of_ble_eq_true rfl⟩ dL_law_732 (fun H locs hP hD hS => ?_)
  refine lv_icmp_eq (tgt := 1364) hx hb dL_law_735 (by decide) (fun _ => ?_) (fun h => absurd hrr h)
  exact hend u xI (va_up (va_up xA 37 zc.2.1) 38 zc.2.2) xL aw mI (va_up (va_up mA 8 zm.2.1) 13 zm.2.2) mL hR _ _ _ hP hD hS hl

set_option maxHeartbeats 8000000 in
set_option maxRecDepth 100000 in
theorem pq_case_order {p : Program} {l : Launch} {e : Env} {s : State} {m : MethodId} {below : List Frame} {meth : Method} {c : Code} {D : va_G} {cy : Nat → ClassId} {b L : Nat} {xs : Nat → Int32} {tS h0 m0 : Nat} {v : Nat → Nat} {x3 : Int32} (C0 : lw_At p s m meth c b L xs) (hK : va_K D vwCl (pq_tys cy) s) (hT : pq_St s.heap.size tS s s.heap) (hend : pq_End p l e s m below meth c D cy b h0 m0 v x3) (hvv : ∀ k : Nat, 0 < k → k < 7 → vp_in (x3 + nI k) L) (u : Nat → Nat → Nat) (xI : Nat → Int32) (xA : Nat → Nat → Int32) (xL : Nat → Nat → Int64) (aw : Nat → Nat → Int32) (mI : Nat → Int32) (mA : Nat → Nat → Int32) (mL : Nat → Int64) (hR : pq_R xI xA xL aw mI mA mL) (H : Heap) (locs : List Loc) (ls : Array Slot) (hP : va_P D vwCl (pq_wl cy h0 u m0 v xI xA xL aw mI mA mL) H) (hD : va_D (fun q : Nat => s.heap.size ≤ q) (pq_wl cy h0 u m0 v xI xA xL aw mI mA mL)) (hS : va_S (fun q : Nat => s.heap.size ≤ q) s.heap H locs) (hl : lv_has ls 4 [(0, .ref b), (1, .ref h0), (2, .ref m0), (3, .int x3)]) : W p l e room_1 s m #[Value.ref b] below meth c H locs 109 13218 (lw_Z below #[Value.ref b] s) (F0 m 740 ls []) := by
  obtain ⟨hx, hb, hr, hml, hown, hts0, hX, hbl, hlocks, hgv⟩ := C0
  have hts := fun w h => hts0 w (wsL_law_in w h)
  have hown : s.vm.findClass RL = some m.cls := hown
  have hb : c.code = cL_law := hb
  have hA : ∀ q : Nat, s.heap.size ≤ q → (fun q : Nat => s.heap.size ≤ q) q := fun _ h => h
  have hbA : ¬ (fun q : Nat => s.heap.size ≤ q) b := Nat.not_le.mpr hbl
  have hAb : ∀ q, (fun q : Nat => s.heap.size ≤ q) q → s.heap.size ≤ q := fun _ h => h
  have hbs : s.heap.size ≤ s.heap.size := Nat.le_refl _
  have hv1 : vp_in (x3 + 1) L := hvv 1 (by decide) (by decide)
  have hv2 : vp_in (x3 + 2) L := hvv 2 (by decide) (by decide)
  obtain ⟨zc, zm, hc, hm, hrr, hR⟩ := sim_order hR (xs (x3 + 1).toNatClampNeg) (xs (x3 + 2).toNatClampNeg)
  refine lv_aload_n hx hb dL_law_740 rfl (lv_at hl 1 rfl) ?_
  refine lv_aload_n hx hb dL_law_741 rfl (lv_at hl 0 rfl) ?_
  refine lv_iload_n hx hb dL_law_742 rfl (lv_at hl 3 rfl) ?_
  refine lv_iconst (v := 1) hx hb dL_law_743 (by decide) ?_
  refine lv_iadd hx hb dL_law_744 ?_
  refine va_sld hx hb hX hbl hbA hS hv1 dL_law_745 ?_
  refine lv_aload_n hx hb dL_law_746 rfl (lv_at hl 0 rfl) ?_
  refine lv_iload_n hx hb dL_law_747 rfl (lv_at hl 3 rfl) ?_
  refine lv_iconst (v := 2) hx hb dL_law_748 (by decide) ?_
  refine lv_iadd hx hb dL_law_749 ?_
  refine va_sld hx hb hX hbl hbA hS hv2 dL_law_750 ?_
  refine pq_dVi (As := [.int (xs (x3 + 1).toNatClampNeg), .int (xs (x3 + 2).toNatClampNeg)]) (rest := []) (b := h0) (C := RX7) (ws1 := pq_wl cy h0 u m0 v xI (va_up (va_up (va_up xA 39 zc.2.1) 40 zc.2.2.1) 41 zc.2.2.2) xL aw mI mA mL) (wr := (pq_pick [1, 2, 3, 4, 14, 15, 16, 17, 18, 19, 20, 21, 22, 23, 24, 25, 26, 27, 28, 29, 30, 31, 32, 33, 34, 35, 36, 37, 38, 39, 40, 41, 42, 43, 44, 45, 46, 47, 58, 59, 60, 61, 62, 63, 64, 65, 66, 67, 68, 69, 70, 71, 72, 73, 74, 75, 76, 77, 78, 79, 80, 81, 82, 83, 84, 85, 86, 87, 88, 89, 90, 91, 92, 93, 94, 95, 96, 97, 98, 99, 100, 101, 102, 103, 104, 105, 106, 107, 108] (pq_wl cy h0 u m0 v xI xA xL aw mI mA mL))) ⟨hx, hb, hml, hown, hts⟩ (c_X7_order l D cy pq_N h0 (u 0) (u 4) (u 14) (xA 37) (xA 38) (xA 39) (xA 40) (xA 41) (xA 42) (xA 43) (xA 44) (xI 10) (xI 11) (xI 12) (xI 13) (xI 14) (xA 18) (xA 19) (xA 20) (xA 21) (xA 22) (xA 23) (xA 24) (xA 25) (xA 26) (xs (x3 + 1).toNatClampNeg) (xs (x3 + 2).toNatClampNeg) zc hc) (cwV 2 hts gL_law_X7_order rfl rfl rfl (by decide +kernel) ⟨Nat.le_of_ble_eq_true rfl, Nat.le_of_ble_eq_true rfl⟩) hK hP hD hS hA 0 7 rfl rfl [0, 5, 6, 7, 8, 9, 10, 11, 12, 13, 48, 49, 50, 51, 52, 53, 54, 55, 56, 57] [1, 2, 3, 4, 14, 15, 16, 17, 18, 19, 20, 21, 22, 23, 24, 25, 26, 27, 28, 29, 30, 31, 32, 33, 34, 35, 36, 37, 38, 39, 40, 41, 42, 43, 44, 45, 46, 47, 58, 59, 60, 61, 62, 63, 64, 65, 66, 67, 68, 69, 70, 71, 72, 73, 74, 75, 76, 77, 78, 79, 80, 81, 82, 83, 84, 85, 86, 87, 88, 89, 90, 91, 92, 93, 94, 95, 96, 97, 98, 99, 100, 101, 102, 103, 104, 105, 106, 107, 108] [89, 0, 1, 2, 3, 90, 91, 92, 93, 94, 95, 96, 97, 98, 4, 5, 6, 7, 8, 9, 10, 11, 12, 13, 14, 15, 16, 17, 18, 19, 20, 21, 22, 23, 24, 25, 26, 27, 28, 29, 30, 31, 32, 33, 34, 35, 36, 37, 99, 100, 101, 102, 103, 104, 105, 106, 107, 108, 38, 39, 40, 41, 42, 43, 44, 45, 46, 47, 48, 49, 50, 51, 52, 53, 54, 55, 56, 57, 58, 59, 60, 61, 62, 63, 64, 65, 66, 67, 68, 69, 70, 71, 72, 73, 74, 75, 76, 77, 78, 79, 80, 81, 82, 83, 84, 85, 86, 87, 88] rfl rfl rfl rfl (by decide) rfl rfl rfl hl.1 rfl (Nat.le_of_ble_eq_true rfl) ⟨Nat.le_of_ble_eq_true rfl, Nat.le_of_ble_eq_true rfl⟩ dL_law_751 (fun H locs hP hD hS => ?_)
  refine lv_aload_n hx hb dL_law_754 rfl (lv_at hl 2 rfl) ?_
  refine lv_aload_n hx hb dL_law_755 rfl (lv_at hl 0 rfl) ?_
  refine lv_iload_n hx hb dL_law_756 rfl (lv_at hl 3 rfl) ?_
  refine lv_iconst (v := 1) hx hb dL_law_757 (by decide) ?_
  refine lv_iadd hx hb dL_law_758 ?_
  refine va_sld hx hb hX hbl hbA hS hv1 dL_law_759 ?_
  refine lv_aload_n hx hb dL_law_760 rfl (lv_at hl 0 rfl) ?_
  refine lv_iload_n hx hb dL_law_761 rfl (lv_at hl 3 rfl) ?_
  refine lv_iconst (v := 2) hx hb dL_law_762 (by decide) ?_
  refine lv_iadd hx hb dL_law_763 ?_
  refine va_sld hx hb hX hbl hbA hS hv2 dL_law_764 ?_
  refine pq_dVi (As := [.int (xs (x3 + 1).toNatClampNeg), .int (xs (x3 + 2).toNatClampNeg)]) (rest := [.int zc.1]) (b := m0) (C := RX8) (ws1 := pq_wl cy h0 u m0 v xI (va_up (va_up (va_up xA 39 zc.2.1) 40 zc.2.2.1) 41 zc.2.2.2) xL aw (va_up mI 16 zm.2.1) (va_up (va_up (va_up mA 8 zm.2.2.1) 14 zm.2.2.2.1) 15 zm.2.2.2.2) mL) (wr := (pq_pick [0, 1, 2, 3, 4, 5, 6, 7, 8, 9, 10, 11, 12, 13, 14, 15, 16, 17, 18, 19, 20, 21, 22, 23, 24, 25, 26, 27, 28, 29, 30, 31, 32, 33, 34, 35, 36, 37, 38, 39, 40, 41, 42, 43, 44, 45, 46, 47, 48, 49, 50, 51, 52, 53, 54, 55, 56, 57, 58, 59, 60, 61, 62, 63, 64, 65, 66, 67, 85, 86, 87, 88, 89, 90, 91, 92, 93, 94, 95, 96, 97, 98, 99, 100, 101, 102, 103, 104, 105, 106, 107, 108] (pq_wl cy h0 u m0 v xI (va_up (va_up (va_up xA 39 zc.2.1) 40 zc.2.2.1) 41 zc.2.2.2) xL aw mI mA mL))) ⟨hx, hb, hml, hown, hts⟩ (c_X8_order l D cy pq_N m0 v (mI 3) (mI 5) (mI 12) (mI 16) (mI 18) (mI 19) (mA 0) (mA 1) mL (mA 4) (mA 6) (mA 7) (mA 8) (mA 9) (mA 10) (mA 11) (mA 13) (mA 14) (mA 15) (mA 17) (mA 20) (mA 21) (xs (x3 + 1).toNatClampNeg) (xs (x3 + 2).toNatClampNeg) zm hm) (cwV 2 hts gL_law_X8_order rfl rfl rfl (by decide +kernel) ⟨Nat.le_of_ble_eq_true rfl, Nat.le_of_ble_eq_true rfl⟩) hK hP hD hS hA 0 8 rfl rfl [68, 69, 70, 71, 72, 73, 74, 75, 76, 77, 78, 79, 80, 81, 82, 83, 84] [0, 1, 2, 3, 4, 5, 6, 7, 8, 9, 10, 11, 12, 13, 14, 15, 16, 17, 18, 19, 20, 21, 22, 23, 24, 25, 26, 27, 28, 29, 30, 31, 32, 33, 34, 35, 36, 37, 38, 39, 40, 41, 42, 43, 44, 45, 46, 47, 48, 49, 50, 51, 52, 53, 54, 55, 56, 57, 58, 59, 60, 61, 62, 63, 64, 65, 66, 67, 85, 86, 87, 88, 89, 90, 91, 92, 93, 94, 95, 96, 97, 98, 99, 100, 101, 102, 103, 104, 105, 106, 107, 108] [0, 1, 2, 3, 4, 5, 6, 7, 8, 9, 10, 11, 12, 13, 14, 15, 16, 17, 18, 19, 20, 21, 22, 23, 24, 25, 26, 27, 28, 29, 30, 31, 32, 33, 34, 35, 36, 37, 38, 39, 40, 41, 42, 43, 44, 45, 46, 47, 48, 49, 50, 51, 52, 53, 54, 55, 56, 57, 58, 59, 60, 61, 62, 63, 64, 65, 66, 67, 92, 93, 94, 95, 96, 97, 98, 99, 100, 101, 102, 103, 104, 105, 106, 107, 108, 68, 69, 70, 71, 72, 73, 74, 75, 76, 77, 78, 79, 80, 81, 82, 83, 84, 85, 86, 87, 88, 89, 90, 91] rfl rfl rfl rfl (by decide) rfl rfl rfl hl.1 rfl (Nat.le_of_ble_eq_true rfl) ⟨Nat.le_of_ble_eq_true rfl, Nat.le_of_ble_eq_true rfl⟩ dL_law_765 (fun H locs hP hD hS => ?_)
  refine lv_icmp_eq (tgt := 1364) hx hb dL_law_768 (by decide) (fun _ => ?_) (fun h => absurd hrr h)
  exact hend u xI (va_up (va_up (va_up xA 39 zc.2.1) 40 zc.2.2.1) 41 zc.2.2.2) xL aw (va_up mI 16 zm.2.1) (va_up (va_up (va_up mA 8 zm.2.2.1) 14 zm.2.2.2.1) 15 zm.2.2.2.2) mL hR _ _ _ hP hD hS hl

set_option maxHeartbeats 8000000 in
set_option maxRecDepth 100000 in
theorem pq_case_round {p : Program} {l : Launch} {e : Env} {s : State} {m : MethodId} {below : List Frame} {meth : Method} {c : Code} {D : va_G} {cy : Nat → ClassId} {b L : Nat} {xs : Nat → Int32} {tS h0 m0 : Nat} {v : Nat → Nat} {x3 : Int32} (C0 : lw_At p s m meth c b L xs) (hK : va_K D vwCl (pq_tys cy) s) (hT : pq_St s.heap.size tS s s.heap) (hend : pq_End p l e s m below meth c D cy b h0 m0 v x3) (hvv : ∀ k : Nat, 0 < k → k < 7 → vp_in (x3 + nI k) L) (u : Nat → Nat → Nat) (xI : Nat → Int32) (xA : Nat → Nat → Int32) (xL : Nat → Nat → Int64) (aw : Nat → Nat → Int32) (mI : Nat → Int32) (mA : Nat → Nat → Int32) (mL : Nat → Int64) (hR : pq_R xI xA xL aw mI mA mL) (H : Heap) (locs : List Loc) (ls : Array Slot) (hP : va_P D vwCl (pq_wl cy h0 u m0 v xI xA xL aw mI mA mL) H) (hD : va_D (fun q : Nat => s.heap.size ≤ q) (pq_wl cy h0 u m0 v xI xA xL aw mI mA mL)) (hS : va_S (fun q : Nat => s.heap.size ≤ q) s.heap H locs) (hl : lv_has ls 4 [(0, .ref b), (1, .ref h0), (2, .ref m0), (3, .int x3)]) : W p l e room_1 s m #[Value.ref b] below meth c H locs 109 13218 (lw_Z below #[Value.ref b] s) (F0 m 773 ls []) := by
  obtain ⟨hx, hb, hr, hml, hown, hts0, hX, hbl, hlocks, hgv⟩ := C0
  have hts := fun w h => hts0 w (wsL_law_in w h)
  have hown : s.vm.findClass RL = some m.cls := hown
  have hb : c.code = cL_law := hb
  have hA : ∀ q : Nat, s.heap.size ≤ q → (fun q : Nat => s.heap.size ≤ q) q := fun _ h => h
  have hbA : ¬ (fun q : Nat => s.heap.size ≤ q) b := Nat.not_le.mpr hbl
  have hAb : ∀ q, (fun q : Nat => s.heap.size ≤ q) q → s.heap.size ≤ q := fun _ h => h
  have hbs : s.heap.size ≤ s.heap.size := Nat.le_refl _
  have hv1 : vp_in (x3 + 1) L := hvv 1 (by decide) (by decide)
  have hv2 : vp_in (x3 + 2) L := hvv 2 (by decide) (by decide)
  obtain ⟨zc, zm, hc, hm, hrr, hR⟩ := sim_round hR (xs (x3 + 1).toNatClampNeg) (xs (x3 + 2).toNatClampNeg)
  refine lv_aload_n hx hb dL_law_773 rfl (lv_at hl 1 rfl) ?_
  refine lv_aload_n hx hb dL_law_774 rfl (lv_at hl 0 rfl) ?_
  refine lv_iload_n hx hb dL_law_775 rfl (lv_at hl 3 rfl) ?_
  refine lv_iconst (v := 1) hx hb dL_law_776 (by decide) ?_
  refine lv_iadd hx hb dL_law_777 ?_
  refine va_sld hx hb hX hbl hbA hS hv1 dL_law_778 ?_
  refine lv_aload_n hx hb dL_law_779 rfl (lv_at hl 0 rfl) ?_
  refine lv_iload_n hx hb dL_law_780 rfl (lv_at hl 3 rfl) ?_
  refine lv_iconst (v := 2) hx hb dL_law_781 (by decide) ?_
  refine lv_iadd hx hb dL_law_782 ?_
  refine va_sld hx hb hX hbl hbA hS hv2 dL_law_783 ?_
  refine pq_dVi (As := [.int (xs (x3 + 1).toNatClampNeg), .int (xs (x3 + 2).toNatClampNeg)]) (rest := []) (b := h0) (C := RX7) (ws1 := pq_wl cy h0 u m0 v (va_up (va_up (va_up (va_up (va_up xI 15 zc.2.1) 16 zc.2.2.1) 17 zc.2.2.2.1) 18 zc.2.2.2.2.1) 19 zc.2.2.2.2.2.1) (va_up (va_up (va_up (va_up (va_up (va_up (va_up (va_up (va_up xA 27 zc.2.2.2.2.2.2.1) 28 zc.2.2.2.2.2.2.2.1) 29 zc.2.2.2.2.2.2.2.2.1) 30 zc.2.2.2.2.2.2.2.2.2.1) 31 zc.2.2.2.2.2.2.2.2.2.2.1) 32 zc.2.2.2.2.2.2.2.2.2.2.2.1) 33 zc.2.2.2.2.2.2.2.2.2.2.2.2.1) 34 zc.2.2.2.2.2.2.2.2.2.2.2.2.2.1) 35 zc.2.2.2.2.2.2.2.2.2.2.2.2.2.2) xL aw mI mA mL) (wr := (pq_pick [1, 2, 3, 4, 14, 15, 16, 17, 18, 19, 20, 21, 22, 23, 24, 25, 26, 27, 28, 29, 30, 31, 32, 33, 34, 35, 36, 37, 38, 39, 40, 41, 42, 43, 44, 45, 46, 47, 68, 69, 70, 71, 72, 73, 74, 75, 76, 77, 78, 79, 80, 81, 82, 83, 84, 85, 86, 87, 88, 89, 90, 91, 92, 93, 94, 95, 96, 97, 98, 99, 100, 101, 102, 103, 104, 105, 106, 107, 108] (pq_wl cy h0 u m0 v xI xA xL aw mI mA mL))) ⟨hx, hb, hml, hown, hts⟩ (c_X7_round l D cy pq_N h0 (u 0) (u 4) (u 14) (u 15) (xA 37) (xA 38) (xA 39) (xA 40) (xA 41) (xA 42) (xA 43) (xA 44) (xI 10) (xI 11) (xI 12) (xI 13) (xI 14) (xA 18) (xA 19) (xA 20) (xA 21) (xA 22) (xA 23) (xA 24) (xA 25) (xA 26) (xI 15) (xI 16) (xI 17) (xI 18) (xI 19) (xA 27) (xA 28) (xA 29) (xA 30) (xA 31) (xA 32) (xA 33) (xA 34) (xA 35) (xs (x3 + 1).toNatClampNeg) (xs (x3 + 2).toNatClampNeg) zc hc) (cwV 2 hts gL_law_X7_round rfl rfl rfl (by decide +kernel) ⟨Nat.le_of_ble_eq_true rfl, Nat.le_of_ble_eq_true rfl⟩) hK hP hD hS hA 0 7 rfl rfl [0, 5, 6, 7, 8, 9, 10, 11, 12, 13, 48, 49, 50, 51, 52, 53, 54, 55, 56, 57, 58, 59, 60, 61, 62, 63, 64, 65, 66, 67] [1, 2, 3, 4, 14, 15, 16, 17, 18, 19, 20, 21, 22, 23, 24, 25, 26, 27, 28, 29, 30, 31, 32, 33, 34, 35, 36, 37, 38, 39, 40, 41, 42, 43, 44, 45, 46, 47, 68, 69, 70, 71, 72, 73, 74, 75, 76, 77, 78, 79, 80, 81, 82, 83, 84, 85, 86, 87, 88, 89, 90, 91, 92, 93, 94, 95, 96, 97, 98, 99, 100, 101, 102, 103, 104, 105, 106, 107, 108] [79, 0, 1, 2, 3, 80, 81, 82, 83, 84, 85, 86, 87, 88, 4, 5, 6, 7, 8, 9, 10, 11, 12, 13, 14, 15, 16, 17, 18, 19, 20, 21, 22, 23, 24, 25, 26, 27, 28, 29, 30, 31, 32, 33, 34, 35, 36, 37, 89, 90, 91, 92, 93, 94, 95, 96, 97, 98, 99, 100, 101, 102, 103, 104, 105, 106, 107, 108, 38, 39, 40, 41, 42, 43, 44, 45, 46, 47, 48, 49, 50, 51, 52, 53, 54, 55, 56, 57, 58, 59, 60, 61, 62, 63, 64, 65, 66, 67, 68, 69, 70, 71, 72, 73, 74, 75, 76, 77, 78] rfl rfl rfl rfl (by decide) rfl rfl rfl hl.1 rfl (Nat.le_of_ble_eq_true rfl) ⟨Nat.le_of_ble_eq_true rfl, Nat.le_of_ble_eq_true rfl⟩ dL_law_784 (fun H locs hP hD hS => ?_)
  refine lv_aload_n hx hb dL_law_787 rfl (lv_at hl 2 rfl) ?_
  refine lv_aload_n hx hb dL_law_788 rfl (lv_at hl 0 rfl) ?_
  refine lv_iload_n hx hb dL_law_789 rfl (lv_at hl 3 rfl) ?_
  refine lv_iconst (v := 1) hx hb dL_law_790 (by decide) ?_
  refine lv_iadd hx hb dL_law_791 ?_
  refine va_sld hx hb hX hbl hbA hS hv1 dL_law_792 ?_
  refine lv_aload_n hx hb dL_law_793 rfl (lv_at hl 0 rfl) ?_
  refine lv_iload_n hx hb dL_law_794 rfl (lv_at hl 3 rfl) ?_
  refine lv_iconst (v := 2) hx hb dL_law_795 (by decide) ?_
  refine lv_iadd hx hb dL_law_796 ?_
  refine va_sld hx hb hX hbl hbA hS hv2 dL_law_797 ?_
  refine pq_dVi (As := [.int (xs (x3 + 1).toNatClampNeg), .int (xs (x3 + 2).toNatClampNeg)]) (rest := [.int zc.1]) (b := m0) (C := RX8) (ws1 := pq_wl cy h0 u m0 v (va_up (va_up (va_up (va_up (va_up xI 15 zc.2.1) 16 zc.2.2.1) 17 zc.2.2.2.1) 18 zc.2.2.2.2.1) 19 zc.2.2.2.2.2.1) (va_up (va_up (va_up (va_up (va_up (va_up (va_up (va_up (va_up xA 27 zc.2.2.2.2.2.2.1) 28 zc.2.2.2.2.2.2.2.1) 29 zc.2.2.2.2.2.2.2.2.1) 30 zc.2.2.2.2.2.2.2.2.2.1) 31 zc.2.2.2.2.2.2.2.2.2.2.1) 32 zc.2.2.2.2.2.2.2.2.2.2.2.1) 33 zc.2.2.2.2.2.2.2.2.2.2.2.2.1) 34 zc.2.2.2.2.2.2.2.2.2.2.2.2.2.1) 35 zc.2.2.2.2.2.2.2.2.2.2.2.2.2.2) xL aw (va_up (va_up mI 18 zm.2.1) 19 zm.2.2.1) (va_up (va_up mA 8 zm.2.2.2.1) 17 zm.2.2.2.2) mL) (wr := (pq_pick [0, 1, 2, 3, 4, 5, 6, 7, 8, 9, 10, 11, 12, 13, 14, 15, 16, 17, 18, 19, 20, 21, 22, 23, 24, 25, 26, 27, 28, 29, 30, 31, 32, 33, 34, 35, 36, 37, 38, 39, 40, 41, 42, 43, 44, 45, 46, 47, 48, 49, 50, 51, 52, 53, 54, 55, 56, 57, 58, 59, 60, 61, 62, 63, 64, 65, 66, 67, 85, 86, 87, 88, 89, 90, 91, 92, 93, 94, 95, 96, 97, 98, 99, 100, 101, 102, 103, 104, 105, 106, 107, 108] (pq_wl cy h0 u m0 v (va_up (va_up (va_up (va_up (va_up xI 15 zc.2.1) 16 zc.2.2.1) 17 zc.2.2.2.1) 18 zc.2.2.2.2.1) 19 zc.2.2.2.2.2.1) (va_up (va_up (va_up (va_up (va_up (va_up (va_up (va_up (va_up xA 27 zc.2.2.2.2.2.2.1) 28 zc.2.2.2.2.2.2.2.1) 29 zc.2.2.2.2.2.2.2.2.1) 30 zc.2.2.2.2.2.2.2.2.2.1) 31 zc.2.2.2.2.2.2.2.2.2.2.1) 32 zc.2.2.2.2.2.2.2.2.2.2.2.1) 33 zc.2.2.2.2.2.2.2.2.2.2.2.2.1) 34 zc.2.2.2.2.2.2.2.2.2.2.2.2.2.1) 35 zc.2.2.2.2.2.2.2.2.2.2.2.2.2.2) xL aw mI mA mL))) ⟨hx, hb, hml, hown, hts⟩ (c_X8_round l D cy pq_N m0 v (mI 3) (mI 5) (mI 12) (mI 16) (mI 18) (mI 19) (mA 0) (mA 1) mL (mA 4) (mA 6) (mA 7) (mA 8) (mA 9) (mA 10) (mA 11) (mA 13) (mA 14) (mA 15) (mA 17) (mA 20) (mA 21) (xs (x3 + 1).toNatClampNeg) (xs (x3 + 2).toNatClampNeg) zm hm) (cwV 2 hts gL_law_X8_round rfl rfl rfl (by decide +kernel) ⟨Nat.le_of_ble_eq_true rfl, Nat.le_of_ble_eq_true rfl⟩) hK hP hD hS hA 0 8 rfl rfl [68, 69, 70, 71, 72, 73, 74, 75, 76, 77, 78, 79, 80, 81, 82, 83, 84] [0, 1, 2, 3, 4, 5, 6, 7, 8, 9, 10, 11, 12, 13, 14, 15, 16, 17, 18, 19, 20, 21, 22, 23, 24, 25, 26, 27, 28, 29, 30, 31, 32, 33, 34, 35, 36, 37, 38, 39, 40, 41, 42, 43, 44, 45, 46, 47, 48, 49, 50, 51, 52, 53, 54, 55, 56, 57, 58, 59, 60, 61, 62, 63, 64, 65, 66, 67, 85, 86, 87, 88, 89, 90, 91, 92, 93, 94, 95, 96, 97, 98, 99, 100, 101, 102, 103, 104, 105, 106, 107, 108] [0, 1, 2, 3, 4, 5, 6, 7, 8, 9, 10, 11, 12, 13, 14, 15, 16, 17, 18, 19, 20, 21, 22, 23, 24, 25, 26, 27, 28, 29, 30, 31, 32, 33, 34, 35, 36, 37, 38, 39, 40, 41, 42, 43, 44, 45, 46, 47, 48, 49, 50, 51, 52, 53, 54, 55, 56, 57, 58, 59, 60, 61, 62, 63, 64, 65, 66, 67, 92, 93, 94, 95, 96, 97, 98, 99, 100, 101, 102, 103, 104, 105, 106, 107, 108, 68, 69, 70, 71, 72, 73, 74, 75, 76, 77, 78, 79, 80, 81, 82, 83, 84, 85, 86, 87, 88, 89, 90, 91] rfl rfl rfl rfl (by decide) rfl rfl rfl hl.1 rfl (Nat.le_of_ble_eq_true rfl) ⟨Nat.le_of_ble_eq_true rfl, Nat.le_of_ble_eq_true rfl⟩ dL_law_798 (fun H locs hP hD hS => ?_)
  refine lv_icmp_eq (tgt := 1364) hx hb dL_law_801 (by decide) (fun _ => ?_) (fun h => absurd hrr h)
  exact hend u (va_up (va_up (va_up (va_up (va_up xI 15 zc.2.1) 16 zc.2.2.1) 17 zc.2.2.2.1) 18 zc.2.2.2.2.1) 19 zc.2.2.2.2.2.1) (va_up (va_up (va_up (va_up (va_up (va_up (va_up (va_up (va_up xA 27 zc.2.2.2.2.2.2.1) 28 zc.2.2.2.2.2.2.2.1) 29 zc.2.2.2.2.2.2.2.2.1) 30 zc.2.2.2.2.2.2.2.2.2.1) 31 zc.2.2.2.2.2.2.2.2.2.2.1) 32 zc.2.2.2.2.2.2.2.2.2.2.2.1) 33 zc.2.2.2.2.2.2.2.2.2.2.2.2.1) 34 zc.2.2.2.2.2.2.2.2.2.2.2.2.2.1) 35 zc.2.2.2.2.2.2.2.2.2.2.2.2.2.2) xL aw (va_up (va_up mI 18 zm.2.1) 19 zm.2.2.1) (va_up (va_up mA 8 zm.2.2.2.1) 17 zm.2.2.2.2) mL hR _ _ _ hP hD hS hl

set_option maxHeartbeats 8000000 in
set_option maxRecDepth 100000 in
theorem pq_case_bench {p : Program} {l : Launch} {e : Env} {s : State} {m : MethodId} {below : List Frame} {meth : Method} {c : Code} {D : va_G} {cy : Nat → ClassId} {b L : Nat} {xs : Nat → Int32} {tS h0 m0 : Nat} {v : Nat → Nat} {x3 : Int32} (C0 : lw_At p s m meth c b L xs) (hK : va_K D vwCl (pq_tys cy) s) (hT : pq_St s.heap.size tS s s.heap) (hend : pq_End p l e s m below meth c D cy b h0 m0 v x3) (hvv : ∀ k : Nat, 0 < k → k < 7 → vp_in (x3 + nI k) L) (u : Nat → Nat → Nat) (xI : Nat → Int32) (xA : Nat → Nat → Int32) (xL : Nat → Nat → Int64) (aw : Nat → Nat → Int32) (mI : Nat → Int32) (mA : Nat → Nat → Int32) (mL : Nat → Int64) (hR : pq_R xI xA xL aw mI mA mL) (H : Heap) (locs : List Loc) (ls : Array Slot) (hP : va_P D vwCl (pq_wl cy h0 u m0 v xI xA xL aw mI mA mL) H) (hD : va_D (fun q : Nat => s.heap.size ≤ q) (pq_wl cy h0 u m0 v xI xA xL aw mI mA mL)) (hS : va_S (fun q : Nat => s.heap.size ≤ q) s.heap H locs) (hl : lv_has ls 4 [(0, .ref b), (1, .ref h0), (2, .ref m0), (3, .int x3)]) : W p l e room_1 s m #[Value.ref b] below meth c H locs 109 13218 (lw_Z below #[Value.ref b] s) (F0 m 806 ls []) := by
  obtain ⟨hx, hb, hr, hml, hown, hts0, hX, hbl, hlocks, hgv⟩ := C0
  have hts := fun w h => hts0 w (wsL_law_in w h)
  have hown : s.vm.findClass RL = some m.cls := hown
  have hb : c.code = cL_law := hb
  have hA : ∀ q : Nat, s.heap.size ≤ q → (fun q : Nat => s.heap.size ≤ q) q := fun _ h => h
  have hbA : ¬ (fun q : Nat => s.heap.size ≤ q) b := Nat.not_le.mpr hbl
  have hAb : ∀ q, (fun q : Nat => s.heap.size ≤ q) q → s.heap.size ≤ q := fun _ h => h
  have hbs : s.heap.size ≤ s.heap.size := Nat.le_refl _
  have hv1 : vp_in (x3 + 1) L := hvv 1 (by decide) (by decide)
  obtain ⟨zc, zm, hc, hm, hrr, hR⟩ := sim_bench hR (xs (x3 + 1).toNatClampNeg)
  refine lv_aload_n hx hb dL_law_806 rfl (lv_at hl 1 rfl) ?_
  refine lv_aload_n hx hb dL_law_807 rfl (lv_at hl 0 rfl) ?_
  refine lv_iload_n hx hb dL_law_808 rfl (lv_at hl 3 rfl) ?_
  refine lv_iconst (v := 1) hx hb dL_law_809 (by decide) ?_
  refine lv_iadd hx hb dL_law_810 ?_
  refine va_sld hx hb hX hbl hbA hS hv1 dL_law_811 ?_
  refine pq_dVi (As := [.int (xs (x3 + 1).toNatClampNeg)]) (rest := []) (b := h0) (C := RX7) (ws1 := pq_wl cy h0 u m0 v xI (va_up (va_up (va_up xA 42 zc.2.1) 43 zc.2.2.1) 44 zc.2.2.2) xL aw mI mA mL) (wr := (pq_pick [1, 2, 3, 4, 14, 15, 16, 17, 18, 19, 20, 21, 22, 23, 24, 25, 26, 27, 28, 29, 30, 31, 32, 33, 34, 35, 36, 37, 38, 39, 40, 41, 42, 43, 44, 45, 46, 47, 58, 59, 60, 61, 62, 63, 64, 65, 66, 67, 68, 69, 70, 71, 72, 73, 74, 75, 76, 77, 78, 79, 80, 81, 82, 83, 84, 85, 86, 87, 88, 89, 90, 91, 92, 93, 94, 95, 96, 97, 98, 99, 100, 101, 102, 103, 104, 105, 106, 107, 108] (pq_wl cy h0 u m0 v xI xA xL aw mI mA mL))) ⟨hx, hb, hml, hown, hts⟩ (c_X7_bench l D cy pq_N h0 (u 0) (u 4) (u 14) (xA 37) (xA 38) (xA 39) (xA 40) (xA 41) (xA 42) (xA 43) (xA 44) (xI 10) (xI 11) (xI 12) (xI 13) (xI 14) (xA 18) (xA 19) (xA 20) (xA 21) (xA 22) (xA 23) (xA 24) (xA 25) (xA 26) (xs (x3 + 1).toNatClampNeg) zc hc) (cwV 1 hts gL_law_X7_bench rfl rfl rfl (by decide +kernel) ⟨Nat.le_of_ble_eq_true rfl, Nat.le_of_ble_eq_true rfl⟩) hK hP hD hS hA 0 7 rfl rfl [0, 5, 6, 7, 8, 9, 10, 11, 12, 13, 48, 49, 50, 51, 52, 53, 54, 55, 56, 57] [1, 2, 3, 4, 14, 15, 16, 17, 18, 19, 20, 21, 22, 23, 24, 25, 26, 27, 28, 29, 30, 31, 32, 33, 34, 35, 36, 37, 38, 39, 40, 41, 42, 43, 44, 45, 46, 47, 58, 59, 60, 61, 62, 63, 64, 65, 66, 67, 68, 69, 70, 71, 72, 73, 74, 75, 76, 77, 78, 79, 80, 81, 82, 83, 84, 85, 86, 87, 88, 89, 90, 91, 92, 93, 94, 95, 96, 97, 98, 99, 100, 101, 102, 103, 104, 105, 106, 107, 108] [89, 0, 1, 2, 3, 90, 91, 92, 93, 94, 95, 96, 97, 98, 4, 5, 6, 7, 8, 9, 10, 11, 12, 13, 14, 15, 16, 17, 18, 19, 20, 21, 22, 23, 24, 25, 26, 27, 28, 29, 30, 31, 32, 33, 34, 35, 36, 37, 99, 100, 101, 102, 103, 104, 105, 106, 107, 108, 38, 39, 40, 41, 42, 43, 44, 45, 46, 47, 48, 49, 50, 51, 52, 53, 54, 55, 56, 57, 58, 59, 60, 61, 62, 63, 64, 65, 66, 67, 68, 69, 70, 71, 72, 73, 74, 75, 76, 77, 78, 79, 80, 81, 82, 83, 84, 85, 86, 87, 88] rfl rfl rfl rfl (by decide) rfl rfl rfl hl.1 rfl (Nat.le_of_ble_eq_true rfl) ⟨Nat.le_of_ble_eq_true rfl, Nat.le_of_ble_eq_true rfl⟩ dL_law_812 (fun H locs hP hD hS => ?_)
  refine lv_aload_n hx hb dL_law_815 rfl (lv_at hl 2 rfl) ?_
  refine lv_aload_n hx hb dL_law_816 rfl (lv_at hl 0 rfl) ?_
  refine lv_iload_n hx hb dL_law_817 rfl (lv_at hl 3 rfl) ?_
  refine lv_iconst (v := 1) hx hb dL_law_818 (by decide) ?_
  refine lv_iadd hx hb dL_law_819 ?_
  refine va_sld hx hb hX hbl hbA hS hv1 dL_law_820 ?_
  refine pq_dVi (As := [.int (xs (x3 + 1).toNatClampNeg)]) (rest := [.int zc.1]) (b := m0) (C := RX8) (ws1 := pq_wl cy h0 u m0 v xI (va_up (va_up (va_up xA 42 zc.2.1) 43 zc.2.2.1) 44 zc.2.2.2) xL aw mI (va_up (va_up mA 20 zm.2.1) 21 zm.2.2) mL) (wr := (pq_pick [0, 1, 2, 3, 4, 5, 6, 7, 8, 9, 10, 11, 12, 13, 14, 15, 16, 17, 18, 19, 20, 21, 22, 23, 24, 25, 26, 27, 28, 29, 30, 31, 32, 33, 34, 35, 36, 37, 38, 39, 40, 41, 42, 43, 44, 45, 46, 47, 48, 49, 50, 51, 52, 53, 54, 55, 56, 57, 58, 59, 60, 61, 62, 63, 64, 65, 66, 67, 85, 86, 87, 88, 89, 90, 91, 92, 93, 94, 95, 96, 97, 98, 99, 100, 101, 102, 103, 104, 105, 106, 107, 108] (pq_wl cy h0 u m0 v xI (va_up (va_up (va_up xA 42 zc.2.1) 43 zc.2.2.1) 44 zc.2.2.2) xL aw mI mA mL))) ⟨hx, hb, hml, hown, hts⟩ (c_X8_bench l D cy pq_N m0 v (mI 3) (mI 5) (mI 12) (mI 16) (mI 18) (mI 19) (mA 0) (mA 1) mL (mA 4) (mA 6) (mA 7) (mA 8) (mA 9) (mA 10) (mA 11) (mA 13) (mA 14) (mA 15) (mA 17) (mA 20) (mA 21) (xs (x3 + 1).toNatClampNeg) zm hm) (cwV 1 hts gL_law_X8_bench rfl rfl rfl (by decide +kernel) ⟨Nat.le_of_ble_eq_true rfl, Nat.le_of_ble_eq_true rfl⟩) hK hP hD hS hA 0 8 rfl rfl [68, 69, 70, 71, 72, 73, 74, 75, 76, 77, 78, 79, 80, 81, 82, 83, 84] [0, 1, 2, 3, 4, 5, 6, 7, 8, 9, 10, 11, 12, 13, 14, 15, 16, 17, 18, 19, 20, 21, 22, 23, 24, 25, 26, 27, 28, 29, 30, 31, 32, 33, 34, 35, 36, 37, 38, 39, 40, 41, 42, 43, 44, 45, 46, 47, 48, 49, 50, 51, 52, 53, 54, 55, 56, 57, 58, 59, 60, 61, 62, 63, 64, 65, 66, 67, 85, 86, 87, 88, 89, 90, 91, 92, 93, 94, 95, 96, 97, 98, 99, 100, 101, 102, 103, 104, 105, 106, 107, 108] [0, 1, 2, 3, 4, 5, 6, 7, 8, 9, 10, 11, 12, 13, 14, 15, 16, 17, 18, 19, 20, 21, 22, 23, 24, 25, 26, 27, 28, 29, 30, 31, 32, 33, 34, 35, 36, 37, 38, 39, 40, 41, 42, 43, 44, 45, 46, 47, 48, 49, 50, 51, 52, 53, 54, 55, 56, 57, 58, 59, 60, 61, 62, 63, 64, 65, 66, 67, 92, 93, 94, 95, 96, 97, 98, 99, 100, 101, 102, 103, 104, 105, 106, 107, 108, 68, 69, 70, 71, 72, 73, 74, 75, 76, 77, 78, 79, 80, 81, 82, 83, 84, 85, 86, 87, 88, 89, 90, 91] rfl rfl rfl rfl (by decide) rfl rfl rfl hl.1 rfl (Nat.le_of_ble_eq_true rfl) ⟨Nat.le_of_ble_eq_true rfl, Nat.le_of_ble_eq_true rfl⟩ dL_law_821 (fun H locs hP hD hS => ?_)
  refine lv_icmp_eq (tgt := 1364) hx hb dL_law_824 (by decide) (fun _ => ?_) (fun h => absurd hrr h)
  exact hend u xI (va_up (va_up (va_up xA 42 zc.2.1) 43 zc.2.2.1) 44 zc.2.2.2) xL aw mI (va_up (va_up mA 20 zm.2.1) 21 zm.2.2) mL hR _ _ _ hP hD hS hl

set_option maxHeartbeats 8000000 in
set_option maxRecDepth 100000 in
theorem pq_case_errors {p : Program} {l : Launch} {e : Env} {s : State} {m : MethodId} {below : List Frame} {meth : Method} {c : Code} {D : va_G} {cy : Nat → ClassId} {b L : Nat} {xs : Nat → Int32} {tS h0 m0 : Nat} {v : Nat → Nat} {x3 : Int32} (C0 : lw_At p s m meth c b L xs) (hK : va_K D vwCl (pq_tys cy) s) (hT : pq_St s.heap.size tS s s.heap) (hend : pq_End p l e s m below meth c D cy b h0 m0 v x3) (hvv : ∀ k : Nat, 0 < k → k < 7 → vp_in (x3 + nI k) L) (u : Nat → Nat → Nat) (xI : Nat → Int32) (xA : Nat → Nat → Int32) (xL : Nat → Nat → Int64) (aw : Nat → Nat → Int32) (mI : Nat → Int32) (mA : Nat → Nat → Int32) (mL : Nat → Int64) (hR : pq_R xI xA xL aw mI mA mL) (H : Heap) (locs : List Loc) (ls : Array Slot) (hP : va_P D vwCl (pq_wl cy h0 u m0 v xI xA xL aw mI mA mL) H) (hD : va_D (fun q : Nat => s.heap.size ≤ q) (pq_wl cy h0 u m0 v xI xA xL aw mI mA mL)) (hS : va_S (fun q : Nat => s.heap.size ≤ q) s.heap H locs) (hl : lv_has ls 4 [(0, .ref b), (1, .ref h0), (2, .ref m0), (3, .int x3)]) : W p l e room_1 s m #[Value.ref b] below meth c H locs 109 13218 (lw_Z below #[Value.ref b] s) (F0 m 829 ls []) := by
  obtain ⟨hx, hb, hr, hml, hown, hts0, hX, hbl, hlocks, hgv⟩ := C0
  have hts := fun w h => hts0 w (wsL_law_in w h)
  have hown : s.vm.findClass RL = some m.cls := hown
  have hb : c.code = cL_law := hb
  have hA : ∀ q : Nat, s.heap.size ≤ q → (fun q : Nat => s.heap.size ≤ q) q := fun _ h => h
  have hbA : ¬ (fun q : Nat => s.heap.size ≤ q) b := Nat.not_le.mpr hbl
  have hAb : ∀ q, (fun q : Nat => s.heap.size ≤ q) q → s.heap.size ≤ q := fun _ h => h
  have hbs : s.heap.size ≤ s.heap.size := Nat.le_refl _
  have hv1 : vp_in (x3 + 1) L := hvv 1 (by decide) (by decide)
  have hv2 : vp_in (x3 + 2) L := hvv 2 (by decide) (by decide)
  have hv3 : vp_in (x3 + 3) L := hvv 3 (by decide) (by decide)
  have hv4 : vp_in (x3 + 4) L := hvv 4 (by decide) (by decide)
  obtain ⟨zc, zm, hc, hm, hrr, hR⟩ := sim_errors hR (xs (x3 + 1).toNatClampNeg) (xs (x3 + 2).toNatClampNeg) (xs (x3 + 3).toNatClampNeg) (xs (x3 + 4).toNatClampNeg)
  refine lv_aload_n hx hb dL_law_829 rfl (lv_at hl 1 rfl) ?_
  refine lv_aload_n hx hb dL_law_830 rfl (lv_at hl 0 rfl) ?_
  refine lv_iload_n hx hb dL_law_831 rfl (lv_at hl 3 rfl) ?_
  refine lv_iconst (v := 1) hx hb dL_law_832 (by decide) ?_
  refine lv_iadd hx hb dL_law_833 ?_
  refine va_sld hx hb hX hbl hbA hS hv1 dL_law_834 ?_
  refine lv_aload_n hx hb dL_law_835 rfl (lv_at hl 0 rfl) ?_
  refine lv_iload_n hx hb dL_law_836 rfl (lv_at hl 3 rfl) ?_
  refine lv_iconst (v := 2) hx hb dL_law_837 (by decide) ?_
  refine lv_iadd hx hb dL_law_838 ?_
  refine va_sld hx hb hX hbl hbA hS hv2 dL_law_839 ?_
  refine lv_aload_n hx hb dL_law_840 rfl (lv_at hl 0 rfl) ?_
  refine lv_iload_n hx hb dL_law_841 rfl (lv_at hl 3 rfl) ?_
  refine lv_iconst (v := 3) hx hb dL_law_842 (by decide) ?_
  refine lv_iadd hx hb dL_law_843 ?_
  refine va_sld hx hb hX hbl hbA hS hv3 dL_law_844 ?_
  refine lv_aload_n hx hb dL_law_845 rfl (lv_at hl 0 rfl) ?_
  refine lv_iload_n hx hb dL_law_846 rfl (lv_at hl 3 rfl) ?_
  refine lv_iconst (v := 4) hx hb dL_law_847 (by decide) ?_
  refine lv_iadd hx hb dL_law_848 ?_
  refine va_sld hx hb hX hbl hbA hS hv4 dL_law_849 ?_
  refine pq_dVi (As := [.int (xs (x3 + 1).toNatClampNeg), .int (xs (x3 + 2).toNatClampNeg), .int (xs (x3 + 3).toNatClampNeg), .int (xs (x3 + 4).toNatClampNeg)]) (rest := []) (b := h0) (C := RX7) (ws1 := pq_wl cy h0 u m0 v xI (va_up (va_up xA 37 zc.2.1) 38 zc.2.2) xL aw mI mA mL) (wr := (pq_pick [1, 2, 3, 4, 14, 15, 16, 17, 18, 19, 20, 21, 22, 23, 24, 25, 26, 27, 28, 29, 30, 31, 32, 33, 34, 35, 36, 37, 38, 39, 40, 41, 42, 43, 44, 45, 46, 47, 58, 59, 60, 61, 62, 63, 64, 65, 66, 67, 68, 69, 70, 71, 72, 73, 74, 75, 76, 77, 78, 79, 80, 81, 82, 83, 84, 85, 86, 87, 88, 89, 90, 91, 92, 93, 94, 95, 96, 97, 98, 99, 100, 101, 102, 103, 104, 105, 106, 107, 108] (pq_wl cy h0 u m0 v xI xA xL aw mI mA mL))) ⟨hx, hb, hml, hown, hts⟩ (c_X7_errors l D cy pq_N h0 (u 0) (u 4) (u 14) (xA 37) (xA 38) (xA 39) (xA 40) (xA 41) (xA 42) (xA 43) (xA 44) (xI 10) (xI 11) (xI 12) (xI 13) (xI 14) (xA 18) (xA 19) (xA 20) (xA 21) (xA 22) (xA 23) (xA 24) (xA 25) (xA 26) (xs (x3 + 1).toNatClampNeg) (xs (x3 + 2).toNatClampNeg) (xs (x3 + 3).toNatClampNeg) (xs (x3 + 4).toNatClampNeg) zc hc) (cwV 4 hts gL_law_X7_errors rfl rfl rfl (by decide +kernel) ⟨Nat.le_of_ble_eq_true rfl, Nat.le_of_ble_eq_true rfl⟩) hK hP hD hS hA 0 7 rfl rfl [0, 5, 6, 7, 8, 9, 10, 11, 12, 13, 48, 49, 50, 51, 52, 53, 54, 55, 56, 57] [1, 2, 3, 4, 14, 15, 16, 17, 18, 19, 20, 21, 22, 23, 24, 25, 26, 27, 28, 29, 30, 31, 32, 33, 34, 35, 36, 37, 38, 39, 40, 41, 42, 43, 44, 45, 46, 47, 58, 59, 60, 61, 62, 63, 64, 65, 66, 67, 68, 69, 70, 71, 72, 73, 74, 75, 76, 77, 78, 79, 80, 81, 82, 83, 84, 85, 86, 87, 88, 89, 90, 91, 92, 93, 94, 95, 96, 97, 98, 99, 100, 101, 102, 103, 104, 105, 106, 107, 108] [89, 0, 1, 2, 3, 90, 91, 92, 93, 94, 95, 96, 97, 98, 4, 5, 6, 7, 8, 9, 10, 11, 12, 13, 14, 15, 16, 17, 18, 19, 20, 21, 22, 23, 24, 25, 26, 27, 28, 29, 30, 31, 32, 33, 34, 35, 36, 37, 99, 100, 101, 102, 103, 104, 105, 106, 107, 108, 38, 39, 40, 41, 42, 43, 44, 45, 46, 47, 48, 49, 50, 51, 52, 53, 54, 55, 56, 57, 58, 59, 60, 61, 62, 63, 64, 65, 66, 67, 68, 69, 70, 71, 72, 73, 74, 75, 76, 77, 78, 79, 80, 81, 82, 83, 84, 85, 86, 87, 88] rfl rfl rfl rfl (by decide) rfl rfl rfl hl.1 rfl (Nat.le_of_ble_eq_true rfl) ⟨Nat.le_of_ble_eq_true rfl, Nat.le_of_ble_eq_true rfl⟩ dL_law_850 (fun H locs hP hD hS => ?_)
  refine lv_aload_n hx hb dL_law_853 rfl (lv_at hl 2 rfl) ?_
  refine lv_aload_n hx hb dL_law_854 rfl (lv_at hl 0 rfl) ?_
  refine lv_iload_n hx hb dL_law_855 rfl (lv_at hl 3 rfl) ?_
  refine lv_iconst (v := 1) hx hb dL_law_856 (by decide) ?_
  refine lv_iadd hx hb dL_law_857 ?_
  refine va_sld hx hb hX hbl hbA hS hv1 dL_law_858 ?_
  refine lv_aload_n hx hb dL_law_859 rfl (lv_at hl 0 rfl) ?_
  refine lv_iload_n hx hb dL_law_860 rfl (lv_at hl 3 rfl) ?_
  refine lv_iconst (v := 2) hx hb dL_law_861 (by decide) ?_
  refine lv_iadd hx hb dL_law_862 ?_
  refine va_sld hx hb hX hbl hbA hS hv2 dL_law_863 ?_
  refine lv_aload_n hx hb dL_law_864 rfl (lv_at hl 0 rfl) ?_
  refine lv_iload_n hx hb dL_law_865 rfl (lv_at hl 3 rfl) ?_
  refine lv_iconst (v := 3) hx hb dL_law_866 (by decide) ?_
  refine lv_iadd hx hb dL_law_867 ?_
  refine va_sld hx hb hX hbl hbA hS hv3 dL_law_868 ?_
  refine lv_aload_n hx hb dL_law_869 rfl (lv_at hl 0 rfl) ?_
  refine lv_iload_n hx hb dL_law_870 rfl (lv_at hl 3 rfl) ?_
  refine lv_iconst (v := 4) hx hb dL_law_871 (by decide) ?_
  refine lv_iadd hx hb dL_law_872 ?_
  refine va_sld hx hb hX hbl hbA hS hv4 dL_law_873 ?_
  refine pq_dVi (As := [.int (xs (x3 + 1).toNatClampNeg), .int (xs (x3 + 2).toNatClampNeg), .int (xs (x3 + 3).toNatClampNeg), .int (xs (x3 + 4).toNatClampNeg)]) (rest := [.int zc.1]) (b := m0) (C := RX8) (ws1 := pq_wl cy h0 u m0 v xI (va_up (va_up xA 37 zc.2.1) 38 zc.2.2) xL aw mI (va_up mA 8 zm.2) mL) (wr := (pq_pick [0, 1, 2, 3, 4, 5, 6, 7, 8, 9, 10, 11, 12, 13, 14, 15, 16, 17, 18, 19, 20, 21, 22, 23, 24, 25, 26, 27, 28, 29, 30, 31, 32, 33, 34, 35, 36, 37, 38, 39, 40, 41, 42, 43, 44, 45, 46, 47, 48, 49, 50, 51, 52, 53, 54, 55, 56, 57, 58, 59, 60, 61, 62, 63, 64, 65, 66, 67, 85, 86, 87, 88, 89, 90, 91, 92, 93, 94, 95, 96, 97, 98, 99, 100, 101, 102, 103, 104, 105, 106, 107, 108] (pq_wl cy h0 u m0 v xI (va_up (va_up xA 37 zc.2.1) 38 zc.2.2) xL aw mI mA mL))) ⟨hx, hb, hml, hown, hts⟩ (c_X8_errors l D cy pq_N m0 v (mI 3) (mI 5) (mI 12) (mI 16) (mI 18) (mI 19) (mA 0) (mA 1) mL (mA 4) (mA 6) (mA 7) (mA 8) (mA 9) (mA 10) (mA 11) (mA 13) (mA 14) (mA 15) (mA 17) (mA 20) (mA 21) (xs (x3 + 1).toNatClampNeg) (xs (x3 + 2).toNatClampNeg) (xs (x3 + 3).toNatClampNeg) (xs (x3 + 4).toNatClampNeg) zm hm) (cwV 4 hts gL_law_X8_errors rfl rfl rfl (by decide +kernel) ⟨Nat.le_of_ble_eq_true rfl, Nat.le_of_ble_eq_true rfl⟩) hK hP hD hS hA 0 8 rfl rfl [68, 69, 70, 71, 72, 73, 74, 75, 76, 77, 78, 79, 80, 81, 82, 83, 84] [0, 1, 2, 3, 4, 5, 6, 7, 8, 9, 10, 11, 12, 13, 14, 15, 16, 17, 18, 19, 20, 21, 22, 23, 24, 25, 26, 27, 28, 29, 30, 31, 32, 33, 34, 35, 36, 37, 38, 39, 40, 41, 42, 43, 44, 45, 46, 47, 48, 49, 50, 51, 52, 53, 54, 55, 56, 57, 58, 59, 60, 61, 62, 63, 64, 65, 66, 67, 85, 86, 87, 88, 89, 90, 91, 92, 93, 94, 95, 96, 97, 98, 99, 100, 101, 102, 103, 104, 105, 106, 107, 108] [0, 1, 2, 3, 4, 5, 6, 7, 8, 9, 10, 11, 12, 13, 14, 15, 16, 17, 18, 19, 20, 21, 22, 23, 24, 25, 26, 27, 28, 29, 30, 31, 32, 33, 34, 35, 36, 37, 38, 39, 40, 41, 42, 43, 44, 45, 46, 47, 48, 49, 50, 51, 52, 53, 54, 55, 56, 57, 58, 59, 60, 61, 62, 63, 64, 65, 66, 67, 92, 93, 94, 95, 96, 97, 98, 99, 100, 101, 102, 103, 104, 105, 106, 107, 108, 68, 69, 70, 71, 72, 73, 74, 75, 76, 77, 78, 79, 80, 81, 82, 83, 84, 85, 86, 87, 88, 89, 90, 91] rfl rfl rfl rfl (by decide) rfl rfl rfl hl.1 rfl (Nat.le_of_ble_eq_true rfl) ⟨Nat.le_of_ble_eq_true rfl, Nat.le_of_ble_eq_true rfl⟩ dL_law_874 (fun H locs hP hD hS => ?_)
  refine lv_icmp_eq (tgt := 1364) hx hb dL_law_877 (by decide) (fun _ => ?_) (fun h => absurd hrr h)
  exact hend u xI (va_up (va_up xA 37 zc.2.1) 38 zc.2.2) xL aw mI (va_up mA 8 zm.2) mL hR _ _ _ hP hD hS hl

set_option maxHeartbeats 8000000 in
set_option maxRecDepth 100000 in
theorem pq_case_decades {p : Program} {l : Launch} {e : Env} {s : State} {m : MethodId} {below : List Frame} {meth : Method} {c : Code} {D : va_G} {cy : Nat → ClassId} {b L : Nat} {xs : Nat → Int32} {tS h0 m0 : Nat} {v : Nat → Nat} {x3 : Int32} (C0 : lw_At p s m meth c b L xs) (hK : va_K D vwCl (pq_tys cy) s) (hT : pq_St s.heap.size tS s s.heap) (hend : pq_End p l e s m below meth c D cy b h0 m0 v x3) (hvv : ∀ k : Nat, 0 < k → k < 7 → vp_in (x3 + nI k) L) (u : Nat → Nat → Nat) (xI : Nat → Int32) (xA : Nat → Nat → Int32) (xL : Nat → Nat → Int64) (aw : Nat → Nat → Int32) (mI : Nat → Int32) (mA : Nat → Nat → Int32) (mL : Nat → Int64) (hR : pq_R xI xA xL aw mI mA mL) (H : Heap) (locs : List Loc) (ls : Array Slot) (hP : va_P D vwCl (pq_wl cy h0 u m0 v xI xA xL aw mI mA mL) H) (hD : va_D (fun q : Nat => s.heap.size ≤ q) (pq_wl cy h0 u m0 v xI xA xL aw mI mA mL)) (hS : va_S (fun q : Nat => s.heap.size ≤ q) s.heap H locs) (hl : lv_has ls 4 [(0, .ref b), (1, .ref h0), (2, .ref m0), (3, .int x3)]) : W p l e room_1 s m #[Value.ref b] below meth c H locs 109 13218 (lw_Z below #[Value.ref b] s) (F0 m 882 ls []) := by
  obtain ⟨hx, hb, hr, hml, hown, hts0, hX, hbl, hlocks, hgv⟩ := C0
  have hts := fun w h => hts0 w (wsL_law_in w h)
  have hown : s.vm.findClass RL = some m.cls := hown
  have hb : c.code = cL_law := hb
  have hA : ∀ q : Nat, s.heap.size ≤ q → (fun q : Nat => s.heap.size ≤ q) q := fun _ h => h
  have hbA : ¬ (fun q : Nat => s.heap.size ≤ q) b := Nat.not_le.mpr hbl
  have hAb : ∀ q, (fun q : Nat => s.heap.size ≤ q) q → s.heap.size ≤ q := fun _ h => h
  have hbs : s.heap.size ≤ s.heap.size := Nat.le_refl _
  have hv1 : vp_in (x3 + 1) L := hvv 1 (by decide) (by decide)
  have hv2 : vp_in (x3 + 2) L := hvv 2 (by decide) (by decide)
  have hv3 : vp_in (x3 + 3) L := hvv 3 (by decide) (by decide)
  obtain ⟨zc, zm, hc, hm, hrr, hR⟩ := sim_decades hR (xs (x3 + 1).toNatClampNeg) (xs (x3 + 2).toNatClampNeg) (xs (x3 + 3).toNatClampNeg)
  refine lv_aload_n hx hb dL_law_882 rfl (lv_at hl 1 rfl) ?_
  refine lv_aload_n hx hb dL_law_883 rfl (lv_at hl 0 rfl) ?_
  refine lv_iload_n hx hb dL_law_884 rfl (lv_at hl 3 rfl) ?_
  refine lv_iconst (v := 1) hx hb dL_law_885 (by decide) ?_
  refine lv_iadd hx hb dL_law_886 ?_
  refine va_sld hx hb hX hbl hbA hS hv1 dL_law_887 ?_
  refine lv_aload_n hx hb dL_law_888 rfl (lv_at hl 0 rfl) ?_
  refine lv_iload_n hx hb dL_law_889 rfl (lv_at hl 3 rfl) ?_
  refine lv_iconst (v := 2) hx hb dL_law_890 (by decide) ?_
  refine lv_iadd hx hb dL_law_891 ?_
  refine va_sld hx hb hX hbl hbA hS hv2 dL_law_892 ?_
  refine lv_aload_n hx hb dL_law_893 rfl (lv_at hl 0 rfl) ?_
  refine lv_iload_n hx hb dL_law_894 rfl (lv_at hl 3 rfl) ?_
  refine lv_iconst (v := 3) hx hb dL_law_895 (by decide) ?_
  refine lv_iadd hx hb dL_law_896 ?_
  refine va_sld hx hb hX hbl hbA hS hv3 dL_law_897 ?_
  refine pq_dVi (As := [.int (xs (x3 + 1).toNatClampNeg), .int (xs (x3 + 2).toNatClampNeg), .int (xs (x3 + 3).toNatClampNeg)]) (rest := []) (b := h0) (C := RX7) (ws1 := pq_wl cy h0 u m0 v (va_up (va_up (va_up (va_up (va_up xI 15 zc.2.1) 16 zc.2.2.1) 17 zc.2.2.2.1) 18 zc.2.2.2.2.1) 19 zc.2.2.2.2.2.1) (va_up (va_up (va_up (va_up (va_up (va_up (va_up (va_up (va_up xA 27 zc.2.2.2.2.2.2.1) 28 zc.2.2.2.2.2.2.2.1) 29 zc.2.2.2.2.2.2.2.2.1) 30 zc.2.2.2.2.2.2.2.2.2.1) 31 zc.2.2.2.2.2.2.2.2.2.2.1) 32 zc.2.2.2.2.2.2.2.2.2.2.2.1) 33 zc.2.2.2.2.2.2.2.2.2.2.2.2.1) 34 zc.2.2.2.2.2.2.2.2.2.2.2.2.2.1) 35 zc.2.2.2.2.2.2.2.2.2.2.2.2.2.2) xL aw mI mA mL) (wr := (pq_pick [1, 2, 3, 4, 5, 6, 7, 8, 9, 10, 11, 12, 13, 14, 15, 16, 17, 18, 19, 20, 21, 22, 23, 24, 25, 26, 27, 28, 29, 30, 31, 32, 33, 34, 35, 36, 37, 38, 39, 40, 41, 42, 43, 44, 45, 46, 47, 68, 69, 70, 71, 72, 73, 74, 75, 76, 77, 78, 79, 80, 81, 82, 83, 84, 85, 86, 87, 88, 89, 90, 91, 92, 93, 94, 95, 96, 97, 98, 99, 100, 101, 102, 103, 104, 105, 106, 107, 108] (pq_wl cy h0 u m0 v xI xA xL aw mI mA mL))) ⟨hx, hb, hml, hown, hts⟩ (c_X7_decades l D cy pq_N h0 (u 0) (u 14) (u 15) (xI 10) (xI 11) (xI 12) (xI 13) (xI 14) (xA 18) (xA 19) (xA 20) (xA 21) (xA 22) (xA 23) (xA 24) (xA 25) (xA 26) (xI 15) (xI 16) (xI 17) (xI 18) (xI 19) (xA 27) (xA 28) (xA 29) (xA 30) (xA 31) (xA 32) (xA 33) (xA 34) (xA 35) (xs (x3 + 1).toNatClampNeg) (xs (x3 + 2).toNatClampNeg) (xs (x3 + 3).toNatClampNeg) zc hc) (cwV 3 hts gL_law_X7_decades rfl rfl rfl (by decide +kernel) ⟨Nat.le_of_ble_eq_true rfl, Nat.le_of_ble_eq_true rfl⟩) hK hP hD hS hA 0 7 rfl rfl [0, 48, 49, 50, 51, 52, 53, 54, 55, 56, 57, 58, 59, 60, 61, 62, 63, 64, 65, 66, 67] [1, 2, 3, 4, 5, 6, 7, 8, 9, 10, 11, 12, 13, 14, 15, 16, 17, 18, 19, 20, 21, 22, 23, 24, 25, 26, 27, 28, 29, 30, 31, 32, 33, 34, 35, 36, 37, 38, 39, 40, 41, 42, 43, 44, 45, 46, 47, 68, 69, 70, 71, 72, 73, 74, 75, 76, 77, 78, 79, 80, 81, 82, 83, 84, 85, 86, 87, 88, 89, 90, 91, 92, 93, 94, 95, 96, 97, 98, 99, 100, 101, 102, 103, 104, 105, 106, 107, 108] [88, 0, 1, 2, 3, 4, 5, 6, 7, 8, 9, 10, 11, 12, 13, 14, 15, 16, 17, 18, 19, 20, 21, 22, 23, 24, 25, 26, 27, 28, 29, 30, 31, 32, 33, 34, 35, 36, 37, 38, 39, 40, 41, 42, 43, 44, 45, 46, 89, 90, 91, 92, 93, 94, 95, 96, 97, 98, 99, 100, 101, 102, 103, 104, 105, 106, 107, 108, 47, 48, 49, 50, 51, 52, 53, 54, 55, 56, 57, 58, 59, 60, 61, 62, 63, 64, 65, 66, 67, 68, 69, 70, 71, 72, 73, 74, 75, 76, 77, 78, 79, 80, 81, 82, 83, 84, 85, 86, 87] rfl rfl rfl rfl (by decide) rfl rfl rfl hl.1 rfl (Nat.le_of_ble_eq_true rfl) ⟨Nat.le_of_ble_eq_true rfl, Nat.le_of_ble_eq_true rfl⟩ dL_law_898 (fun H locs hP hD hS => ?_)
  refine lv_aload_n hx hb dL_law_901 rfl (lv_at hl 2 rfl) ?_
  refine lv_aload_n hx hb dL_law_902 rfl (lv_at hl 0 rfl) ?_
  refine lv_iload_n hx hb dL_law_903 rfl (lv_at hl 3 rfl) ?_
  refine lv_iconst (v := 1) hx hb dL_law_904 (by decide) ?_
  refine lv_iadd hx hb dL_law_905 ?_
  refine va_sld hx hb hX hbl hbA hS hv1 dL_law_906 ?_
  refine lv_aload_n hx hb dL_law_907 rfl (lv_at hl 0 rfl) ?_
  refine lv_iload_n hx hb dL_law_908 rfl (lv_at hl 3 rfl) ?_
  refine lv_iconst (v := 2) hx hb dL_law_909 (by decide) ?_
  refine lv_iadd hx hb dL_law_910 ?_
  refine va_sld hx hb hX hbl hbA hS hv2 dL_law_911 ?_
  refine lv_aload_n hx hb dL_law_912 rfl (lv_at hl 0 rfl) ?_
  refine lv_iload_n hx hb dL_law_913 rfl (lv_at hl 3 rfl) ?_
  refine lv_iconst (v := 3) hx hb dL_law_914 (by decide) ?_
  refine lv_iadd hx hb dL_law_915 ?_
  refine va_sld hx hb hX hbl hbA hS hv3 dL_law_916 ?_
  refine pq_dVi (As := [.int (xs (x3 + 1).toNatClampNeg), .int (xs (x3 + 2).toNatClampNeg), .int (xs (x3 + 3).toNatClampNeg)]) (rest := [.int zc.1]) (b := m0) (C := RX8) (ws1 := pq_wl cy h0 u m0 v (va_up (va_up (va_up (va_up (va_up xI 15 zc.2.1) 16 zc.2.2.1) 17 zc.2.2.2.1) 18 zc.2.2.2.2.1) 19 zc.2.2.2.2.2.1) (va_up (va_up (va_up (va_up (va_up (va_up (va_up (va_up (va_up xA 27 zc.2.2.2.2.2.2.1) 28 zc.2.2.2.2.2.2.2.1) 29 zc.2.2.2.2.2.2.2.2.1) 30 zc.2.2.2.2.2.2.2.2.2.1) 31 zc.2.2.2.2.2.2.2.2.2.2.1) 32 zc.2.2.2.2.2.2.2.2.2.2.2.1) 33 zc.2.2.2.2.2.2.2.2.2.2.2.2.1) 34 zc.2.2.2.2.2.2.2.2.2.2.2.2.2.1) 35 zc.2.2.2.2.2.2.2.2.2.2.2.2.2.2) xL aw mI (va_up mA 8 zm.2) mL) (wr := (pq_pick [0, 1, 2, 3, 4, 5, 6, 7, 8, 9, 10, 11, 12, 13, 14, 15, 16, 17, 18, 19, 20, 21, 22, 23, 24, 25, 26, 27, 28, 29, 30, 31, 32, 33, 34, 35, 36, 37, 38, 39, 40, 41, 42, 43, 44, 45, 46, 47, 48, 49, 50, 51, 52, 53, 54, 55, 56, 57, 58, 59, 60, 61, 62, 63, 64, 65, 66, 67, 85, 86, 87, 88, 89, 90, 91, 92, 93, 94, 95, 96, 97, 98, 99, 100, 101, 102, 103, 104, 105, 106, 107, 108] (pq_wl cy h0 u m0 v (va_up (va_up (va_up (va_up (va_up xI 15 zc.2.1) 16 zc.2.2.1) 17 zc.2.2.2.1) 18 zc.2.2.2.2.1) 19 zc.2.2.2.2.2.1) (va_up (va_up (va_up (va_up (va_up (va_up (va_up (va_up (va_up xA 27 zc.2.2.2.2.2.2.1) 28 zc.2.2.2.2.2.2.2.1) 29 zc.2.2.2.2.2.2.2.2.1) 30 zc.2.2.2.2.2.2.2.2.2.1) 31 zc.2.2.2.2.2.2.2.2.2.2.1) 32 zc.2.2.2.2.2.2.2.2.2.2.2.1) 33 zc.2.2.2.2.2.2.2.2.2.2.2.2.1) 34 zc.2.2.2.2.2.2.2.2.2.2.2.2.2.1) 35 zc.2.2.2.2.2.2.2.2.2.2.2.2.2.2) xL aw mI mA mL))) ⟨hx, hb, hml, hown, hts⟩ (c_X8_decades l D cy pq_N m0 v (mI 3) (mI 5) (mI 12) (mI 16) (mI 18) (mI 19) (mA 0) (mA 1) mL (mA 4) (mA 6) (mA 7) (mA 8) (mA 9) (mA 10) (mA 11) (mA 13) (mA 14) (mA 15) (mA 17) (mA 20) (mA 21) (xs (x3 + 1).toNatClampNeg) (xs (x3 + 2).toNatClampNeg) (xs (x3 + 3).toNatClampNeg) zm hm) (cwV 3 hts gL_law_X8_decades rfl rfl rfl (by decide +kernel) ⟨Nat.le_of_ble_eq_true rfl, Nat.le_of_ble_eq_true rfl⟩) hK hP hD hS hA 0 8 rfl rfl [68, 69, 70, 71, 72, 73, 74, 75, 76, 77, 78, 79, 80, 81, 82, 83, 84] [0, 1, 2, 3, 4, 5, 6, 7, 8, 9, 10, 11, 12, 13, 14, 15, 16, 17, 18, 19, 20, 21, 22, 23, 24, 25, 26, 27, 28, 29, 30, 31, 32, 33, 34, 35, 36, 37, 38, 39, 40, 41, 42, 43, 44, 45, 46, 47, 48, 49, 50, 51, 52, 53, 54, 55, 56, 57, 58, 59, 60, 61, 62, 63, 64, 65, 66, 67, 85, 86, 87, 88, 89, 90, 91, 92, 93, 94, 95, 96, 97, 98, 99, 100, 101, 102, 103, 104, 105, 106, 107, 108] [0, 1, 2, 3, 4, 5, 6, 7, 8, 9, 10, 11, 12, 13, 14, 15, 16, 17, 18, 19, 20, 21, 22, 23, 24, 25, 26, 27, 28, 29, 30, 31, 32, 33, 34, 35, 36, 37, 38, 39, 40, 41, 42, 43, 44, 45, 46, 47, 48, 49, 50, 51, 52, 53, 54, 55, 56, 57, 58, 59, 60, 61, 62, 63, 64, 65, 66, 67, 92, 93, 94, 95, 96, 97, 98, 99, 100, 101, 102, 103, 104, 105, 106, 107, 108, 68, 69, 70, 71, 72, 73, 74, 75, 76, 77, 78, 79, 80, 81, 82, 83, 84, 85, 86, 87, 88, 89, 90, 91] rfl rfl rfl rfl (by decide) rfl rfl rfl hl.1 rfl (Nat.le_of_ble_eq_true rfl) ⟨Nat.le_of_ble_eq_true rfl, Nat.le_of_ble_eq_true rfl⟩ dL_law_917 (fun H locs hP hD hS => ?_)
  refine lv_icmp_eq (tgt := 1364) hx hb dL_law_920 (by decide) (fun _ => ?_) (fun h => absurd hrr h)
  exact hend u (va_up (va_up (va_up (va_up (va_up xI 15 zc.2.1) 16 zc.2.2.1) 17 zc.2.2.2.1) 18 zc.2.2.2.2.1) 19 zc.2.2.2.2.2.1) (va_up (va_up (va_up (va_up (va_up (va_up (va_up (va_up (va_up xA 27 zc.2.2.2.2.2.2.1) 28 zc.2.2.2.2.2.2.2.1) 29 zc.2.2.2.2.2.2.2.2.1) 30 zc.2.2.2.2.2.2.2.2.2.1) 31 zc.2.2.2.2.2.2.2.2.2.2.1) 32 zc.2.2.2.2.2.2.2.2.2.2.2.1) 33 zc.2.2.2.2.2.2.2.2.2.2.2.2.1) 34 zc.2.2.2.2.2.2.2.2.2.2.2.2.2.1) 35 zc.2.2.2.2.2.2.2.2.2.2.2.2.2.2) xL aw mI (va_up mA 8 zm.2) mL hR _ _ _ hP hD hS hl

set_option maxHeartbeats 8000000 in
set_option maxRecDepth 100000 in
theorem pq_case_sheet {p : Program} {l : Launch} {e : Env} {s : State} {m : MethodId} {below : List Frame} {meth : Method} {c : Code} {D : va_G} {cy : Nat → ClassId} {b L : Nat} {xs : Nat → Int32} {tS h0 m0 : Nat} {v : Nat → Nat} {x3 : Int32} (C0 : lw_At p s m meth c b L xs) (hK : va_K D vwCl (pq_tys cy) s) (hT : pq_St s.heap.size tS s s.heap) (hend : pq_End p l e s m below meth c D cy b h0 m0 v x3) (hvv : ∀ k : Nat, 0 < k → k < 7 → vp_in (x3 + nI k) L) (u : Nat → Nat → Nat) (xI : Nat → Int32) (xA : Nat → Nat → Int32) (xL : Nat → Nat → Int64) (aw : Nat → Nat → Int32) (mI : Nat → Int32) (mA : Nat → Nat → Int32) (mL : Nat → Int64) (hR : pq_R xI xA xL aw mI mA mL) (H : Heap) (locs : List Loc) (ls : Array Slot) (hP : va_P D vwCl (pq_wl cy h0 u m0 v xI xA xL aw mI mA mL) H) (hD : va_D (fun q : Nat => s.heap.size ≤ q) (pq_wl cy h0 u m0 v xI xA xL aw mI mA mL)) (hS : va_S (fun q : Nat => s.heap.size ≤ q) s.heap H locs) (hl : lv_has ls 4 [(0, .ref b), (1, .ref h0), (2, .ref m0), (3, .int x3)]) : W p l e room_1 s m #[Value.ref b] below meth c H locs 109 13218 (lw_Z below #[Value.ref b] s) (F0 m 925 ls []) := by
  obtain ⟨hx, hb, hr, hml, hown, hts0, hX, hbl, hlocks, hgv⟩ := C0
  have hts := fun w h => hts0 w (wsL_law_in w h)
  have hown : s.vm.findClass RL = some m.cls := hown
  have hb : c.code = cL_law := hb
  have hA : ∀ q : Nat, s.heap.size ≤ q → (fun q : Nat => s.heap.size ≤ q) q := fun _ h => h
  have hbA : ¬ (fun q : Nat => s.heap.size ≤ q) b := Nat.not_le.mpr hbl
  have hAb : ∀ q, (fun q : Nat => s.heap.size ≤ q) q → s.heap.size ≤ q := fun _ h => h
  have hbs : s.heap.size ≤ s.heap.size := Nat.le_refl _
  have hv1 : vp_in (x3 + 1) L := hvv 1 (by decide) (by decide)
  have hv2 : vp_in (x3 + 2) L := hvv 2 (by decide) (by decide)
  have hv3 : vp_in (x3 + 3) L := hvv 3 (by decide) (by decide)
  obtain ⟨zc, zm, hc, hm, hrr, hR⟩ := sim_sheet hR (xs (x3 + 1).toNatClampNeg) (xs (x3 + 2).toNatClampNeg) (xs (x3 + 3).toNatClampNeg)
  refine lv_aload_n hx hb dL_law_925 rfl (lv_at hl 1 rfl) ?_
  refine lv_aload_n hx hb dL_law_926 rfl (lv_at hl 0 rfl) ?_
  refine lv_iload_n hx hb dL_law_927 rfl (lv_at hl 3 rfl) ?_
  refine lv_iconst (v := 1) hx hb dL_law_928 (by decide) ?_
  refine lv_iadd hx hb dL_law_929 ?_
  refine va_sld hx hb hX hbl hbA hS hv1 dL_law_930 ?_
  refine lv_aload_n hx hb dL_law_931 rfl (lv_at hl 0 rfl) ?_
  refine lv_iload_n hx hb dL_law_932 rfl (lv_at hl 3 rfl) ?_
  refine lv_iconst (v := 2) hx hb dL_law_933 (by decide) ?_
  refine lv_iadd hx hb dL_law_934 ?_
  refine va_sld hx hb hX hbl hbA hS hv2 dL_law_935 ?_
  refine lv_aload_n hx hb dL_law_936 rfl (lv_at hl 0 rfl) ?_
  refine lv_iload_n hx hb dL_law_937 rfl (lv_at hl 3 rfl) ?_
  refine lv_iconst (v := 3) hx hb dL_law_938 (by decide) ?_
  refine lv_iadd hx hb dL_law_939 ?_
  refine va_sld hx hb hX hbl hbA hS hv3 dL_law_940 ?_
  refine pq_dVi (As := [.int (xs (x3 + 1).toNatClampNeg), .int (xs (x3 + 2).toNatClampNeg), .int (xs (x3 + 3).toNatClampNeg)]) (rest := []) (b := h0) (C := RX7) (ws1 := pq_wl cy h0 u m0 v (va_up (va_up (va_up (va_up (va_up (va_up (va_up (va_up (va_up (va_up (va_up (va_up xI 25 zc.2.1) 26 zc.2.2.1) 27 zc.2.2.2.1) 28 zc.2.2.2.2.2.1) 29 zc.2.2.2.2.2.2.1) 30 zc.2.2.2.2.2.2.2.1) 31 zc.2.2.2.2.2.2.2.2.2.1) 32 zc.2.2.2.2.2.2.2.2.2.2.1) 33 zc.2.2.2.2.2.2.2.2.2.2.2.1) 34 zc.2.2.2.2.2.2.2.2.2.2.2.2.2.1) 35 zc.2.2.2.2.2.2.2.2.2.2.2.2.2.2.1) 36 zc.2.2.2.2.2.2.2.2.2.2.2.2.2.2.2.1) xA (va_up (va_up (va_up (va_up xL 0 zc.2.2.2.2.1) 1 zc.2.2.2.2.2.2.2.2.1) 2 zc.2.2.2.2.2.2.2.2.2.2.2.2.1) 3 zc.2.2.2.2.2.2.2.2.2.2.2.2.2.2.2.2) aw mI mA mL) (wr := (pq_pick [1, 2, 3, 4, 5, 6, 7, 8, 9, 10, 11, 12, 13, 14, 15, 16, 17, 18, 19, 20, 21, 22, 23, 24, 25, 26, 27, 28, 29, 30, 31, 32, 33, 34, 35, 36, 37, 38, 48, 49, 50, 51, 52, 53, 54, 55, 56, 57, 58, 59, 60, 61, 62, 63, 64, 65, 66, 67, 68, 69, 70, 71, 72, 73, 74, 75, 76, 77, 78, 79, 80, 81, 82, 83, 84, 85, 86, 87, 88, 89, 90, 91, 92, 93, 94, 95, 96, 97, 98, 99, 100, 101, 102, 103, 104, 105, 106, 107, 108] (pq_wl cy h0 u m0 v xI xA xL aw mI mA mL))) ⟨hx, hb, hml, hown, hts⟩ (c_X7_sheet l D cy pq_N h0 (u 0) (u 9) (u 10) (u 11) (u 12) (u 13) (xI 25) (xI 26) (xI 27) (xL 0) (xI 28) (xI 29) (xI 30) (xL 1) (xI 31) (xI 32) (xI 33) (xL 2) (xI 34) (xI 35) (xI 36) (xL 3) (xs (x3 + 1).toNatClampNeg) (xs (x3 + 2).toNatClampNeg) (xs (x3 + 3).toNatClampNeg) zc hc) (cwV 3 hts gL_law_X7_sheet rfl rfl rfl (by decide +kernel) ⟨Nat.le_of_ble_eq_true rfl, Nat.le_of_ble_eq_true rfl⟩) hK hP hD hS hA 0 7 rfl rfl [0, 39, 40, 41, 42, 43, 44, 45, 46, 47] [1, 2, 3, 4, 5, 6, 7, 8, 9, 10, 11, 12, 13, 14, 15, 16, 17, 18, 19, 20, 21, 22, 23, 24, 25, 26, 27, 28, 29, 30, 31, 32, 33, 34, 35, 36, 37, 38, 48, 49, 50, 51, 52, 53, 54, 55, 56, 57, 58, 59, 60, 61, 62, 63, 64, 65, 66, 67, 68, 69, 70, 71, 72, 73, 74, 75, 76, 77, 78, 79, 80, 81, 82, 83, 84, 85, 86, 87, 88, 89, 90, 91, 92, 93, 94, 95, 96, 97, 98, 99, 100, 101, 102, 103, 104, 105, 106, 107, 108] [99, 0, 1, 2, 3, 4, 5, 6, 7, 8, 9, 10, 11, 12, 13, 14, 15, 16, 17, 18, 19, 20, 21, 22, 23, 24, 25, 26, 27, 28, 29, 30, 31, 32, 33, 34, 35, 36, 37, 100, 101, 102, 103, 104, 105, 106, 107, 108, 38, 39, 40, 41, 42, 43, 44, 45, 46, 47, 48, 49, 50, 51, 52, 53, 54, 55, 56, 57, 58, 59, 60, 61, 62, 63, 64, 65, 66, 67, 68, 69, 70, 71, 72, 73, 74, 75, 76, 77, 78, 79, 80, 81, 82, 83, 84, 85, 86, 87, 88, 89, 90, 91, 92, 93, 94, 95, 96, 97, 98] rfl rfl rfl rfl (by decide) rfl rfl rfl hl.1 rfl (Nat.le_of_ble_eq_true rfl) ⟨Nat.le_of_ble_eq_true rfl, Nat.le_of_ble_eq_true rfl⟩ dL_law_941 (fun H locs hP hD hS => ?_)
  refine lv_aload_n hx hb dL_law_944 rfl (lv_at hl 2 rfl) ?_
  refine lv_aload_n hx hb dL_law_945 rfl (lv_at hl 0 rfl) ?_
  refine lv_iload_n hx hb dL_law_946 rfl (lv_at hl 3 rfl) ?_
  refine lv_iconst (v := 1) hx hb dL_law_947 (by decide) ?_
  refine lv_iadd hx hb dL_law_948 ?_
  refine va_sld hx hb hX hbl hbA hS hv1 dL_law_949 ?_
  refine lv_aload_n hx hb dL_law_950 rfl (lv_at hl 0 rfl) ?_
  refine lv_iload_n hx hb dL_law_951 rfl (lv_at hl 3 rfl) ?_
  refine lv_iconst (v := 2) hx hb dL_law_952 (by decide) ?_
  refine lv_iadd hx hb dL_law_953 ?_
  refine va_sld hx hb hX hbl hbA hS hv2 dL_law_954 ?_
  refine lv_aload_n hx hb dL_law_955 rfl (lv_at hl 0 rfl) ?_
  refine lv_iload_n hx hb dL_law_956 rfl (lv_at hl 3 rfl) ?_
  refine lv_iconst (v := 3) hx hb dL_law_957 (by decide) ?_
  refine lv_iadd hx hb dL_law_958 ?_
  refine va_sld hx hb hX hbl hbA hS hv3 dL_law_959 ?_
  refine pq_dVi (As := [.int (xs (x3 + 1).toNatClampNeg), .int (xs (x3 + 2).toNatClampNeg), .int (xs (x3 + 3).toNatClampNeg)]) (rest := [.int zc.1]) (b := m0) (C := RX8) (ws1 := pq_wl cy h0 u m0 v (va_up (va_up (va_up (va_up (va_up (va_up (va_up (va_up (va_up (va_up (va_up (va_up xI 25 zc.2.1) 26 zc.2.2.1) 27 zc.2.2.2.1) 28 zc.2.2.2.2.2.1) 29 zc.2.2.2.2.2.2.1) 30 zc.2.2.2.2.2.2.2.1) 31 zc.2.2.2.2.2.2.2.2.2.1) 32 zc.2.2.2.2.2.2.2.2.2.2.1) 33 zc.2.2.2.2.2.2.2.2.2.2.2.1) 34 zc.2.2.2.2.2.2.2.2.2.2.2.2.2.1) 35 zc.2.2.2.2.2.2.2.2.2.2.2.2.2.2.1) 36 zc.2.2.2.2.2.2.2.2.2.2.2.2.2.2.2.1) xA (va_up (va_up (va_up (va_up xL 0 zc.2.2.2.2.1) 1 zc.2.2.2.2.2.2.2.2.1) 2 zc.2.2.2.2.2.2.2.2.2.2.2.2.1) 3 zc.2.2.2.2.2.2.2.2.2.2.2.2.2.2.2.2) aw mI (va_up (va_up mA 0 zm.2.1) 1 zm.2.2.1) zm.2.2.2) (wr := (pq_pick [0, 1, 2, 3, 4, 5, 6, 7, 8, 9, 10, 11, 12, 13, 14, 15, 16, 17, 18, 19, 20, 21, 22, 23, 24, 25, 26, 27, 28, 29, 30, 31, 32, 33, 34, 35, 36, 37, 38, 39, 40, 41, 42, 43, 44, 45, 46, 47, 48, 49, 50, 51, 52, 53, 54, 55, 56, 57, 58, 59, 60, 61, 62, 63, 64, 65, 66, 67, 85, 86, 87, 88, 89, 90, 91, 92, 93, 94, 95, 96, 97, 98, 99, 100, 101, 102, 103, 104, 105, 106, 107, 108] (pq_wl cy h0 u m0 v (va_up (va_up (va_up (va_up (va_up (va_up (va_up (va_up (va_up (va_up (va_up (va_up xI 25 zc.2.1) 26 zc.2.2.1) 27 zc.2.2.2.1) 28 zc.2.2.2.2.2.1) 29 zc.2.2.2.2.2.2.1) 30 zc.2.2.2.2.2.2.2.1) 31 zc.2.2.2.2.2.2.2.2.2.1) 32 zc.2.2.2.2.2.2.2.2.2.2.1) 33 zc.2.2.2.2.2.2.2.2.2.2.2.1) 34 zc.2.2.2.2.2.2.2.2.2.2.2.2.2.1) 35 zc.2.2.2.2.2.2.2.2.2.2.2.2.2.2.1) 36 zc.2.2.2.2.2.2.2.2.2.2.2.2.2.2.2.1) xA (va_up (va_up (va_up (va_up xL 0 zc.2.2.2.2.1) 1 zc.2.2.2.2.2.2.2.2.1) 2 zc.2.2.2.2.2.2.2.2.2.2.2.2.1) 3 zc.2.2.2.2.2.2.2.2.2.2.2.2.2.2.2.2) aw mI mA mL))) ⟨hx, hb, hml, hown, hts⟩ (c_X8_sheet l D cy pq_N m0 v (mI 3) (mI 5) (mI 12) (mI 16) (mI 18) (mI 19) (mA 0) (mA 1) mL (mA 4) (mA 6) (mA 7) (mA 8) (mA 9) (mA 10) (mA 11) (mA 13) (mA 14) (mA 15) (mA 17) (mA 20) (mA 21) (xs (x3 + 1).toNatClampNeg) (xs (x3 + 2).toNatClampNeg) (xs (x3 + 3).toNatClampNeg) zm hm) (cwV 3 hts gL_law_X8_sheet rfl rfl rfl (by decide +kernel) ⟨Nat.le_of_ble_eq_true rfl, Nat.le_of_ble_eq_true rfl⟩) hK hP hD hS hA 0 8 rfl rfl [68, 69, 70, 71, 72, 73, 74, 75, 76, 77, 78, 79, 80, 81, 82, 83, 84] [0, 1, 2, 3, 4, 5, 6, 7, 8, 9, 10, 11, 12, 13, 14, 15, 16, 17, 18, 19, 20, 21, 22, 23, 24, 25, 26, 27, 28, 29, 30, 31, 32, 33, 34, 35, 36, 37, 38, 39, 40, 41, 42, 43, 44, 45, 46, 47, 48, 49, 50, 51, 52, 53, 54, 55, 56, 57, 58, 59, 60, 61, 62, 63, 64, 65, 66, 67, 85, 86, 87, 88, 89, 90, 91, 92, 93, 94, 95, 96, 97, 98, 99, 100, 101, 102, 103, 104, 105, 106, 107, 108] [0, 1, 2, 3, 4, 5, 6, 7, 8, 9, 10, 11, 12, 13, 14, 15, 16, 17, 18, 19, 20, 21, 22, 23, 24, 25, 26, 27, 28, 29, 30, 31, 32, 33, 34, 35, 36, 37, 38, 39, 40, 41, 42, 43, 44, 45, 46, 47, 48, 49, 50, 51, 52, 53, 54, 55, 56, 57, 58, 59, 60, 61, 62, 63, 64, 65, 66, 67, 92, 93, 94, 95, 96, 97, 98, 99, 100, 101, 102, 103, 104, 105, 106, 107, 108, 68, 69, 70, 71, 72, 73, 74, 75, 76, 77, 78, 79, 80, 81, 82, 83, 84, 85, 86, 87, 88, 89, 90, 91] rfl rfl rfl rfl (by decide) rfl rfl rfl hl.1 rfl (Nat.le_of_ble_eq_true rfl) ⟨Nat.le_of_ble_eq_true rfl, Nat.le_of_ble_eq_true rfl⟩ dL_law_960 (fun H locs hP hD hS => ?_)
  refine lv_icmp_eq (tgt := 1364) hx hb dL_law_963 (by decide) (fun _ => ?_) (fun h => absurd hrr h)
  exact hend u (va_up (va_up (va_up (va_up (va_up (va_up (va_up (va_up (va_up (va_up (va_up (va_up xI 25 zc.2.1) 26 zc.2.2.1) 27 zc.2.2.2.1) 28 zc.2.2.2.2.2.1) 29 zc.2.2.2.2.2.2.1) 30 zc.2.2.2.2.2.2.2.1) 31 zc.2.2.2.2.2.2.2.2.2.1) 32 zc.2.2.2.2.2.2.2.2.2.2.1) 33 zc.2.2.2.2.2.2.2.2.2.2.2.1) 34 zc.2.2.2.2.2.2.2.2.2.2.2.2.2.1) 35 zc.2.2.2.2.2.2.2.2.2.2.2.2.2.2.1) 36 zc.2.2.2.2.2.2.2.2.2.2.2.2.2.2.2.1) xA (va_up (va_up (va_up (va_up xL 0 zc.2.2.2.2.1) 1 zc.2.2.2.2.2.2.2.2.1) 2 zc.2.2.2.2.2.2.2.2.2.2.2.2.1) 3 zc.2.2.2.2.2.2.2.2.2.2.2.2.2.2.2.2) aw mI (va_up (va_up mA 0 zm.2.1) 1 zm.2.2.1) zm.2.2.2 hR _ _ _ hP hD hS hl

set_option maxHeartbeats 8000000 in
set_option maxRecDepth 100000 in
theorem pq_case_drop {p : Program} {l : Launch} {e : Env} {s : State} {m : MethodId} {below : List Frame} {meth : Method} {c : Code} {D : va_G} {cy : Nat → ClassId} {b L : Nat} {xs : Nat → Int32} {tS h0 m0 : Nat} {v : Nat → Nat} {x3 : Int32} (C0 : lw_At p s m meth c b L xs) (hK : va_K D vwCl (pq_tys cy) s) (hT : pq_St s.heap.size tS s s.heap) (hend : pq_End p l e s m below meth c D cy b h0 m0 v x3) (hvv : ∀ k : Nat, 0 < k → k < 7 → vp_in (x3 + nI k) L) (u : Nat → Nat → Nat) (xI : Nat → Int32) (xA : Nat → Nat → Int32) (xL : Nat → Nat → Int64) (aw : Nat → Nat → Int32) (mI : Nat → Int32) (mA : Nat → Nat → Int32) (mL : Nat → Int64) (hR : pq_R xI xA xL aw mI mA mL) (H : Heap) (locs : List Loc) (ls : Array Slot) (hP : va_P D vwCl (pq_wl cy h0 u m0 v xI xA xL aw mI mA mL) H) (hD : va_D (fun q : Nat => s.heap.size ≤ q) (pq_wl cy h0 u m0 v xI xA xL aw mI mA mL)) (hS : va_S (fun q : Nat => s.heap.size ≤ q) s.heap H locs) (hl : lv_has ls 4 [(0, .ref b), (1, .ref h0), (2, .ref m0), (3, .int x3)]) : W p l e room_1 s m #[Value.ref b] below meth c H locs 109 13218 (lw_Z below #[Value.ref b] s) (F0 m 968 ls []) := by
  obtain ⟨hx, hb, hr, hml, hown, hts0, hX, hbl, hlocks, hgv⟩ := C0
  have hts := fun w h => hts0 w (wsL_law_in w h)
  have hown : s.vm.findClass RL = some m.cls := hown
  have hb : c.code = cL_law := hb
  have hA : ∀ q : Nat, s.heap.size ≤ q → (fun q : Nat => s.heap.size ≤ q) q := fun _ h => h
  have hbA : ¬ (fun q : Nat => s.heap.size ≤ q) b := Nat.not_le.mpr hbl
  have hAb : ∀ q, (fun q : Nat => s.heap.size ≤ q) q → s.heap.size ≤ q := fun _ h => h
  have hbs : s.heap.size ≤ s.heap.size := Nat.le_refl _
  have hv1 : vp_in (x3 + 1) L := hvv 1 (by decide) (by decide)
  obtain ⟨zc, zm, hc, hm, hrr, hR⟩ := sim_drop hR (xs (x3 + 1).toNatClampNeg)
  refine lv_aload_n hx hb dL_law_968 rfl (lv_at hl 1 rfl) ?_
  refine lv_aload_n hx hb dL_law_969 rfl (lv_at hl 0 rfl) ?_
  refine lv_iload_n hx hb dL_law_970 rfl (lv_at hl 3 rfl) ?_
  refine lv_iconst (v := 1) hx hb dL_law_971 (by decide) ?_
  refine lv_iadd hx hb dL_law_972 ?_
  refine va_sld hx hb hX hbl hbA hS hv1 dL_law_973 ?_
  refine pq_dVi (As := [.int (xs (x3 + 1).toNatClampNeg)]) (rest := []) (b := h0) (C := RX7) (ws1 := pq_wl cy h0 u m0 v (va_up (va_up (va_up (va_up xI 25 zc.2.1) 28 zc.2.2.1) 31 zc.2.2.2.1) 34 zc.2.2.2.2) xA xL aw mI mA mL) (wr := (pq_pick [1, 2, 3, 4, 5, 6, 7, 8, 9, 10, 11, 12, 13, 14, 15, 16, 17, 18, 19, 20, 21, 22, 23, 24, 25, 26, 27, 28, 29, 30, 31, 32, 33, 34, 35, 36, 37, 38, 48, 49, 50, 51, 52, 53, 54, 55, 56, 57, 58, 59, 60, 61, 62, 63, 64, 65, 66, 67, 68, 69, 70, 71, 72, 73, 74, 75, 76, 77, 78, 79, 80, 81, 82, 83, 84, 85, 86, 87, 88, 89, 90, 91, 92, 93, 94, 95, 96, 97, 98, 99, 100, 101, 102, 103, 104, 105, 106, 107, 108] (pq_wl cy h0 u m0 v xI xA xL aw mI mA mL))) ⟨hx, hb, hml, hown, hts⟩ (c_X7_drop l D cy pq_N h0 (u 0) (u 9) (u 10) (u 11) (u 12) (u 13) (xI 25) (xI 26) (xI 27) (xL 0) (xI 28) (xI 29) (xI 30) (xL 1) (xI 31) (xI 32) (xI 33) (xL 2) (xI 34) (xI 35) (xI 36) (xL 3) (xs (x3 + 1).toNatClampNeg) zc hc) (cwV 1 hts gL_law_X7_drop rfl rfl rfl (by decide +kernel) ⟨Nat.le_of_ble_eq_true rfl, Nat.le_of_ble_eq_true rfl⟩) hK hP hD hS hA 0 7 rfl rfl [0, 39, 40, 41, 42, 43, 44, 45, 46, 47] [1, 2, 3, 4, 5, 6, 7, 8, 9, 10, 11, 12, 13, 14, 15, 16, 17, 18, 19, 20, 21, 22, 23, 24, 25, 26, 27, 28, 29, 30, 31, 32, 33, 34, 35, 36, 37, 38, 48, 49, 50, 51, 52, 53, 54, 55, 56, 57, 58, 59, 60, 61, 62, 63, 64, 65, 66, 67, 68, 69, 70, 71, 72, 73, 74, 75, 76, 77, 78, 79, 80, 81, 82, 83, 84, 85, 86, 87, 88, 89, 90, 91, 92, 93, 94, 95, 96, 97, 98, 99, 100, 101, 102, 103, 104, 105, 106, 107, 108] [99, 0, 1, 2, 3, 4, 5, 6, 7, 8, 9, 10, 11, 12, 13, 14, 15, 16, 17, 18, 19, 20, 21, 22, 23, 24, 25, 26, 27, 28, 29, 30, 31, 32, 33, 34, 35, 36, 37, 100, 101, 102, 103, 104, 105, 106, 107, 108, 38, 39, 40, 41, 42, 43, 44, 45, 46, 47, 48, 49, 50, 51, 52, 53, 54, 55, 56, 57, 58, 59, 60, 61, 62, 63, 64, 65, 66, 67, 68, 69, 70, 71, 72, 73, 74, 75, 76, 77, 78, 79, 80, 81, 82, 83, 84, 85, 86, 87, 88, 89, 90, 91, 92, 93, 94, 95, 96, 97, 98] rfl rfl rfl rfl (by decide) rfl rfl rfl hl.1 rfl (Nat.le_of_ble_eq_true rfl) ⟨Nat.le_of_ble_eq_true rfl, Nat.le_of_ble_eq_true rfl⟩ dL_law_974 (fun H locs hP hD hS => ?_)
  refine lv_aload_n hx hb dL_law_977 rfl (lv_at hl 2 rfl) ?_
  refine lv_aload_n hx hb dL_law_978 rfl (lv_at hl 0 rfl) ?_
  refine lv_iload_n hx hb dL_law_979 rfl (lv_at hl 3 rfl) ?_
  refine lv_iconst (v := 1) hx hb dL_law_980 (by decide) ?_
  refine lv_iadd hx hb dL_law_981 ?_
  refine va_sld hx hb hX hbl hbA hS hv1 dL_law_982 ?_
  refine pq_dVi (As := [.int (xs (x3 + 1).toNatClampNeg)]) (rest := [.int zc.1]) (b := m0) (C := RX8) (ws1 := pq_wl cy h0 u m0 v (va_up (va_up (va_up (va_up xI 25 zc.2.1) 28 zc.2.2.1) 31 zc.2.2.2.1) 34 zc.2.2.2.2) xA xL aw mI (va_up mA 0 zm.2) mL) (wr := (pq_pick [0, 1, 2, 3, 4, 5, 6, 7, 8, 9, 10, 11, 12, 13, 14, 15, 16, 17, 18, 19, 20, 21, 22, 23, 24, 25, 26, 27, 28, 29, 30, 31, 32, 33, 34, 35, 36, 37, 38, 39, 40, 41, 42, 43, 44, 45, 46, 47, 48, 49, 50, 51, 52, 53, 54, 55, 56, 57, 58, 59, 60, 61, 62, 63, 64, 65, 66, 67, 85, 86, 87, 88, 89, 90, 91, 92, 93, 94, 95, 96, 97, 98, 99, 100, 101, 102, 103, 104, 105, 106, 107, 108] (pq_wl cy h0 u m0 v (va_up (va_up (va_up (va_up xI 25 zc.2.1) 28 zc.2.2.1) 31 zc.2.2.2.1) 34 zc.2.2.2.2) xA xL aw mI mA mL))) ⟨hx, hb, hml, hown, hts⟩ (c_X8_drop l D cy pq_N m0 v (mI 3) (mI 5) (mI 12) (mI 16) (mI 18) (mI 19) (mA 0) (mA 1) mL (mA 4) (mA 6) (mA 7) (mA 8) (mA 9) (mA 10) (mA 11) (mA 13) (mA 14) (mA 15) (mA 17) (mA 20) (mA 21) (xs (x3 + 1).toNatClampNeg) zm hm) (cwV 1 hts gL_law_X8_drop rfl rfl rfl (by decide +kernel) ⟨Nat.le_of_ble_eq_true rfl, Nat.le_of_ble_eq_true rfl⟩) hK hP hD hS hA 0 8 rfl rfl [68, 69, 70, 71, 72, 73, 74, 75, 76, 77, 78, 79, 80, 81, 82, 83, 84] [0, 1, 2, 3, 4, 5, 6, 7, 8, 9, 10, 11, 12, 13, 14, 15, 16, 17, 18, 19, 20, 21, 22, 23, 24, 25, 26, 27, 28, 29, 30, 31, 32, 33, 34, 35, 36, 37, 38, 39, 40, 41, 42, 43, 44, 45, 46, 47, 48, 49, 50, 51, 52, 53, 54, 55, 56, 57, 58, 59, 60, 61, 62, 63, 64, 65, 66, 67, 85, 86, 87, 88, 89, 90, 91, 92, 93, 94, 95, 96, 97, 98, 99, 100, 101, 102, 103, 104, 105, 106, 107, 108] [0, 1, 2, 3, 4, 5, 6, 7, 8, 9, 10, 11, 12, 13, 14, 15, 16, 17, 18, 19, 20, 21, 22, 23, 24, 25, 26, 27, 28, 29, 30, 31, 32, 33, 34, 35, 36, 37, 38, 39, 40, 41, 42, 43, 44, 45, 46, 47, 48, 49, 50, 51, 52, 53, 54, 55, 56, 57, 58, 59, 60, 61, 62, 63, 64, 65, 66, 67, 92, 93, 94, 95, 96, 97, 98, 99, 100, 101, 102, 103, 104, 105, 106, 107, 108, 68, 69, 70, 71, 72, 73, 74, 75, 76, 77, 78, 79, 80, 81, 82, 83, 84, 85, 86, 87, 88, 89, 90, 91] rfl rfl rfl rfl (by decide) rfl rfl rfl hl.1 rfl (Nat.le_of_ble_eq_true rfl) ⟨Nat.le_of_ble_eq_true rfl, Nat.le_of_ble_eq_true rfl⟩ dL_law_983 (fun H locs hP hD hS => ?_)
  refine lv_icmp_eq (tgt := 1364) hx hb dL_law_986 (by decide) (fun _ => ?_) (fun h => absurd hrr h)
  exact hend u (va_up (va_up (va_up (va_up xI 25 zc.2.1) 28 zc.2.2.1) 31 zc.2.2.2.1) 34 zc.2.2.2.2) xA xL aw mI (va_up mA 0 zm.2) mL hR _ _ _ hP hD hS hl
