set_option maxHeartbeats 8000000 in
set_option maxRecDepth 100000 in
theorem pq_law_loop {p : Program} {l : Launch} {e : Env} {s : State} {m : MethodId} {below : List Frame} {meth : Method} {c : Code} {D : va_G} {cy : Nat → ClassId} {b L : Nat} {xs : Nat → Int32} {tS h0 m0 : Nat} {v : Nat → Nat} (hL : L ≤ 3584) (C0 : lw_At p s m meth c b L xs) (hK : va_K D vwCl (pq_tys cy) s) (hT : pq_St s.heap.size tS s s.heap) : ∀ (n i : Nat) (x3 : Int32), i ≤ L → x3 = nI i → L + 1 ≤ i + n → ∀ (u : Nat → Nat → Nat) (xI : Nat → Int32) (xA : Nat → Nat → Int32) (xL : Nat → Nat → Int64) (aw : Nat → Nat → Int32) (mI : Nat → Int32) (mA : Nat → Nat → Int32) (mL : Nat → Int64), pq_R xI xA xL aw mI mA mL → ∀ (H : Heap) (locs : List Loc) (ls : Array Slot), va_P D vwCl (pq_wl cy h0 u m0 v xI xA xL aw mI mA mL) H → va_D (fun q : Nat => s.heap.size ≤ q) (pq_wl cy h0 u m0 v xI xA xL aw mI mA mL) → va_S (fun q : Nat => s.heap.size ≤ q) s.heap H locs → lv_has ls 4 [(0, .ref b), (1, .ref h0), (2, .ref m0), (3, .int x3)] → W p l e room_1 s m #[Value.ref b] below meth c H locs 109 13218 (lw_Z below #[Value.ref b] s) (F0 m 18 ls []) := by
  intro n
  induction n with
  | zero =>
    intro i x3 h1 h2 h3
    exact absurd h3 (by omega)
  | succ n ih =>
    intro i x3 hi ex hin u xI xA xL aw mI mA mL hR H locs ls hP hD hS hl
    have C1 := C0
    obtain ⟨hx, hb, hr, hml, hown, hts, hX, hbl, hlocks, hgv⟩ := C1
    have hb : c.code = cL_law := hb
    have hbA : ¬ (fun q : Nat => s.heap.size ≤ q) b := Nat.not_le.mpr hbl
    refine lv_iload_n hx hb dL_law_18 rfl (lv_at hl 3 rfl) ?_
    refine lv_aload_n hx hb dL_law_19 rfl (lv_at hl 0 rfl) ?_
    refine va_slen hx hb hX hbl hbA hS dL_law_20 ?_
    refine lv_bipush (v := 7) hx hb dL_law_21 (by decide) ?_
    refine lv_isub hx hb dL_law_23 ?_
    have eL : (Int32.ofNat L - 7).toInt = (L : Int) - 7 := pk_sub_toInt (a := L) (b := 7) (by omega) (by decide)
    have ei : x3.toInt = (i : Int) := by rw [ex]; exact nI_toInt (by omega)
    refine lv_icmp_gt (tgt := 1370) hx hb dL_law_24 (by decide) (fun c_10 => ?_) (fun c_10 => ?_)
    · refine lv_iconst (v := 1) hx hb dL_law_1370 (by decide) ?_
      refine va_forget (fun q hq => hS.2.2 q hq) ?_
      refine W.widen (k := 600000) (n := 7302250) (Nat.le_of_ble_eq_true rfl) (Nat.le_of_ble_eq_true rfl) ?_
      exact lw_ret hx hb hr hlocks dL_law_1371
    · have hlt : i + 7 ≤ L := by
        rw [Int32.lt_iff_toInt_lt, eL, ei] at c_10
        omega
      have hvv : ∀ k : Nat, 0 < k → k < 7 → vp_in (x3 + nI k) L := fun k h1 h2 => by
        rw [ex, nI_add]
        exact vp_in_nI (by omega) (by omega)
      have hv0 : vp_in x3 L := by
        rw [ex]
        exact vp_in_nI (by omega) (by omega)
      have hend : pq_End p l e s m below meth c D cy b h0 m0 v x3 := by
        intro u xI xA xL aw mI mA mL hR H locs ls hP hD hS hl
        obtain ⟨x4, ex4⟩ : ∃ y : Int32, y = x3 + 7 := ⟨_, rfl⟩
        refine lv_iinc (v := x4) (lv' := [(3, .int x4), (0, .ref b), (1, .ref h0), (2, .ref m0)]) hx hb dL_law_1364 hl (k := 3) rfl (by rw [ex4]; rfl) (by decide) rfl (fun ls hl => ?_)
        refine lv_goto (tgt := 18) hx hb dL_law_1367 (by decide) ?_
        exact ih (i + 7) x4 hlt (by rw [ex4, ex]; exact nI_add i 7) (by omega) u xI xA xL aw mI mA mL hR _ _ _ hP hD hS (lv_sub hl [1, 2, 3, 0] rfl)
      refine lv_aload_n hx hb dL_law_27 rfl (lv_at hl 0 rfl) ?_
      refine lv_iload_n hx hb dL_law_28 rfl (lv_at hl 3 rfl) ?_
      refine va_sld hx hb hX hbl hbA hS hv0 dL_law_29 ?_
      refine lv_bipush (v := 63) hx hb dL_law_30 (by decide) ?_
      refine lv_iand hx hb dL_law_32 ?_
      refine lv_topi (fun sw _ => ?_)
      rcases Classical.em (sw = 0) with c0 | c0
      · rw [c0]
        refine lv_tableIn (tgt := 180) hx hb dL_law_33 (by decide) (by decide) rfl (by decide) ?_
        exact pq_case_feed C0 hK hT hend hvv u xI xA xL aw mI mA mL hR _ _ _ hP hD hS hl
      rcases Classical.em (sw = 1) with c1 | c1
      · rw [c1]
        refine lv_tableIn (tgt := 203) hx hb dL_law_33 (by decide) (by decide) rfl (by decide) ?_
        exact pq_case_circuit C0 hK hT hend hvv u xI xA xL aw mI mA mL hR _ _ _ hP hD hS hl
      rcases Classical.em (sw = 2) with c2 | c2
      · rw [c2]
        refine lv_tableIn (tgt := 216) hx hb dL_law_33 (by decide) (by decide) rfl (by decide) ?_
        exact pq_case_party C0 hK hT hend hvv u xI xA xL aw mI mA mL hR _ _ _ hP hD hS hl
      rcases Classical.em (sw = 3) with c3 | c3
      · rw [c3]
        refine lv_tableIn (tgt := 249) hx hb dL_law_33 (by decide) (by decide) rfl (by decide) ?_
        exact pq_case_as C0 hK hT hend hvv u xI xA xL aw mI mA mL hR _ _ _ hP hD hS hl
      rcases Classical.em (sw = 4) with c4 | c4
      · rw [c4]
        refine lv_tableIn (tgt := 282) hx hb dL_law_33 (by decide) (by decide) rfl (by decide) ?_
        exact pq_case_judge C0 hK hT hend hvv u xI xA xL aw mI mA mL hR _ _ _ hP hD hS hl
      rcases Classical.em (sw = 5) with c5 | c5
      · rw [c5]
        refine lv_tableIn (tgt := 315) hx hb dL_law_33 (by decide) (by decide) rfl (by decide) ?_
        exact pq_case_trial C0 hK hT hend hvv u xI xA xL aw mI mA mL hR _ _ _ hP hD hS hl
      rcases Classical.em (sw = 6) with c6 | c6
      · rw [c6]
        refine lv_tableIn (tgt := 348) hx hb dL_law_33 (by decide) (by decide) rfl (by decide) ?_
        exact pq_case_finds C0 hK hT hend hvv u xI xA xL aw mI mA mL hR _ _ _ hP hD hS hl
      rcases Classical.em (sw = 7) with c7 | c7
      · rw [c7]
        refine lv_tableIn (tgt := 381) hx hb dL_law_33 (by decide) (by decide) rfl (by decide) ?_
        exact pq_case_names C0 hK hT hend hvv u xI xA xL aw mI mA mL hR _ _ _ hP hD hS hl
      rcases Classical.em (sw = 8) with c8 | c8
      · rw [c8]
        refine lv_tableIn (tgt := 414) hx hb dL_law_33 (by decide) (by decide) rfl (by decide) ?_
        exact pq_case_hear C0 hK hT hend hvv u xI xA xL aw mI mA mL hR _ _ _ hP hD hS hl
      rcases Classical.em (sw = 9) with c9 | c9
      · rw [c9]
        refine lv_tableIn (tgt := 437) hx hb dL_law_33 (by decide) (by decide) rfl (by decide) ?_
        exact pq_case_swap C0 hK hT hend hvv u xI xA xL aw mI mA mL hR _ _ _ hP hD hS hl
      rcases Classical.em (sw = 10) with c10 | c10
      · rw [c10]
        refine lv_tableIn (tgt := 470) hx hb dL_law_33 (by decide) (by decide) rfl (by decide) ?_
        exact pq_case_soothe C0 hK hT hend hvv u xI xA xL aw mI mA mL hR _ _ _ hP hD hS hl
      rcases Classical.em (sw = 11) with c11 | c11
      · rw [c11]
        refine lv_tableIn (tgt := 493) hx hb dL_law_33 (by decide) (by decide) rfl (by decide) ?_
        exact pq_case_seat C0 hK hT hend hvv u xI xA xL aw mI mA mL hR _ _ _ hP hD hS hl
      rcases Classical.em (sw = 12) with c12 | c12
      · rw [c12]
        refine lv_tableIn (tgt := 516) hx hb dL_law_33 (by decide) (by decide) rfl (by decide) ?_
        exact pq_case_lean C0 hK hT hend hvv u xI xA xL aw mI mA mL hR _ _ _ hP hD hS hl
      rcases Classical.em (sw = 13) with c13 | c13
      · rw [c13]
        refine lv_tableIn (tgt := 549) hx hb dL_law_33 (by decide) (by decide) rfl (by decide) ?_
        exact pq_case_undo C0 hK hT hend hvv u xI xA xL aw mI mA mL hR _ _ _ hP hD hS hl
      rcases Classical.em (sw = 14) with c14 | c14
      · rw [c14]
        refine lv_tableIn (tgt := 562) hx hb dL_law_33 (by decide) (by decide) rfl (by decide) ?_
        exact pq_case_image C0 hK hT hend hvv u xI xA xL aw mI mA mL hR _ _ _ hP hD hS hl
      rcases Classical.em (sw = 15) with c15 | c15
      · rw [c15]
        refine lv_tableIn (tgt := 585) hx hb dL_law_33 (by decide) (by decide) rfl (by decide) ?_
        exact pq_case_restore C0 hK hT hend hvv u xI xA xL aw mI mA mL hR _ _ _ hP hD hS hl
      rcases Classical.em (sw = 16) with c16 | c16
      · rw [c16]
        refine lv_tableIn (tgt := 608) hx hb dL_law_33 (by decide) (by decide) rfl (by decide) ?_
        exact pq_case_ahead C0 hK hT hend hvv u xI xA xL aw mI mA mL hR _ _ _ hP hD hS hl
      rcases Classical.em (sw = 17) with c17 | c17
      · rw [c17]
        refine lv_tableIn (tgt := 641) hx hb dL_law_33 (by decide) (by decide) rfl (by decide) ?_
        exact pq_case_throwing C0 hK hT hend hvv u xI xA xL aw mI mA mL hR _ _ _ hP hD hS hl
      rcases Classical.em (sw = 18) with c18 | c18
      · rw [c18]
        refine lv_tableIn (tgt := 674) hx hb dL_law_33 (by decide) (by decide) rfl (by decide) ?_
        exact pq_case_worth C0 hK hT hend hvv u xI xA xL aw mI mA mL hR _ _ _ hP hD hS hl
      rcases Classical.em (sw = 19) with c19 | c19
      · rw [c19]
        refine lv_tableIn (tgt := 697) hx hb dL_law_33 (by decide) (by decide) rfl (by decide) ?_
        exact pq_case_duel C0 hK hT hend hvv u xI xA xL aw mI mA mL hR _ _ _ hP hD hS hl
      rcases Classical.em (sw = 20) with c20 | c20
      · rw [c20]
        refine lv_tableIn (tgt := 740) hx hb dL_law_33 (by decide) (by decide) rfl (by decide) ?_
        exact pq_case_order C0 hK hT hend hvv u xI xA xL aw mI mA mL hR _ _ _ hP hD hS hl
      rcases Classical.em (sw = 21) with c21 | c21
      · rw [c21]
        refine lv_tableIn (tgt := 773) hx hb dL_law_33 (by decide) (by decide) rfl (by decide) ?_
        exact pq_case_round C0 hK hT hend hvv u xI xA xL aw mI mA mL hR _ _ _ hP hD hS hl
      rcases Classical.em (sw = 22) with c22 | c22
      · rw [c22]
        refine lv_tableIn (tgt := 806) hx hb dL_law_33 (by decide) (by decide) rfl (by decide) ?_
        exact pq_case_bench C0 hK hT hend hvv u xI xA xL aw mI mA mL hR _ _ _ hP hD hS hl
      rcases Classical.em (sw = 23) with c23 | c23
      · rw [c23]
        refine lv_tableIn (tgt := 829) hx hb dL_law_33 (by decide) (by decide) rfl (by decide) ?_
        exact pq_case_errors C0 hK hT hend hvv u xI xA xL aw mI mA mL hR _ _ _ hP hD hS hl
      rcases Classical.em (sw = 24) with c24 | c24
      · rw [c24]
        refine lv_tableIn (tgt := 882) hx hb dL_law_33 (by decide) (by decide) rfl (by decide) ?_
        exact pq_case_decades C0 hK hT hend hvv u xI xA xL aw mI mA mL hR _ _ _ hP hD hS hl
      rcases Classical.em (sw = 25) with c25 | c25
      · rw [c25]
        refine lv_tableIn (tgt := 925) hx hb dL_law_33 (by decide) (by decide) rfl (by decide) ?_
        exact pq_case_sheet C0 hK hT hend hvv u xI xA xL aw mI mA mL hR _ _ _ hP hD hS hl
      rcases Classical.em (sw = 26) with c26 | c26
      · rw [c26]
        refine lv_tableIn (tgt := 968) hx hb dL_law_33 (by decide) (by decide) rfl (by decide) ?_
        exact pq_case_drop C0 hK hT hend hvv u xI xA xL aw mI mA mL hR _ _ _ hP hD hS hl
      rcases Classical.em (sw = 27) with c27 | c27
      · rw [c27]
        refine lv_tableIn (tgt := 991) hx hb dL_law_33 (by decide) (by decide) rfl (by decide) ?_
        exact pq_case_item C0 hK hT hend hvv u xI xA xL aw mI mA mL hR _ _ _ hP hD hS hl
      rcases Classical.em (sw = 28) with c28 | c28
      · rw [c28]
        refine lv_tableIn (tgt := 1075) hx hb dL_law_33 (by decide) (by decide) rfl (by decide) ?_
        exact pq_case_copy C0 hK hT hend hvv u xI xA xL aw mI mA mL hR _ _ _ hP hD hS hl
      rcases Classical.em (sw = 29) with c29 | c29
      · rw [c29]
        refine lv_tableIn (tgt := 1138) hx hb dL_law_33 (by decide) (by decide) rfl (by decide) ?_
        exact pq_case_log C0 hK hT hend hvv u xI xA xL aw mI mA mL hR _ _ _ hP hD hS hl
      rcases Classical.em (sw = 30) with c30 | c30
      · rw [c30]
        refine lv_tableIn (tgt := 1191) hx hb dL_law_33 (by decide) (by decide) rfl (by decide) ?_
        exact pq_case_leans C0 hK hT hend hvv u xI xA xL aw mI mA mL hR _ _ _ hP hD hS hl
      rcases Classical.em (sw = 31) with c31 | c31
      · rw [c31]
        refine lv_tableIn (tgt := 1266) hx hb dL_law_33 (by decide) (by decide) rfl (by decide) ?_
        exact pq_case_kinds C0 hK hT hend hvv u xI xA xL aw mI mA mL hR _ _ _ hP hD hS hl
      rcases Classical.em (sw = 32) with c32 | c32
      · rw [c32]
        refine lv_tableIn (tgt := 1341) hx hb dL_law_33 (by decide) (by decide) rfl (by decide) ?_
        exact pq_case_count C0 hK hT hend hvv u xI xA xL aw mI mA mL hR _ _ _ hP hD hS hl
      refine lv_tableOut (tgt := 1364) hx hb dL_law_33 (by have e0 := pq_ne c0 (show (0 : Int32).toInt = 0 from rfl); have e1 := pq_ne c1 (show (1 : Int32).toInt = 1 from rfl); have e2 := pq_ne c2 (show (2 : Int32).toInt = 2 from rfl); have e3 := pq_ne c3 (show (3 : Int32).toInt = 3 from rfl); have e4 := pq_ne c4 (show (4 : Int32).toInt = 4 from rfl); have e5 := pq_ne c5 (show (5 : Int32).toInt = 5 from rfl); have e6 := pq_ne c6 (show (6 : Int32).toInt = 6 from rfl); have e7 := pq_ne c7 (show (7 : Int32).toInt = 7 from rfl); have e8 := pq_ne c8 (show (8 : Int32).toInt = 8 from rfl); have e9 := pq_ne c9 (show (9 : Int32).toInt = 9 from rfl); have e10 := pq_ne c10 (show (10 : Int32).toInt = 10 from rfl); have e11 := pq_ne c11 (show (11 : Int32).toInt = 11 from rfl); have e12 := pq_ne c12 (show (12 : Int32).toInt = 12 from rfl); have e13 := pq_ne c13 (show (13 : Int32).toInt = 13 from rfl); have e14 := pq_ne c14 (show (14 : Int32).toInt = 14 from rfl); have e15 := pq_ne c15 (show (15 : Int32).toInt = 15 from rfl); have e16 := pq_ne c16 (show (16 : Int32).toInt = 16 from rfl); have e17 := pq_ne c17 (show (17 : Int32).toInt = 17 from rfl); have e18 := pq_ne c18 (show (18 : Int32).toInt = 18 from rfl); have e19 := pq_ne c19 (show (19 : Int32).toInt = 19 from rfl); have e20 := pq_ne c20 (show (20 : Int32).toInt = 20 from rfl); have e21 := pq_ne c21 (show (21 : Int32).toInt = 21 from rfl); have e22 := pq_ne c22 (show (22 : Int32).toInt = 22 from rfl); have e23 := pq_ne c23 (show (23 : Int32).toInt = 23 from rfl); have e24 := pq_ne c24 (show (24 : Int32).toInt = 24 from rfl); have e25 := pq_ne c25 (show (25 : Int32).toInt = 25 from rfl); have e26 := pq_ne c26 (show (26 : Int32).toInt = 26 from rfl); have e27 := pq_ne c27 (show (27 : Int32).toInt = 27 from rfl); have e28 := pq_ne c28 (show (28 : Int32).toInt = 28 from rfl); have e29 := pq_ne c29 (show (29 : Int32).toInt = 29 from rfl); have e30 := pq_ne c30 (show (30 : Int32).toInt = 30 from rfl); have e31 := pq_ne c31 (show (31 : Int32).toInt = 31 from rfl); have e32 := pq_ne c32 (show (32 : Int32).toInt = 32 from rfl); omega) (by decide) ?_
      exact hend u xI xA xL aw mI mA mL hR _ _ _ hP hD hS hl
