abbrev rm_J6_bitCount_0f7a4 : Room := { frames := 0, cells := 0, slots := 0, locals := 0 }
set_option maxHeartbeats 4000000 in
set_option maxRecDepth 100000 in
theorem c_J6_bitCount_0f7a4 (l : Launch) (D : va_G) (cy : Nat → ClassId) (N : Nat) (p0 : Int32) (z : Int32) (hf : f_J6_bitCount_0f7a4 N p0 = some z) : pq_MI l yJ6_bitCount_0f7a4 wsJ6_bitCount_0f7a4 rm_J6_bitCount_0f7a4 D cy [.int p0] [] [] (z) := by
  intro sz
  refine pq_ent (Qf := fun A => pq_Qi D cy A [] (z)) (cc := cJ6_bitCount_0f7a4) (maxL := 1) (ret := (some .int)) (by decide) rfl (Nat.le_of_ble_eq_true rfl) ?_
  intro p e s m args below meth c A ls Q hQ X hK hP hD hA hS hl
  obtain ⟨hx, hb, hr, hts, hown, hlocks, hml⟩ := X
  have hl : lv_has ls 1 [(0, .int p0)] := hl
  unfold f_J6_bitCount_0f7a4 at hf
  have k0 := hts (.constant RJ6 265 (1431655765)) (by decide +kernel)
  have k1 := hts (.constant RJ6 266 (858993459)) (by decide +kernel)
  have k2 := hts (.constant RJ6 267 (252645135)) (by decide +kernel)
  refine lv_iload_n hx hb dJ6_bitCount_0f7a4_0 rfl (lv_at hl 0 rfl) ?_
  refine lv_iload_n hx hb dJ6_bitCount_0f7a4_1 rfl (lv_at hl 0 rfl) ?_
  refine lv_iconst (v := 1) hx hb dJ6_bitCount_0f7a4_2 (by decide) ?_
  refine lv_iushr (v := (p0.toUInt32 >>> ((1 : Int32).toUInt32 &&& Int32.toUInt32 31)).toInt32) hx hb dJ6_bitCount_0f7a4_3 rfl ?_
  refine lv_ldcw hx hb hown k0 dJ6_bitCount_0f7a4_4 ?_
  refine lv_iand hx hb dJ6_bitCount_0f7a4_7 ?_
  refine lv_isub hx hb dJ6_bitCount_0f7a4_8 ?_
  refine pq_li hf (fun x0_1 hf => ?_)
  refine lv_istore_n (lv' := [(0, .int x0_1)]) hx hb dJ6_bitCount_0f7a4_9 rfl hl (by decide) rfl (fun ls hl => ?_)
  refine lv_iload_n hx hb dJ6_bitCount_0f7a4_10 rfl (lv_at hl 0 rfl) ?_
  refine lv_ldcw hx hb hown k1 dJ6_bitCount_0f7a4_11 ?_
  refine lv_iand hx hb dJ6_bitCount_0f7a4_14 ?_
  refine lv_iload_n hx hb dJ6_bitCount_0f7a4_15 rfl (lv_at hl 0 rfl) ?_
  refine lv_iconst (v := 2) hx hb dJ6_bitCount_0f7a4_16 (by decide) ?_
  refine lv_iushr (v := (x0_1.toUInt32 >>> ((2 : Int32).toUInt32 &&& Int32.toUInt32 31)).toInt32) hx hb dJ6_bitCount_0f7a4_17 rfl ?_
  refine lv_ldcw hx hb hown k1 dJ6_bitCount_0f7a4_18 ?_
  refine lv_iand hx hb dJ6_bitCount_0f7a4_21 ?_
  refine lv_iadd hx hb dJ6_bitCount_0f7a4_22 ?_
  refine pq_li hf (fun x0_2 hf => ?_)
  refine lv_istore_n (lv' := [(0, .int x0_2)]) hx hb dJ6_bitCount_0f7a4_23 rfl hl (by decide) rfl (fun ls hl => ?_)
  refine lv_iload_n hx hb dJ6_bitCount_0f7a4_24 rfl (lv_at hl 0 rfl) ?_
  refine lv_iload_n hx hb dJ6_bitCount_0f7a4_25 rfl (lv_at hl 0 rfl) ?_
  refine lv_iconst (v := 4) hx hb dJ6_bitCount_0f7a4_26 (by decide) ?_
  refine lv_iushr (v := (x0_2.toUInt32 >>> ((4 : Int32).toUInt32 &&& Int32.toUInt32 31)).toInt32) hx hb dJ6_bitCount_0f7a4_27 rfl ?_
  refine lv_iadd hx hb dJ6_bitCount_0f7a4_28 ?_
  refine lv_ldcw hx hb hown k2 dJ6_bitCount_0f7a4_29 ?_
  refine lv_iand hx hb dJ6_bitCount_0f7a4_32 ?_
  refine pq_li hf (fun x0_3 hf => ?_)
  refine lv_istore_n (lv' := [(0, .int x0_3)]) hx hb dJ6_bitCount_0f7a4_33 rfl hl (by decide) rfl (fun ls hl => ?_)
  refine lv_iload_n hx hb dJ6_bitCount_0f7a4_34 rfl (lv_at hl 0 rfl) ?_
  refine lv_iload_n hx hb dJ6_bitCount_0f7a4_35 rfl (lv_at hl 0 rfl) ?_
  refine lv_bipush (v := 8) hx hb dJ6_bitCount_0f7a4_36 (by decide) ?_
  refine lv_iushr (v := (x0_3.toUInt32 >>> ((8 : Int32).toUInt32 &&& Int32.toUInt32 31)).toInt32) hx hb dJ6_bitCount_0f7a4_38 rfl ?_
  refine lv_iadd hx hb dJ6_bitCount_0f7a4_39 ?_
  refine pq_li hf (fun x0_4 hf => ?_)
  refine lv_istore_n (lv' := [(0, .int x0_4)]) hx hb dJ6_bitCount_0f7a4_40 rfl hl (by decide) rfl (fun ls hl => ?_)
  refine lv_iload_n hx hb dJ6_bitCount_0f7a4_41 rfl (lv_at hl 0 rfl) ?_
  refine lv_iload_n hx hb dJ6_bitCount_0f7a4_42 rfl (lv_at hl 0 rfl) ?_
  refine lv_bipush (v := 16) hx hb dJ6_bitCount_0f7a4_43 (by decide) ?_
  refine lv_iushr (v := (x0_4.toUInt32 >>> ((16 : Int32).toUInt32 &&& Int32.toUInt32 31)).toInt32) hx hb dJ6_bitCount_0f7a4_45 rfl ?_
  refine lv_iadd hx hb dJ6_bitCount_0f7a4_46 ?_
  refine pq_li hf (fun x0_5 hf => ?_)
  refine lv_istore_n (lv' := [(0, .int x0_5)]) hx hb dJ6_bitCount_0f7a4_47 rfl hl (by decide) rfl (fun ls hl => ?_)
  refine lv_iload_n hx hb dJ6_bitCount_0f7a4_48 rfl (lv_at hl 0 rfl) ?_
  refine lv_bipush (v := 63) hx hb dJ6_bitCount_0f7a4_49 (by decide) ?_
  refine lv_iand hx hb dJ6_bitCount_0f7a4_51 ?_
  rw [hQ]
  exact pq_iret hx hb hr hlocks hK hP hD hS hf (fun z => z) (fun z => []) rfl rfl dJ6_bitCount_0f7a4_52

abbrev rm_J7_fill_d0a16 : Room := { frames := 0, cells := 0, slots := 0, locals := 0 }
set_option maxHeartbeats 4000000 in
set_option maxRecDepth 100000 in
theorem c_J7_fill_d0a16 (l : Launch) (D : va_G) (cy : Nat → ClassId) (N : Nat) (h0 : Nat) (n0 : Nat) (ar_0 : Nat → Int64) (p1 : Int64) (z : (Nat → Int64)) (hf : f_J7_fill_d0a16 N n0 ar_0 p1 = some z) : pq_MV l yJ7_fill_d0a16 wsJ7_fill_d0a16 rm_J7_fill_d0a16 D cy [.ref h0, .long p1] [cJ cy h0 n0 ar_0] [cJ cy h0 n0 z] := by
  intro sz
  refine pq_ent (Qf := fun A => pq_Qv D cy A [cJ cy h0 n0 z]) (cc := cJ7_fill_d0a16) (maxL := 5) (ret := none) (by decide) rfl (Nat.le_of_ble_eq_true rfl) ?_
  intro p e s m args below meth c A ls Q hQ X hK hP hD hA hS hl
  obtain ⟨hx, hb, hr, hts, hown, hlocks, hml⟩ := X
  have hl : lv_has ls 5 [(0, .ref h0), (1, .long p1)] := hl
  unfold f_J7_fill_d0a16 at hf
  refine lv_iconst (v := 0) hx hb dJ7_fill_d0a16_0 (by decide) ?_
  refine lv_istore_n (lv' := [(3, .int 0), (0, .ref h0), (1, .long p1)]) hx hb dJ7_fill_d0a16_1 rfl hl (by decide) rfl (fun ls hl => ?_)
  refine lv_aload_n hx hb dJ7_fill_d0a16_2 rfl (lv_at hl 1 rfl) ?_
  refine va_alen (v := Int32.ofNat n0) hx hb hK hP 0 1 rfl rfl rfl dJ7_fill_d0a16_3 ?_
  refine pq_li hf (fun x4_1 hf => ?_)
  refine lv_istore (lv' := [(4, .int x4_1), (3, .int 0), (0, .ref h0), (1, .long p1)]) hx hb dJ7_fill_d0a16_4 hl (by decide) rfl (fun ls hl => ?_)
  have hL6 : ∀ (n : Nat) (x3_L6 : Int32) (ar_0_L6 : Nat → Int64) (H : Heap) (locs : List Loc) (ls : Array Slot), pq_w (fun _ _ => none) (f_J7_fill_d0a16_L6 N n0 p1 x4_1) n x3_L6 ar_0_L6 = some z → va_P D vwCl [cJ cy h0 n0 ar_0_L6] H → va_D A [cJ cy h0 n0 ar_0_L6] → va_S A s.heap H locs → lv_has ls 5 [(0, .ref h0), (1, .long p1), (3, .int x3_L6), (4, .int x4_1)] → W p l e rm_J7_fill_d0a16 s m args below meth c H locs 0 0 Q (F0 m 6 ls []) := by
    intro n
    induction n with
    | zero =>
      intro x3_L6 ar_0_L6 H locs ls hf
      exact absurd (show none = some z from hf) (fun h => nomatch h)
    | succ n ihL6 =>
      intro x3_L6 ar_0_L6 H locs ls hf hP hD hS hl
      have hf : (f_J7_fill_d0a16_L6 N n0 p1 x4_1) (pq_w (fun _ _ => none) (f_J7_fill_d0a16_L6 N n0 p1 x4_1) n) x3_L6 ar_0_L6 = some z := hf
      generalize pq_w (fun _ _ => none) (f_J7_fill_d0a16_L6 N n0 p1 x4_1) n = kL6 at hf ihL6
      unfold f_J7_fill_d0a16_L6 at hf
      refine lv_iload_n hx hb dJ7_fill_d0a16_6 rfl (lv_at hl 2 rfl) ?_
      refine lv_iload hx hb dJ7_fill_d0a16_7 (lv_at hl 3 rfl) ?_
      refine pq_icmp_ge hx hb 22 hf dJ7_fill_d0a16_9 (by decide) (fun _ hf => ?_) (fun _ hf => ?_)
      · rw [hQ]
        exact pq_vret hx hb hr hlocks hK hP hD hS hf (fun z => [cJ cy h0 n0 z]) rfl dJ7_fill_d0a16_22
      · refine lv_aload_n hx hb dJ7_fill_d0a16_12 rfl (lv_at hl 0 rfl) ?_
        refine lv_iload_n hx hb dJ7_fill_d0a16_13 rfl (lv_at hl 2 rfl) ?_
        refine lv_lload_n hx hb dJ7_fill_d0a16_14 rfl (lv_at hl 1 rfl) ?_
        refine pq_last (ws1 := fun g => [cJ cy h0 n0 g]) hx hb hK hP hD hS 0 1 rfl rfl (fun _ => rfl) hf dJ7_fill_d0a16_15 (fun ar_0_2 H locs hf hP hD hS => ?_)
        refine pq_iinc (v := x3_L6 + 1) (lv1 := fun y => [(3, .int y), (0, .ref h0), (1, .long p1), (4, .int x4_1)]) hx hb hf dJ7_fill_d0a16_16 hl (kp := 2) rfl rfl (by decide) (fun _ => rfl) (fun x3_3 ls hf hl => ?_)
        refine lv_goto (tgt := 6) hx hb dJ7_fill_d0a16_19 (by decide) ?_
        exact ihL6 x3_3 ar_0_2 _ _ _ hf hP hD hS (lv_sub hl [1, 2, 0, 3] rfl)
  exact hL6 N 0 ar_0 _ _ _ hf hP hD hS (lv_sub hl [2, 3, 1, 0] rfl)

abbrev rm_J7_fill_53178 : Room := { frames := 0, cells := 0, slots := 0, locals := 0 }
set_option maxHeartbeats 4000000 in
set_option maxRecDepth 100000 in
theorem c_J7_fill_53178 (l : Launch) (D : va_G) (cy : Nat → ClassId) (N : Nat) (h0 : Nat) (n0 : Nat) (ar_0 : Nat → Int32) (p1 : Int32) (z : (Nat → Int32)) (hf : f_J7_fill_53178 N n0 ar_0 p1 = some z) : pq_MV l yJ7_fill_53178 wsJ7_fill_53178 rm_J7_fill_53178 D cy [.ref h0, .int p1] [cI cy h0 n0 ar_0] [cI cy h0 n0 z] := by
  intro sz
  refine pq_ent (Qf := fun A => pq_Qv D cy A [cI cy h0 n0 z]) (cc := cJ7_fill_53178) (maxL := 4) (ret := none) (by decide) rfl (Nat.le_of_ble_eq_true rfl) ?_
  intro p e s m args below meth c A ls Q hQ X hK hP hD hA hS hl
  obtain ⟨hx, hb, hr, hts, hown, hlocks, hml⟩ := X
  have hl : lv_has ls 4 [(0, .ref h0), (1, .int p1)] := hl
  unfold f_J7_fill_53178 at hf
  refine lv_iconst (v := 0) hx hb dJ7_fill_53178_0 (by decide) ?_
  refine lv_istore_n (lv' := [(2, .int 0), (0, .ref h0), (1, .int p1)]) hx hb dJ7_fill_53178_1 rfl hl (by decide) rfl (fun ls hl => ?_)
  refine lv_aload_n hx hb dJ7_fill_53178_2 rfl (lv_at hl 1 rfl) ?_
  refine va_alen (v := Int32.ofNat n0) hx hb hK hP 0 0 rfl rfl rfl dJ7_fill_53178_3 ?_
  refine pq_li hf (fun x3_1 hf => ?_)
  refine lv_istore_n (lv' := [(3, .int x3_1), (2, .int 0), (0, .ref h0), (1, .int p1)]) hx hb dJ7_fill_53178_4 rfl hl (by decide) rfl (fun ls hl => ?_)
  have hL5 : ∀ (n : Nat) (x2_L5 : Int32) (ar_0_L5 : Nat → Int32) (H : Heap) (locs : List Loc) (ls : Array Slot), pq_w (fun _ _ => none) (f_J7_fill_53178_L5 N n0 p1 x3_1) n x2_L5 ar_0_L5 = some z → va_P D vwCl [cI cy h0 n0 ar_0_L5] H → va_D A [cI cy h0 n0 ar_0_L5] → va_S A s.heap H locs → lv_has ls 4 [(0, .ref h0), (1, .int p1), (2, .int x2_L5), (3, .int x3_1)] → W p l e rm_J7_fill_53178 s m args below meth c H locs 0 0 Q (F0 m 5 ls []) := by
    intro n
    induction n with
    | zero =>
      intro x2_L5 ar_0_L5 H locs ls hf
      exact absurd (show none = some z from hf) (fun h => nomatch h)
    | succ n ihL5 =>
      intro x2_L5 ar_0_L5 H locs ls hf hP hD hS hl
      have hf : (f_J7_fill_53178_L5 N n0 p1 x3_1) (pq_w (fun _ _ => none) (f_J7_fill_53178_L5 N n0 p1 x3_1) n) x2_L5 ar_0_L5 = some z := hf
      generalize pq_w (fun _ _ => none) (f_J7_fill_53178_L5 N n0 p1 x3_1) n = kL5 at hf ihL5
      unfold f_J7_fill_53178_L5 at hf
      refine lv_iload_n hx hb dJ7_fill_53178_5 rfl (lv_at hl 2 rfl) ?_
      refine lv_iload_n hx hb dJ7_fill_53178_6 rfl (lv_at hl 3 rfl) ?_
      refine pq_icmp_ge hx hb 20 hf dJ7_fill_53178_7 (by decide) (fun _ hf => ?_) (fun _ hf => ?_)
      · rw [hQ]
        exact pq_vret hx hb hr hlocks hK hP hD hS hf (fun z => [cI cy h0 n0 z]) rfl dJ7_fill_53178_20
      · refine lv_aload_n hx hb dJ7_fill_53178_10 rfl (lv_at hl 0 rfl) ?_
        refine lv_iload_n hx hb dJ7_fill_53178_11 rfl (lv_at hl 2 rfl) ?_
        refine lv_iload_n hx hb dJ7_fill_53178_12 rfl (lv_at hl 1 rfl) ?_
        refine pq_iast (ws1 := fun g => [cI cy h0 n0 g]) hx hb hK hP hD hS 0 0 rfl rfl (fun _ => rfl) hf dJ7_fill_53178_13 (fun ar_0_2 H locs hf hP hD hS => ?_)
        refine pq_iinc (v := x2_L5 + 1) (lv1 := fun y => [(2, .int y), (0, .ref h0), (1, .int p1), (3, .int x3_1)]) hx hb hf dJ7_fill_53178_14 hl (kp := 2) rfl rfl (by decide) (fun _ => rfl) (fun x2_3 ls hf hl => ?_)
        refine lv_goto (tgt := 5) hx hb dJ7_fill_53178_17 (by decide) ?_
        exact ihL5 x2_3 ar_0_2 _ _ _ hf hP hD hS (lv_sub hl [1, 2, 0, 3] rfl)
  exact hL5 N 0 ar_0 _ _ _ hf hP hD hS (lv_sub hl [2, 3, 1, 0] rfl)
