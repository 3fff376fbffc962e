abbrev rm_X4_begin : Room := { frames := 1, cells := 0, slots := 0, locals := 21 }
set_option maxHeartbeats 4000000 in
set_option maxRecDepth 100000 in
theorem c_X4_begin (l : Launch) (D : va_G) (cy : Nat → ClassId) (N : Nat) (h0 : Nat) (a0 : Nat → Nat) (b0_acts : Nat → Nat) (size_0 : Int32) (newest_0 : Int32) (acts_f_0 : Nat → Nat → Int32) (p1 : Int32) (p2 : Int32) (p3 : Int32) (z : Nat × Int32 × Int32 × (Nat → Nat → Int32)) (hf : f_X4_begin N size_0 newest_0 acts_f_0 p1 p2 p3 = some z) : pq_MR l yX4_begin wsX4_begin rm_X4_begin D cy [.ref h0, .int p1, .int p2, .int p3] ([cO h0 4 [.ref (a0 0), .int size_0, .int newest_0], cR cy 3 (a0 0) 24 (fun j => some (b0_acts j))] ++ pq_acts b0_acts acts_f_0) ([cO h0 4 [.ref (a0 0), .int z.2.1, .int z.2.2.1], cR cy 3 (a0 0) 24 (fun j => some (b0_acts j))] ++ pq_acts b0_acts z.2.2.2) (b0_acts z.1) := by
  intro sz
  refine pq_ent (Qf := fun A => pq_Qr D cy A ([cO h0 4 [.ref (a0 0), .int z.2.1, .int z.2.2.1], cR cy 3 (a0 0) 24 (fun j => some (b0_acts j))] ++ pq_acts b0_acts z.2.2.2) (b0_acts z.1)) (cc := cX4_begin) (maxL := 5) (ret := (some (.object "LoserPicks$Act"))) (by decide) rfl (Nat.le_of_ble_eq_true rfl) ?_
  intro p e s m args below meth c A ls Q hQ X hK hP hD hA hS hl
  obtain ⟨hx, hb, hr, hts, hown, hlocks, hml⟩ := X
  have hl : lv_has ls 5 [(0, .ref h0), (1, .int p1), (2, .int p2), (3, .int p3)] := hl
  unfold f_X4_begin at hf
  have hiX0 : ∀ w ∈ wsX00, w ∈ wsX4_begin := by decide +kernel
  have hiX4 : ∀ w ∈ wsX40, w ∈ wsX4_begin := by decide +kernel
  have k0 := hts (.fieldLink RX4 21 "LoserPicks$History" "newest" "I") (by decide +kernel)
  have k1 := hts (.fieldLink RX4 17 "LoserPicks$History" "size" "I") (by decide +kernel)
  have k2 := hts (.methodLink RX4 25 Lib.Math.min.name) (by decide +kernel)
  have k3 := hts (.static Lib.Math.min.name) (by decide +kernel)
  have k4 := hts (.initialized "java/lang/Math") (by decide +kernel)
  have k5 := hts (.code Lib.Math.min.name Lib.Math.min.code 2 (some .int)) (by decide +kernel)
  have k6 := hts (.fieldLink RX4 11 "LoserPicks$History" "acts" "[LLoserPicks$Act;") (by decide +kernel)
  have k7 := hts (.fieldLink RX4 31 "LoserPicks$Act" "what" "I") (by decide +kernel)
  have k8 := hts (.fieldLink RX4 34 "LoserPicks$Act" "one" "I") (by decide +kernel)
  have k9 := hts (.fieldLink RX4 37 "LoserPicks$Act" "other" "I") (by decide +kernel)
  refine lv_aload_n hx hb dX4_begin_0 rfl (lv_at hl 0 rfl) ?_
  refine lv_aload_n hx hb dX4_begin_1 rfl (lv_at hl 0 rfl) ?_
  refine pq_get (D := D) (ci := 4) (v := .int newest_0) (C := RX4) (T := TX4) (N := 3) hx hb hts hiX4 hown hK hP 0 rfl rfl 2 (by decide) k0 rfl rfl dX4_begin_2 ?_
  refine lv_iconst (v := 1) hx hb dX4_begin_5 (by decide) ?_
  refine lv_iadd hx hb dX4_begin_6 ?_
  refine lv_bipush (v := 24) hx hb dX4_begin_7 (by decide) ?_
  obtain ⟨kJ22, ekJ22, hf⟩ := pq_j_e hf
  have hJ22 : ∀ (y0_J22 : Int32) (H : Heap) (locs : List Loc) (ls : Array Slot), kJ22 y0_J22 = some z → va_P D vwCl ([cO h0 4 [.ref (a0 0), .int size_0, .int newest_0], cR cy 3 (a0 0) 24 (fun j => some (b0_acts j))] ++ pq_acts b0_acts acts_f_0) H → va_D A ([cO h0 4 [.ref (a0 0), .int size_0, .int newest_0], cR cy 3 (a0 0) 24 (fun j => some (b0_acts j))] ++ pq_acts b0_acts acts_f_0) → va_S A s.heap H locs → lv_has ls 5 [(0, .ref h0), (1, .int p1), (2, .int p2), (3, .int p3)] → W p l e rm_X4_begin s m args below meth c H locs 0 0 Q (F0 m 22 ls [.int y0_J22, .ref h0]) := by
    clear hf hP hD hS hl
    intro y0_J22 H locs ls hf hP hD hS hl
    rw [ekJ22] at hf
    refine pq_put (D := D) (ci := 4) (v := .int y0_J22) (C := RX4) (T := TX4) (N := 3) (ws1 := ([cO h0 4 [.ref (a0 0), .int size_0, .int y0_J22], cR cy 3 (a0 0) 24 (fun j => some (b0_acts j))] ++ pq_acts b0_acts acts_f_0)) hx hb hts hiX4 tyX4 tyX4_ok nmX4 hown hK hP hD hS 0 rfl rfl 2 (by decide) k0 rfl rfl .int (by decide +kernel) rfl rfl (Nat.le_of_ble_eq_true rfl) rfl dX4_begin_22 (fun H locs hP hD hS => ?_)
    refine lv_aload_n hx hb dX4_begin_25 rfl (lv_at hl 0 rfl) ?_
    refine lv_aload_n hx hb dX4_begin_26 rfl (lv_at hl 0 rfl) ?_
    refine pq_get (D := D) (ci := 4) (v := .int size_0) (C := RX4) (T := TX4) (N := 3) hx hb hts hiX4 hown hK hP 0 rfl rfl 1 (by decide) k1 rfl rfl dX4_begin_27 ?_
    refine lv_iconst (v := 1) hx hb dX4_begin_30 (by decide) ?_
    refine lv_iadd hx hb dX4_begin_31 ?_
    refine lv_bipush (v := 24) hx hb dX4_begin_32 (by decide) ?_
    refine va_mmin hx hb (hml.trans hl.1.symm) hown k2 k3 k4 k5 (Nat.le_of_ble_eq_true rfl) (Nat.le_of_ble_eq_true rfl) (Nat.zero_le _) (Nat.zero_le _) dX4_begin_34 ?_
    refine pq_li hf (fun f_1 hf => ?_)
    refine pq_put (D := D) (ci := 4) (v := .int f_1) (C := RX4) (T := TX4) (N := 3) (ws1 := ([cO h0 4 [.ref (a0 0), .int f_1, .int y0_J22], cR cy 3 (a0 0) 24 (fun j => some (b0_acts j))] ++ pq_acts b0_acts acts_f_0)) hx hb hts hiX4 tyX4 tyX4_ok nmX4 hown hK hP hD hS 0 rfl rfl 1 (by decide) k1 rfl rfl .int (by decide +kernel) rfl rfl (Nat.le_of_ble_eq_true rfl) rfl dX4_begin_37 (fun H locs hP hD hS => ?_)
    refine lv_aload_n hx hb dX4_begin_40 rfl (lv_at hl 0 rfl) ?_
    refine pq_get (D := D) (ci := 4) (v := .ref (a0 0)) (C := RX4) (T := TX4) (N := 3) hx hb hts hiX4 hown hK hP 0 rfl rfl 0 (by decide) k6 rfl rfl dX4_begin_41 ?_
    refine lv_aload_n hx hb dX4_begin_44 rfl (lv_at hl 0 rfl) ?_
    refine pq_get (D := D) (ci := 4) (v := .int y0_J22) (C := RX4) (T := TX4) (N := 3) hx hb hts hiX4 hown hK hP 0 rfl rfl 2 (by decide) k0 rfl rfl dX4_begin_45 ?_
    refine pq_aald hx hb hK hP 1 3 rfl rfl hf dX4_begin_48 (fun _ hf => ?_)
    refine lv_astore (lv' := [(4, .ref (b0_acts ((y0_J22 : Int32).toNatClampNeg))), (0, .ref h0), (1, .int p1), (2, .int p2), (3, .int p3)]) hx hb dX4_begin_49 hl (by decide) rfl (fun ls hl => ?_)
    refine lv_aload hx hb dX4_begin_51 (lv_at hl 0 rfl) ?_
    refine lv_iload_n hx hb dX4_begin_53 rfl (lv_at hl 2 rfl) ?_
    refine pq_putA hx hb hts hiX0 hown hK hP hD hS hf 0 (by decide) k7 rfl rfl dX4_begin_54 (fun acts_2 H locs hf hP hD hS => ?_)
    refine lv_aload hx hb dX4_begin_57 (lv_at hl 0 rfl) ?_
    refine lv_iload_n hx hb dX4_begin_59 rfl (lv_at hl 3 rfl) ?_
    refine pq_putA hx hb hts hiX0 hown hK hP hD hS hf 1 (by decide) k8 rfl rfl dX4_begin_60 (fun acts_3 H locs hf hP hD hS => ?_)
    refine lv_aload hx hb dX4_begin_63 (lv_at hl 0 rfl) ?_
    refine lv_iload_n hx hb dX4_begin_65 rfl (lv_at hl 4 rfl) ?_
    refine pq_putA hx hb hts hiX0 hown hK hP hD hS hf 2 (by decide) k9 rfl rfl dX4_begin_66 (fun acts_4 H locs hf hP hD hS => ?_)
    refine lv_aload hx hb dX4_begin_69 (lv_at hl 0 rfl) ?_
    rw [hQ]
    exact pq_aret hx hb hr hlocks hK hP hD hS hf (fun z => b0_acts z.1) (fun z => ([cO h0 4 [.ref (a0 0), .int z.2.1, .int z.2.2.1], cR cy 3 (a0 0) 24 (fun j => some (b0_acts j))] ++ pq_acts b0_acts z.2.2.2)) rfl rfl dX4_begin_71
  clear ekJ22
  refine pq_icmp_ge hx hb 21 hf dX4_begin_9 (by decide) (fun _ hf => ?_) (fun _ hf => ?_)
  · refine lv_iconst (v := 0) hx hb dX4_begin_21 (by decide) ?_
    exact hJ22 0 _ _ _ hf hP hD hS (lv_sub hl [0, 1, 2, 3] rfl)
  · refine lv_aload_n hx hb dX4_begin_12 rfl (lv_at hl 0 rfl) ?_
    refine pq_get (D := D) (ci := 4) (v := .int newest_0) (C := RX4) (T := TX4) (N := 3) hx hb hts hiX4 hown hK hP 0 rfl rfl 2 (by decide) k0 rfl rfl dX4_begin_13 ?_
    refine lv_iconst (v := 1) hx hb dX4_begin_16 (by decide) ?_
    refine lv_iadd hx hb dX4_begin_17 ?_
    refine lv_goto (tgt := 22) hx hb dX4_begin_18 (by decide) ?_
    exact hJ22 (newest_0 + (1 : Int32)) _ _ _ hf hP hD hS (lv_sub hl [0, 1, 2, 3] rfl)

abbrev rm_X4_latest : Room := { frames := 0, cells := 0, slots := 0, locals := 0 }
set_option maxHeartbeats 4000000 in
set_option maxRecDepth 100000 in
theorem c_X4_latest (l : Launch) (D : va_G) (cy : Nat → ClassId) (N : Nat) (h0 : Nat) (a0 : Nat → Nat) (b0_acts : Nat → Nat) (size_0 : Int32) (newest_0 : Int32) (acts_f_0 : Nat → Nat → Int32) (z : Nat) (hf : f_X4_latest N newest_0 = some z) : pq_MR l yX4_latest wsX4_latest rm_X4_latest D cy [.ref h0] ([cO h0 4 [.ref (a0 0), .int size_0, .int newest_0], cR cy 3 (a0 0) 24 (fun j => some (b0_acts j))] ++ pq_acts b0_acts acts_f_0) ([cO h0 4 [.ref (a0 0), .int size_0, .int newest_0], cR cy 3 (a0 0) 24 (fun j => some (b0_acts j))] ++ pq_acts b0_acts acts_f_0) (b0_acts z) := by
  intro sz
  refine pq_ent (Qf := fun A => pq_Qr D cy A ([cO h0 4 [.ref (a0 0), .int size_0, .int newest_0], cR cy 3 (a0 0) 24 (fun j => some (b0_acts j))] ++ pq_acts b0_acts acts_f_0) (b0_acts z)) (cc := cX4_latest) (maxL := 1) (ret := (some (.object "LoserPicks$Act"))) (by decide) rfl (Nat.le_of_ble_eq_true rfl) ?_
  intro p e s m args below meth c A ls Q hQ X hK hP hD hA hS hl
  obtain ⟨hx, hb, hr, hts, hown, hlocks, hml⟩ := X
  have hl : lv_has ls 1 [(0, .ref h0)] := hl
  unfold f_X4_latest at hf
  have hiX4 : ∀ w ∈ wsX40, w ∈ wsX4_latest := by decide +kernel
  have k0 := hts (.fieldLink RX4 11 "LoserPicks$History" "acts" "[LLoserPicks$Act;") (by decide +kernel)
  have k1 := hts (.fieldLink RX4 21 "LoserPicks$History" "newest" "I") (by decide +kernel)
  refine lv_aload_n hx hb dX4_latest_0 rfl (lv_at hl 0 rfl) ?_
  refine pq_get (D := D) (ci := 4) (v := .ref (a0 0)) (C := RX4) (T := TX4) (N := 3) hx hb hts hiX4 hown hK hP 0 rfl rfl 0 (by decide) k0 rfl rfl dX4_latest_1 ?_
  refine lv_aload_n hx hb dX4_latest_4 rfl (lv_at hl 0 rfl) ?_
  refine pq_get (D := D) (ci := 4) (v := .int newest_0) (C := RX4) (T := TX4) (N := 3) hx hb hts hiX4 hown hK hP 0 rfl rfl 2 (by decide) k1 rfl rfl dX4_latest_5 ?_
  refine pq_aald hx hb hK hP 1 3 rfl rfl hf dX4_latest_8 (fun _ hf => ?_)
  rw [hQ]
  exact pq_aret hx hb hr hlocks hK hP hD hS hf (fun z => b0_acts z) (fun z => ([cO h0 4 [.ref (a0 0), .int size_0, .int newest_0], cR cy 3 (a0 0) 24 (fun j => some (b0_acts j))] ++ pq_acts b0_acts acts_f_0)) rfl rfl dX4_latest_9

abbrev rm_X4_forgetLatest : Room := { frames := 0, cells := 0, slots := 0, locals := 0 }
set_option maxHeartbeats 4000000 in
set_option maxRecDepth 100000 in
theorem c_X4_forgetLatest (l : Launch) (D : va_G) (cy : Nat → ClassId) (N : Nat) (h0 : Nat) (a0 : Nat → Nat) (size_0 : Int32) (newest_0 : Int32) (z : Int32 × Int32) (hf : f_X4_forgetLatest N size_0 newest_0 = some z) : pq_MV l yX4_forgetLatest wsX4_forgetLatest rm_X4_forgetLatest D cy [.ref h0] [cO h0 4 [.ref (a0 0), .int size_0, .int newest_0]] [cO h0 4 [.ref (a0 0), .int z.1, .int z.2]] := by
  intro sz
  refine pq_ent (Qf := fun A => pq_Qv D cy A [cO h0 4 [.ref (a0 0), .int z.1, .int z.2]]) (cc := cX4_forgetLatest) (maxL := 1) (ret := none) (by decide) rfl (Nat.le_of_ble_eq_true rfl) ?_
  intro p e s m args below meth c A ls Q hQ X hK hP hD hA hS hl
  obtain ⟨hx, hb, hr, hts, hown, hlocks, hml⟩ := X
  have hl : lv_has ls 1 [(0, .ref h0)] := hl
  unfold f_X4_forgetLatest at hf
  have hiX4 : ∀ w ∈ wsX40, w ∈ wsX4_forgetLatest := by decide +kernel
  have k0 := hts (.fieldLink RX4 21 "LoserPicks$History" "newest" "I") (by decide +kernel)
  have k1 := hts (.fieldLink RX4 17 "LoserPicks$History" "size" "I") (by decide +kernel)
  refine lv_aload_n hx hb dX4_forgetLatest_0 rfl (lv_at hl 0 rfl) ?_
  refine lv_aload_n hx hb dX4_forgetLatest_1 rfl (lv_at hl 0 rfl) ?_
  refine pq_get (D := D) (ci := 4) (v := .int newest_0) (C := RX4) (T := TX4) (N := 3) hx hb hts hiX4 hown hK hP 0 rfl rfl 2 (by decide) k0 rfl rfl dX4_forgetLatest_2 ?_
  obtain ⟨kJ19, ekJ19, hf⟩ := pq_j_e hf
  have hJ19 : ∀ (y0_J19 : Int32) (H : Heap) (locs : List Loc) (ls : Array Slot), kJ19 y0_J19 = some z → va_P D vwCl [cO h0 4 [.ref (a0 0), .int size_0, .int newest_0]] H → va_D A [cO h0 4 [.ref (a0 0), .int size_0, .int newest_0]] → va_S A s.heap H locs → lv_has ls 1 [(0, .ref h0)] → W p l e rm_X4_forgetLatest s m args below meth c H locs 0 0 Q (F0 m 19 ls [.int y0_J19, .ref h0]) := by
    clear hf hP hD hS hl
    intro y0_J19 H locs ls hf hP hD hS hl
    rw [ekJ19] at hf
    refine pq_put (D := D) (ci := 4) (v := .int y0_J19) (C := RX4) (T := TX4) (N := 3) (ws1 := [cO h0 4 [.ref (a0 0), .int size_0, .int y0_J19]]) hx hb hts hiX4 tyX4 tyX4_ok nmX4 hown hK hP hD hS 0 rfl rfl 2 (by decide) k0 rfl rfl .int (by decide +kernel) rfl rfl (Nat.le_of_ble_eq_true rfl) rfl dX4_forgetLatest_19 (fun H locs hP hD hS => ?_)
    refine lv_aload_n hx hb dX4_forgetLatest_22 rfl (lv_at hl 0 rfl) ?_
    refine lv_dup hx hb dX4_forgetLatest_23 rfl ?_
    refine pq_get (D := D) (ci := 4) (v := .int size_0) (C := RX4) (T := TX4) (N := 3) hx hb hts hiX4 hown hK hP 0 rfl rfl 1 (by decide) k1 rfl rfl dX4_forgetLatest_24 ?_
    refine lv_iconst (v := 1) hx hb dX4_forgetLatest_27 (by decide) ?_
    refine lv_isub hx hb dX4_forgetLatest_28 ?_
    refine pq_li hf (fun f_1 hf => ?_)
    refine pq_put (D := D) (ci := 4) (v := .int f_1) (C := RX4) (T := TX4) (N := 3) (ws1 := [cO h0 4 [.ref (a0 0), .int f_1, .int y0_J19]]) hx hb hts hiX4 tyX4 tyX4_ok nmX4 hown hK hP hD hS 0 rfl rfl 1 (by decide) k1 rfl rfl .int (by decide +kernel) rfl rfl (Nat.le_of_ble_eq_true rfl) rfl dX4_forgetLatest_29 (fun H locs hP hD hS => ?_)
    rw [hQ]
    exact pq_vret hx hb hr hlocks hK hP hD hS hf (fun z => [cO h0 4 [.ref (a0 0), .int z.1, .int z.2]]) rfl dX4_forgetLatest_32
  clear ekJ19
  refine pq_if_le hx hb 17 hf dX4_forgetLatest_5 (by decide) (fun _ hf => ?_) (fun _ hf => ?_)
  · refine lv_bipush (v := 23) hx hb dX4_forgetLatest_17 (by decide) ?_
    exact hJ19 23 _ _ _ hf hP hD hS (lv_sub hl [0] rfl)
  · refine lv_aload_n hx hb dX4_forgetLatest_8 rfl (lv_at hl 0 rfl) ?_
    refine pq_get (D := D) (ci := 4) (v := .int newest_0) (C := RX4) (T := TX4) (N := 3) hx hb hts hiX4 hown hK hP 0 rfl rfl 2 (by decide) k0 rfl rfl dX4_forgetLatest_9 ?_
    refine lv_iconst (v := 1) hx hb dX4_forgetLatest_12 (by decide) ?_
    refine lv_isub hx hb dX4_forgetLatest_13 ?_
    refine lv_goto (tgt := 19) hx hb dX4_forgetLatest_14 (by decide) ?_
    exact hJ19 (newest_0 - (1 : Int32)) _ _ _ hf hP hD hS (lv_sub hl [0] rfl)
