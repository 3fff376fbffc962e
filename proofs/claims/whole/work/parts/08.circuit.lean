abbrev rm_X1_clear : Room := { frames := 0, cells := 0, slots := 0, locals := 0 }
set_option maxHeartbeats 4000000 in
set_option maxRecDepth 100000 in
theorem c_X1_clear (l : Launch) (D : va_G) (cy : Nat → ClassId) (N : Nat) (h0 : Nat) (a0 : Nat → Nat) (parties_0 : Int32) (judges_0 : Int32) (cases_0 : Int32) (next_0 : Int32) (sits_0 : Int32) (kind_0 : Nat → Int32) (grievance_0 : Nat → Int32) (wins_0 : Nat → Int32) (lean_0 : Nat → Int32) (favours_0 : Nat → Int32) (plaintiff_0 : Nat → Int32) (defendant_0 : Nat → Int32) (weight_0 : Nat → Int32) (winner_0 : Nat → Int32) (z : Int32 × Int32 × Int32 × Int32 × Int32) (hf : f_X1_clear N parties_0 judges_0 cases_0 next_0 sits_0 = some z) : pq_MV l yX1_clear wsX1_clear rm_X1_clear D cy [.ref h0] [cO h0 1 [.ref (a0 0), .ref (a0 1), .ref (a0 2), .ref (a0 3), .ref (a0 4), .ref (a0 5), .ref (a0 6), .ref (a0 7), .ref (a0 8), .int parties_0, .int judges_0, .int cases_0, .int next_0, .int sits_0], cI cy (a0 0) 6 kind_0, cI cy (a0 1) 6 grievance_0, cI cy (a0 2) 6 wins_0, cI cy (a0 3) 6 lean_0, cI cy (a0 4) 6 favours_0, cI cy (a0 5) 12 plaintiff_0, cI cy (a0 6) 12 defendant_0, cI cy (a0 7) 12 weight_0, cI cy (a0 8) 12 winner_0] [cO h0 1 [.ref (a0 0), .ref (a0 1), .ref (a0 2), .ref (a0 3), .ref (a0 4), .ref (a0 5), .ref (a0 6), .ref (a0 7), .ref (a0 8), .int z.1, .int z.2.1, .int z.2.2.1, .int z.2.2.2.1, .int z.2.2.2.2], cI cy (a0 0) 6 kind_0, cI cy (a0 1) 6 grievance_0, cI cy (a0 2) 6 wins_0, cI cy (a0 3) 6 lean_0, cI cy (a0 4) 6 favours_0, cI cy (a0 5) 12 plaintiff_0, cI cy (a0 6) 12 defendant_0, cI cy (a0 7) 12 weight_0, cI cy (a0 8) 12 winner_0] := by
  intro sz
  refine pq_ent (Qf := fun A => pq_Qv D cy A [cO h0 1 [.ref (a0 0), .ref (a0 1), .ref (a0 2), .ref (a0 3), .ref (a0 4), .ref (a0 5), .ref (a0 6), .ref (a0 7), .ref (a0 8), .int z.1, .int z.2.1, .int z.2.2.1, .int z.2.2.2.1, .int z.2.2.2.2], cI cy (a0 0) 6 kind_0, cI cy (a0 1) 6 grievance_0, cI cy (a0 2) 6 wins_0, cI cy (a0 3) 6 lean_0, cI cy (a0 4) 6 favours_0, cI cy (a0 5) 12 plaintiff_0, cI cy (a0 6) 12 defendant_0, cI cy (a0 7) 12 weight_0, cI cy (a0 8) 12 winner_0]) (cc := cX1_clear) (maxL := 1) (ret := none) (by decide) rfl (Nat.le_of_ble_eq_true rfl) ?_
  intro p e s m args below meth c A ls Q hQ X hK hP hD hA hS hl
  obtain ⟨hx, hb, hr, hts, hown, hlocks, hml⟩ := X
  have hl : lv_has ls 1 [(0, .ref h0)] := hl
  unfold f_X1_clear at hf
  have hiX1 : ∀ w ∈ wsX10, w ∈ wsX1_clear := by decide +kernel
  have k0 := hts (.fieldLink RX1 39 "LoserPicks$Circuit" "parties" "I") (by decide +kernel)
  have k1 := hts (.fieldLink RX1 43 "LoserPicks$Circuit" "judges" "I") (by decide +kernel)
  have k2 := hts (.fieldLink RX1 46 "LoserPicks$Circuit" "cases" "I") (by decide +kernel)
  have k3 := hts (.fieldLink RX1 49 "LoserPicks$Circuit" "next" "I") (by decide +kernel)
  have k4 := hts (.fieldLink RX1 52 "LoserPicks$Circuit" "sits" "I") (by decide +kernel)
  refine lv_aload_n hx hb dX1_clear_0 rfl (lv_at hl 0 rfl) ?_
  refine lv_iconst (v := 0) hx hb dX1_clear_1 (by decide) ?_
  refine pq_put (D := D) (ci := 1) (v := .int 0) (C := RX1) (T := TX1) (N := 14) (ws1 := [cO h0 1 [.ref (a0 0), .ref (a0 1), .ref (a0 2), .ref (a0 3), .ref (a0 4), .ref (a0 5), .ref (a0 6), .ref (a0 7), .ref (a0 8), .int 0, .int judges_0, .int cases_0, .int next_0, .int sits_0], cI cy (a0 0) 6 kind_0, cI cy (a0 1) 6 grievance_0, cI cy (a0 2) 6 wins_0, cI cy (a0 3) 6 lean_0, cI cy (a0 4) 6 favours_0, cI cy (a0 5) 12 plaintiff_0, cI cy (a0 6) 12 defendant_0, cI cy (a0 7) 12 weight_0, cI cy (a0 8) 12 winner_0]) hx hb hts hiX1 tyX1 tyX1_ok nmX1 hown hK hP hD hS 0 rfl rfl 9 (by decide) k0 rfl rfl .int (by decide +kernel) rfl rfl (Nat.le_of_ble_eq_true rfl) rfl dX1_clear_2 (fun H locs hP hD hS => ?_)
  refine lv_aload_n hx hb dX1_clear_5 rfl (lv_at hl 0 rfl) ?_
  refine lv_iconst (v := 0) hx hb dX1_clear_6 (by decide) ?_
  refine pq_put (D := D) (ci := 1) (v := .int 0) (C := RX1) (T := TX1) (N := 14) (ws1 := [cO h0 1 [.ref (a0 0), .ref (a0 1), .ref (a0 2), .ref (a0 3), .ref (a0 4), .ref (a0 5), .ref (a0 6), .ref (a0 7), .ref (a0 8), .int 0, .int 0, .int cases_0, .int next_0, .int sits_0], cI cy (a0 0) 6 kind_0, cI cy (a0 1) 6 grievance_0, cI cy (a0 2) 6 wins_0, cI cy (a0 3) 6 lean_0, cI cy (a0 4) 6 favours_0, cI cy (a0 5) 12 plaintiff_0, cI cy (a0 6) 12 defendant_0, cI cy (a0 7) 12 weight_0, cI cy (a0 8) 12 winner_0]) hx hb hts hiX1 tyX1 tyX1_ok nmX1 hown hK hP hD hS 0 rfl rfl 10 (by decide) k1 rfl rfl .int (by decide +kernel) rfl rfl (Nat.le_of_ble_eq_true rfl) rfl dX1_clear_7 (fun H locs hP hD hS => ?_)
  refine lv_aload_n hx hb dX1_clear_10 rfl (lv_at hl 0 rfl) ?_
  refine lv_iconst (v := 0) hx hb dX1_clear_11 (by decide) ?_
  refine pq_put (D := D) (ci := 1) (v := .int 0) (C := RX1) (T := TX1) (N := 14) (ws1 := [cO h0 1 [.ref (a0 0), .ref (a0 1), .ref (a0 2), .ref (a0 3), .ref (a0 4), .ref (a0 5), .ref (a0 6), .ref (a0 7), .ref (a0 8), .int 0, .int 0, .int 0, .int next_0, .int sits_0], cI cy (a0 0) 6 kind_0, cI cy (a0 1) 6 grievance_0, cI cy (a0 2) 6 wins_0, cI cy (a0 3) 6 lean_0, cI cy (a0 4) 6 favours_0, cI cy (a0 5) 12 plaintiff_0, cI cy (a0 6) 12 defendant_0, cI cy (a0 7) 12 weight_0, cI cy (a0 8) 12 winner_0]) hx hb hts hiX1 tyX1 tyX1_ok nmX1 hown hK hP hD hS 0 rfl rfl 11 (by decide) k2 rfl rfl .int (by decide +kernel) rfl rfl (Nat.le_of_ble_eq_true rfl) rfl dX1_clear_12 (fun H locs hP hD hS => ?_)
  refine lv_aload_n hx hb dX1_clear_15 rfl (lv_at hl 0 rfl) ?_
  refine lv_iconst (v := 0) hx hb dX1_clear_16 (by decide) ?_
  refine pq_put (D := D) (ci := 1) (v := .int 0) (C := RX1) (T := TX1) (N := 14) (ws1 := [cO h0 1 [.ref (a0 0), .ref (a0 1), .ref (a0 2), .ref (a0 3), .ref (a0 4), .ref (a0 5), .ref (a0 6), .ref (a0 7), .ref (a0 8), .int 0, .int 0, .int 0, .int 0, .int sits_0], cI cy (a0 0) 6 kind_0, cI cy (a0 1) 6 grievance_0, cI cy (a0 2) 6 wins_0, cI cy (a0 3) 6 lean_0, cI cy (a0 4) 6 favours_0, cI cy (a0 5) 12 plaintiff_0, cI cy (a0 6) 12 defendant_0, cI cy (a0 7) 12 weight_0, cI cy (a0 8) 12 winner_0]) hx hb hts hiX1 tyX1 tyX1_ok nmX1 hown hK hP hD hS 0 rfl rfl 12 (by decide) k3 rfl rfl .int (by decide +kernel) rfl rfl (Nat.le_of_ble_eq_true rfl) rfl dX1_clear_17 (fun H locs hP hD hS => ?_)
  refine lv_aload_n hx hb dX1_clear_20 rfl (lv_at hl 0 rfl) ?_
  refine lv_bipush (v := (-4)) hx hb dX1_clear_21 (by decide) ?_
  refine pq_put (D := D) (ci := 1) (v := .int (-4)) (C := RX1) (T := TX1) (N := 14) (ws1 := [cO h0 1 [.ref (a0 0), .ref (a0 1), .ref (a0 2), .ref (a0 3), .ref (a0 4), .ref (a0 5), .ref (a0 6), .ref (a0 7), .ref (a0 8), .int 0, .int 0, .int 0, .int 0, .int (-4)], cI cy (a0 0) 6 kind_0, cI cy (a0 1) 6 grievance_0, cI cy (a0 2) 6 wins_0, cI cy (a0 3) 6 lean_0, cI cy (a0 4) 6 favours_0, cI cy (a0 5) 12 plaintiff_0, cI cy (a0 6) 12 defendant_0, cI cy (a0 7) 12 weight_0, cI cy (a0 8) 12 winner_0]) hx hb hts hiX1 tyX1 tyX1_ok nmX1 hown hK hP hD hS 0 rfl rfl 13 (by decide) k4 rfl rfl .int (by decide +kernel) rfl rfl (Nat.le_of_ble_eq_true rfl) rfl dX1_clear_23 (fun H locs hP hD hS => ?_)
  rw [hQ]
  exact pq_vret hx hb hr hlocks hK hP hD hS hf (fun z => [cO h0 1 [.ref (a0 0), .ref (a0 1), .ref (a0 2), .ref (a0 3), .ref (a0 4), .ref (a0 5), .ref (a0 6), .ref (a0 7), .ref (a0 8), .int z.1, .int z.2.1, .int z.2.2.1, .int z.2.2.2.1, .int z.2.2.2.2], cI cy (a0 0) 6 kind_0, cI cy (a0 1) 6 grievance_0, cI cy (a0 2) 6 wins_0, cI cy (a0 3) 6 lean_0, cI cy (a0 4) 6 favours_0, cI cy (a0 5) 12 plaintiff_0, cI cy (a0 6) 12 defendant_0, cI cy (a0 7) 12 weight_0, cI cy (a0 8) 12 winner_0]) rfl dX1_clear_26

abbrev rm_X1_become : Room := { frames := 1, cells := 0, slots := 0, locals := 40 }
set_option maxHeartbeats 4000000 in
set_option maxRecDepth 100000 in
theorem c_X1_become (l : Launch) (D : va_G) (cy : Nat → ClassId) (N : Nat) (h0 : Nat) (a0 : Nat → Nat) (h1 : Nat) (a1 : Nat → Nat) (parties_0 : Int32) (judges_0 : Int32) (cases_0 : Int32) (next_0 : Int32) (sits_0 : Int32) (kind_0 : Nat → Int32) (grievance_0 : Nat → Int32) (wins_0 : Nat → Int32) (lean_0 : Nat → Int32) (favours_0 : Nat → Int32) (plaintiff_0 : Nat → Int32) (defendant_0 : Nat → Int32) (weight_0 : Nat → Int32) (winner_0 : Nat → Int32) (parties_1 : Int32) (judges_1 : Int32) (cases_1 : Int32) (next_1 : Int32) (sits_1 : Int32) (kind_1 : Nat → Int32) (grievance_1 : Nat → Int32) (wins_1 : Nat → Int32) (lean_1 : Nat → Int32) (favours_1 : Nat → Int32) (plaintiff_1 : Nat → Int32) (defendant_1 : Nat → Int32) (weight_1 : Nat → Int32) (winner_1 : Nat → Int32) (z : Int32 × Int32 × Int32 × Int32 × Int32 × (Nat → Int32) × (Nat → Int32) × (Nat → Int32) × (Nat → Int32) × (Nat → Int32) × (Nat → Int32) × (Nat → Int32) × (Nat → Int32) × (Nat → Int32)) (hf : f_X1_become N parties_0 judges_0 cases_0 next_0 sits_0 kind_0 grievance_0 wins_0 lean_0 favours_0 plaintiff_0 defendant_0 weight_0 winner_0 parties_1 judges_1 cases_1 next_1 sits_1 kind_1 grievance_1 wins_1 lean_1 favours_1 plaintiff_1 defendant_1 weight_1 winner_1 = some z) : pq_MV l yX1_become wsX1_become rm_X1_become D cy [.ref h0, .ref h1] [cO h0 1 [.ref (a0 0), .ref (a0 1), .ref (a0 2), .ref (a0 3), .ref (a0 4), .ref (a0 5), .ref (a0 6), .ref (a0 7), .ref (a0 8), .int parties_0, .int judges_0, .int cases_0, .int next_0, .int sits_0], cI cy (a0 0) 6 kind_0, cI cy (a0 1) 6 grievance_0, cI cy (a0 2) 6 wins_0, cI cy (a0 3) 6 lean_0, cI cy (a0 4) 6 favours_0, cI cy (a0 5) 12 plaintiff_0, cI cy (a0 6) 12 defendant_0, cI cy (a0 7) 12 weight_0, cI cy (a0 8) 12 winner_0, cO h1 1 [.ref (a1 0), .ref (a1 1), .ref (a1 2), .ref (a1 3), .ref (a1 4), .ref (a1 5), .ref (a1 6), .ref (a1 7), .ref (a1 8), .int parties_1, .int judges_1, .int cases_1, .int next_1, .int sits_1], cI cy (a1 0) 6 kind_1, cI cy (a1 1) 6 grievance_1, cI cy (a1 2) 6 wins_1, cI cy (a1 3) 6 lean_1, cI cy (a1 4) 6 favours_1, cI cy (a1 5) 12 plaintiff_1, cI cy (a1 6) 12 defendant_1, cI cy (a1 7) 12 weight_1, cI cy (a1 8) 12 winner_1] [cO h0 1 [.ref (a0 0), .ref (a0 1), .ref (a0 2), .ref (a0 3), .ref (a0 4), .ref (a0 5), .ref (a0 6), .ref (a0 7), .ref (a0 8), .int z.1, .int z.2.1, .int z.2.2.1, .int z.2.2.2.1, .int z.2.2.2.2.1], cI cy (a0 0) 6 z.2.2.2.2.2.1, cI cy (a0 1) 6 z.2.2.2.2.2.2.1, cI cy (a0 2) 6 z.2.2.2.2.2.2.2.1, cI cy (a0 3) 6 z.2.2.2.2.2.2.2.2.1, cI cy (a0 4) 6 z.2.2.2.2.2.2.2.2.2.1, cI cy (a0 5) 12 z.2.2.2.2.2.2.2.2.2.2.1, cI cy (a0 6) 12 z.2.2.2.2.2.2.2.2.2.2.2.1, cI cy (a0 7) 12 z.2.2.2.2.2.2.2.2.2.2.2.2.1, cI cy (a0 8) 12 z.2.2.2.2.2.2.2.2.2.2.2.2.2, cO h1 1 [.ref (a1 0), .ref (a1 1), .ref (a1 2), .ref (a1 3), .ref (a1 4), .ref (a1 5), .ref (a1 6), .ref (a1 7), .ref (a1 8), .int parties_1, .int judges_1, .int cases_1, .int next_1, .int sits_1], cI cy (a1 0) 6 kind_1, cI cy (a1 1) 6 grievance_1, cI cy (a1 2) 6 wins_1, cI cy (a1 3) 6 lean_1, cI cy (a1 4) 6 favours_1, cI cy (a1 5) 12 plaintiff_1, cI cy (a1 6) 12 defendant_1, cI cy (a1 7) 12 weight_1, cI cy (a1 8) 12 winner_1] := by
  intro sz
  refine pq_ent (Qf := fun A => pq_Qv D cy A [cO h0 1 [.ref (a0 0), .ref (a0 1), .ref (a0 2), .ref (a0 3), .ref (a0 4), .ref (a0 5), .ref (a0 6), .ref (a0 7), .ref (a0 8), .int z.1, .int z.2.1, .int z.2.2.1, .int z.2.2.2.1, .int z.2.2.2.2.1], cI cy (a0 0) 6 z.2.2.2.2.2.1, cI cy (a0 1) 6 z.2.2.2.2.2.2.1, cI cy (a0 2) 6 z.2.2.2.2.2.2.2.1, cI cy (a0 3) 6 z.2.2.2.2.2.2.2.2.1, cI cy (a0 4) 6 z.2.2.2.2.2.2.2.2.2.1, cI cy (a0 5) 12 z.2.2.2.2.2.2.2.2.2.2.1, cI cy (a0 6) 12 z.2.2.2.2.2.2.2.2.2.2.2.1, cI cy (a0 7) 12 z.2.2.2.2.2.2.2.2.2.2.2.2.1, cI cy (a0 8) 12 z.2.2.2.2.2.2.2.2.2.2.2.2.2, cO h1 1 [.ref (a1 0), .ref (a1 1), .ref (a1 2), .ref (a1 3), .ref (a1 4), .ref (a1 5), .ref (a1 6), .ref (a1 7), .ref (a1 8), .int parties_1, .int judges_1, .int cases_1, .int next_1, .int sits_1], cI cy (a1 0) 6 kind_1, cI cy (a1 1) 6 grievance_1, cI cy (a1 2) 6 wins_1, cI cy (a1 3) 6 lean_1, cI cy (a1 4) 6 favours_1, cI cy (a1 5) 12 plaintiff_1, cI cy (a1 6) 12 defendant_1, cI cy (a1 7) 12 weight_1, cI cy (a1 8) 12 winner_1]) (cc := cX1_become) (maxL := 2) (ret := none) (by decide) rfl (Nat.le_of_ble_eq_true rfl) ?_
  intro p e s m args below meth c A ls Q hQ X hK hP hD hA hS hl
  obtain ⟨hx, hb, hr, hts, hown, hlocks, hml⟩ := X
  have hl : lv_has ls 2 [(0, .ref h0), (1, .ref h1)] := hl
  unfold f_X1_become at hf
  have hiX1 : ∀ w ∈ wsX10, w ∈ wsX1_become := by decide +kernel
  have k0 := hts (.fieldLink RX1 9 "LoserPicks$Circuit" "kind" "[I") (by decide +kernel)
  have k1 := hts (.methodLink RX1 55 arraycopyName) (by decide +kernel)
  have k2 := hts (.native arraycopyName) (by decide +kernel)
  have k3 := hts (.static arraycopyName) (by decide +kernel)
  have k4 := hts (.initialized "java/lang/System") (by decide +kernel)
  have k5 := hts (.fieldLink RX1 15 "LoserPicks$Circuit" "grievance" "[I") (by decide +kernel)
  have k6 := hts (.fieldLink RX1 18 "LoserPicks$Circuit" "wins" "[I") (by decide +kernel)
  have k7 := hts (.fieldLink RX1 21 "LoserPicks$Circuit" "lean" "[I") (by decide +kernel)
  have k8 := hts (.fieldLink RX1 24 "LoserPicks$Circuit" "favours" "[I") (by decide +kernel)
  have k9 := hts (.fieldLink RX1 27 "LoserPicks$Circuit" "plaintiff" "[I") (by decide +kernel)
  have k10 := hts (.fieldLink RX1 30 "LoserPicks$Circuit" "defendant" "[I") (by decide +kernel)
  have k11 := hts (.fieldLink RX1 33 "LoserPicks$Circuit" "weight" "[I") (by decide +kernel)
  have k12 := hts (.fieldLink RX1 36 "LoserPicks$Circuit" "winner" "[I") (by decide +kernel)
  have k13 := hts (.fieldLink RX1 39 "LoserPicks$Circuit" "parties" "I") (by decide +kernel)
  have k14 := hts (.fieldLink RX1 43 "LoserPicks$Circuit" "judges" "I") (by decide +kernel)
  have k15 := hts (.fieldLink RX1 46 "LoserPicks$Circuit" "cases" "I") (by decide +kernel)
  have k16 := hts (.fieldLink RX1 49 "LoserPicks$Circuit" "next" "I") (by decide +kernel)
  have k17 := hts (.fieldLink RX1 52 "LoserPicks$Circuit" "sits" "I") (by decide +kernel)
  refine lv_aload_n hx hb dX1_become_0 rfl (lv_at hl 1 rfl) ?_
  refine pq_get (D := D) (ci := 1) (v := .ref (a1 0)) (C := RX1) (T := TX1) (N := 14) hx hb hts hiX1 hown hK hP 10 rfl rfl 0 (by decide) k0 rfl rfl dX1_become_1 ?_
  refine lv_iconst (v := 0) hx hb dX1_become_4 (by decide) ?_
  refine lv_aload_n hx hb dX1_become_5 rfl (lv_at hl 0 rfl) ?_
  refine pq_get (D := D) (ci := 1) (v := .ref (a0 0)) (C := RX1) (T := TX1) (N := 14) hx hb hts hiX1 hown hK hP 0 rfl rfl 0 (by decide) k0 rfl rfl dX1_become_6 ?_
  refine lv_iconst (v := 0) hx hb dX1_become_9 (by decide) ?_
  refine lv_bipush (v := 6) hx hb dX1_become_10 (by decide) ?_
  refine pq_copyi (ws1 := fun g => [cO h0 1 [.ref (a0 0), .ref (a0 1), .ref (a0 2), .ref (a0 3), .ref (a0 4), .ref (a0 5), .ref (a0 6), .ref (a0 7), .ref (a0 8), .int parties_0, .int judges_0, .int cases_0, .int next_0, .int sits_0], cI cy (a0 0) 6 g, cI cy (a0 1) 6 grievance_0, cI cy (a0 2) 6 wins_0, cI cy (a0 3) 6 lean_0, cI cy (a0 4) 6 favours_0, cI cy (a0 5) 12 plaintiff_0, cI cy (a0 6) 12 defendant_0, cI cy (a0 7) 12 weight_0, cI cy (a0 8) 12 winner_0, cO h1 1 [.ref (a1 0), .ref (a1 1), .ref (a1 2), .ref (a1 3), .ref (a1 4), .ref (a1 5), .ref (a1 6), .ref (a1 7), .ref (a1 8), .int parties_1, .int judges_1, .int cases_1, .int next_1, .int sits_1], cI cy (a1 0) 6 kind_1, cI cy (a1 1) 6 grievance_1, cI cy (a1 2) 6 wins_1, cI cy (a1 3) 6 lean_1, cI cy (a1 4) 6 favours_1, cI cy (a1 5) 12 plaintiff_1, cI cy (a1 6) 12 defendant_1, cI cy (a1 7) 12 weight_1, cI cy (a1 8) 12 winner_1]) hx hb (hml.trans hl.1.symm) hown k1 k2 k3 k4 hK hP hD hS 11 1 0 0 rfl rfl rfl rfl (fun _ => rfl) hf (Nat.le_of_ble_eq_true rfl) (Nat.le_of_ble_eq_true rfl) dX1_become_12 (fun kind_0_1 H locs hf hP hD hS => ?_)
  refine lv_aload_n hx hb dX1_become_15 rfl (lv_at hl 1 rfl) ?_
  refine pq_get (D := D) (ci := 1) (v := .ref (a1 1)) (C := RX1) (T := TX1) (N := 14) hx hb hts hiX1 hown hK hP 10 rfl rfl 1 (by decide) k5 rfl rfl dX1_become_16 ?_
  refine lv_iconst (v := 0) hx hb dX1_become_19 (by decide) ?_
  refine lv_aload_n hx hb dX1_become_20 rfl (lv_at hl 0 rfl) ?_
  refine pq_get (D := D) (ci := 1) (v := .ref (a0 1)) (C := RX1) (T := TX1) (N := 14) hx hb hts hiX1 hown hK hP 0 rfl rfl 1 (by decide) k5 rfl rfl dX1_become_21 ?_
  refine lv_iconst (v := 0) hx hb dX1_become_24 (by decide) ?_
  refine lv_bipush (v := 6) hx hb dX1_become_25 (by decide) ?_
  refine pq_copyi (ws1 := fun g => [cO h0 1 [.ref (a0 0), .ref (a0 1), .ref (a0 2), .ref (a0 3), .ref (a0 4), .ref (a0 5), .ref (a0 6), .ref (a0 7), .ref (a0 8), .int parties_0, .int judges_0, .int cases_0, .int next_0, .int sits_0], cI cy (a0 0) 6 kind_0_1, cI cy (a0 1) 6 g, cI cy (a0 2) 6 wins_0, cI cy (a0 3) 6 lean_0, cI cy (a0 4) 6 favours_0, cI cy (a0 5) 12 plaintiff_0, cI cy (a0 6) 12 defendant_0, cI cy (a0 7) 12 weight_0, cI cy (a0 8) 12 winner_0, cO h1 1 [.ref (a1 0), .ref (a1 1), .ref (a1 2), .ref (a1 3), .ref (a1 4), .ref (a1 5), .ref (a1 6), .ref (a1 7), .ref (a1 8), .int parties_1, .int judges_1, .int cases_1, .int next_1, .int sits_1], cI cy (a1 0) 6 kind_1, cI cy (a1 1) 6 grievance_1, cI cy (a1 2) 6 wins_1, cI cy (a1 3) 6 lean_1, cI cy (a1 4) 6 favours_1, cI cy (a1 5) 12 plaintiff_1, cI cy (a1 6) 12 defendant_1, cI cy (a1 7) 12 weight_1, cI cy (a1 8) 12 winner_1]) hx hb (hml.trans hl.1.symm) hown k1 k2 k3 k4 hK hP hD hS 12 2 0 0 rfl rfl rfl rfl (fun _ => rfl) hf (Nat.le_of_ble_eq_true rfl) (Nat.le_of_ble_eq_true rfl) dX1_become_27 (fun grievance_0_2 H locs hf hP hD hS => ?_)
  refine lv_aload_n hx hb dX1_become_30 rfl (lv_at hl 1 rfl) ?_
  refine pq_get (D := D) (ci := 1) (v := .ref (a1 2)) (C := RX1) (T := TX1) (N := 14) hx hb hts hiX1 hown hK hP 10 rfl rfl 2 (by decide) k6 rfl rfl dX1_become_31 ?_
  refine lv_iconst (v := 0) hx hb dX1_become_34 (by decide) ?_
  refine lv_aload_n hx hb dX1_become_35 rfl (lv_at hl 0 rfl) ?_
  refine pq_get (D := D) (ci := 1) (v := .ref (a0 2)) (C := RX1) (T := TX1) (N := 14) hx hb hts hiX1 hown hK hP 0 rfl rfl 2 (by decide) k6 rfl rfl dX1_become_36 ?_
  refine lv_iconst (v := 0) hx hb dX1_become_39 (by decide) ?_
  refine lv_bipush (v := 6) hx hb dX1_become_40 (by decide) ?_
  refine pq_copyi (ws1 := fun g => [cO h0 1 [.ref (a0 0), .ref (a0 1), .ref (a0 2), .ref (a0 3), .ref (a0 4), .ref (a0 5), .ref (a0 6), .ref (a0 7), .ref (a0 8), .int parties_0, .int judges_0, .int cases_0, .int next_0, .int sits_0], cI cy (a0 0) 6 kind_0_1, cI cy (a0 1) 6 grievance_0_2, cI cy (a0 2) 6 g, cI cy (a0 3) 6 lean_0, cI cy (a0 4) 6 favours_0, cI cy (a0 5) 12 plaintiff_0, cI cy (a0 6) 12 defendant_0, cI cy (a0 7) 12 weight_0, cI cy (a0 8) 12 winner_0, cO h1 1 [.ref (a1 0), .ref (a1 1), .ref (a1 2), .ref (a1 3), .ref (a1 4), .ref (a1 5), .ref (a1 6), .ref (a1 7), .ref (a1 8), .int parties_1, .int judges_1, .int cases_1, .int next_1, .int sits_1], cI cy (a1 0) 6 kind_1, cI cy (a1 1) 6 grievance_1, cI cy (a1 2) 6 wins_1, cI cy (a1 3) 6 lean_1, cI cy (a1 4) 6 favours_1, cI cy (a1 5) 12 plaintiff_1, cI cy (a1 6) 12 defendant_1, cI cy (a1 7) 12 weight_1, cI cy (a1 8) 12 winner_1]) hx hb (hml.trans hl.1.symm) hown k1 k2 k3 k4 hK hP hD hS 13 3 0 0 rfl rfl rfl rfl (fun _ => rfl) hf (Nat.le_of_ble_eq_true rfl) (Nat.le_of_ble_eq_true rfl) dX1_become_42 (fun wins_0_3 H locs hf hP hD hS => ?_)
  refine lv_aload_n hx hb dX1_become_45 rfl (lv_at hl 1 rfl) ?_
  refine pq_get (D := D) (ci := 1) (v := .ref (a1 3)) (C := RX1) (T := TX1) (N := 14) hx hb hts hiX1 hown hK hP 10 rfl rfl 3 (by decide) k7 rfl rfl dX1_become_46 ?_
  refine lv_iconst (v := 0) hx hb dX1_become_49 (by decide) ?_
  refine lv_aload_n hx hb dX1_become_50 rfl (lv_at hl 0 rfl) ?_
  refine pq_get (D := D) (ci := 1) (v := .ref (a0 3)) (C := RX1) (T := TX1) (N := 14) hx hb hts hiX1 hown hK hP 0 rfl rfl 3 (by decide) k7 rfl rfl dX1_become_51 ?_
  refine lv_iconst (v := 0) hx hb dX1_become_54 (by decide) ?_
  refine lv_bipush (v := 6) hx hb dX1_become_55 (by decide) ?_
  refine pq_copyi (ws1 := fun g => [cO h0 1 [.ref (a0 0), .ref (a0 1), .ref (a0 2), .ref (a0 3), .ref (a0 4), .ref (a0 5), .ref (a0 6), .ref (a0 7), .ref (a0 8), .int parties_0, .int judges_0, .int cases_0, .int next_0, .int sits_0], cI cy (a0 0) 6 kind_0_1, cI cy (a0 1) 6 grievance_0_2, cI cy (a0 2) 6 wins_0_3, cI cy (a0 3) 6 g, cI cy (a0 4) 6 favours_0, cI cy (a0 5) 12 plaintiff_0, cI cy (a0 6) 12 defendant_0, cI cy (a0 7) 12 weight_0, cI cy (a0 8) 12 winner_0, cO h1 1 [.ref (a1 0), .ref (a1 1), .ref (a1 2), .ref (a1 3), .ref (a1 4), .ref (a1 5), .ref (a1 6), .ref (a1 7), .ref (a1 8), .int parties_1, .int judges_1, .int cases_1, .int next_1, .int sits_1], cI cy (a1 0) 6 kind_1, cI cy (a1 1) 6 grievance_1, cI cy (a1 2) 6 wins_1, cI cy (a1 3) 6 lean_1, cI cy (a1 4) 6 favours_1, cI cy (a1 5) 12 plaintiff_1, cI cy (a1 6) 12 defendant_1, cI cy (a1 7) 12 weight_1, cI cy (a1 8) 12 winner_1]) hx hb (hml.trans hl.1.symm) hown k1 k2 k3 k4 hK hP hD hS 14 4 0 0 rfl rfl rfl rfl (fun _ => rfl) hf (Nat.le_of_ble_eq_true rfl) (Nat.le_of_ble_eq_true rfl) dX1_become_57 (fun lean_0_4 H locs hf hP hD hS => ?_)
  refine lv_aload_n hx hb dX1_become_60 rfl (lv_at hl 1 rfl) ?_
  refine pq_get (D := D) (ci := 1) (v := .ref (a1 4)) (C := RX1) (T := TX1) (N := 14) hx hb hts hiX1 hown hK hP 10 rfl rfl 4 (by decide) k8 rfl rfl dX1_become_61 ?_
  refine lv_iconst (v := 0) hx hb dX1_become_64 (by decide) ?_
  refine lv_aload_n hx hb dX1_become_65 rfl (lv_at hl 0 rfl) ?_
  refine pq_get (D := D) (ci := 1) (v := .ref (a0 4)) (C := RX1) (T := TX1) (N := 14) hx hb hts hiX1 hown hK hP 0 rfl rfl 4 (by decide) k8 rfl rfl dX1_become_66 ?_
  refine lv_iconst (v := 0) hx hb dX1_become_69 (by decide) ?_
  refine lv_bipush (v := 6) hx hb dX1_become_70 (by decide) ?_
  refine pq_copyi (ws1 := fun g => [cO h0 1 [.ref (a0 0), .ref (a0 1), .ref (a0 2), .ref (a0 3), .ref (a0 4), .ref (a0 5), .ref (a0 6), .ref (a0 7), .ref (a0 8), .int parties_0, .int judges_0, .int cases_0, .int next_0, .int sits_0], cI cy (a0 0) 6 kind_0_1, cI cy (a0 1) 6 grievance_0_2, cI cy (a0 2) 6 wins_0_3, cI cy (a0 3) 6 lean_0_4, cI cy (a0 4) 6 g, cI cy (a0 5) 12 plaintiff_0, cI cy (a0 6) 12 defendant_0, cI cy (a0 7) 12 weight_0, cI cy (a0 8) 12 winner_0, cO h1 1 [.ref (a1 0), .ref (a1 1), .ref (a1 2), .ref (a1 3), .ref (a1 4), .ref (a1 5), .ref (a1 6), .ref (a1 7), .ref (a1 8), .int parties_1, .int judges_1, .int cases_1, .int next_1, .int sits_1], cI cy (a1 0) 6 kind_1, cI cy (a1 1) 6 grievance_1, cI cy (a1 2) 6 wins_1, cI cy (a1 3) 6 lean_1, cI cy (a1 4) 6 favours_1, cI cy (a1 5) 12 plaintiff_1, cI cy (a1 6) 12 defendant_1, cI cy (a1 7) 12 weight_1, cI cy (a1 8) 12 winner_1]) hx hb (hml.trans hl.1.symm) hown k1 k2 k3 k4 hK hP hD hS 15 5 0 0 rfl rfl rfl rfl (fun _ => rfl) hf (Nat.le_of_ble_eq_true rfl) (Nat.le_of_ble_eq_true rfl) dX1_become_72 (fun favours_0_5 H locs hf hP hD hS => ?_)
  refine lv_aload_n hx hb dX1_become_75 rfl (lv_at hl 1 rfl) ?_
  refine pq_get (D := D) (ci := 1) (v := .ref (a1 5)) (C := RX1) (T := TX1) (N := 14) hx hb hts hiX1 hown hK hP 10 rfl rfl 5 (by decide) k9 rfl rfl dX1_become_76 ?_
  refine lv_iconst (v := 0) hx hb dX1_become_79 (by decide) ?_
  refine lv_aload_n hx hb dX1_become_80 rfl (lv_at hl 0 rfl) ?_
  refine pq_get (D := D) (ci := 1) (v := .ref (a0 5)) (C := RX1) (T := TX1) (N := 14) hx hb hts hiX1 hown hK hP 0 rfl rfl 5 (by decide) k9 rfl rfl dX1_become_81 ?_
  refine lv_iconst (v := 0) hx hb dX1_become_84 (by decide) ?_
  refine lv_bipush (v := 12) hx hb dX1_become_85 (by decide) ?_
  refine pq_copyi (ws1 := fun g => [cO h0 1 [.ref (a0 0), .ref (a0 1), .ref (a0 2), .ref (a0 3), .ref (a0 4), .ref (a0 5), .ref (a0 6), .ref (a0 7), .ref (a0 8), .int parties_0, .int judges_0, .int cases_0, .int next_0, .int sits_0], cI cy (a0 0) 6 kind_0_1, cI cy (a0 1) 6 grievance_0_2, cI cy (a0 2) 6 wins_0_3, cI cy (a0 3) 6 lean_0_4, cI cy (a0 4) 6 favours_0_5, cI cy (a0 5) 12 g, cI cy (a0 6) 12 defendant_0, cI cy (a0 7) 12 weight_0, cI cy (a0 8) 12 winner_0, cO h1 1 [.ref (a1 0), .ref (a1 1), .ref (a1 2), .ref (a1 3), .ref (a1 4), .ref (a1 5), .ref (a1 6), .ref (a1 7), .ref (a1 8), .int parties_1, .int judges_1, .int cases_1, .int next_1, .int sits_1], cI cy (a1 0) 6 kind_1, cI cy (a1 1) 6 grievance_1, cI cy (a1 2) 6 wins_1, cI cy (a1 3) 6 lean_1, cI cy (a1 4) 6 favours_1, cI cy (a1 5) 12 plaintiff_1, cI cy (a1 6) 12 defendant_1, cI cy (a1 7) 12 weight_1, cI cy (a1 8) 12 winner_1]) hx hb (hml.trans hl.1.symm) hown k1 k2 k3 k4 hK hP hD hS 16 6 0 0 rfl rfl rfl rfl (fun _ => rfl) hf (Nat.le_of_ble_eq_true rfl) (Nat.le_of_ble_eq_true rfl) dX1_become_87 (fun plaintiff_0_6 H locs hf hP hD hS => ?_)
  refine lv_aload_n hx hb dX1_become_90 rfl (lv_at hl 1 rfl) ?_
  refine pq_get (D := D) (ci := 1) (v := .ref (a1 6)) (C := RX1) (T := TX1) (N := 14) hx hb hts hiX1 hown hK hP 10 rfl rfl 6 (by decide) k10 rfl rfl dX1_become_91 ?_
  refine lv_iconst (v := 0) hx hb dX1_become_94 (by decide) ?_
  refine lv_aload_n hx hb dX1_become_95 rfl (lv_at hl 0 rfl) ?_
  refine pq_get (D := D) (ci := 1) (v := .ref (a0 6)) (C := RX1) (T := TX1) (N := 14) hx hb hts hiX1 hown hK hP 0 rfl rfl 6 (by decide) k10 rfl rfl dX1_become_96 ?_
  refine lv_iconst (v := 0) hx hb dX1_become_99 (by decide) ?_
  refine lv_bipush (v := 12) hx hb dX1_become_100 (by decide) ?_
  refine pq_copyi (ws1 := fun g => [cO h0 1 [.ref (a0 0), .ref (a0 1), .ref (a0 2), .ref (a0 3), .ref (a0 4), .ref (a0 5), .ref (a0 6), .ref (a0 7), .ref (a0 8), .int parties_0, .int judges_0, .int cases_0, .int next_0, .int sits_0], cI cy (a0 0) 6 kind_0_1, cI cy (a0 1) 6 grievance_0_2, cI cy (a0 2) 6 wins_0_3, cI cy (a0 3) 6 lean_0_4, cI cy (a0 4) 6 favours_0_5, cI cy (a0 5) 12 plaintiff_0_6, cI cy (a0 6) 12 g, cI cy (a0 7) 12 weight_0, cI cy (a0 8) 12 winner_0, cO h1 1 [.ref (a1 0), .ref (a1 1), .ref (a1 2), .ref (a1 3), .ref (a1 4), .ref (a1 5), .ref (a1 6), .ref (a1 7), .ref (a1 8), .int parties_1, .int judges_1, .int cases_1, .int next_1, .int sits_1], cI cy (a1 0) 6 kind_1, cI cy (a1 1) 6 grievance_1, cI cy (a1 2) 6 wins_1, cI cy (a1 3) 6 lean_1, cI cy (a1 4) 6 favours_1, cI cy (a1 5) 12 plaintiff_1, cI cy (a1 6) 12 defendant_1, cI cy (a1 7) 12 weight_1, cI cy (a1 8) 12 winner_1]) hx hb (hml.trans hl.1.symm) hown k1 k2 k3 k4 hK hP hD hS 17 7 0 0 rfl rfl rfl rfl (fun _ => rfl) hf (Nat.le_of_ble_eq_true rfl) (Nat.le_of_ble_eq_true rfl) dX1_become_102 (fun defendant_0_7 H locs hf hP hD hS => ?_)
  refine lv_aload_n hx hb dX1_become_105 rfl (lv_at hl 1 rfl) ?_
  refine pq_get (D := D) (ci := 1) (v := .ref (a1 7)) (C := RX1) (T := TX1) (N := 14) hx hb hts hiX1 hown hK hP 10 rfl rfl 7 (by decide) k11 rfl rfl dX1_become_106 ?_
  refine lv_iconst (v := 0) hx hb dX1_become_109 (by decide) ?_
  refine lv_aload_n hx hb dX1_become_110 rfl (lv_at hl 0 rfl) ?_
  refine pq_get (D := D) (ci := 1) (v := .ref (a0 7)) (C := RX1) (T := TX1) (N := 14) hx hb hts hiX1 hown hK hP 0 rfl rfl 7 (by decide) k11 rfl rfl dX1_become_111 ?_
  refine lv_iconst (v := 0) hx hb dX1_become_114 (by decide) ?_
  refine lv_bipush (v := 12) hx hb dX1_become_115 (by decide) ?_
  refine pq_copyi (ws1 := fun g => [cO h0 1 [.ref (a0 0), .ref (a0 1), .ref (a0 2), .ref (a0 3), .ref (a0 4), .ref (a0 5), .ref (a0 6), .ref (a0 7), .ref (a0 8), .int parties_0, .int judges_0, .int cases_0, .int next_0, .int sits_0], cI cy (a0 0) 6 kind_0_1, cI cy (a0 1) 6 grievance_0_2, cI cy (a0 2) 6 wins_0_3, cI cy (a0 3) 6 lean_0_4, cI cy (a0 4) 6 favours_0_5, cI cy (a0 5) 12 plaintiff_0_6, cI cy (a0 6) 12 defendant_0_7, cI cy (a0 7) 12 g, cI cy (a0 8) 12 winner_0, cO h1 1 [.ref (a1 0), .ref (a1 1), .ref (a1 2), .ref (a1 3), .ref (a1 4), .ref (a1 5), .ref (a1 6), .ref (a1 7), .ref (a1 8), .int parties_1, .int judges_1, .int cases_1, .int next_1, .int sits_1], cI cy (a1 0) 6 kind_1, cI cy (a1 1) 6 grievance_1, cI cy (a1 2) 6 wins_1, cI cy (a1 3) 6 lean_1, cI cy (a1 4) 6 favours_1, cI cy (a1 5) 12 plaintiff_1, cI cy (a1 6) 12 defendant_1, cI cy (a1 7) 12 weight_1, cI cy (a1 8) 12 winner_1]) hx hb (hml.trans hl.1.symm) hown k1 k2 k3 k4 hK hP hD hS 18 8 0 0 rfl rfl rfl rfl (fun _ => rfl) hf (Nat.le_of_ble_eq_true rfl) (Nat.le_of_ble_eq_true rfl) dX1_become_117 (fun weight_0_8 H locs hf hP hD hS => ?_)
  refine lv_aload_n hx hb dX1_become_120 rfl (lv_at hl 1 rfl) ?_
  refine pq_get (D := D) (ci := 1) (v := .ref (a1 8)) (C := RX1) (T := TX1) (N := 14) hx hb hts hiX1 hown hK hP 10 rfl rfl 8 (by decide) k12 rfl rfl dX1_become_121 ?_
  refine lv_iconst (v := 0) hx hb dX1_become_124 (by decide) ?_
  refine lv_aload_n hx hb dX1_become_125 rfl (lv_at hl 0 rfl) ?_
  refine pq_get (D := D) (ci := 1) (v := .ref (a0 8)) (C := RX1) (T := TX1) (N := 14) hx hb hts hiX1 hown hK hP 0 rfl rfl 8 (by decide) k12 rfl rfl dX1_become_126 ?_
  refine lv_iconst (v := 0) hx hb dX1_become_129 (by decide) ?_
  refine lv_bipush (v := 12) hx hb dX1_become_130 (by decide) ?_
  refine pq_copyi (ws1 := fun g => [cO h0 1 [.ref (a0 0), .ref (a0 1), .ref (a0 2), .ref (a0 3), .ref (a0 4), .ref (a0 5), .ref (a0 6), .ref (a0 7), .ref (a0 8), .int parties_0, .int judges_0, .int cases_0, .int next_0, .int sits_0], cI cy (a0 0) 6 kind_0_1, cI cy (a0 1) 6 grievance_0_2, cI cy (a0 2) 6 wins_0_3, cI cy (a0 3) 6 lean_0_4, cI cy (a0 4) 6 favours_0_5, cI cy (a0 5) 12 plaintiff_0_6, cI cy (a0 6) 12 defendant_0_7, cI cy (a0 7) 12 weight_0_8, cI cy (a0 8) 12 g, cO h1 1 [.ref (a1 0), .ref (a1 1), .ref (a1 2), .ref (a1 3), .ref (a1 4), .ref (a1 5), .ref (a1 6), .ref (a1 7), .ref (a1 8), .int parties_1, .int judges_1, .int cases_1, .int next_1, .int sits_1], cI cy (a1 0) 6 kind_1, cI cy (a1 1) 6 grievance_1, cI cy (a1 2) 6 wins_1, cI cy (a1 3) 6 lean_1, cI cy (a1 4) 6 favours_1, cI cy (a1 5) 12 plaintiff_1, cI cy (a1 6) 12 defendant_1, cI cy (a1 7) 12 weight_1, cI cy (a1 8) 12 winner_1]) hx hb (hml.trans hl.1.symm) hown k1 k2 k3 k4 hK hP hD hS 19 9 0 0 rfl rfl rfl rfl (fun _ => rfl) hf (Nat.le_of_ble_eq_true rfl) (Nat.le_of_ble_eq_true rfl) dX1_become_132 (fun winner_0_9 H locs hf hP hD hS => ?_)
  refine lv_aload_n hx hb dX1_become_135 rfl (lv_at hl 0 rfl) ?_
  refine lv_aload_n hx hb dX1_become_136 rfl (lv_at hl 1 rfl) ?_
  refine pq_get (D := D) (ci := 1) (v := .int parties_1) (C := RX1) (T := TX1) (N := 14) hx hb hts hiX1 hown hK hP 10 rfl rfl 9 (by decide) k13 rfl rfl dX1_become_137 ?_
  refine pq_put (D := D) (ci := 1) (v := .int parties_1) (C := RX1) (T := TX1) (N := 14) (ws1 := [cO h0 1 [.ref (a0 0), .ref (a0 1), .ref (a0 2), .ref (a0 3), .ref (a0 4), .ref (a0 5), .ref (a0 6), .ref (a0 7), .ref (a0 8), .int parties_1, .int judges_0, .int cases_0, .int next_0, .int sits_0], cI cy (a0 0) 6 kind_0_1, cI cy (a0 1) 6 grievance_0_2, cI cy (a0 2) 6 wins_0_3, cI cy (a0 3) 6 lean_0_4, cI cy (a0 4) 6 favours_0_5, cI cy (a0 5) 12 plaintiff_0_6, cI cy (a0 6) 12 defendant_0_7, cI cy (a0 7) 12 weight_0_8, cI cy (a0 8) 12 winner_0_9, cO h1 1 [.ref (a1 0), .ref (a1 1), .ref (a1 2), .ref (a1 3), .ref (a1 4), .ref (a1 5), .ref (a1 6), .ref (a1 7), .ref (a1 8), .int parties_1, .int judges_1, .int cases_1, .int next_1, .int sits_1], cI cy (a1 0) 6 kind_1, cI cy (a1 1) 6 grievance_1, cI cy (a1 2) 6 wins_1, cI cy (a1 3) 6 lean_1, cI cy (a1 4) 6 favours_1, cI cy (a1 5) 12 plaintiff_1, cI cy (a1 6) 12 defendant_1, cI cy (a1 7) 12 weight_1, cI cy (a1 8) 12 winner_1]) hx hb hts hiX1 tyX1 tyX1_ok nmX1 hown hK hP hD hS 0 rfl rfl 9 (by decide) k13 rfl rfl .int (by decide +kernel) rfl rfl (Nat.le_of_ble_eq_true rfl) rfl dX1_become_140 (fun H locs hP hD hS => ?_)
  refine lv_aload_n hx hb dX1_become_143 rfl (lv_at hl 0 rfl) ?_
  refine lv_aload_n hx hb dX1_become_144 rfl (lv_at hl 1 rfl) ?_
  refine pq_get (D := D) (ci := 1) (v := .int judges_1) (C := RX1) (T := TX1) (N := 14) hx hb hts hiX1 hown hK hP 10 rfl rfl 10 (by decide) k14 rfl rfl dX1_become_145 ?_
  refine pq_put (D := D) (ci := 1) (v := .int judges_1) (C := RX1) (T := TX1) (N := 14) (ws1 := [cO h0 1 [.ref (a0 0), .ref (a0 1), .ref (a0 2), .ref (a0 3), .ref (a0 4), .ref (a0 5), .ref (a0 6), .ref (a0 7), .ref (a0 8), .int parties_1, .int judges_1, .int cases_0, .int next_0, .int sits_0], cI cy (a0 0) 6 kind_0_1, cI cy (a0 1) 6 grievance_0_2, cI cy (a0 2) 6 wins_0_3, cI cy (a0 3) 6 lean_0_4, cI cy (a0 4) 6 favours_0_5, cI cy (a0 5) 12 plaintiff_0_6, cI cy (a0 6) 12 defendant_0_7, cI cy (a0 7) 12 weight_0_8, cI cy (a0 8) 12 winner_0_9, cO h1 1 [.ref (a1 0), .ref (a1 1), .ref (a1 2), .ref (a1 3), .ref (a1 4), .ref (a1 5), .ref (a1 6), .ref (a1 7), .ref (a1 8), .int parties_1, .int judges_1, .int cases_1, .int next_1, .int sits_1], cI cy (a1 0) 6 kind_1, cI cy (a1 1) 6 grievance_1, cI cy (a1 2) 6 wins_1, cI cy (a1 3) 6 lean_1, cI cy (a1 4) 6 favours_1, cI cy (a1 5) 12 plaintiff_1, cI cy (a1 6) 12 defendant_1, cI cy (a1 7) 12 weight_1, cI cy (a1 8) 12 winner_1]) hx hb hts hiX1 tyX1 tyX1_ok nmX1 hown hK hP hD hS 0 rfl rfl 10 (by decide) k14 rfl rfl .int (by decide +kernel) rfl rfl (Nat.le_of_ble_eq_true rfl) rfl dX1_become_148 (fun H locs hP hD hS => ?_)
  refine lv_aload_n hx hb dX1_become_151 rfl (lv_at hl 0 rfl) ?_
  refine lv_aload_n hx hb dX1_become_152 rfl (lv_at hl 1 rfl) ?_
  refine pq_get (D := D) (ci := 1) (v := .int cases_1) (C := RX1) (T := TX1) (N := 14) hx hb hts hiX1 hown hK hP 10 rfl rfl 11 (by decide) k15 rfl rfl dX1_become_153 ?_
  refine pq_put (D := D) (ci := 1) (v := .int cases_1) (C := RX1) (T := TX1) (N := 14) (ws1 := [cO h0 1 [.ref (a0 0), .ref (a0 1), .ref (a0 2), .ref (a0 3), .ref (a0 4), .ref (a0 5), .ref (a0 6), .ref (a0 7), .ref (a0 8), .int parties_1, .int judges_1, .int cases_1, .int next_0, .int sits_0], cI cy (a0 0) 6 kind_0_1, cI cy (a0 1) 6 grievance_0_2, cI cy (a0 2) 6 wins_0_3, cI cy (a0 3) 6 lean_0_4, cI cy (a0 4) 6 favours_0_5, cI cy (a0 5) 12 plaintiff_0_6, cI cy (a0 6) 12 defendant_0_7, cI cy (a0 7) 12 weight_0_8, cI cy (a0 8) 12 winner_0_9, cO h1 1 [.ref (a1 0), .ref (a1 1), .ref (a1 2), .ref (a1 3), .ref (a1 4), .ref (a1 5), .ref (a1 6), .ref (a1 7), .ref (a1 8), .int parties_1, .int judges_1, .int cases_1, .int next_1, .int sits_1], cI cy (a1 0) 6 kind_1, cI cy (a1 1) 6 grievance_1, cI cy (a1 2) 6 wins_1, cI cy (a1 3) 6 lean_1, cI cy (a1 4) 6 favours_1, cI cy (a1 5) 12 plaintiff_1, cI cy (a1 6) 12 defendant_1, cI cy (a1 7) 12 weight_1, cI cy (a1 8) 12 winner_1]) hx hb hts hiX1 tyX1 tyX1_ok nmX1 hown hK hP hD hS 0 rfl rfl 11 (by decide) k15 rfl rfl .int (by decide +kernel) rfl rfl (Nat.le_of_ble_eq_true rfl) rfl dX1_become_156 (fun H locs hP hD hS => ?_)
  refine lv_aload_n hx hb dX1_become_159 rfl (lv_at hl 0 rfl) ?_
  refine lv_aload_n hx hb dX1_become_160 rfl (lv_at hl 1 rfl) ?_
  refine pq_get (D := D) (ci := 1) (v := .int next_1) (C := RX1) (T := TX1) (N := 14) hx hb hts hiX1 hown hK hP 10 rfl rfl 12 (by decide) k16 rfl rfl dX1_become_161 ?_
  refine pq_put (D := D) (ci := 1) (v := .int next_1) (C := RX1) (T := TX1) (N := 14) (ws1 := [cO h0 1 [.ref (a0 0), .ref (a0 1), .ref (a0 2), .ref (a0 3), .ref (a0 4), .ref (a0 5), .ref (a0 6), .ref (a0 7), .ref (a0 8), .int parties_1, .int judges_1, .int cases_1, .int next_1, .int sits_0], cI cy (a0 0) 6 kind_0_1, cI cy (a0 1) 6 grievance_0_2, cI cy (a0 2) 6 wins_0_3, cI cy (a0 3) 6 lean_0_4, cI cy (a0 4) 6 favours_0_5, cI cy (a0 5) 12 plaintiff_0_6, cI cy (a0 6) 12 defendant_0_7, cI cy (a0 7) 12 weight_0_8, cI cy (a0 8) 12 winner_0_9, cO h1 1 [.ref (a1 0), .ref (a1 1), .ref (a1 2), .ref (a1 3), .ref (a1 4), .ref (a1 5), .ref (a1 6), .ref (a1 7), .ref (a1 8), .int parties_1, .int judges_1, .int cases_1, .int next_1, .int sits_1], cI cy (a1 0) 6 kind_1, cI cy (a1 1) 6 grievance_1, cI cy (a1 2) 6 wins_1, cI cy (a1 3) 6 lean_1, cI cy (a1 4) 6 favours_1, cI cy (a1 5) 12 plaintiff_1, cI cy (a1 6) 12 defendant_1, cI cy (a1 7) 12 weight_1, cI cy (a1 8) 12 winner_1]) hx hb hts hiX1 tyX1 tyX1_ok nmX1 hown hK hP hD hS 0 rfl rfl 12 (by decide) k16 rfl rfl .int (by decide +kernel) rfl rfl (Nat.le_of_ble_eq_true rfl) rfl dX1_become_164 (fun H locs hP hD hS => ?_)
  refine lv_aload_n hx hb dX1_become_167 rfl (lv_at hl 0 rfl) ?_
  refine lv_aload_n hx hb dX1_become_168 rfl (lv_at hl 1 rfl) ?_
  refine pq_get (D := D) (ci := 1) (v := .int sits_1) (C := RX1) (T := TX1) (N := 14) hx hb hts hiX1 hown hK hP 10 rfl rfl 13 (by decide) k17 rfl rfl dX1_become_169 ?_
  refine pq_put (D := D) (ci := 1) (v := .int sits_1) (C := RX1) (T := TX1) (N := 14) (ws1 := [cO h0 1 [.ref (a0 0), .ref (a0 1), .ref (a0 2), .ref (a0 3), .ref (a0 4), .ref (a0 5), .ref (a0 6), .ref (a0 7), .ref (a0 8), .int parties_1, .int judges_1, .int cases_1, .int next_1, .int sits_1], cI cy (a0 0) 6 kind_0_1, cI cy (a0 1) 6 grievance_0_2, cI cy (a0 2) 6 wins_0_3, cI cy (a0 3) 6 lean_0_4, cI cy (a0 4) 6 favours_0_5, cI cy (a0 5) 12 plaintiff_0_6, cI cy (a0 6) 12 defendant_0_7, cI cy (a0 7) 12 weight_0_8, cI cy (a0 8) 12 winner_0_9, cO h1 1 [.ref (a1 0), .ref (a1 1), .ref (a1 2), .ref (a1 3), .ref (a1 4), .ref (a1 5), .ref (a1 6), .ref (a1 7), .ref (a1 8), .int parties_1, .int judges_1, .int cases_1, .int next_1, .int sits_1], cI cy (a1 0) 6 kind_1, cI cy (a1 1) 6 grievance_1, cI cy (a1 2) 6 wins_1, cI cy (a1 3) 6 lean_1, cI cy (a1 4) 6 favours_1, cI cy (a1 5) 12 plaintiff_1, cI cy (a1 6) 12 defendant_1, cI cy (a1 7) 12 weight_1, cI cy (a1 8) 12 winner_1]) hx hb hts hiX1 tyX1 tyX1_ok nmX1 hown hK hP hD hS 0 rfl rfl 13 (by decide) k17 rfl rfl .int (by decide +kernel) rfl rfl (Nat.le_of_ble_eq_true rfl) rfl dX1_become_172 (fun H locs hP hD hS => ?_)
  rw [hQ]
  exact pq_vret hx hb hr hlocks hK hP hD hS hf (fun z => [cO h0 1 [.ref (a0 0), .ref (a0 1), .ref (a0 2), .ref (a0 3), .ref (a0 4), .ref (a0 5), .ref (a0 6), .ref (a0 7), .ref (a0 8), .int z.1, .int z.2.1, .int z.2.2.1, .int z.2.2.2.1, .int z.2.2.2.2.1], cI cy (a0 0) 6 z.2.2.2.2.2.1, cI cy (a0 1) 6 z.2.2.2.2.2.2.1, cI cy (a0 2) 6 z.2.2.2.2.2.2.2.1, cI cy (a0 3) 6 z.2.2.2.2.2.2.2.2.1, cI cy (a0 4) 6 z.2.2.2.2.2.2.2.2.2.1, cI cy (a0 5) 12 z.2.2.2.2.2.2.2.2.2.2.1, cI cy (a0 6) 12 z.2.2.2.2.2.2.2.2.2.2.2.1, cI cy (a0 7) 12 z.2.2.2.2.2.2.2.2.2.2.2.2.1, cI cy (a0 8) 12 z.2.2.2.2.2.2.2.2.2.2.2.2.2, cO h1 1 [.ref (a1 0), .ref (a1 1), .ref (a1 2), .ref (a1 3), .ref (a1 4), .ref (a1 5), .ref (a1 6), .ref (a1 7), .ref (a1 8), .int parties_1, .int judges_1, .int cases_1, .int next_1, .int sits_1], cI cy (a1 0) 6 kind_1, cI cy (a1 1) 6 grievance_1, cI cy (a1 2) 6 wins_1, cI cy (a1 3) 6 lean_1, cI cy (a1 4) 6 favours_1, cI cy (a1 5) 12 plaintiff_1, cI cy (a1 6) 12 defendant_1, cI cy (a1 7) 12 weight_1, cI cy (a1 8) 12 winner_1]) rfl dX1_become_175

abbrev rm_X1_isThere : Room := { frames := 0, cells := 0, slots := 0, locals := 0 }
set_option maxHeartbeats 4000000 in
set_option maxRecDepth 100000 in
theorem c_X1_isThere (l : Launch) (D : va_G) (cy : Nat → ClassId) (N : Nat) (h0 : Nat) (a0 : Nat → Nat) (parties_0 : Int32) (judges_0 : Int32) (cases_0 : Int32) (next_0 : Int32) (sits_0 : Int32) (kind_0 : Nat → Int32) (grievance_0 : Nat → Int32) (wins_0 : Nat → Int32) (lean_0 : Nat → Int32) (favours_0 : Nat → Int32) (plaintiff_0 : Nat → Int32) (defendant_0 : Nat → Int32) (weight_0 : Nat → Int32) (winner_0 : Nat → Int32) (z : Int32) (hf : f_X1_isThere N cases_0 = some z) : pq_MI l yX1_isThere wsX1_isThere rm_X1_isThere D cy [.ref h0] [cO h0 1 [.ref (a0 0), .ref (a0 1), .ref (a0 2), .ref (a0 3), .ref (a0 4), .ref (a0 5), .ref (a0 6), .ref (a0 7), .ref (a0 8), .int parties_0, .int judges_0, .int cases_0, .int next_0, .int sits_0], cI cy (a0 0) 6 kind_0, cI cy (a0 1) 6 grievance_0, cI cy (a0 2) 6 wins_0, cI cy (a0 3) 6 lean_0, cI cy (a0 4) 6 favours_0, cI cy (a0 5) 12 plaintiff_0, cI cy (a0 6) 12 defendant_0, cI cy (a0 7) 12 weight_0, cI cy (a0 8) 12 winner_0] [cO h0 1 [.ref (a0 0), .ref (a0 1), .ref (a0 2), .ref (a0 3), .ref (a0 4), .ref (a0 5), .ref (a0 6), .ref (a0 7), .ref (a0 8), .int parties_0, .int judges_0, .int cases_0, .int next_0, .int sits_0], cI cy (a0 0) 6 kind_0, cI cy (a0 1) 6 grievance_0, cI cy (a0 2) 6 wins_0, cI cy (a0 3) 6 lean_0, cI cy (a0 4) 6 favours_0, cI cy (a0 5) 12 plaintiff_0, cI cy (a0 6) 12 defendant_0, cI cy (a0 7) 12 weight_0, cI cy (a0 8) 12 winner_0] (z) := by
  intro sz
  refine pq_ent (Qf := fun A => pq_Qi D cy A [cO h0 1 [.ref (a0 0), .ref (a0 1), .ref (a0 2), .ref (a0 3), .ref (a0 4), .ref (a0 5), .ref (a0 6), .ref (a0 7), .ref (a0 8), .int parties_0, .int judges_0, .int cases_0, .int next_0, .int sits_0], cI cy (a0 0) 6 kind_0, cI cy (a0 1) 6 grievance_0, cI cy (a0 2) 6 wins_0, cI cy (a0 3) 6 lean_0, cI cy (a0 4) 6 favours_0, cI cy (a0 5) 12 plaintiff_0, cI cy (a0 6) 12 defendant_0, cI cy (a0 7) 12 weight_0, cI cy (a0 8) 12 winner_0] (z)) (cc := cX1_isThere) (maxL := 1) (ret := (some .boolean)) (by decide) rfl (Nat.le_of_ble_eq_true rfl) ?_
  intro p e s m args below meth c A ls Q hQ X hK hP hD hA hS hl
  obtain ⟨hx, hb, hr, hts, hown, hlocks, hml⟩ := X
  have hl : lv_has ls 1 [(0, .ref h0)] := hl
  unfold f_X1_isThere at hf
  have hiX1 : ∀ w ∈ wsX10, w ∈ wsX1_isThere := by decide +kernel
  have k0 := hts (.fieldLink RX1 46 "LoserPicks$Circuit" "cases" "I") (by decide +kernel)
  refine lv_aload_n hx hb dX1_isThere_0 rfl (lv_at hl 0 rfl) ?_
  refine pq_get (D := D) (ci := 1) (v := .int cases_0) (C := RX1) (T := TX1) (N := 14) hx hb hts hiX1 hown hK hP 0 rfl rfl 11 (by decide) k0 rfl rfl dX1_isThere_1 ?_
  refine pq_if_le hx hb 11 hf dX1_isThere_4 (by decide) (fun _ hf => ?_) (fun _ hf => ?_)
  · refine lv_iconst (v := 0) hx hb dX1_isThere_11 (by decide) ?_
    rw [hQ]
    exact pq_zret hx hb hr hlocks hK hP hD hS hf (fun z => z) (fun z => [cO h0 1 [.ref (a0 0), .ref (a0 1), .ref (a0 2), .ref (a0 3), .ref (a0 4), .ref (a0 5), .ref (a0 6), .ref (a0 7), .ref (a0 8), .int parties_0, .int judges_0, .int cases_0, .int next_0, .int sits_0], cI cy (a0 0) 6 kind_0, cI cy (a0 1) 6 grievance_0, cI cy (a0 2) 6 wins_0, cI cy (a0 3) 6 lean_0, cI cy (a0 4) 6 favours_0, cI cy (a0 5) 12 plaintiff_0, cI cy (a0 6) 12 defendant_0, cI cy (a0 7) 12 weight_0, cI cy (a0 8) 12 winner_0]) rfl rfl dX1_isThere_12
  · refine lv_iconst (v := 1) hx hb dX1_isThere_7 (by decide) ?_
    refine lv_goto (tgt := 12) hx hb dX1_isThere_8 (by decide) ?_
    rw [hQ]
    exact pq_zret hx hb hr hlocks hK hP hD hS hf (fun z => z) (fun z => [cO h0 1 [.ref (a0 0), .ref (a0 1), .ref (a0 2), .ref (a0 3), .ref (a0 4), .ref (a0 5), .ref (a0 6), .ref (a0 7), .ref (a0 8), .int parties_0, .int judges_0, .int cases_0, .int next_0, .int sits_0], cI cy (a0 0) 6 kind_0, cI cy (a0 1) 6 grievance_0, cI cy (a0 2) 6 wins_0, cI cy (a0 3) 6 lean_0, cI cy (a0 4) 6 favours_0, cI cy (a0 5) 12 plaintiff_0, cI cy (a0 6) 12 defendant_0, cI cy (a0 7) 12 weight_0, cI cy (a0 8) 12 winner_0]) rfl rfl dX1_isThere_12

abbrev rm_X1_hasParty : Room := { frames := 0, cells := 0, slots := 0, locals := 0 }
set_option maxHeartbeats 4000000 in
set_option maxRecDepth 100000 in
theorem c_X1_hasParty (l : Launch) (D : va_G) (cy : Nat → ClassId) (N : Nat) (h0 : Nat) (a0 : Nat → Nat) (parties_0 : Int32) (judges_0 : Int32) (cases_0 : Int32) (next_0 : Int32) (sits_0 : Int32) (kind_0 : Nat → Int32) (grievance_0 : Nat → Int32) (wins_0 : Nat → Int32) (lean_0 : Nat → Int32) (favours_0 : Nat → Int32) (plaintiff_0 : Nat → Int32) (defendant_0 : Nat → Int32) (weight_0 : Nat → Int32) (winner_0 : Nat → Int32) (p1 : Int32) (z : Int32) (hf : f_X1_hasParty N parties_0 p1 = some z) : pq_MI l yX1_hasParty wsX1_hasParty rm_X1_hasParty D cy [.ref h0, .int p1] [cO h0 1 [.ref (a0 0), .ref (a0 1), .ref (a0 2), .ref (a0 3), .ref (a0 4), .ref (a0 5), .ref (a0 6), .ref (a0 7), .ref (a0 8), .int parties_0, .int judges_0, .int cases_0, .int next_0, .int sits_0], cI cy (a0 0) 6 kind_0, cI cy (a0 1) 6 grievance_0, cI cy (a0 2) 6 wins_0, cI cy (a0 3) 6 lean_0, cI cy (a0 4) 6 favours_0, cI cy (a0 5) 12 plaintiff_0, cI cy (a0 6) 12 defendant_0, cI cy (a0 7) 12 weight_0, cI cy (a0 8) 12 winner_0] [cO h0 1 [.ref (a0 0), .ref (a0 1), .ref (a0 2), .ref (a0 3), .ref (a0 4), .ref (a0 5), .ref (a0 6), .ref (a0 7), .ref (a0 8), .int parties_0, .int judges_0, .int cases_0, .int next_0, .int sits_0], cI cy (a0 0) 6 kind_0, cI cy (a0 1) 6 grievance_0, cI cy (a0 2) 6 wins_0, cI cy (a0 3) 6 lean_0, cI cy (a0 4) 6 favours_0, cI cy (a0 5) 12 plaintiff_0, cI cy (a0 6) 12 defendant_0, cI cy (a0 7) 12 weight_0, cI cy (a0 8) 12 winner_0] (z) := by
  intro sz
  refine pq_ent (Qf := fun A => pq_Qi D cy A [cO h0 1 [.ref (a0 0), .ref (a0 1), .ref (a0 2), .ref (a0 3), .ref (a0 4), .ref (a0 5), .ref (a0 6), .ref (a0 7), .ref (a0 8), .int parties_0, .int judges_0, .int cases_0, .int next_0, .int sits_0], cI cy (a0 0) 6 kind_0, cI cy (a0 1) 6 grievance_0, cI cy (a0 2) 6 wins_0, cI cy (a0 3) 6 lean_0, cI cy (a0 4) 6 favours_0, cI cy (a0 5) 12 plaintiff_0, cI cy (a0 6) 12 defendant_0, cI cy (a0 7) 12 weight_0, cI cy (a0 8) 12 winner_0] (z)) (cc := cX1_hasParty) (maxL := 2) (ret := (some .boolean)) (by decide) rfl (Nat.le_of_ble_eq_true rfl) ?_
  intro p e s m args below meth c A ls Q hQ X hK hP hD hA hS hl
  obtain ⟨hx, hb, hr, hts, hown, hlocks, hml⟩ := X
  have hl : lv_has ls 2 [(0, .ref h0), (1, .int p1)] := hl
  unfold f_X1_hasParty at hf
  have hiX1 : ∀ w ∈ wsX10, w ∈ wsX1_hasParty := by decide +kernel
  have k0 := hts (.fieldLink RX1 39 "LoserPicks$Circuit" "parties" "I") (by decide +kernel)
  refine lv_iload_n hx hb dX1_hasParty_0 rfl (lv_at hl 1 rfl) ?_
  refine pq_if_lt hx hb 16 hf dX1_hasParty_1 (by decide) (fun _ hf => ?_) (fun _ hf => ?_)
  · refine lv_iconst (v := 0) hx hb dX1_hasParty_16 (by decide) ?_
    rw [hQ]
    exact pq_zret hx hb hr hlocks hK hP hD hS hf (fun z => z) (fun z => [cO h0 1 [.ref (a0 0), .ref (a0 1), .ref (a0 2), .ref (a0 3), .ref (a0 4), .ref (a0 5), .ref (a0 6), .ref (a0 7), .ref (a0 8), .int parties_0, .int judges_0, .int cases_0, .int next_0, .int sits_0], cI cy (a0 0) 6 kind_0, cI cy (a0 1) 6 grievance_0, cI cy (a0 2) 6 wins_0, cI cy (a0 3) 6 lean_0, cI cy (a0 4) 6 favours_0, cI cy (a0 5) 12 plaintiff_0, cI cy (a0 6) 12 defendant_0, cI cy (a0 7) 12 weight_0, cI cy (a0 8) 12 winner_0]) rfl rfl dX1_hasParty_17
  · refine lv_iload_n hx hb dX1_hasParty_4 rfl (lv_at hl 1 rfl) ?_
    refine lv_aload_n hx hb dX1_hasParty_5 rfl (lv_at hl 0 rfl) ?_
    refine pq_get (D := D) (ci := 1) (v := .int parties_0) (C := RX1) (T := TX1) (N := 14) hx hb hts hiX1 hown hK hP 0 rfl rfl 9 (by decide) k0 rfl rfl dX1_hasParty_6 ?_
    refine pq_icmp_ge hx hb 16 hf dX1_hasParty_9 (by decide) (fun _ hf => ?_) (fun _ hf => ?_)
    · refine lv_iconst (v := 0) hx hb dX1_hasParty_16 (by decide) ?_
      rw [hQ]
      exact pq_zret hx hb hr hlocks hK hP hD hS hf (fun z => z) (fun z => [cO h0 1 [.ref (a0 0), .ref (a0 1), .ref (a0 2), .ref (a0 3), .ref (a0 4), .ref (a0 5), .ref (a0 6), .ref (a0 7), .ref (a0 8), .int parties_0, .int judges_0, .int cases_0, .int next_0, .int sits_0], cI cy (a0 0) 6 kind_0, cI cy (a0 1) 6 grievance_0, cI cy (a0 2) 6 wins_0, cI cy (a0 3) 6 lean_0, cI cy (a0 4) 6 favours_0, cI cy (a0 5) 12 plaintiff_0, cI cy (a0 6) 12 defendant_0, cI cy (a0 7) 12 weight_0, cI cy (a0 8) 12 winner_0]) rfl rfl dX1_hasParty_17
    · refine lv_iconst (v := 1) hx hb dX1_hasParty_12 (by decide) ?_
      refine lv_goto (tgt := 17) hx hb dX1_hasParty_13 (by decide) ?_
      rw [hQ]
      exact pq_zret hx hb hr hlocks hK hP hD hS hf (fun z => z) (fun z => [cO h0 1 [.ref (a0 0), .ref (a0 1), .ref (a0 2), .ref (a0 3), .ref (a0 4), .ref (a0 5), .ref (a0 6), .ref (a0 7), .ref (a0 8), .int parties_0, .int judges_0, .int cases_0, .int next_0, .int sits_0], cI cy (a0 0) 6 kind_0, cI cy (a0 1) 6 grievance_0, cI cy (a0 2) 6 wins_0, cI cy (a0 3) 6 lean_0, cI cy (a0 4) 6 favours_0, cI cy (a0 5) 12 plaintiff_0, cI cy (a0 6) 12 defendant_0, cI cy (a0 7) 12 weight_0, cI cy (a0 8) 12 winner_0]) rfl rfl dX1_hasParty_17

abbrev rm_X1_hasJudge : Room := { frames := 0, cells := 0, slots := 0, locals := 0 }
set_option maxHeartbeats 4000000 in
set_option maxRecDepth 100000 in
theorem c_X1_hasJudge (l : Launch) (D : va_G) (cy : Nat → ClassId) (N : Nat) (h0 : Nat) (a0 : Nat → Nat) (parties_0 : Int32) (judges_0 : Int32) (cases_0 : Int32) (next_0 : Int32) (sits_0 : Int32) (kind_0 : Nat → Int32) (grievance_0 : Nat → Int32) (wins_0 : Nat → Int32) (lean_0 : Nat → Int32) (favours_0 : Nat → Int32) (plaintiff_0 : Nat → Int32) (defendant_0 : Nat → Int32) (weight_0 : Nat → Int32) (winner_0 : Nat → Int32) (p1 : Int32) (z : Int32) (hf : f_X1_hasJudge N judges_0 p1 = some z) : pq_MI l yX1_hasJudge wsX1_hasJudge rm_X1_hasJudge D cy [.ref h0, .int p1] [cO h0 1 [.ref (a0 0), .ref (a0 1), .ref (a0 2), .ref (a0 3), .ref (a0 4), .ref (a0 5), .ref (a0 6), .ref (a0 7), .ref (a0 8), .int parties_0, .int judges_0, .int cases_0, .int next_0, .int sits_0], cI cy (a0 0) 6 kind_0, cI cy (a0 1) 6 grievance_0, cI cy (a0 2) 6 wins_0, cI cy (a0 3) 6 lean_0, cI cy (a0 4) 6 favours_0, cI cy (a0 5) 12 plaintiff_0, cI cy (a0 6) 12 defendant_0, cI cy (a0 7) 12 weight_0, cI cy (a0 8) 12 winner_0] [cO h0 1 [.ref (a0 0), .ref (a0 1), .ref (a0 2), .ref (a0 3), .ref (a0 4), .ref (a0 5), .ref (a0 6), .ref (a0 7), .ref (a0 8), .int parties_0, .int judges_0, .int cases_0, .int next_0, .int sits_0], cI cy (a0 0) 6 kind_0, cI cy (a0 1) 6 grievance_0, cI cy (a0 2) 6 wins_0, cI cy (a0 3) 6 lean_0, cI cy (a0 4) 6 favours_0, cI cy (a0 5) 12 plaintiff_0, cI cy (a0 6) 12 defendant_0, cI cy (a0 7) 12 weight_0, cI cy (a0 8) 12 winner_0] (z) := by
  intro sz
  refine pq_ent (Qf := fun A => pq_Qi D cy A [cO h0 1 [.ref (a0 0), .ref (a0 1), .ref (a0 2), .ref (a0 3), .ref (a0 4), .ref (a0 5), .ref (a0 6), .ref (a0 7), .ref (a0 8), .int parties_0, .int judges_0, .int cases_0, .int next_0, .int sits_0], cI cy (a0 0) 6 kind_0, cI cy (a0 1) 6 grievance_0, cI cy (a0 2) 6 wins_0, cI cy (a0 3) 6 lean_0, cI cy (a0 4) 6 favours_0, cI cy (a0 5) 12 plaintiff_0, cI cy (a0 6) 12 defendant_0, cI cy (a0 7) 12 weight_0, cI cy (a0 8) 12 winner_0] (z)) (cc := cX1_hasJudge) (maxL := 2) (ret := (some .boolean)) (by decide) rfl (Nat.le_of_ble_eq_true rfl) ?_
  intro p e s m args below meth c A ls Q hQ X hK hP hD hA hS hl
  obtain ⟨hx, hb, hr, hts, hown, hlocks, hml⟩ := X
  have hl : lv_has ls 2 [(0, .ref h0), (1, .int p1)] := hl
  unfold f_X1_hasJudge at hf
  have hiX1 : ∀ w ∈ wsX10, w ∈ wsX1_hasJudge := by decide +kernel
  have k0 := hts (.fieldLink RX1 43 "LoserPicks$Circuit" "judges" "I") (by decide +kernel)
  refine lv_iload_n hx hb dX1_hasJudge_0 rfl (lv_at hl 1 rfl) ?_
  refine pq_if_lt hx hb 16 hf dX1_hasJudge_1 (by decide) (fun _ hf => ?_) (fun _ hf => ?_)
  · refine lv_iconst (v := 0) hx hb dX1_hasJudge_16 (by decide) ?_
    rw [hQ]
    exact pq_zret hx hb hr hlocks hK hP hD hS hf (fun z => z) (fun z => [cO h0 1 [.ref (a0 0), .ref (a0 1), .ref (a0 2), .ref (a0 3), .ref (a0 4), .ref (a0 5), .ref (a0 6), .ref (a0 7), .ref (a0 8), .int parties_0, .int judges_0, .int cases_0, .int next_0, .int sits_0], cI cy (a0 0) 6 kind_0, cI cy (a0 1) 6 grievance_0, cI cy (a0 2) 6 wins_0, cI cy (a0 3) 6 lean_0, cI cy (a0 4) 6 favours_0, cI cy (a0 5) 12 plaintiff_0, cI cy (a0 6) 12 defendant_0, cI cy (a0 7) 12 weight_0, cI cy (a0 8) 12 winner_0]) rfl rfl dX1_hasJudge_17
  · refine lv_iload_n hx hb dX1_hasJudge_4 rfl (lv_at hl 1 rfl) ?_
    refine lv_aload_n hx hb dX1_hasJudge_5 rfl (lv_at hl 0 rfl) ?_
    refine pq_get (D := D) (ci := 1) (v := .int judges_0) (C := RX1) (T := TX1) (N := 14) hx hb hts hiX1 hown hK hP 0 rfl rfl 10 (by decide) k0 rfl rfl dX1_hasJudge_6 ?_
    refine pq_icmp_ge hx hb 16 hf dX1_hasJudge_9 (by decide) (fun _ hf => ?_) (fun _ hf => ?_)
    · refine lv_iconst (v := 0) hx hb dX1_hasJudge_16 (by decide) ?_
      rw [hQ]
      exact pq_zret hx hb hr hlocks hK hP hD hS hf (fun z => z) (fun z => [cO h0 1 [.ref (a0 0), .ref (a0 1), .ref (a0 2), .ref (a0 3), .ref (a0 4), .ref (a0 5), .ref (a0 6), .ref (a0 7), .ref (a0 8), .int parties_0, .int judges_0, .int cases_0, .int next_0, .int sits_0], cI cy (a0 0) 6 kind_0, cI cy (a0 1) 6 grievance_0, cI cy (a0 2) 6 wins_0, cI cy (a0 3) 6 lean_0, cI cy (a0 4) 6 favours_0, cI cy (a0 5) 12 plaintiff_0, cI cy (a0 6) 12 defendant_0, cI cy (a0 7) 12 weight_0, cI cy (a0 8) 12 winner_0]) rfl rfl dX1_hasJudge_17
    · refine lv_iconst (v := 1) hx hb dX1_hasJudge_12 (by decide) ?_
      refine lv_goto (tgt := 17) hx hb dX1_hasJudge_13 (by decide) ?_
      rw [hQ]
      exact pq_zret hx hb hr hlocks hK hP hD hS hf (fun z => z) (fun z => [cO h0 1 [.ref (a0 0), .ref (a0 1), .ref (a0 2), .ref (a0 3), .ref (a0 4), .ref (a0 5), .ref (a0 6), .ref (a0 7), .ref (a0 8), .int parties_0, .int judges_0, .int cases_0, .int next_0, .int sits_0], cI cy (a0 0) 6 kind_0, cI cy (a0 1) 6 grievance_0, cI cy (a0 2) 6 wins_0, cI cy (a0 3) 6 lean_0, cI cy (a0 4) 6 favours_0, cI cy (a0 5) 12 plaintiff_0, cI cy (a0 6) 12 defendant_0, cI cy (a0 7) 12 weight_0, cI cy (a0 8) 12 winner_0]) rfl rfl dX1_hasJudge_17

abbrev rm_X1_hasCase : Room := { frames := 0, cells := 0, slots := 0, locals := 0 }
set_option maxHeartbeats 4000000 in
set_option maxRecDepth 100000 in
theorem c_X1_hasCase (l : Launch) (D : va_G) (cy : Nat → ClassId) (N : Nat) (h0 : Nat) (a0 : Nat → Nat) (parties_0 : Int32) (judges_0 : Int32) (cases_0 : Int32) (next_0 : Int32) (sits_0 : Int32) (kind_0 : Nat → Int32) (grievance_0 : Nat → Int32) (wins_0 : Nat → Int32) (lean_0 : Nat → Int32) (favours_0 : Nat → Int32) (plaintiff_0 : Nat → Int32) (defendant_0 : Nat → Int32) (weight_0 : Nat → Int32) (winner_0 : Nat → Int32) (p1 : Int32) (z : Int32) (hf : f_X1_hasCase N cases_0 p1 = some z) : pq_MI l yX1_hasCase wsX1_hasCase rm_X1_hasCase D cy [.ref h0, .int p1] [cO h0 1 [.ref (a0 0), .ref (a0 1), .ref (a0 2), .ref (a0 3), .ref (a0 4), .ref (a0 5), .ref (a0 6), .ref (a0 7), .ref (a0 8), .int parties_0, .int judges_0, .int cases_0, .int next_0, .int sits_0], cI cy (a0 0) 6 kind_0, cI cy (a0 1) 6 grievance_0, cI cy (a0 2) 6 wins_0, cI cy (a0 3) 6 lean_0, cI cy (a0 4) 6 favours_0, cI cy (a0 5) 12 plaintiff_0, cI cy (a0 6) 12 defendant_0, cI cy (a0 7) 12 weight_0, cI cy (a0 8) 12 winner_0] [cO h0 1 [.ref (a0 0), .ref (a0 1), .ref (a0 2), .ref (a0 3), .ref (a0 4), .ref (a0 5), .ref (a0 6), .ref (a0 7), .ref (a0 8), .int parties_0, .int judges_0, .int cases_0, .int next_0, .int sits_0], cI cy (a0 0) 6 kind_0, cI cy (a0 1) 6 grievance_0, cI cy (a0 2) 6 wins_0, cI cy (a0 3) 6 lean_0, cI cy (a0 4) 6 favours_0, cI cy (a0 5) 12 plaintiff_0, cI cy (a0 6) 12 defendant_0, cI cy (a0 7) 12 weight_0, cI cy (a0 8) 12 winner_0] (z) := by
  intro sz
  refine pq_ent (Qf := fun A => pq_Qi D cy A [cO h0 1 [.ref (a0 0), .ref (a0 1), .ref (a0 2), .ref (a0 3), .ref (a0 4), .ref (a0 5), .ref (a0 6), .ref (a0 7), .ref (a0 8), .int parties_0, .int judges_0, .int cases_0, .int next_0, .int sits_0], cI cy (a0 0) 6 kind_0, cI cy (a0 1) 6 grievance_0, cI cy (a0 2) 6 wins_0, cI cy (a0 3) 6 lean_0, cI cy (a0 4) 6 favours_0, cI cy (a0 5) 12 plaintiff_0, cI cy (a0 6) 12 defendant_0, cI cy (a0 7) 12 weight_0, cI cy (a0 8) 12 winner_0] (z)) (cc := cX1_hasCase) (maxL := 2) (ret := (some .boolean)) (by decide) rfl (Nat.le_of_ble_eq_true rfl) ?_
  intro p e s m args below meth c A ls Q hQ X hK hP hD hA hS hl
  obtain ⟨hx, hb, hr, hts, hown, hlocks, hml⟩ := X
  have hl : lv_has ls 2 [(0, .ref h0), (1, .int p1)] := hl
  unfold f_X1_hasCase at hf
  have hiX1 : ∀ w ∈ wsX10, w ∈ wsX1_hasCase := by decide +kernel
  have k0 := hts (.fieldLink RX1 46 "LoserPicks$Circuit" "cases" "I") (by decide +kernel)
  refine lv_iload_n hx hb dX1_hasCase_0 rfl (lv_at hl 1 rfl) ?_
  refine pq_if_lt hx hb 16 hf dX1_hasCase_1 (by decide) (fun _ hf => ?_) (fun _ hf => ?_)
  · refine lv_iconst (v := 0) hx hb dX1_hasCase_16 (by decide) ?_
    rw [hQ]
    exact pq_zret hx hb hr hlocks hK hP hD hS hf (fun z => z) (fun z => [cO h0 1 [.ref (a0 0), .ref (a0 1), .ref (a0 2), .ref (a0 3), .ref (a0 4), .ref (a0 5), .ref (a0 6), .ref (a0 7), .ref (a0 8), .int parties_0, .int judges_0, .int cases_0, .int next_0, .int sits_0], cI cy (a0 0) 6 kind_0, cI cy (a0 1) 6 grievance_0, cI cy (a0 2) 6 wins_0, cI cy (a0 3) 6 lean_0, cI cy (a0 4) 6 favours_0, cI cy (a0 5) 12 plaintiff_0, cI cy (a0 6) 12 defendant_0, cI cy (a0 7) 12 weight_0, cI cy (a0 8) 12 winner_0]) rfl rfl dX1_hasCase_17
  · refine lv_iload_n hx hb dX1_hasCase_4 rfl (lv_at hl 1 rfl) ?_
    refine lv_aload_n hx hb dX1_hasCase_5 rfl (lv_at hl 0 rfl) ?_
    refine pq_get (D := D) (ci := 1) (v := .int cases_0) (C := RX1) (T := TX1) (N := 14) hx hb hts hiX1 hown hK hP 0 rfl rfl 11 (by decide) k0 rfl rfl dX1_hasCase_6 ?_
    refine pq_icmp_ge hx hb 16 hf dX1_hasCase_9 (by decide) (fun _ hf => ?_) (fun _ hf => ?_)
    · refine lv_iconst (v := 0) hx hb dX1_hasCase_16 (by decide) ?_
      rw [hQ]
      exact pq_zret hx hb hr hlocks hK hP hD hS hf (fun z => z) (fun z => [cO h0 1 [.ref (a0 0), .ref (a0 1), .ref (a0 2), .ref (a0 3), .ref (a0 4), .ref (a0 5), .ref (a0 6), .ref (a0 7), .ref (a0 8), .int parties_0, .int judges_0, .int cases_0, .int next_0, .int sits_0], cI cy (a0 0) 6 kind_0, cI cy (a0 1) 6 grievance_0, cI cy (a0 2) 6 wins_0, cI cy (a0 3) 6 lean_0, cI cy (a0 4) 6 favours_0, cI cy (a0 5) 12 plaintiff_0, cI cy (a0 6) 12 defendant_0, cI cy (a0 7) 12 weight_0, cI cy (a0 8) 12 winner_0]) rfl rfl dX1_hasCase_17
    · refine lv_iconst (v := 1) hx hb dX1_hasCase_12 (by decide) ?_
      refine lv_goto (tgt := 17) hx hb dX1_hasCase_13 (by decide) ?_
      rw [hQ]
      exact pq_zret hx hb hr hlocks hK hP hD hS hf (fun z => z) (fun z => [cO h0 1 [.ref (a0 0), .ref (a0 1), .ref (a0 2), .ref (a0 3), .ref (a0 4), .ref (a0 5), .ref (a0 6), .ref (a0 7), .ref (a0 8), .int parties_0, .int judges_0, .int cases_0, .int next_0, .int sits_0], cI cy (a0 0) 6 kind_0, cI cy (a0 1) 6 grievance_0, cI cy (a0 2) 6 wins_0, cI cy (a0 3) 6 lean_0, cI cy (a0 4) 6 favours_0, cI cy (a0 5) 12 plaintiff_0, cI cy (a0 6) 12 defendant_0, cI cy (a0 7) 12 weight_0, cI cy (a0 8) 12 winner_0]) rfl rfl dX1_hasCase_17

abbrev rm_X1_casesLeft : Room := { frames := 0, cells := 0, slots := 0, locals := 0 }
set_option maxHeartbeats 4000000 in
set_option maxRecDepth 100000 in
theorem c_X1_casesLeft (l : Launch) (D : va_G) (cy : Nat → ClassId) (N : Nat) (h0 : Nat) (a0 : Nat → Nat) (parties_0 : Int32) (judges_0 : Int32) (cases_0 : Int32) (next_0 : Int32) (sits_0 : Int32) (kind_0 : Nat → Int32) (grievance_0 : Nat → Int32) (wins_0 : Nat → Int32) (lean_0 : Nat → Int32) (favours_0 : Nat → Int32) (plaintiff_0 : Nat → Int32) (defendant_0 : Nat → Int32) (weight_0 : Nat → Int32) (winner_0 : Nat → Int32) (z : Int32) (hf : f_X1_casesLeft N cases_0 next_0 = some z) : pq_MI l yX1_casesLeft wsX1_casesLeft rm_X1_casesLeft D cy [.ref h0] [cO h0 1 [.ref (a0 0), .ref (a0 1), .ref (a0 2), .ref (a0 3), .ref (a0 4), .ref (a0 5), .ref (a0 6), .ref (a0 7), .ref (a0 8), .int parties_0, .int judges_0, .int cases_0, .int next_0, .int sits_0], cI cy (a0 0) 6 kind_0, cI cy (a0 1) 6 grievance_0, cI cy (a0 2) 6 wins_0, cI cy (a0 3) 6 lean_0, cI cy (a0 4) 6 favours_0, cI cy (a0 5) 12 plaintiff_0, cI cy (a0 6) 12 defendant_0, cI cy (a0 7) 12 weight_0, cI cy (a0 8) 12 winner_0] [cO h0 1 [.ref (a0 0), .ref (a0 1), .ref (a0 2), .ref (a0 3), .ref (a0 4), .ref (a0 5), .ref (a0 6), .ref (a0 7), .ref (a0 8), .int parties_0, .int judges_0, .int cases_0, .int next_0, .int sits_0], cI cy (a0 0) 6 kind_0, cI cy (a0 1) 6 grievance_0, cI cy (a0 2) 6 wins_0, cI cy (a0 3) 6 lean_0, cI cy (a0 4) 6 favours_0, cI cy (a0 5) 12 plaintiff_0, cI cy (a0 6) 12 defendant_0, cI cy (a0 7) 12 weight_0, cI cy (a0 8) 12 winner_0] (z) := by
  intro sz
  refine pq_ent (Qf := fun A => pq_Qi D cy A [cO h0 1 [.ref (a0 0), .ref (a0 1), .ref (a0 2), .ref (a0 3), .ref (a0 4), .ref (a0 5), .ref (a0 6), .ref (a0 7), .ref (a0 8), .int parties_0, .int judges_0, .int cases_0, .int next_0, .int sits_0], cI cy (a0 0) 6 kind_0, cI cy (a0 1) 6 grievance_0, cI cy (a0 2) 6 wins_0, cI cy (a0 3) 6 lean_0, cI cy (a0 4) 6 favours_0, cI cy (a0 5) 12 plaintiff_0, cI cy (a0 6) 12 defendant_0, cI cy (a0 7) 12 weight_0, cI cy (a0 8) 12 winner_0] (z)) (cc := cX1_casesLeft) (maxL := 1) (ret := (some .int)) (by decide) rfl (Nat.le_of_ble_eq_true rfl) ?_
  intro p e s m args below meth c A ls Q hQ X hK hP hD hA hS hl
  obtain ⟨hx, hb, hr, hts, hown, hlocks, hml⟩ := X
  have hl : lv_has ls 1 [(0, .ref h0)] := hl
  unfold f_X1_casesLeft at hf
  have hiX1 : ∀ w ∈ wsX10, w ∈ wsX1_casesLeft := by decide +kernel
  have k0 := hts (.fieldLink RX1 46 "LoserPicks$Circuit" "cases" "I") (by decide +kernel)
  have k1 := hts (.fieldLink RX1 49 "LoserPicks$Circuit" "next" "I") (by decide +kernel)
  refine lv_aload_n hx hb dX1_casesLeft_0 rfl (lv_at hl 0 rfl) ?_
  refine pq_get (D := D) (ci := 1) (v := .int cases_0) (C := RX1) (T := TX1) (N := 14) hx hb hts hiX1 hown hK hP 0 rfl rfl 11 (by decide) k0 rfl rfl dX1_casesLeft_1 ?_
  refine lv_aload_n hx hb dX1_casesLeft_4 rfl (lv_at hl 0 rfl) ?_
  refine pq_get (D := D) (ci := 1) (v := .int next_0) (C := RX1) (T := TX1) (N := 14) hx hb hts hiX1 hown hK hP 0 rfl rfl 12 (by decide) k1 rfl rfl dX1_casesLeft_5 ?_
  refine lv_isub hx hb dX1_casesLeft_8 ?_
  rw [hQ]
  exact pq_iret hx hb hr hlocks hK hP hD hS hf (fun z => z) (fun z => [cO h0 1 [.ref (a0 0), .ref (a0 1), .ref (a0 2), .ref (a0 3), .ref (a0 4), .ref (a0 5), .ref (a0 6), .ref (a0 7), .ref (a0 8), .int parties_0, .int judges_0, .int cases_0, .int next_0, .int sits_0], cI cy (a0 0) 6 kind_0, cI cy (a0 1) 6 grievance_0, cI cy (a0 2) 6 wins_0, cI cy (a0 3) 6 lean_0, cI cy (a0 4) 6 favours_0, cI cy (a0 5) 12 plaintiff_0, cI cy (a0 6) 12 defendant_0, cI cy (a0 7) 12 weight_0, cI cy (a0 8) 12 winner_0]) rfl rfl dX1_casesLeft_9

abbrev rm_X1_isOwn : Room := { frames := 0, cells := 0, slots := 0, locals := 0 }
set_option maxHeartbeats 4000000 in
set_option maxRecDepth 100000 in
theorem c_X1_isOwn (l : Launch) (D : va_G) (cy : Nat → ClassId) (N : Nat) (h0 : Nat) (a0 : Nat → Nat) (parties_0 : Int32) (judges_0 : Int32) (cases_0 : Int32) (next_0 : Int32) (sits_0 : Int32) (kind_0 : Nat → Int32) (grievance_0 : Nat → Int32) (wins_0 : Nat → Int32) (lean_0 : Nat → Int32) (favours_0 : Nat → Int32) (plaintiff_0 : Nat → Int32) (defendant_0 : Nat → Int32) (weight_0 : Nat → Int32) (winner_0 : Nat → Int32) (p1 : Int32) (p2 : Int32) (z : Int32) (hf : f_X1_isOwn N plaintiff_0 defendant_0 p1 p2 = some z) : pq_MI l yX1_isOwn wsX1_isOwn rm_X1_isOwn D cy [.ref h0, .int p1, .int p2] [cO h0 1 [.ref (a0 0), .ref (a0 1), .ref (a0 2), .ref (a0 3), .ref (a0 4), .ref (a0 5), .ref (a0 6), .ref (a0 7), .ref (a0 8), .int parties_0, .int judges_0, .int cases_0, .int next_0, .int sits_0], cI cy (a0 0) 6 kind_0, cI cy (a0 1) 6 grievance_0, cI cy (a0 2) 6 wins_0, cI cy (a0 3) 6 lean_0, cI cy (a0 4) 6 favours_0, cI cy (a0 5) 12 plaintiff_0, cI cy (a0 6) 12 defendant_0, cI cy (a0 7) 12 weight_0, cI cy (a0 8) 12 winner_0] [cO h0 1 [.ref (a0 0), .ref (a0 1), .ref (a0 2), .ref (a0 3), .ref (a0 4), .ref (a0 5), .ref (a0 6), .ref (a0 7), .ref (a0 8), .int parties_0, .int judges_0, .int cases_0, .int next_0, .int sits_0], cI cy (a0 0) 6 kind_0, cI cy (a0 1) 6 grievance_0, cI cy (a0 2) 6 wins_0, cI cy (a0 3) 6 lean_0, cI cy (a0 4) 6 favours_0, cI cy (a0 5) 12 plaintiff_0, cI cy (a0 6) 12 defendant_0, cI cy (a0 7) 12 weight_0, cI cy (a0 8) 12 winner_0] (z) := by
  intro sz
  refine pq_ent (Qf := fun A => pq_Qi D cy A [cO h0 1 [.ref (a0 0), .ref (a0 1), .ref (a0 2), .ref (a0 3), .ref (a0 4), .ref (a0 5), .ref (a0 6), .ref (a0 7), .ref (a0 8), .int parties_0, .int judges_0, .int cases_0, .int next_0, .int sits_0], cI cy (a0 0) 6 kind_0, cI cy (a0 1) 6 grievance_0, cI cy (a0 2) 6 wins_0, cI cy (a0 3) 6 lean_0, cI cy (a0 4) 6 favours_0, cI cy (a0 5) 12 plaintiff_0, cI cy (a0 6) 12 defendant_0, cI cy (a0 7) 12 weight_0, cI cy (a0 8) 12 winner_0] (z)) (cc := cX1_isOwn) (maxL := 3) (ret := (some .boolean)) (by decide) rfl (Nat.le_of_ble_eq_true rfl) ?_
  intro p e s m args below meth c A ls Q hQ X hK hP hD hA hS hl
  obtain ⟨hx, hb, hr, hts, hown, hlocks, hml⟩ := X
  have hl : lv_has ls 3 [(0, .ref h0), (1, .int p1), (2, .int p2)] := hl
  unfold f_X1_isOwn at hf
  have hiX1 : ∀ w ∈ wsX10, w ∈ wsX1_isOwn := by decide +kernel
  have k0 := hts (.fieldLink RX1 27 "LoserPicks$Circuit" "plaintiff" "[I") (by decide +kernel)
  have k1 := hts (.fieldLink RX1 30 "LoserPicks$Circuit" "defendant" "[I") (by decide +kernel)
  refine lv_aload_n hx hb dX1_isOwn_0 rfl (lv_at hl 0 rfl) ?_
  refine pq_get (D := D) (ci := 1) (v := .ref (a0 5)) (C := RX1) (T := TX1) (N := 14) hx hb hts hiX1 hown hK hP 0 rfl rfl 5 (by decide) k0 rfl rfl dX1_isOwn_1 ?_
  refine lv_iload_n hx hb dX1_isOwn_4 rfl (lv_at hl 2 rfl) ?_
  refine pq_iald hx hb hK hP 6 0 rfl rfl hf dX1_isOwn_5 (fun hf => ?_)
  refine lv_iload_n hx hb dX1_isOwn_6 rfl (lv_at hl 1 rfl) ?_
  obtain ⟨kJ20, ekJ20, hf⟩ := pq_j_e hf
  have hJ20 : ∀ (H : Heap) (locs : List Loc) (ls : Array Slot), kJ20 = some z → va_P D vwCl [cO h0 1 [.ref (a0 0), .ref (a0 1), .ref (a0 2), .ref (a0 3), .ref (a0 4), .ref (a0 5), .ref (a0 6), .ref (a0 7), .ref (a0 8), .int parties_0, .int judges_0, .int cases_0, .int next_0, .int sits_0], cI cy (a0 0) 6 kind_0, cI cy (a0 1) 6 grievance_0, cI cy (a0 2) 6 wins_0, cI cy (a0 3) 6 lean_0, cI cy (a0 4) 6 favours_0, cI cy (a0 5) 12 plaintiff_0, cI cy (a0 6) 12 defendant_0, cI cy (a0 7) 12 weight_0, cI cy (a0 8) 12 winner_0] H → va_D A [cO h0 1 [.ref (a0 0), .ref (a0 1), .ref (a0 2), .ref (a0 3), .ref (a0 4), .ref (a0 5), .ref (a0 6), .ref (a0 7), .ref (a0 8), .int parties_0, .int judges_0, .int cases_0, .int next_0, .int sits_0], cI cy (a0 0) 6 kind_0, cI cy (a0 1) 6 grievance_0, cI cy (a0 2) 6 wins_0, cI cy (a0 3) 6 lean_0, cI cy (a0 4) 6 favours_0, cI cy (a0 5) 12 plaintiff_0, cI cy (a0 6) 12 defendant_0, cI cy (a0 7) 12 weight_0, cI cy (a0 8) 12 winner_0] → va_S A s.heap H locs → lv_has ls 3 [] → W p l e rm_X1_isOwn s m args below meth c H locs 0 0 Q (F0 m 20 ls []) := by
    clear hf hP hD hS hl
    intro  H locs ls hf hP hD hS hl
    rw [ekJ20] at hf
    refine lv_iconst (v := 1) hx hb dX1_isOwn_20 (by decide) ?_
    refine lv_goto (tgt := 25) hx hb dX1_isOwn_21 (by decide) ?_
    rw [hQ]
    exact pq_zret hx hb hr hlocks hK hP hD hS hf (fun z => z) (fun z => [cO h0 1 [.ref (a0 0), .ref (a0 1), .ref (a0 2), .ref (a0 3), .ref (a0 4), .ref (a0 5), .ref (a0 6), .ref (a0 7), .ref (a0 8), .int parties_0, .int judges_0, .int cases_0, .int next_0, .int sits_0], cI cy (a0 0) 6 kind_0, cI cy (a0 1) 6 grievance_0, cI cy (a0 2) 6 wins_0, cI cy (a0 3) 6 lean_0, cI cy (a0 4) 6 favours_0, cI cy (a0 5) 12 plaintiff_0, cI cy (a0 6) 12 defendant_0, cI cy (a0 7) 12 weight_0, cI cy (a0 8) 12 winner_0]) rfl rfl dX1_isOwn_25
  clear ekJ20
  refine pq_icmp_eq hx hb 20 hf dX1_isOwn_7 (by decide) (fun _ hf => ?_) (fun _ hf => ?_)
  · exact hJ20 _ _ _ hf hP hD hS (lv_sub hl [] rfl)
  · refine lv_aload_n hx hb dX1_isOwn_10 rfl (lv_at hl 0 rfl) ?_
    refine pq_get (D := D) (ci := 1) (v := .ref (a0 6)) (C := RX1) (T := TX1) (N := 14) hx hb hts hiX1 hown hK hP 0 rfl rfl 6 (by decide) k1 rfl rfl dX1_isOwn_11 ?_
    refine lv_iload_n hx hb dX1_isOwn_14 rfl (lv_at hl 2 rfl) ?_
    refine pq_iald hx hb hK hP 7 0 rfl rfl hf dX1_isOwn_15 (fun hf => ?_)
    refine lv_iload_n hx hb dX1_isOwn_16 rfl (lv_at hl 1 rfl) ?_
    refine pq_icmp_ne hx hb 24 hf dX1_isOwn_17 (by decide) (fun _ hf => ?_) (fun _ hf => ?_)
    · refine lv_iconst (v := 0) hx hb dX1_isOwn_24 (by decide) ?_
      rw [hQ]
      exact pq_zret hx hb hr hlocks hK hP hD hS hf (fun z => z) (fun z => [cO h0 1 [.ref (a0 0), .ref (a0 1), .ref (a0 2), .ref (a0 3), .ref (a0 4), .ref (a0 5), .ref (a0 6), .ref (a0 7), .ref (a0 8), .int parties_0, .int judges_0, .int cases_0, .int next_0, .int sits_0], cI cy (a0 0) 6 kind_0, cI cy (a0 1) 6 grievance_0, cI cy (a0 2) 6 wins_0, cI cy (a0 3) 6 lean_0, cI cy (a0 4) 6 favours_0, cI cy (a0 5) 12 plaintiff_0, cI cy (a0 6) 12 defendant_0, cI cy (a0 7) 12 weight_0, cI cy (a0 8) 12 winner_0]) rfl rfl dX1_isOwn_25
    · exact hJ20 _ _ _ hf hP hD hS (lv_sub hl [] rfl)

abbrev rm_X1_opponentOf : Room := { frames := 0, cells := 0, slots := 0, locals := 0 }
set_option maxHeartbeats 4000000 in
set_option maxRecDepth 100000 in
theorem c_X1_opponentOf (l : Launch) (D : va_G) (cy : Nat → ClassId) (N : Nat) (h0 : Nat) (a0 : Nat → Nat) (parties_0 : Int32) (judges_0 : Int32) (cases_0 : Int32) (next_0 : Int32) (sits_0 : Int32) (kind_0 : Nat → Int32) (grievance_0 : Nat → Int32) (wins_0 : Nat → Int32) (lean_0 : Nat → Int32) (favours_0 : Nat → Int32) (plaintiff_0 : Nat → Int32) (defendant_0 : Nat → Int32) (weight_0 : Nat → Int32) (winner_0 : Nat → Int32) (p1 : Int32) (p2 : Int32) (z : Int32) (hf : f_X1_opponentOf N plaintiff_0 defendant_0 p1 p2 = some z) : pq_MI l yX1_opponentOf wsX1_opponentOf rm_X1_opponentOf D cy [.ref h0, .int p1, .int p2] [cO h0 1 [.ref (a0 0), .ref (a0 1), .ref (a0 2), .ref (a0 3), .ref (a0 4), .ref (a0 5), .ref (a0 6), .ref (a0 7), .ref (a0 8), .int parties_0, .int judges_0, .int cases_0, .int next_0, .int sits_0], cI cy (a0 0) 6 kind_0, cI cy (a0 1) 6 grievance_0, cI cy (a0 2) 6 wins_0, cI cy (a0 3) 6 lean_0, cI cy (a0 4) 6 favours_0, cI cy (a0 5) 12 plaintiff_0, cI cy (a0 6) 12 defendant_0, cI cy (a0 7) 12 weight_0, cI cy (a0 8) 12 winner_0] [cO h0 1 [.ref (a0 0), .ref (a0 1), .ref (a0 2), .ref (a0 3), .ref (a0 4), .ref (a0 5), .ref (a0 6), .ref (a0 7), .ref (a0 8), .int parties_0, .int judges_0, .int cases_0, .int next_0, .int sits_0], cI cy (a0 0) 6 kind_0, cI cy (a0 1) 6 grievance_0, cI cy (a0 2) 6 wins_0, cI cy (a0 3) 6 lean_0, cI cy (a0 4) 6 favours_0, cI cy (a0 5) 12 plaintiff_0, cI cy (a0 6) 12 defendant_0, cI cy (a0 7) 12 weight_0, cI cy (a0 8) 12 winner_0] (z) := by
  intro sz
  refine pq_ent (Qf := fun A => pq_Qi D cy A [cO h0 1 [.ref (a0 0), .ref (a0 1), .ref (a0 2), .ref (a0 3), .ref (a0 4), .ref (a0 5), .ref (a0 6), .ref (a0 7), .ref (a0 8), .int parties_0, .int judges_0, .int cases_0, .int next_0, .int sits_0], cI cy (a0 0) 6 kind_0, cI cy (a0 1) 6 grievance_0, cI cy (a0 2) 6 wins_0, cI cy (a0 3) 6 lean_0, cI cy (a0 4) 6 favours_0, cI cy (a0 5) 12 plaintiff_0, cI cy (a0 6) 12 defendant_0, cI cy (a0 7) 12 weight_0, cI cy (a0 8) 12 winner_0] (z)) (cc := cX1_opponentOf) (maxL := 3) (ret := (some .int)) (by decide) rfl (Nat.le_of_ble_eq_true rfl) ?_
  intro p e s m args below meth c A ls Q hQ X hK hP hD hA hS hl
  obtain ⟨hx, hb, hr, hts, hown, hlocks, hml⟩ := X
  have hl : lv_has ls 3 [(0, .ref h0), (1, .int p1), (2, .int p2)] := hl
  unfold f_X1_opponentOf at hf
  have hiX1 : ∀ w ∈ wsX10, w ∈ wsX1_opponentOf := by decide +kernel
  have k0 := hts (.fieldLink RX1 27 "LoserPicks$Circuit" "plaintiff" "[I") (by decide +kernel)
  have k1 := hts (.fieldLink RX1 30 "LoserPicks$Circuit" "defendant" "[I") (by decide +kernel)
  refine lv_aload_n hx hb dX1_opponentOf_0 rfl (lv_at hl 0 rfl) ?_
  refine pq_get (D := D) (ci := 1) (v := .ref (a0 5)) (C := RX1) (T := TX1) (N := 14) hx hb hts hiX1 hown hK hP 0 rfl rfl 5 (by decide) k0 rfl rfl dX1_opponentOf_1 ?_
  refine lv_iload_n hx hb dX1_opponentOf_4 rfl (lv_at hl 2 rfl) ?_
  refine pq_iald hx hb hK hP 6 0 rfl rfl hf dX1_opponentOf_5 (fun hf => ?_)
  refine lv_iload_n hx hb dX1_opponentOf_6 rfl (lv_at hl 1 rfl) ?_
  refine pq_icmp_ne hx hb 19 hf dX1_opponentOf_7 (by decide) (fun _ hf => ?_) (fun _ hf => ?_)
  · refine lv_aload_n hx hb dX1_opponentOf_19 rfl (lv_at hl 0 rfl) ?_
    refine pq_get (D := D) (ci := 1) (v := .ref (a0 5)) (C := RX1) (T := TX1) (N := 14) hx hb hts hiX1 hown hK hP 0 rfl rfl 5 (by decide) k0 rfl rfl dX1_opponentOf_20 ?_
    refine lv_iload_n hx hb dX1_opponentOf_23 rfl (lv_at hl 2 rfl) ?_
    refine pq_iald hx hb hK hP 6 0 rfl rfl hf dX1_opponentOf_24 (fun hf => ?_)
    rw [hQ]
    exact pq_iret hx hb hr hlocks hK hP hD hS hf (fun z => z) (fun z => [cO h0 1 [.ref (a0 0), .ref (a0 1), .ref (a0 2), .ref (a0 3), .ref (a0 4), .ref (a0 5), .ref (a0 6), .ref (a0 7), .ref (a0 8), .int parties_0, .int judges_0, .int cases_0, .int next_0, .int sits_0], cI cy (a0 0) 6 kind_0, cI cy (a0 1) 6 grievance_0, cI cy (a0 2) 6 wins_0, cI cy (a0 3) 6 lean_0, cI cy (a0 4) 6 favours_0, cI cy (a0 5) 12 plaintiff_0, cI cy (a0 6) 12 defendant_0, cI cy (a0 7) 12 weight_0, cI cy (a0 8) 12 winner_0]) rfl rfl dX1_opponentOf_25
  · refine lv_aload_n hx hb dX1_opponentOf_10 rfl (lv_at hl 0 rfl) ?_
    refine pq_get (D := D) (ci := 1) (v := .ref (a0 6)) (C := RX1) (T := TX1) (N := 14) hx hb hts hiX1 hown hK hP 0 rfl rfl 6 (by decide) k1 rfl rfl dX1_opponentOf_11 ?_
    refine lv_iload_n hx hb dX1_opponentOf_14 rfl (lv_at hl 2 rfl) ?_
    refine pq_iald hx hb hK hP 7 0 rfl rfl hf dX1_opponentOf_15 (fun hf => ?_)
    refine lv_goto (tgt := 25) hx hb dX1_opponentOf_16 (by decide) ?_
    rw [hQ]
    exact pq_iret hx hb hr hlocks hK hP hD hS hf (fun z => z) (fun z => [cO h0 1 [.ref (a0 0), .ref (a0 1), .ref (a0 2), .ref (a0 3), .ref (a0 4), .ref (a0 5), .ref (a0 6), .ref (a0 7), .ref (a0 8), .int parties_0, .int judges_0, .int cases_0, .int next_0, .int sits_0], cI cy (a0 0) 6 kind_0, cI cy (a0 1) 6 grievance_0, cI cy (a0 2) 6 wins_0, cI cy (a0 3) 6 lean_0, cI cy (a0 4) 6 favours_0, cI cy (a0 5) 12 plaintiff_0, cI cy (a0 6) 12 defendant_0, cI cy (a0 7) 12 weight_0, cI cy (a0 8) 12 winner_0]) rfl rfl dX1_opponentOf_25

abbrev rm_X1_pleaBefore : Room := { frames := 0, cells := 0, slots := 0, locals := 0 }
set_option maxHeartbeats 4000000 in
set_option maxRecDepth 100000 in
theorem c_X1_pleaBefore (l : Launch) (D : va_G) (cy : Nat → ClassId) (N : Nat) (h0 : Nat) (a0 : Nat → Nat) (parties_0 : Int32) (judges_0 : Int32) (cases_0 : Int32) (next_0 : Int32) (sits_0 : Int32) (kind_0 : Nat → Int32) (grievance_0 : Nat → Int32) (wins_0 : Nat → Int32) (lean_0 : Nat → Int32) (favours_0 : Nat → Int32) (plaintiff_0 : Nat → Int32) (defendant_0 : Nat → Int32) (weight_0 : Nat → Int32) (winner_0 : Nat → Int32) (p1 : Int32) (p2 : Int32) (z : Int32) (hf : f_X1_pleaBefore N favours_0 plaintiff_0 defendant_0 weight_0 p1 p2 = some z) : pq_MI l yX1_pleaBefore wsX1_pleaBefore rm_X1_pleaBefore D cy [.ref h0, .int p1, .int p2] [cO h0 1 [.ref (a0 0), .ref (a0 1), .ref (a0 2), .ref (a0 3), .ref (a0 4), .ref (a0 5), .ref (a0 6), .ref (a0 7), .ref (a0 8), .int parties_0, .int judges_0, .int cases_0, .int next_0, .int sits_0], cI cy (a0 0) 6 kind_0, cI cy (a0 1) 6 grievance_0, cI cy (a0 2) 6 wins_0, cI cy (a0 3) 6 lean_0, cI cy (a0 4) 6 favours_0, cI cy (a0 5) 12 plaintiff_0, cI cy (a0 6) 12 defendant_0, cI cy (a0 7) 12 weight_0, cI cy (a0 8) 12 winner_0] [cO h0 1 [.ref (a0 0), .ref (a0 1), .ref (a0 2), .ref (a0 3), .ref (a0 4), .ref (a0 5), .ref (a0 6), .ref (a0 7), .ref (a0 8), .int parties_0, .int judges_0, .int cases_0, .int next_0, .int sits_0], cI cy (a0 0) 6 kind_0, cI cy (a0 1) 6 grievance_0, cI cy (a0 2) 6 wins_0, cI cy (a0 3) 6 lean_0, cI cy (a0 4) 6 favours_0, cI cy (a0 5) 12 plaintiff_0, cI cy (a0 6) 12 defendant_0, cI cy (a0 7) 12 weight_0, cI cy (a0 8) 12 winner_0] (z) := by
  intro sz
  refine pq_ent (Qf := fun A => pq_Qi D cy A [cO h0 1 [.ref (a0 0), .ref (a0 1), .ref (a0 2), .ref (a0 3), .ref (a0 4), .ref (a0 5), .ref (a0 6), .ref (a0 7), .ref (a0 8), .int parties_0, .int judges_0, .int cases_0, .int next_0, .int sits_0], cI cy (a0 0) 6 kind_0, cI cy (a0 1) 6 grievance_0, cI cy (a0 2) 6 wins_0, cI cy (a0 3) 6 lean_0, cI cy (a0 4) 6 favours_0, cI cy (a0 5) 12 plaintiff_0, cI cy (a0 6) 12 defendant_0, cI cy (a0 7) 12 weight_0, cI cy (a0 8) 12 winner_0] (z)) (cc := cX1_pleaBefore) (maxL := 4) (ret := (some .int)) (by decide) rfl (Nat.le_of_ble_eq_true rfl) ?_
  intro p e s m args below meth c A ls Q hQ X hK hP hD hA hS hl
  obtain ⟨hx, hb, hr, hts, hown, hlocks, hml⟩ := X
  have hl : lv_has ls 4 [(0, .ref h0), (1, .int p1), (2, .int p2)] := hl
  unfold f_X1_pleaBefore at hf
  have hiX1 : ∀ w ∈ wsX10, w ∈ wsX1_pleaBefore := by decide +kernel
  have k0 := hts (.fieldLink RX1 33 "LoserPicks$Circuit" "weight" "[I") (by decide +kernel)
  have k1 := hts (.fieldLink RX1 24 "LoserPicks$Circuit" "favours" "[I") (by decide +kernel)
  have k2 := hts (.fieldLink RX1 27 "LoserPicks$Circuit" "plaintiff" "[I") (by decide +kernel)
  have k3 := hts (.fieldLink RX1 30 "LoserPicks$Circuit" "defendant" "[I") (by decide +kernel)
  refine lv_aload_n hx hb dX1_pleaBefore_0 rfl (lv_at hl 0 rfl) ?_
  refine pq_get (D := D) (ci := 1) (v := .ref (a0 7)) (C := RX1) (T := TX1) (N := 14) hx hb hts hiX1 hown hK hP 0 rfl rfl 7 (by decide) k0 rfl rfl dX1_pleaBefore_1 ?_
  refine lv_iload_n hx hb dX1_pleaBefore_4 rfl (lv_at hl 2 rfl) ?_
  refine pq_iald hx hb hK hP 8 0 rfl rfl hf dX1_pleaBefore_5 (fun hf => ?_)
  refine pq_li hf (fun x3_1 hf => ?_)
  refine lv_istore_n (lv' := [(3, .int x3_1), (0, .ref h0), (1, .int p1), (2, .int p2)]) hx hb dX1_pleaBefore_6 rfl hl (by decide) rfl (fun ls hl => ?_)
  refine lv_aload_n hx hb dX1_pleaBefore_7 rfl (lv_at hl 1 rfl) ?_
  refine pq_get (D := D) (ci := 1) (v := .ref (a0 4)) (C := RX1) (T := TX1) (N := 14) hx hb hts hiX1 hown hK hP 0 rfl rfl 4 (by decide) k1 rfl rfl dX1_pleaBefore_8 ?_
  refine lv_iload_n hx hb dX1_pleaBefore_11 rfl (lv_at hl 2 rfl) ?_
  refine pq_iald hx hb hK hP 5 0 rfl rfl hf dX1_pleaBefore_12 (fun hf => ?_)
  refine lv_aload_n hx hb dX1_pleaBefore_13 rfl (lv_at hl 1 rfl) ?_
  refine pq_get (D := D) (ci := 1) (v := .ref (a0 5)) (C := RX1) (T := TX1) (N := 14) hx hb hts hiX1 hown hK hP 0 rfl rfl 5 (by decide) k2 rfl rfl dX1_pleaBefore_14 ?_
  refine lv_iload_n hx hb dX1_pleaBefore_17 rfl (lv_at hl 3 rfl) ?_
  refine pq_iald hx hb hK hP 6 0 rfl rfl hf dX1_pleaBefore_18 (fun hf => ?_)
  obtain ⟨kJ25, ekJ25, hf⟩ := pq_j_e hf
  have hJ25 : ∀ (x3_J25 : Int32) (H : Heap) (locs : List Loc) (ls : Array Slot), kJ25 x3_J25 = some z → va_P D vwCl [cO h0 1 [.ref (a0 0), .ref (a0 1), .ref (a0 2), .ref (a0 3), .ref (a0 4), .ref (a0 5), .ref (a0 6), .ref (a0 7), .ref (a0 8), .int parties_0, .int judges_0, .int cases_0, .int next_0, .int sits_0], cI cy (a0 0) 6 kind_0, cI cy (a0 1) 6 grievance_0, cI cy (a0 2) 6 wins_0, cI cy (a0 3) 6 lean_0, cI cy (a0 4) 6 favours_0, cI cy (a0 5) 12 plaintiff_0, cI cy (a0 6) 12 defendant_0, cI cy (a0 7) 12 weight_0, cI cy (a0 8) 12 winner_0] H → va_D A [cO h0 1 [.ref (a0 0), .ref (a0 1), .ref (a0 2), .ref (a0 3), .ref (a0 4), .ref (a0 5), .ref (a0 6), .ref (a0 7), .ref (a0 8), .int parties_0, .int judges_0, .int cases_0, .int next_0, .int sits_0], cI cy (a0 0) 6 kind_0, cI cy (a0 1) 6 grievance_0, cI cy (a0 2) 6 wins_0, cI cy (a0 3) 6 lean_0, cI cy (a0 4) 6 favours_0, cI cy (a0 5) 12 plaintiff_0, cI cy (a0 6) 12 defendant_0, cI cy (a0 7) 12 weight_0, cI cy (a0 8) 12 winner_0] → va_S A s.heap H locs → lv_has ls 4 [(0, .ref h0), (1, .int p1), (2, .int p2), (3, .int x3_J25)] → W p l e rm_X1_pleaBefore s m args below meth c H locs 0 0 Q (F0 m 25 ls []) := by
    clear hf hP hD hS hl
    intro x3_J25 H locs ls hf hP hD hS hl
    rw [ekJ25] at hf
    refine lv_aload_n hx hb dX1_pleaBefore_25 rfl (lv_at hl 0 rfl) ?_
    refine pq_get (D := D) (ci := 1) (v := .ref (a0 4)) (C := RX1) (T := TX1) (N := 14) hx hb hts hiX1 hown hK hP 0 rfl rfl 4 (by decide) k1 rfl rfl dX1_pleaBefore_26 ?_
    refine lv_iload_n hx hb dX1_pleaBefore_29 rfl (lv_at hl 1 rfl) ?_
    refine pq_iald hx hb hK hP 5 0 rfl rfl hf dX1_pleaBefore_30 (fun hf => ?_)
    refine lv_aload_n hx hb dX1_pleaBefore_31 rfl (lv_at hl 0 rfl) ?_
    refine pq_get (D := D) (ci := 1) (v := .ref (a0 6)) (C := RX1) (T := TX1) (N := 14) hx hb hts hiX1 hown hK hP 0 rfl rfl 6 (by decide) k3 rfl rfl dX1_pleaBefore_32 ?_
    refine lv_iload_n hx hb dX1_pleaBefore_35 rfl (lv_at hl 2 rfl) ?_
    refine pq_iald hx hb hK hP 7 0 rfl rfl hf dX1_pleaBefore_36 (fun hf => ?_)
    refine pq_icmp_ne hx hb 43 hf dX1_pleaBefore_37 (by decide) (fun _ hf => ?_) (fun _ hf => ?_)
    · refine lv_iload_n hx hb dX1_pleaBefore_43 rfl (lv_at hl 3 rfl) ?_
      rw [hQ]
      exact pq_iret hx hb hr hlocks hK hP hD hS hf (fun z => z) (fun z => [cO h0 1 [.ref (a0 0), .ref (a0 1), .ref (a0 2), .ref (a0 3), .ref (a0 4), .ref (a0 5), .ref (a0 6), .ref (a0 7), .ref (a0 8), .int parties_0, .int judges_0, .int cases_0, .int next_0, .int sits_0], cI cy (a0 0) 6 kind_0, cI cy (a0 1) 6 grievance_0, cI cy (a0 2) 6 wins_0, cI cy (a0 3) 6 lean_0, cI cy (a0 4) 6 favours_0, cI cy (a0 5) 12 plaintiff_0, cI cy (a0 6) 12 defendant_0, cI cy (a0 7) 12 weight_0, cI cy (a0 8) 12 winner_0]) rfl rfl dX1_pleaBefore_44
    · refine pq_iinc (v := x3_J25 + (-2)) (lv1 := fun y => [(3, .int y), (0, .ref h0), (1, .int p1), (2, .int p2)]) hx hb hf dX1_pleaBefore_40 hl (kp := 3) rfl rfl (by decide) (fun _ => rfl) (fun x3_2 ls hf hl => ?_)
      refine lv_iload_n hx hb dX1_pleaBefore_43 rfl (lv_at hl 0 rfl) ?_
      rw [hQ]
      exact pq_iret hx hb hr hlocks hK hP hD hS hf (fun z => z) (fun z => [cO h0 1 [.ref (a0 0), .ref (a0 1), .ref (a0 2), .ref (a0 3), .ref (a0 4), .ref (a0 5), .ref (a0 6), .ref (a0 7), .ref (a0 8), .int parties_0, .int judges_0, .int cases_0, .int next_0, .int sits_0], cI cy (a0 0) 6 kind_0, cI cy (a0 1) 6 grievance_0, cI cy (a0 2) 6 wins_0, cI cy (a0 3) 6 lean_0, cI cy (a0 4) 6 favours_0, cI cy (a0 5) 12 plaintiff_0, cI cy (a0 6) 12 defendant_0, cI cy (a0 7) 12 weight_0, cI cy (a0 8) 12 winner_0]) rfl rfl dX1_pleaBefore_44
  clear ekJ25
  refine pq_icmp_ne hx hb 25 hf dX1_pleaBefore_19 (by decide) (fun _ hf => ?_) (fun _ hf => ?_)
  · exact hJ25 x3_1 _ _ _ hf hP hD hS (lv_sub hl [1, 2, 3, 0] rfl)
  · refine pq_iinc (v := x3_1 + 2) (lv1 := fun y => [(3, .int y), (0, .ref h0), (1, .int p1), (2, .int p2)]) hx hb hf dX1_pleaBefore_22 hl (kp := 0) rfl rfl (by decide) (fun _ => rfl) (fun x3_3 ls hf hl => ?_)
    exact hJ25 x3_3 _ _ _ hf hP hD hS (lv_sub hl [1, 2, 3, 0] rfl)

abbrev rm_X1_winnerBefore : Room := { frames := 1, cells := 0, slots := 0, locals := 23 }
set_option maxHeartbeats 4000000 in
set_option maxRecDepth 100000 in
theorem c_X1_winnerBefore (l : Launch) (D : va_G) (cy : Nat → ClassId) (N : Nat) (h0 : Nat) (a0 : Nat → Nat) (parties_0 : Int32) (judges_0 : Int32) (cases_0 : Int32) (next_0 : Int32) (sits_0 : Int32) (kind_0 : Nat → Int32) (grievance_0 : Nat → Int32) (wins_0 : Nat → Int32) (lean_0 : Nat → Int32) (favours_0 : Nat → Int32) (plaintiff_0 : Nat → Int32) (defendant_0 : Nat → Int32) (weight_0 : Nat → Int32) (winner_0 : Nat → Int32) (p1 : Int32) (p2 : Int32) (z : Int32) (hf : f_X1_winnerBefore N lean_0 favours_0 plaintiff_0 defendant_0 weight_0 p1 p2 = some z) : pq_MI l yX1_winnerBefore wsX1_winnerBefore rm_X1_winnerBefore D cy [.ref h0, .int p1, .int p2] [cO h0 1 [.ref (a0 0), .ref (a0 1), .ref (a0 2), .ref (a0 3), .ref (a0 4), .ref (a0 5), .ref (a0 6), .ref (a0 7), .ref (a0 8), .int parties_0, .int judges_0, .int cases_0, .int next_0, .int sits_0], cI cy (a0 0) 6 kind_0, cI cy (a0 1) 6 grievance_0, cI cy (a0 2) 6 wins_0, cI cy (a0 3) 6 lean_0, cI cy (a0 4) 6 favours_0, cI cy (a0 5) 12 plaintiff_0, cI cy (a0 6) 12 defendant_0, cI cy (a0 7) 12 weight_0, cI cy (a0 8) 12 winner_0] [cO h0 1 [.ref (a0 0), .ref (a0 1), .ref (a0 2), .ref (a0 3), .ref (a0 4), .ref (a0 5), .ref (a0 6), .ref (a0 7), .ref (a0 8), .int parties_0, .int judges_0, .int cases_0, .int next_0, .int sits_0], cI cy (a0 0) 6 kind_0, cI cy (a0 1) 6 grievance_0, cI cy (a0 2) 6 wins_0, cI cy (a0 3) 6 lean_0, cI cy (a0 4) 6 favours_0, cI cy (a0 5) 12 plaintiff_0, cI cy (a0 6) 12 defendant_0, cI cy (a0 7) 12 weight_0, cI cy (a0 8) 12 winner_0] (z) := by
  intro sz
  refine pq_ent (Qf := fun A => pq_Qi D cy A [cO h0 1 [.ref (a0 0), .ref (a0 1), .ref (a0 2), .ref (a0 3), .ref (a0 4), .ref (a0 5), .ref (a0 6), .ref (a0 7), .ref (a0 8), .int parties_0, .int judges_0, .int cases_0, .int next_0, .int sits_0], cI cy (a0 0) 6 kind_0, cI cy (a0 1) 6 grievance_0, cI cy (a0 2) 6 wins_0, cI cy (a0 3) 6 lean_0, cI cy (a0 4) 6 favours_0, cI cy (a0 5) 12 plaintiff_0, cI cy (a0 6) 12 defendant_0, cI cy (a0 7) 12 weight_0, cI cy (a0 8) 12 winner_0] (z)) (cc := cX1_winnerBefore) (maxL := 3) (ret := (some .int)) (by decide) rfl (Nat.le_of_ble_eq_true rfl) ?_
  intro p e s m args below meth c A ls Q hQ X hK hP hD hA hS hl
  obtain ⟨hx, hb, hr, hts, hown, hlocks, hml⟩ := X
  have hl : lv_has ls 3 [(0, .ref h0), (1, .int p1), (2, .int p2)] := hl
  unfold f_X1_winnerBefore at hf
  have hiX1 : ∀ w ∈ wsX10, w ∈ wsX1_winnerBefore := by decide +kernel
  have k0 := hts (.fieldLink RX1 21 "LoserPicks$Circuit" "lean" "[I") (by decide +kernel)
  have k1 := hts (.fieldLink RX1 30 "LoserPicks$Circuit" "defendant" "[I") (by decide +kernel)
  have k2 := hts (.fieldLink RX1 27 "LoserPicks$Circuit" "plaintiff" "[I") (by decide +kernel)
  refine lv_aload_n hx hb dX1_winnerBefore_0 rfl (lv_at hl 0 rfl) ?_
  refine lv_iload_n hx hb dX1_winnerBefore_1 rfl (lv_at hl 1 rfl) ?_
  refine lv_iload_n hx hb dX1_winnerBefore_2 rfl (lv_at hl 2 rfl) ?_
  refine pq_cVi (rz := fun r => r) (w1 := fun r => [cO h0 1 [.ref (a0 0), .ref (a0 1), .ref (a0 2), .ref (a0 3), .ref (a0 4), .ref (a0 5), .ref (a0 6), .ref (a0 7), .ref (a0 8), .int parties_0, .int judges_0, .int cases_0, .int next_0, .int sits_0], cI cy (a0 0) 6 kind_0, cI cy (a0 1) 6 grievance_0, cI cy (a0 2) 6 wins_0, cI cy (a0 3) 6 lean_0, cI cy (a0 4) 6 favours_0, cI cy (a0 5) 12 plaintiff_0, cI cy (a0 6) 12 defendant_0, cI cy (a0 7) 12 weight_0, cI cy (a0 8) 12 winner_0]) (ws1 := fun r => [cO h0 1 [.ref (a0 0), .ref (a0 1), .ref (a0 2), .ref (a0 3), .ref (a0 4), .ref (a0 5), .ref (a0 6), .ref (a0 7), .ref (a0 8), .int parties_0, .int judges_0, .int cases_0, .int next_0, .int sits_0], cI cy (a0 0) 6 kind_0, cI cy (a0 1) 6 grievance_0, cI cy (a0 2) 6 wins_0, cI cy (a0 3) 6 lean_0, cI cy (a0 4) 6 favours_0, cI cy (a0 5) 12 plaintiff_0, cI cy (a0 6) 12 defendant_0, cI cy (a0 7) 12 weight_0, cI cy (a0 8) 12 winner_0]) (wc := [cO h0 1 [.ref (a0 0), .ref (a0 1), .ref (a0 2), .ref (a0 3), .ref (a0 4), .ref (a0 5), .ref (a0 6), .ref (a0 7), .ref (a0 8), .int parties_0, .int judges_0, .int cases_0, .int next_0, .int sits_0], cI cy (a0 0) 6 kind_0, cI cy (a0 1) 6 grievance_0, cI cy (a0 2) 6 wins_0, cI cy (a0 3) 6 lean_0, cI cy (a0 4) 6 favours_0, cI cy (a0 5) 12 plaintiff_0, cI cy (a0 6) 12 defendant_0, cI cy (a0 7) 12 weight_0, cI cy (a0 8) 12 winner_0]) (wr := []) (As := [.int p1, .int p2]) (rest := []) (b := h0) (C := RX1) ⟨hx, hb, hml, hown, hts⟩ hf (fun r hr => c_X1_pleaBefore l D cy N h0 a0 parties_0 judges_0 cases_0 next_0 sits_0 kind_0 grievance_0 wins_0 lean_0 favours_0 plaintiff_0 defendant_0 weight_0 winner_0 p1 p2 r hr) (cwV 2 hts gX1_winnerBefore_X1_pleaBefore rfl rfl rfl (by decide +kernel) ⟨Nat.le_of_ble_eq_true rfl, Nat.le_of_ble_eq_true rfl⟩) hK hP hD hS hA 0 1 rfl rfl [0, 1, 2, 3, 4, 5, 6, 7, 8, 9] [] [0, 1, 2, 3, 4, 5, 6, 7, 8, 9] rfl rfl rfl rfl (by decide) (fun _ => rfl) rfl rfl hl.1 rfl (Nat.le_of_ble_eq_true rfl) ⟨Nat.zero_le _, Nat.zero_le _⟩ dX1_winnerBefore_3 (fun r_1 H locs hf hP hD hS => ?_)
  refine lv_aload_n hx hb dX1_winnerBefore_6 rfl (lv_at hl 0 rfl) ?_
  refine pq_get (D := D) (ci := 1) (v := .ref (a0 3)) (C := RX1) (T := TX1) (N := 14) hx hb hts hiX1 hown hK hP 0 rfl rfl 3 (by decide) k0 rfl rfl dX1_winnerBefore_7 ?_
  refine lv_iload_n hx hb dX1_winnerBefore_10 rfl (lv_at hl 1 rfl) ?_
  refine pq_iald hx hb hK hP 4 0 rfl rfl hf dX1_winnerBefore_11 (fun hf => ?_)
  refine pq_icmp_lt hx hb 24 hf dX1_winnerBefore_12 (by decide) (fun _ hf => ?_) (fun _ hf => ?_)
  · refine lv_aload_n hx hb dX1_winnerBefore_24 rfl (lv_at hl 0 rfl) ?_
    refine pq_get (D := D) (ci := 1) (v := .ref (a0 6)) (C := RX1) (T := TX1) (N := 14) hx hb hts hiX1 hown hK hP 0 rfl rfl 6 (by decide) k1 rfl rfl dX1_winnerBefore_25 ?_
    refine lv_iload_n hx hb dX1_winnerBefore_28 rfl (lv_at hl 2 rfl) ?_
    refine pq_iald hx hb hK hP 7 0 rfl rfl hf dX1_winnerBefore_29 (fun hf => ?_)
    rw [hQ]
    exact pq_iret hx hb hr hlocks hK hP hD hS hf (fun z => z) (fun z => [cO h0 1 [.ref (a0 0), .ref (a0 1), .ref (a0 2), .ref (a0 3), .ref (a0 4), .ref (a0 5), .ref (a0 6), .ref (a0 7), .ref (a0 8), .int parties_0, .int judges_0, .int cases_0, .int next_0, .int sits_0], cI cy (a0 0) 6 kind_0, cI cy (a0 1) 6 grievance_0, cI cy (a0 2) 6 wins_0, cI cy (a0 3) 6 lean_0, cI cy (a0 4) 6 favours_0, cI cy (a0 5) 12 plaintiff_0, cI cy (a0 6) 12 defendant_0, cI cy (a0 7) 12 weight_0, cI cy (a0 8) 12 winner_0]) rfl rfl dX1_winnerBefore_30
  · refine lv_aload_n hx hb dX1_winnerBefore_15 rfl (lv_at hl 0 rfl) ?_
    refine pq_get (D := D) (ci := 1) (v := .ref (a0 5)) (C := RX1) (T := TX1) (N := 14) hx hb hts hiX1 hown hK hP 0 rfl rfl 5 (by decide) k2 rfl rfl dX1_winnerBefore_16 ?_
    refine lv_iload_n hx hb dX1_winnerBefore_19 rfl (lv_at hl 2 rfl) ?_
    refine pq_iald hx hb hK hP 6 0 rfl rfl hf dX1_winnerBefore_20 (fun hf => ?_)
    refine lv_goto (tgt := 30) hx hb dX1_winnerBefore_21 (by decide) ?_
    rw [hQ]
    exact pq_iret hx hb hr hlocks hK hP hD hS hf (fun z => z) (fun z => [cO h0 1 [.ref (a0 0), .ref (a0 1), .ref (a0 2), .ref (a0 3), .ref (a0 4), .ref (a0 5), .ref (a0 6), .ref (a0 7), .ref (a0 8), .int parties_0, .int judges_0, .int cases_0, .int next_0, .int sits_0], cI cy (a0 0) 6 kind_0, cI cy (a0 1) 6 grievance_0, cI cy (a0 2) 6 wins_0, cI cy (a0 3) 6 lean_0, cI cy (a0 4) 6 favours_0, cI cy (a0 5) 12 plaintiff_0, cI cy (a0 6) 12 defendant_0, cI cy (a0 7) 12 weight_0, cI cy (a0 8) 12 winner_0]) rfl rfl dX1_winnerBefore_30

abbrev rm_X1_justWinner : Room := { frames := 0, cells := 0, slots := 0, locals := 0 }
set_option maxHeartbeats 4000000 in
set_option maxRecDepth 100000 in
theorem c_X1_justWinner (l : Launch) (D : va_G) (cy : Nat → ClassId) (N : Nat) (h0 : Nat) (a0 : Nat → Nat) (parties_0 : Int32) (judges_0 : Int32) (cases_0 : Int32) (next_0 : Int32) (sits_0 : Int32) (kind_0 : Nat → Int32) (grievance_0 : Nat → Int32) (wins_0 : Nat → Int32) (lean_0 : Nat → Int32) (favours_0 : Nat → Int32) (plaintiff_0 : Nat → Int32) (defendant_0 : Nat → Int32) (weight_0 : Nat → Int32) (winner_0 : Nat → Int32) (p1 : Int32) (z : Int32) (hf : f_X1_justWinner N plaintiff_0 defendant_0 weight_0 p1 = some z) : pq_MI l yX1_justWinner wsX1_justWinner rm_X1_justWinner D cy [.ref h0, .int p1] [cO h0 1 [.ref (a0 0), .ref (a0 1), .ref (a0 2), .ref (a0 3), .ref (a0 4), .ref (a0 5), .ref (a0 6), .ref (a0 7), .ref (a0 8), .int parties_0, .int judges_0, .int cases_0, .int next_0, .int sits_0], cI cy (a0 0) 6 kind_0, cI cy (a0 1) 6 grievance_0, cI cy (a0 2) 6 wins_0, cI cy (a0 3) 6 lean_0, cI cy (a0 4) 6 favours_0, cI cy (a0 5) 12 plaintiff_0, cI cy (a0 6) 12 defendant_0, cI cy (a0 7) 12 weight_0, cI cy (a0 8) 12 winner_0] [cO h0 1 [.ref (a0 0), .ref (a0 1), .ref (a0 2), .ref (a0 3), .ref (a0 4), .ref (a0 5), .ref (a0 6), .ref (a0 7), .ref (a0 8), .int parties_0, .int judges_0, .int cases_0, .int next_0, .int sits_0], cI cy (a0 0) 6 kind_0, cI cy (a0 1) 6 grievance_0, cI cy (a0 2) 6 wins_0, cI cy (a0 3) 6 lean_0, cI cy (a0 4) 6 favours_0, cI cy (a0 5) 12 plaintiff_0, cI cy (a0 6) 12 defendant_0, cI cy (a0 7) 12 weight_0, cI cy (a0 8) 12 winner_0] (z) := by
  intro sz
  refine pq_ent (Qf := fun A => pq_Qi D cy A [cO h0 1 [.ref (a0 0), .ref (a0 1), .ref (a0 2), .ref (a0 3), .ref (a0 4), .ref (a0 5), .ref (a0 6), .ref (a0 7), .ref (a0 8), .int parties_0, .int judges_0, .int cases_0, .int next_0, .int sits_0], cI cy (a0 0) 6 kind_0, cI cy (a0 1) 6 grievance_0, cI cy (a0 2) 6 wins_0, cI cy (a0 3) 6 lean_0, cI cy (a0 4) 6 favours_0, cI cy (a0 5) 12 plaintiff_0, cI cy (a0 6) 12 defendant_0, cI cy (a0 7) 12 weight_0, cI cy (a0 8) 12 winner_0] (z)) (cc := cX1_justWinner) (maxL := 2) (ret := (some .int)) (by decide) rfl (Nat.le_of_ble_eq_true rfl) ?_
  intro p e s m args below meth c A ls Q hQ X hK hP hD hA hS hl
  obtain ⟨hx, hb, hr, hts, hown, hlocks, hml⟩ := X
  have hl : lv_has ls 2 [(0, .ref h0), (1, .int p1)] := hl
  unfold f_X1_justWinner at hf
  have hiX1 : ∀ w ∈ wsX10, w ∈ wsX1_justWinner := by decide +kernel
  have k0 := hts (.fieldLink RX1 33 "LoserPicks$Circuit" "weight" "[I") (by decide +kernel)
  have k1 := hts (.fieldLink RX1 30 "LoserPicks$Circuit" "defendant" "[I") (by decide +kernel)
  have k2 := hts (.fieldLink RX1 27 "LoserPicks$Circuit" "plaintiff" "[I") (by decide +kernel)
  refine lv_aload_n hx hb dX1_justWinner_0 rfl (lv_at hl 0 rfl) ?_
  refine pq_get (D := D) (ci := 1) (v := .ref (a0 7)) (C := RX1) (T := TX1) (N := 14) hx hb hts hiX1 hown hK hP 0 rfl rfl 7 (by decide) k0 rfl rfl dX1_justWinner_1 ?_
  refine lv_iload_n hx hb dX1_justWinner_4 rfl (lv_at hl 1 rfl) ?_
  refine pq_iald hx hb hK hP 8 0 rfl rfl hf dX1_justWinner_5 (fun hf => ?_)
  refine lv_iconst (v := 5) hx hb dX1_justWinner_6 (by decide) ?_
  refine pq_icmp_lt hx hb 19 hf dX1_justWinner_7 (by decide) (fun _ hf => ?_) (fun _ hf => ?_)
  · refine lv_aload_n hx hb dX1_justWinner_19 rfl (lv_at hl 0 rfl) ?_
    refine pq_get (D := D) (ci := 1) (v := .ref (a0 6)) (C := RX1) (T := TX1) (N := 14) hx hb hts hiX1 hown hK hP 0 rfl rfl 6 (by decide) k1 rfl rfl dX1_justWinner_20 ?_
    refine lv_iload_n hx hb dX1_justWinner_23 rfl (lv_at hl 1 rfl) ?_
    refine pq_iald hx hb hK hP 7 0 rfl rfl hf dX1_justWinner_24 (fun hf => ?_)
    rw [hQ]
    exact pq_iret hx hb hr hlocks hK hP hD hS hf (fun z => z) (fun z => [cO h0 1 [.ref (a0 0), .ref (a0 1), .ref (a0 2), .ref (a0 3), .ref (a0 4), .ref (a0 5), .ref (a0 6), .ref (a0 7), .ref (a0 8), .int parties_0, .int judges_0, .int cases_0, .int next_0, .int sits_0], cI cy (a0 0) 6 kind_0, cI cy (a0 1) 6 grievance_0, cI cy (a0 2) 6 wins_0, cI cy (a0 3) 6 lean_0, cI cy (a0 4) 6 favours_0, cI cy (a0 5) 12 plaintiff_0, cI cy (a0 6) 12 defendant_0, cI cy (a0 7) 12 weight_0, cI cy (a0 8) 12 winner_0]) rfl rfl dX1_justWinner_25
  · refine lv_aload_n hx hb dX1_justWinner_10 rfl (lv_at hl 0 rfl) ?_
    refine pq_get (D := D) (ci := 1) (v := .ref (a0 5)) (C := RX1) (T := TX1) (N := 14) hx hb hts hiX1 hown hK hP 0 rfl rfl 5 (by decide) k2 rfl rfl dX1_justWinner_11 ?_
    refine lv_iload_n hx hb dX1_justWinner_14 rfl (lv_at hl 1 rfl) ?_
    refine pq_iald hx hb hK hP 6 0 rfl rfl hf dX1_justWinner_15 (fun hf => ?_)
    refine lv_goto (tgt := 25) hx hb dX1_justWinner_16 (by decide) ?_
    rw [hQ]
    exact pq_iret hx hb hr hlocks hK hP hD hS hf (fun z => z) (fun z => [cO h0 1 [.ref (a0 0), .ref (a0 1), .ref (a0 2), .ref (a0 3), .ref (a0 4), .ref (a0 5), .ref (a0 6), .ref (a0 7), .ref (a0 8), .int parties_0, .int judges_0, .int cases_0, .int next_0, .int sits_0], cI cy (a0 0) 6 kind_0, cI cy (a0 1) 6 grievance_0, cI cy (a0 2) 6 wins_0, cI cy (a0 3) 6 lean_0, cI cy (a0 4) 6 favours_0, cI cy (a0 5) 12 plaintiff_0, cI cy (a0 6) 12 defendant_0, cI cy (a0 7) 12 weight_0, cI cy (a0 8) 12 winner_0]) rfl rfl dX1_justWinner_25

abbrev rm_X1_likingOf : Room := { frames := 0, cells := 0, slots := 0, locals := 0 }
set_option maxHeartbeats 4000000 in
set_option maxRecDepth 100000 in
theorem c_X1_likingOf (l : Launch) (D : va_G) (cy : Nat → ClassId) (N : Nat) (h0 : Nat) (a0 : Nat → Nat) (parties_0 : Int32) (judges_0 : Int32) (cases_0 : Int32) (next_0 : Int32) (sits_0 : Int32) (kind_0 : Nat → Int32) (grievance_0 : Nat → Int32) (wins_0 : Nat → Int32) (lean_0 : Nat → Int32) (favours_0 : Nat → Int32) (plaintiff_0 : Nat → Int32) (defendant_0 : Nat → Int32) (weight_0 : Nat → Int32) (winner_0 : Nat → Int32) (p1 : Int32) (p2 : Int32) (p3 : Int32) (z : Int32) (hf : f_X1_likingOf N lean_0 favours_0 p1 p2 p3 = some z) : pq_MI l yX1_likingOf wsX1_likingOf rm_X1_likingOf D cy [.ref h0, .int p1, .int p2, .int p3] [cO h0 1 [.ref (a0 0), .ref (a0 1), .ref (a0 2), .ref (a0 3), .ref (a0 4), .ref (a0 5), .ref (a0 6), .ref (a0 7), .ref (a0 8), .int parties_0, .int judges_0, .int cases_0, .int next_0, .int sits_0], cI cy (a0 0) 6 kind_0, cI cy (a0 1) 6 grievance_0, cI cy (a0 2) 6 wins_0, cI cy (a0 3) 6 lean_0, cI cy (a0 4) 6 favours_0, cI cy (a0 5) 12 plaintiff_0, cI cy (a0 6) 12 defendant_0, cI cy (a0 7) 12 weight_0, cI cy (a0 8) 12 winner_0] [cO h0 1 [.ref (a0 0), .ref (a0 1), .ref (a0 2), .ref (a0 3), .ref (a0 4), .ref (a0 5), .ref (a0 6), .ref (a0 7), .ref (a0 8), .int parties_0, .int judges_0, .int cases_0, .int next_0, .int sits_0], cI cy (a0 0) 6 kind_0, cI cy (a0 1) 6 grievance_0, cI cy (a0 2) 6 wins_0, cI cy (a0 3) 6 lean_0, cI cy (a0 4) 6 favours_0, cI cy (a0 5) 12 plaintiff_0, cI cy (a0 6) 12 defendant_0, cI cy (a0 7) 12 weight_0, cI cy (a0 8) 12 winner_0] (z) := by
  intro sz
  refine pq_ent (Qf := fun A => pq_Qi D cy A [cO h0 1 [.ref (a0 0), .ref (a0 1), .ref (a0 2), .ref (a0 3), .ref (a0 4), .ref (a0 5), .ref (a0 6), .ref (a0 7), .ref (a0 8), .int parties_0, .int judges_0, .int cases_0, .int next_0, .int sits_0], cI cy (a0 0) 6 kind_0, cI cy (a0 1) 6 grievance_0, cI cy (a0 2) 6 wins_0, cI cy (a0 3) 6 lean_0, cI cy (a0 4) 6 favours_0, cI cy (a0 5) 12 plaintiff_0, cI cy (a0 6) 12 defendant_0, cI cy (a0 7) 12 weight_0, cI cy (a0 8) 12 winner_0] (z)) (cc := cX1_likingOf) (maxL := 4) (ret := (some .int)) (by decide) rfl (Nat.le_of_ble_eq_true rfl) ?_
  intro p e s m args below meth c A ls Q hQ X hK hP hD hA hS hl
  obtain ⟨hx, hb, hr, hts, hown, hlocks, hml⟩ := X
  have hl : lv_has ls 4 [(0, .ref h0), (1, .int p1), (2, .int p2), (3, .int p3)] := hl
  unfold f_X1_likingOf at hf
  have hiX1 : ∀ w ∈ wsX10, w ∈ wsX1_likingOf := by decide +kernel
  have k0 := hts (.fieldLink RX1 21 "LoserPicks$Circuit" "lean" "[I") (by decide +kernel)
  have k1 := hts (.fieldLink RX1 24 "LoserPicks$Circuit" "favours" "[I") (by decide +kernel)
  refine lv_iload_n hx hb dX1_likingOf_0 rfl (lv_at hl 2 rfl) ?_
  obtain ⟨kJ70, ekJ70, hf⟩ := pq_j_e hf
  have hJ70 : ∀ (H : Heap) (locs : List Loc) (ls : Array Slot), kJ70 = some z → va_P D vwCl [cO h0 1 [.ref (a0 0), .ref (a0 1), .ref (a0 2), .ref (a0 3), .ref (a0 4), .ref (a0 5), .ref (a0 6), .ref (a0 7), .ref (a0 8), .int parties_0, .int judges_0, .int cases_0, .int next_0, .int sits_0], cI cy (a0 0) 6 kind_0, cI cy (a0 1) 6 grievance_0, cI cy (a0 2) 6 wins_0, cI cy (a0 3) 6 lean_0, cI cy (a0 4) 6 favours_0, cI cy (a0 5) 12 plaintiff_0, cI cy (a0 6) 12 defendant_0, cI cy (a0 7) 12 weight_0, cI cy (a0 8) 12 winner_0] H → va_D A [cO h0 1 [.ref (a0 0), .ref (a0 1), .ref (a0 2), .ref (a0 3), .ref (a0 4), .ref (a0 5), .ref (a0 6), .ref (a0 7), .ref (a0 8), .int parties_0, .int judges_0, .int cases_0, .int next_0, .int sits_0], cI cy (a0 0) 6 kind_0, cI cy (a0 1) 6 grievance_0, cI cy (a0 2) 6 wins_0, cI cy (a0 3) 6 lean_0, cI cy (a0 4) 6 favours_0, cI cy (a0 5) 12 plaintiff_0, cI cy (a0 6) 12 defendant_0, cI cy (a0 7) 12 weight_0, cI cy (a0 8) 12 winner_0] → va_S A s.heap H locs → lv_has ls 4 [(0, .ref h0), (3, .int p3)] → W p l e rm_X1_likingOf s m args below meth c H locs 0 0 Q (F0 m 70 ls []) := by
    clear hf hP hD hS hl
    intro  H locs ls hf hP hD hS hl
    rw [ekJ70] at hf
    refine lv_aload_n hx hb dX1_likingOf_70 rfl (lv_at hl 0 rfl) ?_
    refine pq_get (D := D) (ci := 1) (v := .ref (a0 3)) (C := RX1) (T := TX1) (N := 14) hx hb hts hiX1 hown hK hP 0 rfl rfl 3 (by decide) k0 rfl rfl dX1_likingOf_71 ?_
    refine lv_iload_n hx hb dX1_likingOf_74 rfl (lv_at hl 1 rfl) ?_
    refine pq_iald hx hb hK hP 4 0 rfl rfl hf dX1_likingOf_75 (fun hf => ?_)
    refine lv_ineg hx hb dX1_likingOf_76 ?_
    rw [hQ]
    exact pq_iret hx hb hr hlocks hK hP hD hS hf (fun z => z) (fun z => [cO h0 1 [.ref (a0 0), .ref (a0 1), .ref (a0 2), .ref (a0 3), .ref (a0 4), .ref (a0 5), .ref (a0 6), .ref (a0 7), .ref (a0 8), .int parties_0, .int judges_0, .int cases_0, .int next_0, .int sits_0], cI cy (a0 0) 6 kind_0, cI cy (a0 1) 6 grievance_0, cI cy (a0 2) 6 wins_0, cI cy (a0 3) 6 lean_0, cI cy (a0 4) 6 favours_0, cI cy (a0 5) 12 plaintiff_0, cI cy (a0 6) 12 defendant_0, cI cy (a0 7) 12 weight_0, cI cy (a0 8) 12 winner_0]) rfl rfl dX1_likingOf_77
  clear ekJ70
  rcases Classical.em (p2 = 2) with c2 | c2
  · have hf := pq_it hf c2
    rw [c2]
    refine lv_tableIn (tgt := 32) hx hb dX1_likingOf_1 (by decide) (by decide) rfl (by decide) ?_
    refine lv_aload_n hx hb dX1_likingOf_32 rfl (lv_at hl 0 rfl) ?_
    refine pq_get (D := D) (ci := 1) (v := .ref (a0 3)) (C := RX1) (T := TX1) (N := 14) hx hb hts hiX1 hown hK hP 0 rfl rfl 3 (by decide) k0 rfl rfl dX1_likingOf_33 ?_
    refine lv_iload_n hx hb dX1_likingOf_36 rfl (lv_at hl 3 rfl) ?_
    refine pq_iald hx hb hK hP 4 0 rfl rfl hf dX1_likingOf_37 (fun hf => ?_)
    rw [hQ]
    exact pq_iret hx hb hr hlocks hK hP hD hS hf (fun z => z) (fun z => [cO h0 1 [.ref (a0 0), .ref (a0 1), .ref (a0 2), .ref (a0 3), .ref (a0 4), .ref (a0 5), .ref (a0 6), .ref (a0 7), .ref (a0 8), .int parties_0, .int judges_0, .int cases_0, .int next_0, .int sits_0], cI cy (a0 0) 6 kind_0, cI cy (a0 1) 6 grievance_0, cI cy (a0 2) 6 wins_0, cI cy (a0 3) 6 lean_0, cI cy (a0 4) 6 favours_0, cI cy (a0 5) 12 plaintiff_0, cI cy (a0 6) 12 defendant_0, cI cy (a0 7) 12 weight_0, cI cy (a0 8) 12 winner_0]) rfl rfl dX1_likingOf_38
  · have hf := pq_if hf c2
    rcases Classical.em (p2 = 3) with c3 | c3
    · have hf := pq_it hf c3
      rw [c3]
      refine lv_tableIn (tgt := 70) hx hb dX1_likingOf_1 (by decide) (by decide) rfl (by decide) ?_
      exact hJ70 _ _ _ hf hP hD hS (lv_sub hl [0, 3] rfl)
    · have hf := pq_if hf c3
      rcases Classical.em (p2 = 4) with c4 | c4
      · have hf := pq_it hf c4
        rw [c4]
        refine lv_tableIn (tgt := 67) hx hb dX1_likingOf_1 (by decide) (by decide) rfl (by decide) ?_
        refine lv_iload_n hx hb dX1_likingOf_67 rfl (lv_at hl 3 rfl) ?_
        refine lv_ineg hx hb dX1_likingOf_68 ?_
        rw [hQ]
        exact pq_iret hx hb hr hlocks hK hP hD hS hf (fun z => z) (fun z => [cO h0 1 [.ref (a0 0), .ref (a0 1), .ref (a0 2), .ref (a0 3), .ref (a0 4), .ref (a0 5), .ref (a0 6), .ref (a0 7), .ref (a0 8), .int parties_0, .int judges_0, .int cases_0, .int next_0, .int sits_0], cI cy (a0 0) 6 kind_0, cI cy (a0 1) 6 grievance_0, cI cy (a0 2) 6 wins_0, cI cy (a0 3) 6 lean_0, cI cy (a0 4) 6 favours_0, cI cy (a0 5) 12 plaintiff_0, cI cy (a0 6) 12 defendant_0, cI cy (a0 7) 12 weight_0, cI cy (a0 8) 12 winner_0]) rfl rfl dX1_likingOf_69
      · have hf := pq_if hf c4
        rcases Classical.em (p2 = 5) with c5 | c5
        · have hf := pq_it hf c5
          rw [c5]
          refine lv_tableIn (tgt := 39) hx hb dX1_likingOf_1 (by decide) (by decide) rfl (by decide) ?_
          refine lv_aload_n hx hb dX1_likingOf_39 rfl (lv_at hl 0 rfl) ?_
          refine pq_get (D := D) (ci := 1) (v := .ref (a0 4)) (C := RX1) (T := TX1) (N := 14) hx hb hts hiX1 hown hK hP 0 rfl rfl 4 (by decide) k1 rfl rfl dX1_likingOf_40 ?_
          refine lv_iload_n hx hb dX1_likingOf_43 rfl (lv_at hl 3 rfl) ?_
          refine pq_iald hx hb hK hP 5 0 rfl rfl hf dX1_likingOf_44 (fun hf => ?_)
          refine lv_iload_n hx hb dX1_likingOf_45 rfl (lv_at hl 1 rfl) ?_
          refine pq_icmp_ne hx hb 60 hf dX1_likingOf_46 (by decide) (fun _ hf => ?_) (fun _ hf => ?_)
          · refine lv_aload_n hx hb dX1_likingOf_60 rfl (lv_at hl 0 rfl) ?_
            refine pq_get (D := D) (ci := 1) (v := .ref (a0 3)) (C := RX1) (T := TX1) (N := 14) hx hb hts hiX1 hown hK hP 0 rfl rfl 3 (by decide) k0 rfl rfl dX1_likingOf_61 ?_
            refine lv_iload_n hx hb dX1_likingOf_64 rfl (lv_at hl 3 rfl) ?_
            refine pq_iald hx hb hK hP 4 0 rfl rfl hf dX1_likingOf_65 (fun hf => ?_)
            rw [hQ]
            exact pq_iret hx hb hr hlocks hK hP hD hS hf (fun z => z) (fun z => [cO h0 1 [.ref (a0 0), .ref (a0 1), .ref (a0 2), .ref (a0 3), .ref (a0 4), .ref (a0 5), .ref (a0 6), .ref (a0 7), .ref (a0 8), .int parties_0, .int judges_0, .int cases_0, .int next_0, .int sits_0], cI cy (a0 0) 6 kind_0, cI cy (a0 1) 6 grievance_0, cI cy (a0 2) 6 wins_0, cI cy (a0 3) 6 lean_0, cI cy (a0 4) 6 favours_0, cI cy (a0 5) 12 plaintiff_0, cI cy (a0 6) 12 defendant_0, cI cy (a0 7) 12 weight_0, cI cy (a0 8) 12 winner_0]) rfl rfl dX1_likingOf_66
          · refine lv_aload_n hx hb dX1_likingOf_49 rfl (lv_at hl 0 rfl) ?_
            refine pq_get (D := D) (ci := 1) (v := .ref (a0 3)) (C := RX1) (T := TX1) (N := 14) hx hb hts hiX1 hown hK hP 0 rfl rfl 3 (by decide) k0 rfl rfl dX1_likingOf_50 ?_
            refine lv_iload_n hx hb dX1_likingOf_53 rfl (lv_at hl 3 rfl) ?_
            refine pq_iald hx hb hK hP 4 0 rfl rfl hf dX1_likingOf_54 (fun hf => ?_)
            refine lv_iconst (v := 5) hx hb dX1_likingOf_55 (by decide) ?_
            refine lv_iadd hx hb dX1_likingOf_56 ?_
            refine lv_goto (tgt := 66) hx hb dX1_likingOf_57 (by decide) ?_
            rw [hQ]
            exact pq_iret hx hb hr hlocks hK hP hD hS hf (fun z => z) (fun z => [cO h0 1 [.ref (a0 0), .ref (a0 1), .ref (a0 2), .ref (a0 3), .ref (a0 4), .ref (a0 5), .ref (a0 6), .ref (a0 7), .ref (a0 8), .int parties_0, .int judges_0, .int cases_0, .int next_0, .int sits_0], cI cy (a0 0) 6 kind_0, cI cy (a0 1) 6 grievance_0, cI cy (a0 2) 6 wins_0, cI cy (a0 3) 6 lean_0, cI cy (a0 4) 6 favours_0, cI cy (a0 5) 12 plaintiff_0, cI cy (a0 6) 12 defendant_0, cI cy (a0 7) 12 weight_0, cI cy (a0 8) 12 winner_0]) rfl rfl dX1_likingOf_66
        · have hf := pq_if hf c5
          refine lv_tableOut (tgt := 70) hx hb dX1_likingOf_1 (by have e2 := pq_ne c2 (show (2 : Int32).toInt = 2 from rfl); have e3 := pq_ne c3 (show (3 : Int32).toInt = 3 from rfl); have e4 := pq_ne c4 (show (4 : Int32).toInt = 4 from rfl); have e5 := pq_ne c5 (show (5 : Int32).toInt = 5 from rfl); omega) (by decide) ?_
          exact hJ70 _ _ _ hf hP hD hS (lv_sub hl [0, 3] rfl)

abbrev rm_X1_likedBest : Room := { frames := 1, cells := 0, slots := 0, locals := 23 }
set_option maxHeartbeats 4000000 in
set_option maxRecDepth 100000 in
theorem c_X1_likedBest (l : Launch) (D : va_G) (cy : Nat → ClassId) (N : Nat) (h0 : Nat) (a0 : Nat → Nat) (parties_0 : Int32) (judges_0 : Int32) (cases_0 : Int32) (next_0 : Int32) (sits_0 : Int32) (kind_0 : Nat → Int32) (grievance_0 : Nat → Int32) (wins_0 : Nat → Int32) (lean_0 : Nat → Int32) (favours_0 : Nat → Int32) (plaintiff_0 : Nat → Int32) (defendant_0 : Nat → Int32) (weight_0 : Nat → Int32) (winner_0 : Nat → Int32) (p1 : Int32) (p2 : Int32) (p3 : Int32) (z : Int32) (hf : f_X1_likedBest N judges_0 lean_0 favours_0 p1 p2 p3 = some z) : pq_MI l yX1_likedBest wsX1_likedBest rm_X1_likedBest D cy [.ref h0, .int p1, .int p2, .int p3] [cO h0 1 [.ref (a0 0), .ref (a0 1), .ref (a0 2), .ref (a0 3), .ref (a0 4), .ref (a0 5), .ref (a0 6), .ref (a0 7), .ref (a0 8), .int parties_0, .int judges_0, .int cases_0, .int next_0, .int sits_0], cI cy (a0 0) 6 kind_0, cI cy (a0 1) 6 grievance_0, cI cy (a0 2) 6 wins_0, cI cy (a0 3) 6 lean_0, cI cy (a0 4) 6 favours_0, cI cy (a0 5) 12 plaintiff_0, cI cy (a0 6) 12 defendant_0, cI cy (a0 7) 12 weight_0, cI cy (a0 8) 12 winner_0] [cO h0 1 [.ref (a0 0), .ref (a0 1), .ref (a0 2), .ref (a0 3), .ref (a0 4), .ref (a0 5), .ref (a0 6), .ref (a0 7), .ref (a0 8), .int parties_0, .int judges_0, .int cases_0, .int next_0, .int sits_0], cI cy (a0 0) 6 kind_0, cI cy (a0 1) 6 grievance_0, cI cy (a0 2) 6 wins_0, cI cy (a0 3) 6 lean_0, cI cy (a0 4) 6 favours_0, cI cy (a0 5) 12 plaintiff_0, cI cy (a0 6) 12 defendant_0, cI cy (a0 7) 12 weight_0, cI cy (a0 8) 12 winner_0] (z) := by
  intro sz
  refine pq_ent (Qf := fun A => pq_Qi D cy A [cO h0 1 [.ref (a0 0), .ref (a0 1), .ref (a0 2), .ref (a0 3), .ref (a0 4), .ref (a0 5), .ref (a0 6), .ref (a0 7), .ref (a0 8), .int parties_0, .int judges_0, .int cases_0, .int next_0, .int sits_0], cI cy (a0 0) 6 kind_0, cI cy (a0 1) 6 grievance_0, cI cy (a0 2) 6 wins_0, cI cy (a0 3) 6 lean_0, cI cy (a0 4) 6 favours_0, cI cy (a0 5) 12 plaintiff_0, cI cy (a0 6) 12 defendant_0, cI cy (a0 7) 12 weight_0, cI cy (a0 8) 12 winner_0] (z)) (cc := cX1_likedBest) (maxL := 8) (ret := (some .int)) (by decide) rfl (Nat.le_of_ble_eq_true rfl) ?_
  intro p e s m args below meth c A ls Q hQ X hK hP hD hA hS hl
  obtain ⟨hx, hb, hr, hts, hown, hlocks, hml⟩ := X
  have hl : lv_has ls 8 [(0, .ref h0), (1, .int p1), (2, .int p2), (3, .int p3)] := hl
  unfold f_X1_likedBest at hf
  have hiX1 : ∀ w ∈ wsX10, w ∈ wsX1_likedBest := by decide +kernel
  have k0 := hts (.fieldLink RX1 43 "LoserPicks$Circuit" "judges" "I") (by decide +kernel)
  refine lv_bipush (v := (-4)) hx hb dX1_likedBest_0 (by decide) ?_
  refine lv_istore (lv' := [(4, .int (-4)), (0, .ref h0), (1, .int p1), (2, .int p2), (3, .int p3)]) hx hb dX1_likedBest_2 hl (by decide) rfl (fun ls hl => ?_)
  refine lv_iconst (v := 0) hx hb dX1_likedBest_4 (by decide) ?_
  refine lv_istore (lv' := [(5, .int 0), (4, .int (-4)), (0, .ref h0), (1, .int p1), (2, .int p2), (3, .int p3)]) hx hb dX1_likedBest_5 hl (by decide) rfl (fun ls hl => ?_)
  refine lv_iconst (v := 0) hx hb dX1_likedBest_7 (by decide) ?_
  refine lv_istore (lv' := [(6, .int 0), (5, .int 0), (4, .int (-4)), (0, .ref h0), (1, .int p1), (2, .int p2), (3, .int p3)]) hx hb dX1_likedBest_8 hl (by decide) rfl (fun ls hl => ?_)
  have hL10 : ∀ (n : Nat) (x4_L10 : Int32) (x5_L10 : Int32) (x6_L10 : Int32) (H : Heap) (locs : List Loc) (ls : Array Slot), pq_w (fun _ _ _ => none) (f_X1_likedBest_L10 N judges_0 lean_0 favours_0 p1 p2 p3) n x4_L10 x5_L10 x6_L10 = some z → va_P D vwCl [cO h0 1 [.ref (a0 0), .ref (a0 1), .ref (a0 2), .ref (a0 3), .ref (a0 4), .ref (a0 5), .ref (a0 6), .ref (a0 7), .ref (a0 8), .int parties_0, .int judges_0, .int cases_0, .int next_0, .int sits_0], cI cy (a0 0) 6 kind_0, cI cy (a0 1) 6 grievance_0, cI cy (a0 2) 6 wins_0, cI cy (a0 3) 6 lean_0, cI cy (a0 4) 6 favours_0, cI cy (a0 5) 12 plaintiff_0, cI cy (a0 6) 12 defendant_0, cI cy (a0 7) 12 weight_0, cI cy (a0 8) 12 winner_0] H → va_D A [cO h0 1 [.ref (a0 0), .ref (a0 1), .ref (a0 2), .ref (a0 3), .ref (a0 4), .ref (a0 5), .ref (a0 6), .ref (a0 7), .ref (a0 8), .int parties_0, .int judges_0, .int cases_0, .int next_0, .int sits_0], cI cy (a0 0) 6 kind_0, cI cy (a0 1) 6 grievance_0, cI cy (a0 2) 6 wins_0, cI cy (a0 3) 6 lean_0, cI cy (a0 4) 6 favours_0, cI cy (a0 5) 12 plaintiff_0, cI cy (a0 6) 12 defendant_0, cI cy (a0 7) 12 weight_0, cI cy (a0 8) 12 winner_0] → va_S A s.heap H locs → lv_has ls 8 [(0, .ref h0), (1, .int p1), (2, .int p2), (3, .int p3), (4, .int x4_L10), (5, .int x5_L10), (6, .int x6_L10)] → W p l e rm_X1_likedBest s m args below meth c H locs 0 0 Q (F0 m 10 ls []) := by
    intro n
    induction n with
    | zero =>
      intro x4_L10 x5_L10 x6_L10 H locs ls hf
      exact absurd (show none = some z from hf) (fun h => nomatch h)
    | succ n ihL10 =>
      intro x4_L10 x5_L10 x6_L10 H locs ls hf hP hD hS hl
      have hf : (f_X1_likedBest_L10 N judges_0 lean_0 favours_0 p1 p2 p3) (pq_w (fun _ _ _ => none) (f_X1_likedBest_L10 N judges_0 lean_0 favours_0 p1 p2 p3) n) x4_L10 x5_L10 x6_L10 = some z := hf
      generalize pq_w (fun _ _ _ => none) (f_X1_likedBest_L10 N judges_0 lean_0 favours_0 p1 p2 p3) n = kL10 at hf ihL10
      unfold f_X1_likedBest_L10 at hf
      refine lv_iload hx hb dX1_likedBest_10 (lv_at hl 6 rfl) ?_
      refine lv_aload_n hx hb dX1_likedBest_12 rfl (lv_at hl 0 rfl) ?_
      refine pq_get (D := D) (ci := 1) (v := .int judges_0) (C := RX1) (T := TX1) (N := 14) hx hb hts hiX1 hown hK hP 0 rfl rfl 10 (by decide) k0 rfl rfl dX1_likedBest_13 ?_
      refine pq_icmp_ge hx hb 66 hf dX1_likedBest_16 (by decide) (fun _ hf => ?_) (fun _ hf => ?_)
      · refine lv_iload hx hb dX1_likedBest_66 (lv_at hl 4 rfl) ?_
        rw [hQ]
        exact pq_iret hx hb hr hlocks hK hP hD hS hf (fun z => z) (fun z => [cO h0 1 [.ref (a0 0), .ref (a0 1), .ref (a0 2), .ref (a0 3), .ref (a0 4), .ref (a0 5), .ref (a0 6), .ref (a0 7), .ref (a0 8), .int parties_0, .int judges_0, .int cases_0, .int next_0, .int sits_0], cI cy (a0 0) 6 kind_0, cI cy (a0 1) 6 grievance_0, cI cy (a0 2) 6 wins_0, cI cy (a0 3) 6 lean_0, cI cy (a0 4) 6 favours_0, cI cy (a0 5) 12 plaintiff_0, cI cy (a0 6) 12 defendant_0, cI cy (a0 7) 12 weight_0, cI cy (a0 8) 12 winner_0]) rfl rfl dX1_likedBest_68
      · refine lv_aload_n hx hb dX1_likedBest_19 rfl (lv_at hl 0 rfl) ?_
        refine lv_iload_n hx hb dX1_likedBest_20 rfl (lv_at hl 1 rfl) ?_
        refine lv_iload_n hx hb dX1_likedBest_21 rfl (lv_at hl 2 rfl) ?_
        refine lv_iload hx hb dX1_likedBest_22 (lv_at hl 6 rfl) ?_
        refine pq_cVi (rz := fun r => r) (w1 := fun r => [cO h0 1 [.ref (a0 0), .ref (a0 1), .ref (a0 2), .ref (a0 3), .ref (a0 4), .ref (a0 5), .ref (a0 6), .ref (a0 7), .ref (a0 8), .int parties_0, .int judges_0, .int cases_0, .int next_0, .int sits_0], cI cy (a0 0) 6 kind_0, cI cy (a0 1) 6 grievance_0, cI cy (a0 2) 6 wins_0, cI cy (a0 3) 6 lean_0, cI cy (a0 4) 6 favours_0, cI cy (a0 5) 12 plaintiff_0, cI cy (a0 6) 12 defendant_0, cI cy (a0 7) 12 weight_0, cI cy (a0 8) 12 winner_0]) (ws1 := fun r => [cO h0 1 [.ref (a0 0), .ref (a0 1), .ref (a0 2), .ref (a0 3), .ref (a0 4), .ref (a0 5), .ref (a0 6), .ref (a0 7), .ref (a0 8), .int parties_0, .int judges_0, .int cases_0, .int next_0, .int sits_0], cI cy (a0 0) 6 kind_0, cI cy (a0 1) 6 grievance_0, cI cy (a0 2) 6 wins_0, cI cy (a0 3) 6 lean_0, cI cy (a0 4) 6 favours_0, cI cy (a0 5) 12 plaintiff_0, cI cy (a0 6) 12 defendant_0, cI cy (a0 7) 12 weight_0, cI cy (a0 8) 12 winner_0]) (wc := [cO h0 1 [.ref (a0 0), .ref (a0 1), .ref (a0 2), .ref (a0 3), .ref (a0 4), .ref (a0 5), .ref (a0 6), .ref (a0 7), .ref (a0 8), .int parties_0, .int judges_0, .int cases_0, .int next_0, .int sits_0], cI cy (a0 0) 6 kind_0, cI cy (a0 1) 6 grievance_0, cI cy (a0 2) 6 wins_0, cI cy (a0 3) 6 lean_0, cI cy (a0 4) 6 favours_0, cI cy (a0 5) 12 plaintiff_0, cI cy (a0 6) 12 defendant_0, cI cy (a0 7) 12 weight_0, cI cy (a0 8) 12 winner_0]) (wr := []) (As := [.int p1, .int p2, .int x6_L10]) (rest := []) (b := h0) (C := RX1) ⟨hx, hb, hml, hown, hts⟩ hf (fun r hr => c_X1_likingOf l D cy N h0 a0 parties_0 judges_0 cases_0 next_0 sits_0 kind_0 grievance_0 wins_0 lean_0 favours_0 plaintiff_0 defendant_0 weight_0 winner_0 p1 p2 x6_L10 r hr) (cwV 3 hts gX1_likedBest_X1_likingOf rfl rfl rfl (by decide +kernel) ⟨Nat.le_of_ble_eq_true rfl, Nat.le_of_ble_eq_true rfl⟩) hK hP hD hS hA 0 1 rfl rfl [0, 1, 2, 3, 4, 5, 6, 7, 8, 9] [] [0, 1, 2, 3, 4, 5, 6, 7, 8, 9] rfl rfl rfl rfl (by decide) (fun _ => rfl) rfl rfl hl.1 rfl (Nat.le_of_ble_eq_true rfl) ⟨Nat.zero_le _, Nat.zero_le _⟩ dX1_likedBest_24 (fun r_1 H locs hf hP hD hS => ?_)
        refine lv_istore (lv' := [(7, .int r_1), (0, .ref h0), (1, .int p1), (2, .int p2), (3, .int p3), (4, .int x4_L10), (5, .int x5_L10), (6, .int x6_L10)]) hx hb dX1_likedBest_27 hl (by decide) rfl (fun ls hl => ?_)
        refine lv_iload_n hx hb dX1_likedBest_29 rfl (lv_at hl 4 rfl) ?_
        refine lv_iload hx hb dX1_likedBest_30 (lv_at hl 7 rfl) ?_
        refine lv_ishr hx hb dX1_likedBest_32 ?_
        refine lv_iconst (v := 1) hx hb dX1_likedBest_33 (by decide) ?_
        refine lv_iand hx hb dX1_likedBest_34 ?_
        obtain ⟨kJ60, ekJ60, hf⟩ := pq_j_e hf
        have hJ60 : ∀ (x4_J60 : Int32) (x5_J60 : Int32) (H : Heap) (locs : List Loc) (ls : Array Slot), kJ60 x4_J60 x5_J60 = some z → va_P D vwCl [cO h0 1 [.ref (a0 0), .ref (a0 1), .ref (a0 2), .ref (a0 3), .ref (a0 4), .ref (a0 5), .ref (a0 6), .ref (a0 7), .ref (a0 8), .int parties_0, .int judges_0, .int cases_0, .int next_0, .int sits_0], cI cy (a0 0) 6 kind_0, cI cy (a0 1) 6 grievance_0, cI cy (a0 2) 6 wins_0, cI cy (a0 3) 6 lean_0, cI cy (a0 4) 6 favours_0, cI cy (a0 5) 12 plaintiff_0, cI cy (a0 6) 12 defendant_0, cI cy (a0 7) 12 weight_0, cI cy (a0 8) 12 winner_0] H → va_D A [cO h0 1 [.ref (a0 0), .ref (a0 1), .ref (a0 2), .ref (a0 3), .ref (a0 4), .ref (a0 5), .ref (a0 6), .ref (a0 7), .ref (a0 8), .int parties_0, .int judges_0, .int cases_0, .int next_0, .int sits_0], cI cy (a0 0) 6 kind_0, cI cy (a0 1) 6 grievance_0, cI cy (a0 2) 6 wins_0, cI cy (a0 3) 6 lean_0, cI cy (a0 4) 6 favours_0, cI cy (a0 5) 12 plaintiff_0, cI cy (a0 6) 12 defendant_0, cI cy (a0 7) 12 weight_0, cI cy (a0 8) 12 winner_0] → va_S A s.heap H locs → lv_has ls 8 [(0, .ref h0), (1, .int p1), (2, .int p2), (3, .int p3), (4, .int x4_J60), (5, .int x5_J60), (6, .int x6_L10)] → W p l e rm_X1_likedBest s m args below meth c H locs 0 0 Q (F0 m 60 ls []) := by
          clear hf hP hD hS hl
          intro x4_J60 x5_J60 H locs ls hf hP hD hS hl
          rw [ekJ60] at hf
          refine pq_iinc (v := x6_L10 + 1) (lv1 := fun y => [(6, .int y), (0, .ref h0), (1, .int p1), (2, .int p2), (3, .int p3), (4, .int x4_J60), (5, .int x5_J60)]) hx hb hf dX1_likedBest_60 hl (kp := 6) rfl rfl (by decide) (fun _ => rfl) (fun x6_2 ls hf hl => ?_)
          refine lv_goto (tgt := 10) hx hb dX1_likedBest_63 (by decide) ?_
          exact ihL10 x4_J60 x5_J60 x6_2 _ _ _ hf hP hD hS (lv_sub hl [1, 2, 3, 4, 5, 6, 0] rfl)
        clear ekJ60
        refine pq_if_ne hx hb 60 hf dX1_likedBest_35 (by decide) (fun _ hf => ?_) (fun _ hf => ?_)
        · exact hJ60 x4_L10 x5_L10 _ _ _ hf hP hD hS (lv_sub hl [1, 2, 3, 4, 5, 6, 7] rfl)
        · refine lv_iload hx hb dX1_likedBest_38 (lv_at hl 5 rfl) ?_
          refine lv_bipush (v := (-4)) hx hb dX1_likedBest_40 (by decide) ?_
          obtain ⟨kJ52, ekJ52, hf⟩ := pq_j_e hf
          have hJ52 : ∀ (H : Heap) (locs : List Loc) (ls : Array Slot), kJ52 = some z → va_P D vwCl [cO h0 1 [.ref (a0 0), .ref (a0 1), .ref (a0 2), .ref (a0 3), .ref (a0 4), .ref (a0 5), .ref (a0 6), .ref (a0 7), .ref (a0 8), .int parties_0, .int judges_0, .int cases_0, .int next_0, .int sits_0], cI cy (a0 0) 6 kind_0, cI cy (a0 1) 6 grievance_0, cI cy (a0 2) 6 wins_0, cI cy (a0 3) 6 lean_0, cI cy (a0 4) 6 favours_0, cI cy (a0 5) 12 plaintiff_0, cI cy (a0 6) 12 defendant_0, cI cy (a0 7) 12 weight_0, cI cy (a0 8) 12 winner_0] H → va_D A [cO h0 1 [.ref (a0 0), .ref (a0 1), .ref (a0 2), .ref (a0 3), .ref (a0 4), .ref (a0 5), .ref (a0 6), .ref (a0 7), .ref (a0 8), .int parties_0, .int judges_0, .int cases_0, .int next_0, .int sits_0], cI cy (a0 0) 6 kind_0, cI cy (a0 1) 6 grievance_0, cI cy (a0 2) 6 wins_0, cI cy (a0 3) 6 lean_0, cI cy (a0 4) 6 favours_0, cI cy (a0 5) 12 plaintiff_0, cI cy (a0 6) 12 defendant_0, cI cy (a0 7) 12 weight_0, cI cy (a0 8) 12 winner_0] → va_S A s.heap H locs → lv_has ls 8 [(0, .ref h0), (1, .int p1), (2, .int p2), (3, .int p3), (6, .int x6_L10), (7, .int r_1)] → W p l e rm_X1_likedBest s m args below meth c H locs 0 0 Q (F0 m 52 ls []) := by
            clear hf hP hD hS hl
            intro  H locs ls hf hP hD hS hl
            rw [ekJ52] at hf
            refine lv_iload hx hb dX1_likedBest_52 (lv_at hl 4 rfl) ?_
            refine lv_istore (lv' := [(4, .int x6_L10), (0, .ref h0), (1, .int p1), (2, .int p2), (3, .int p3), (6, .int x6_L10), (7, .int r_1)]) hx hb dX1_likedBest_54 hl (by decide) rfl (fun ls hl => ?_)
            refine lv_iload hx hb dX1_likedBest_56 (lv_at hl 6 rfl) ?_
            refine lv_istore (lv' := [(5, .int r_1), (4, .int x6_L10), (0, .ref h0), (1, .int p1), (2, .int p2), (3, .int p3), (6, .int x6_L10), (7, .int r_1)]) hx hb dX1_likedBest_58 hl (by decide) rfl (fun ls hl => ?_)
            exact hJ60 x6_L10 r_1 _ _ _ hf hP hD hS (lv_sub hl [2, 3, 4, 5, 1, 0, 6] rfl)
          clear ekJ52
          refine pq_icmp_eq hx hb 52 hf dX1_likedBest_42 (by decide) (fun _ hf => ?_) (fun _ hf => ?_)
          · exact hJ52 _ _ _ hf hP hD hS (lv_sub hl [1, 2, 3, 4, 7, 0] rfl)
          · refine lv_iload hx hb dX1_likedBest_45 (lv_at hl 0 rfl) ?_
            refine lv_iload hx hb dX1_likedBest_47 (lv_at hl 6 rfl) ?_
            refine pq_icmp_le hx hb 60 hf dX1_likedBest_49 (by decide) (fun _ hf => ?_) (fun _ hf => ?_)
            · exact hJ60 x4_L10 x5_L10 _ _ _ hf hP hD hS (lv_sub hl [1, 2, 3, 4, 5, 6, 7] rfl)
            · exact hJ52 _ _ _ hf hP hD hS (lv_sub hl [1, 2, 3, 4, 7, 0] rfl)
  exact hL10 N (-4) 0 0 _ _ _ hf hP hD hS (lv_sub hl [3, 4, 5, 6, 2, 1, 0] rfl)

abbrev rm_X1_namedAs : Room := { frames := 2, cells := 0, slots := 0, locals := 50 }
set_option maxHeartbeats 4000000 in
set_option maxRecDepth 100000 in
theorem c_X1_namedAs (l : Launch) (D : va_G) (cy : Nat → ClassId) (N : Nat) (h0 : Nat) (a0 : Nat → Nat) (parties_0 : Int32) (judges_0 : Int32) (cases_0 : Int32) (next_0 : Int32) (sits_0 : Int32) (kind_0 : Nat → Int32) (grievance_0 : Nat → Int32) (wins_0 : Nat → Int32) (lean_0 : Nat → Int32) (favours_0 : Nat → Int32) (plaintiff_0 : Nat → Int32) (defendant_0 : Nat → Int32) (weight_0 : Nat → Int32) (winner_0 : Nat → Int32) (p1 : Int32) (p2 : Int32) (p3 : Int32) (z : Int32) (hf : f_X1_namedAs N judges_0 lean_0 favours_0 p1 p2 p3 = some z) : pq_MI l yX1_namedAs wsX1_namedAs rm_X1_namedAs D cy [.ref h0, .int p1, .int p2, .int p3] [cO h0 1 [.ref (a0 0), .ref (a0 1), .ref (a0 2), .ref (a0 3), .ref (a0 4), .ref (a0 5), .ref (a0 6), .ref (a0 7), .ref (a0 8), .int parties_0, .int judges_0, .int cases_0, .int next_0, .int sits_0], cI cy (a0 0) 6 kind_0, cI cy (a0 1) 6 grievance_0, cI cy (a0 2) 6 wins_0, cI cy (a0 3) 6 lean_0, cI cy (a0 4) 6 favours_0, cI cy (a0 5) 12 plaintiff_0, cI cy (a0 6) 12 defendant_0, cI cy (a0 7) 12 weight_0, cI cy (a0 8) 12 winner_0] [cO h0 1 [.ref (a0 0), .ref (a0 1), .ref (a0 2), .ref (a0 3), .ref (a0 4), .ref (a0 5), .ref (a0 6), .ref (a0 7), .ref (a0 8), .int parties_0, .int judges_0, .int cases_0, .int next_0, .int sits_0], cI cy (a0 0) 6 kind_0, cI cy (a0 1) 6 grievance_0, cI cy (a0 2) 6 wins_0, cI cy (a0 3) 6 lean_0, cI cy (a0 4) 6 favours_0, cI cy (a0 5) 12 plaintiff_0, cI cy (a0 6) 12 defendant_0, cI cy (a0 7) 12 weight_0, cI cy (a0 8) 12 winner_0] (z) := by
  intro sz
  refine pq_ent (Qf := fun A => pq_Qi D cy A [cO h0 1 [.ref (a0 0), .ref (a0 1), .ref (a0 2), .ref (a0 3), .ref (a0 4), .ref (a0 5), .ref (a0 6), .ref (a0 7), .ref (a0 8), .int parties_0, .int judges_0, .int cases_0, .int next_0, .int sits_0], cI cy (a0 0) 6 kind_0, cI cy (a0 1) 6 grievance_0, cI cy (a0 2) 6 wins_0, cI cy (a0 3) 6 lean_0, cI cy (a0 4) 6 favours_0, cI cy (a0 5) 12 plaintiff_0, cI cy (a0 6) 12 defendant_0, cI cy (a0 7) 12 weight_0, cI cy (a0 8) 12 winner_0] (z)) (cc := cX1_namedAs) (maxL := 4) (ret := (some .int)) (by decide) rfl (Nat.le_of_ble_eq_true rfl) ?_
  intro p e s m args below meth c A ls Q hQ X hK hP hD hA hS hl
  obtain ⟨hx, hb, hr, hts, hown, hlocks, hml⟩ := X
  have hl : lv_has ls 4 [(0, .ref h0), (1, .int p1), (2, .int p2), (3, .int p3)] := hl
  unfold f_X1_namedAs at hf
  have hiX1 : ∀ w ∈ wsX10, w ∈ wsX1_namedAs := by decide +kernel
  have k0 := hts (.fieldLink RX1 43 "LoserPicks$Circuit" "judges" "I") (by decide +kernel)
  refine lv_iload_n hx hb dX1_namedAs_0 rfl (lv_at hl 2 rfl) ?_
  refine lv_iconst (v := 3) hx hb dX1_namedAs_1 (by decide) ?_
  refine pq_icmp_eq hx hb 13 hf dX1_namedAs_2 (by decide) (fun _ hf => ?_) (fun _ hf => ?_)
  · refine lv_iload_n hx hb dX1_namedAs_13 rfl (lv_at hl 3 rfl) ?_
    rw [hQ]
    exact pq_iret hx hb hr hlocks hK hP hD hS hf (fun z => z) (fun z => [cO h0 1 [.ref (a0 0), .ref (a0 1), .ref (a0 2), .ref (a0 3), .ref (a0 4), .ref (a0 5), .ref (a0 6), .ref (a0 7), .ref (a0 8), .int parties_0, .int judges_0, .int cases_0, .int next_0, .int sits_0], cI cy (a0 0) 6 kind_0, cI cy (a0 1) 6 grievance_0, cI cy (a0 2) 6 wins_0, cI cy (a0 3) 6 lean_0, cI cy (a0 4) 6 favours_0, cI cy (a0 5) 12 plaintiff_0, cI cy (a0 6) 12 defendant_0, cI cy (a0 7) 12 weight_0, cI cy (a0 8) 12 winner_0]) rfl rfl dX1_namedAs_14
  · refine lv_aload_n hx hb dX1_namedAs_5 rfl (lv_at hl 0 rfl) ?_
    refine pq_get (D := D) (ci := 1) (v := .int judges_0) (C := RX1) (T := TX1) (N := 14) hx hb hts hiX1 hown hK hP 0 rfl rfl 10 (by decide) k0 rfl rfl dX1_namedAs_6 ?_
    refine lv_iconst (v := 2) hx hb dX1_namedAs_9 (by decide) ?_
    refine pq_icmp_ge hx hb 15 hf dX1_namedAs_10 (by decide) (fun _ hf => ?_) (fun _ hf => ?_)
    · refine lv_iload_n hx hb dX1_namedAs_15 rfl (lv_at hl 2 rfl) ?_
      refine lv_iconst (v := 4) hx hb dX1_namedAs_16 (by decide) ?_
      refine pq_icmp_ne hx hb 38 hf dX1_namedAs_17 (by decide) (fun _ hf => ?_) (fun _ hf => ?_)
      · refine lv_aload_n hx hb dX1_namedAs_38 rfl (lv_at hl 0 rfl) ?_
        refine lv_iload_n hx hb dX1_namedAs_39 rfl (lv_at hl 1 rfl) ?_
        refine lv_iload_n hx hb dX1_namedAs_40 rfl (lv_at hl 2 rfl) ?_
        refine lv_iconst (v := 1) hx hb dX1_namedAs_41 (by decide) ?_
        refine lv_iload_n hx hb dX1_namedAs_42 rfl (lv_at hl 3 rfl) ?_
        refine lv_ishl hx hb dX1_namedAs_43 ?_
        refine pq_cVi (rz := fun r => r) (w1 := fun r => [cO h0 1 [.ref (a0 0), .ref (a0 1), .ref (a0 2), .ref (a0 3), .ref (a0 4), .ref (a0 5), .ref (a0 6), .ref (a0 7), .ref (a0 8), .int parties_0, .int judges_0, .int cases_0, .int next_0, .int sits_0], cI cy (a0 0) 6 kind_0, cI cy (a0 1) 6 grievance_0, cI cy (a0 2) 6 wins_0, cI cy (a0 3) 6 lean_0, cI cy (a0 4) 6 favours_0, cI cy (a0 5) 12 plaintiff_0, cI cy (a0 6) 12 defendant_0, cI cy (a0 7) 12 weight_0, cI cy (a0 8) 12 winner_0]) (ws1 := fun r => [cO h0 1 [.ref (a0 0), .ref (a0 1), .ref (a0 2), .ref (a0 3), .ref (a0 4), .ref (a0 5), .ref (a0 6), .ref (a0 7), .ref (a0 8), .int parties_0, .int judges_0, .int cases_0, .int next_0, .int sits_0], cI cy (a0 0) 6 kind_0, cI cy (a0 1) 6 grievance_0, cI cy (a0 2) 6 wins_0, cI cy (a0 3) 6 lean_0, cI cy (a0 4) 6 favours_0, cI cy (a0 5) 12 plaintiff_0, cI cy (a0 6) 12 defendant_0, cI cy (a0 7) 12 weight_0, cI cy (a0 8) 12 winner_0]) (wc := [cO h0 1 [.ref (a0 0), .ref (a0 1), .ref (a0 2), .ref (a0 3), .ref (a0 4), .ref (a0 5), .ref (a0 6), .ref (a0 7), .ref (a0 8), .int parties_0, .int judges_0, .int cases_0, .int next_0, .int sits_0], cI cy (a0 0) 6 kind_0, cI cy (a0 1) 6 grievance_0, cI cy (a0 2) 6 wins_0, cI cy (a0 3) 6 lean_0, cI cy (a0 4) 6 favours_0, cI cy (a0 5) 12 plaintiff_0, cI cy (a0 6) 12 defendant_0, cI cy (a0 7) 12 weight_0, cI cy (a0 8) 12 winner_0]) (wr := []) (As := [.int p1, .int p2, .int ((1 : Int32) <<< (p3 &&& 31))]) (rest := []) (b := h0) (C := RX1) ⟨hx, hb, hml, hown, hts⟩ hf (fun r hr => c_X1_likedBest l D cy N h0 a0 parties_0 judges_0 cases_0 next_0 sits_0 kind_0 grievance_0 wins_0 lean_0 favours_0 plaintiff_0 defendant_0 weight_0 winner_0 p1 p2 ((1 : Int32) <<< (p3 &&& 31)) r hr) (cwV 3 hts gX1_namedAs_X1_likedBest rfl rfl rfl (by decide +kernel) ⟨Nat.le_of_ble_eq_true rfl, Nat.le_of_ble_eq_true rfl⟩) hK hP hD hS hA 0 1 rfl rfl [0, 1, 2, 3, 4, 5, 6, 7, 8, 9] [] [0, 1, 2, 3, 4, 5, 6, 7, 8, 9] rfl rfl rfl rfl (by decide) (fun _ => rfl) rfl rfl hl.1 rfl (Nat.le_of_ble_eq_true rfl) ⟨Nat.zero_le _, Nat.zero_le _⟩ dX1_namedAs_44 (fun r_1 H locs hf hP hD hS => ?_)
        rw [hQ]
        exact pq_iret hx hb hr hlocks hK hP hD hS hf (fun z => z) (fun z => [cO h0 1 [.ref (a0 0), .ref (a0 1), .ref (a0 2), .ref (a0 3), .ref (a0 4), .ref (a0 5), .ref (a0 6), .ref (a0 7), .ref (a0 8), .int parties_0, .int judges_0, .int cases_0, .int next_0, .int sits_0], cI cy (a0 0) 6 kind_0, cI cy (a0 1) 6 grievance_0, cI cy (a0 2) 6 wins_0, cI cy (a0 3) 6 lean_0, cI cy (a0 4) 6 favours_0, cI cy (a0 5) 12 plaintiff_0, cI cy (a0 6) 12 defendant_0, cI cy (a0 7) 12 weight_0, cI cy (a0 8) 12 winner_0]) rfl rfl dX1_namedAs_47
      · refine lv_iload_n hx hb dX1_namedAs_20 rfl (lv_at hl 3 rfl) ?_
        refine lv_iconst (v := 1) hx hb dX1_namedAs_21 (by decide) ?_
        refine lv_iadd hx hb dX1_namedAs_22 ?_
        refine lv_aload_n hx hb dX1_namedAs_23 rfl (lv_at hl 0 rfl) ?_
        refine pq_get (D := D) (ci := 1) (v := .int judges_0) (C := RX1) (T := TX1) (N := 14) hx hb hts hiX1 hown hK hP 0 rfl rfl 10 (by decide) k0 rfl rfl dX1_namedAs_24 ?_
        refine pq_icmp_ge hx hb 36 hf dX1_namedAs_27 (by decide) (fun _ hf => ?_) (fun _ hf => ?_)
        · refine lv_iconst (v := 0) hx hb dX1_namedAs_36 (by decide) ?_
          rw [hQ]
          exact pq_iret hx hb hr hlocks hK hP hD hS hf (fun z => z) (fun z => [cO h0 1 [.ref (a0 0), .ref (a0 1), .ref (a0 2), .ref (a0 3), .ref (a0 4), .ref (a0 5), .ref (a0 6), .ref (a0 7), .ref (a0 8), .int parties_0, .int judges_0, .int cases_0, .int next_0, .int sits_0], cI cy (a0 0) 6 kind_0, cI cy (a0 1) 6 grievance_0, cI cy (a0 2) 6 wins_0, cI cy (a0 3) 6 lean_0, cI cy (a0 4) 6 favours_0, cI cy (a0 5) 12 plaintiff_0, cI cy (a0 6) 12 defendant_0, cI cy (a0 7) 12 weight_0, cI cy (a0 8) 12 winner_0]) rfl rfl dX1_namedAs_37
        · refine lv_iload_n hx hb dX1_namedAs_30 rfl (lv_at hl 3 rfl) ?_
          refine lv_iconst (v := 1) hx hb dX1_namedAs_31 (by decide) ?_
          refine lv_iadd hx hb dX1_namedAs_32 ?_
          refine lv_goto (tgt := 37) hx hb dX1_namedAs_33 (by decide) ?_
          rw [hQ]
          exact pq_iret hx hb hr hlocks hK hP hD hS hf (fun z => z) (fun z => [cO h0 1 [.ref (a0 0), .ref (a0 1), .ref (a0 2), .ref (a0 3), .ref (a0 4), .ref (a0 5), .ref (a0 6), .ref (a0 7), .ref (a0 8), .int parties_0, .int judges_0, .int cases_0, .int next_0, .int sits_0], cI cy (a0 0) 6 kind_0, cI cy (a0 1) 6 grievance_0, cI cy (a0 2) 6 wins_0, cI cy (a0 3) 6 lean_0, cI cy (a0 4) 6 favours_0, cI cy (a0 5) 12 plaintiff_0, cI cy (a0 6) 12 defendant_0, cI cy (a0 7) 12 weight_0, cI cy (a0 8) 12 winner_0]) rfl rfl dX1_namedAs_37
    · refine lv_iload_n hx hb dX1_namedAs_13 rfl (lv_at hl 3 rfl) ?_
      rw [hQ]
      exact pq_iret hx hb hr hlocks hK hP hD hS hf (fun z => z) (fun z => [cO h0 1 [.ref (a0 0), .ref (a0 1), .ref (a0 2), .ref (a0 3), .ref (a0 4), .ref (a0 5), .ref (a0 6), .ref (a0 7), .ref (a0 8), .int parties_0, .int judges_0, .int cases_0, .int next_0, .int sits_0], cI cy (a0 0) 6 kind_0, cI cy (a0 1) 6 grievance_0, cI cy (a0 2) 6 wins_0, cI cy (a0 3) 6 lean_0, cI cy (a0 4) 6 favours_0, cI cy (a0 5) 12 plaintiff_0, cI cy (a0 6) 12 defendant_0, cI cy (a0 7) 12 weight_0, cI cy (a0 8) 12 winner_0]) rfl rfl dX1_namedAs_14

abbrev rm_X1_namedBy : Room := { frames := 3, cells := 0, slots := 0, locals := 73 }
set_option maxHeartbeats 4000000 in
set_option maxRecDepth 100000 in
theorem c_X1_namedBy (l : Launch) (D : va_G) (cy : Nat → ClassId) (N : Nat) (h0 : Nat) (a0 : Nat → Nat) (parties_0 : Int32) (judges_0 : Int32) (cases_0 : Int32) (next_0 : Int32) (sits_0 : Int32) (kind_0 : Nat → Int32) (grievance_0 : Nat → Int32) (wins_0 : Nat → Int32) (lean_0 : Nat → Int32) (favours_0 : Nat → Int32) (plaintiff_0 : Nat → Int32) (defendant_0 : Nat → Int32) (weight_0 : Nat → Int32) (winner_0 : Nat → Int32) (p1 : Int32) (p2 : Int32) (z : Int32) (hf : f_X1_namedBy N judges_0 kind_0 lean_0 favours_0 p1 p2 = some z) : pq_MI l yX1_namedBy wsX1_namedBy rm_X1_namedBy D cy [.ref h0, .int p1, .int p2] [cO h0 1 [.ref (a0 0), .ref (a0 1), .ref (a0 2), .ref (a0 3), .ref (a0 4), .ref (a0 5), .ref (a0 6), .ref (a0 7), .ref (a0 8), .int parties_0, .int judges_0, .int cases_0, .int next_0, .int sits_0], cI cy (a0 0) 6 kind_0, cI cy (a0 1) 6 grievance_0, cI cy (a0 2) 6 wins_0, cI cy (a0 3) 6 lean_0, cI cy (a0 4) 6 favours_0, cI cy (a0 5) 12 plaintiff_0, cI cy (a0 6) 12 defendant_0, cI cy (a0 7) 12 weight_0, cI cy (a0 8) 12 winner_0] [cO h0 1 [.ref (a0 0), .ref (a0 1), .ref (a0 2), .ref (a0 3), .ref (a0 4), .ref (a0 5), .ref (a0 6), .ref (a0 7), .ref (a0 8), .int parties_0, .int judges_0, .int cases_0, .int next_0, .int sits_0], cI cy (a0 0) 6 kind_0, cI cy (a0 1) 6 grievance_0, cI cy (a0 2) 6 wins_0, cI cy (a0 3) 6 lean_0, cI cy (a0 4) 6 favours_0, cI cy (a0 5) 12 plaintiff_0, cI cy (a0 6) 12 defendant_0, cI cy (a0 7) 12 weight_0, cI cy (a0 8) 12 winner_0] (z) := by
  intro sz
  refine pq_ent (Qf := fun A => pq_Qi D cy A [cO h0 1 [.ref (a0 0), .ref (a0 1), .ref (a0 2), .ref (a0 3), .ref (a0 4), .ref (a0 5), .ref (a0 6), .ref (a0 7), .ref (a0 8), .int parties_0, .int judges_0, .int cases_0, .int next_0, .int sits_0], cI cy (a0 0) 6 kind_0, cI cy (a0 1) 6 grievance_0, cI cy (a0 2) 6 wins_0, cI cy (a0 3) 6 lean_0, cI cy (a0 4) 6 favours_0, cI cy (a0 5) 12 plaintiff_0, cI cy (a0 6) 12 defendant_0, cI cy (a0 7) 12 weight_0, cI cy (a0 8) 12 winner_0] (z)) (cc := cX1_namedBy) (maxL := 3) (ret := (some .int)) (by decide) rfl (Nat.le_of_ble_eq_true rfl) ?_
  intro p e s m args below meth c A ls Q hQ X hK hP hD hA hS hl
  obtain ⟨hx, hb, hr, hts, hown, hlocks, hml⟩ := X
  have hl : lv_has ls 3 [(0, .ref h0), (1, .int p1), (2, .int p2)] := hl
  unfold f_X1_namedBy at hf
  have hiX1 : ∀ w ∈ wsX10, w ∈ wsX1_namedBy := by decide +kernel
  have k0 := hts (.fieldLink RX1 9 "LoserPicks$Circuit" "kind" "[I") (by decide +kernel)
  refine lv_aload_n hx hb dX1_namedBy_0 rfl (lv_at hl 0 rfl) ?_
  refine lv_iload_n hx hb dX1_namedBy_1 rfl (lv_at hl 1 rfl) ?_
  refine lv_aload_n hx hb dX1_namedBy_2 rfl (lv_at hl 0 rfl) ?_
  refine pq_get (D := D) (ci := 1) (v := .ref (a0 0)) (C := RX1) (T := TX1) (N := 14) hx hb hts hiX1 hown hK hP 0 rfl rfl 0 (by decide) k0 rfl rfl dX1_namedBy_3 ?_
  refine lv_iload_n hx hb dX1_namedBy_6 rfl (lv_at hl 1 rfl) ?_
  refine pq_iald hx hb hK hP 1 0 rfl rfl hf dX1_namedBy_7 (fun hf => ?_)
  refine lv_iload_n hx hb dX1_namedBy_8 rfl (lv_at hl 2 rfl) ?_
  refine pq_cVi (rz := fun r => r) (w1 := fun r => [cO h0 1 [.ref (a0 0), .ref (a0 1), .ref (a0 2), .ref (a0 3), .ref (a0 4), .ref (a0 5), .ref (a0 6), .ref (a0 7), .ref (a0 8), .int parties_0, .int judges_0, .int cases_0, .int next_0, .int sits_0], cI cy (a0 0) 6 kind_0, cI cy (a0 1) 6 grievance_0, cI cy (a0 2) 6 wins_0, cI cy (a0 3) 6 lean_0, cI cy (a0 4) 6 favours_0, cI cy (a0 5) 12 plaintiff_0, cI cy (a0 6) 12 defendant_0, cI cy (a0 7) 12 weight_0, cI cy (a0 8) 12 winner_0]) (ws1 := fun r => [cO h0 1 [.ref (a0 0), .ref (a0 1), .ref (a0 2), .ref (a0 3), .ref (a0 4), .ref (a0 5), .ref (a0 6), .ref (a0 7), .ref (a0 8), .int parties_0, .int judges_0, .int cases_0, .int next_0, .int sits_0], cI cy (a0 0) 6 kind_0, cI cy (a0 1) 6 grievance_0, cI cy (a0 2) 6 wins_0, cI cy (a0 3) 6 lean_0, cI cy (a0 4) 6 favours_0, cI cy (a0 5) 12 plaintiff_0, cI cy (a0 6) 12 defendant_0, cI cy (a0 7) 12 weight_0, cI cy (a0 8) 12 winner_0]) (wc := [cO h0 1 [.ref (a0 0), .ref (a0 1), .ref (a0 2), .ref (a0 3), .ref (a0 4), .ref (a0 5), .ref (a0 6), .ref (a0 7), .ref (a0 8), .int parties_0, .int judges_0, .int cases_0, .int next_0, .int sits_0], cI cy (a0 0) 6 kind_0, cI cy (a0 1) 6 grievance_0, cI cy (a0 2) 6 wins_0, cI cy (a0 3) 6 lean_0, cI cy (a0 4) 6 favours_0, cI cy (a0 5) 12 plaintiff_0, cI cy (a0 6) 12 defendant_0, cI cy (a0 7) 12 weight_0, cI cy (a0 8) 12 winner_0]) (wr := []) (As := [.int p1, .int (kind_0 (p1 : Int32).toNatClampNeg), .int p2]) (rest := []) (b := h0) (C := RX1) ⟨hx, hb, hml, hown, hts⟩ hf (fun r hr => c_X1_namedAs l D cy N h0 a0 parties_0 judges_0 cases_0 next_0 sits_0 kind_0 grievance_0 wins_0 lean_0 favours_0 plaintiff_0 defendant_0 weight_0 winner_0 p1 (kind_0 (p1 : Int32).toNatClampNeg) p2 r hr) (cwV 3 hts gX1_namedBy_X1_namedAs rfl rfl rfl (by decide +kernel) ⟨Nat.le_of_ble_eq_true rfl, Nat.le_of_ble_eq_true rfl⟩) hK hP hD hS hA 0 1 rfl rfl [0, 1, 2, 3, 4, 5, 6, 7, 8, 9] [] [0, 1, 2, 3, 4, 5, 6, 7, 8, 9] rfl rfl rfl rfl (by decide) (fun _ => rfl) rfl rfl hl.1 rfl (Nat.le_of_ble_eq_true rfl) ⟨Nat.zero_le _, Nat.zero_le _⟩ dX1_namedBy_9 (fun r_1 H locs hf hP hD hS => ?_)
  rw [hQ]
  exact pq_iret hx hb hr hlocks hK hP hD hS hf (fun z => z) (fun z => [cO h0 1 [.ref (a0 0), .ref (a0 1), .ref (a0 2), .ref (a0 3), .ref (a0 4), .ref (a0 5), .ref (a0 6), .ref (a0 7), .ref (a0 8), .int parties_0, .int judges_0, .int cases_0, .int next_0, .int sits_0], cI cy (a0 0) 6 kind_0, cI cy (a0 1) 6 grievance_0, cI cy (a0 2) 6 wins_0, cI cy (a0 3) 6 lean_0, cI cy (a0 4) 6 favours_0, cI cy (a0 5) 12 plaintiff_0, cI cy (a0 6) 12 defendant_0, cI cy (a0 7) 12 weight_0, cI cy (a0 8) 12 winner_0]) rfl rfl dX1_namedBy_12

abbrev rm_X1_sitsAfter : Room := { frames := 3, cells := 0, slots := 0, locals := 73 }
set_option maxHeartbeats 4000000 in
set_option maxRecDepth 100000 in
theorem c_X1_sitsAfter (l : Launch) (D : va_G) (cy : Nat → ClassId) (N : Nat) (h0 : Nat) (a0 : Nat → Nat) (parties_0 : Int32) (judges_0 : Int32) (cases_0 : Int32) (next_0 : Int32) (sits_0 : Int32) (kind_0 : Nat → Int32) (grievance_0 : Nat → Int32) (wins_0 : Nat → Int32) (lean_0 : Nat → Int32) (favours_0 : Nat → Int32) (plaintiff_0 : Nat → Int32) (defendant_0 : Nat → Int32) (weight_0 : Nat → Int32) (winner_0 : Nat → Int32) (p1 : Int32) (p2 : Int32) (p3 : Int32) (z : Int32) (hf : f_X1_sitsAfter N judges_0 kind_0 lean_0 favours_0 plaintiff_0 defendant_0 p1 p2 p3 = some z) : pq_MI l yX1_sitsAfter wsX1_sitsAfter rm_X1_sitsAfter D cy [.ref h0, .int p1, .int p2, .int p3] [cO h0 1 [.ref (a0 0), .ref (a0 1), .ref (a0 2), .ref (a0 3), .ref (a0 4), .ref (a0 5), .ref (a0 6), .ref (a0 7), .ref (a0 8), .int parties_0, .int judges_0, .int cases_0, .int next_0, .int sits_0], cI cy (a0 0) 6 kind_0, cI cy (a0 1) 6 grievance_0, cI cy (a0 2) 6 wins_0, cI cy (a0 3) 6 lean_0, cI cy (a0 4) 6 favours_0, cI cy (a0 5) 12 plaintiff_0, cI cy (a0 6) 12 defendant_0, cI cy (a0 7) 12 weight_0, cI cy (a0 8) 12 winner_0] [cO h0 1 [.ref (a0 0), .ref (a0 1), .ref (a0 2), .ref (a0 3), .ref (a0 4), .ref (a0 5), .ref (a0 6), .ref (a0 7), .ref (a0 8), .int parties_0, .int judges_0, .int cases_0, .int next_0, .int sits_0], cI cy (a0 0) 6 kind_0, cI cy (a0 1) 6 grievance_0, cI cy (a0 2) 6 wins_0, cI cy (a0 3) 6 lean_0, cI cy (a0 4) 6 favours_0, cI cy (a0 5) 12 plaintiff_0, cI cy (a0 6) 12 defendant_0, cI cy (a0 7) 12 weight_0, cI cy (a0 8) 12 winner_0] (z) := by
  intro sz
  refine pq_ent (Qf := fun A => pq_Qi D cy A [cO h0 1 [.ref (a0 0), .ref (a0 1), .ref (a0 2), .ref (a0 3), .ref (a0 4), .ref (a0 5), .ref (a0 6), .ref (a0 7), .ref (a0 8), .int parties_0, .int judges_0, .int cases_0, .int next_0, .int sits_0], cI cy (a0 0) 6 kind_0, cI cy (a0 1) 6 grievance_0, cI cy (a0 2) 6 wins_0, cI cy (a0 3) 6 lean_0, cI cy (a0 4) 6 favours_0, cI cy (a0 5) 12 plaintiff_0, cI cy (a0 6) 12 defendant_0, cI cy (a0 7) 12 weight_0, cI cy (a0 8) 12 winner_0] (z)) (cc := cX1_sitsAfter) (maxL := 5) (ret := (some .int)) (by decide) rfl (Nat.le_of_ble_eq_true rfl) ?_
  intro p e s m args below meth c A ls Q hQ X hK hP hD hA hS hl
  obtain ⟨hx, hb, hr, hts, hown, hlocks, hml⟩ := X
  have hl : lv_has ls 5 [(0, .ref h0), (1, .int p1), (2, .int p2), (3, .int p3)] := hl
  unfold f_X1_sitsAfter at hf
  have hiX1 : ∀ w ∈ wsX10, w ∈ wsX1_sitsAfter := by decide +kernel
  have k0 := hts (.fieldLink RX1 9 "LoserPicks$Circuit" "kind" "[I") (by decide +kernel)
  refine lv_aload_n hx hb dX1_sitsAfter_0 rfl (lv_at hl 0 rfl) ?_
  refine lv_iload_n hx hb dX1_sitsAfter_1 rfl (lv_at hl 3 rfl) ?_
  refine lv_iload_n hx hb dX1_sitsAfter_2 rfl (lv_at hl 2 rfl) ?_
  refine pq_cVi (rz := fun r => r) (w1 := fun r => [cO h0 1 [.ref (a0 0), .ref (a0 1), .ref (a0 2), .ref (a0 3), .ref (a0 4), .ref (a0 5), .ref (a0 6), .ref (a0 7), .ref (a0 8), .int parties_0, .int judges_0, .int cases_0, .int next_0, .int sits_0], cI cy (a0 0) 6 kind_0, cI cy (a0 1) 6 grievance_0, cI cy (a0 2) 6 wins_0, cI cy (a0 3) 6 lean_0, cI cy (a0 4) 6 favours_0, cI cy (a0 5) 12 plaintiff_0, cI cy (a0 6) 12 defendant_0, cI cy (a0 7) 12 weight_0, cI cy (a0 8) 12 winner_0]) (ws1 := fun r => [cO h0 1 [.ref (a0 0), .ref (a0 1), .ref (a0 2), .ref (a0 3), .ref (a0 4), .ref (a0 5), .ref (a0 6), .ref (a0 7), .ref (a0 8), .int parties_0, .int judges_0, .int cases_0, .int next_0, .int sits_0], cI cy (a0 0) 6 kind_0, cI cy (a0 1) 6 grievance_0, cI cy (a0 2) 6 wins_0, cI cy (a0 3) 6 lean_0, cI cy (a0 4) 6 favours_0, cI cy (a0 5) 12 plaintiff_0, cI cy (a0 6) 12 defendant_0, cI cy (a0 7) 12 weight_0, cI cy (a0 8) 12 winner_0]) (wc := [cO h0 1 [.ref (a0 0), .ref (a0 1), .ref (a0 2), .ref (a0 3), .ref (a0 4), .ref (a0 5), .ref (a0 6), .ref (a0 7), .ref (a0 8), .int parties_0, .int judges_0, .int cases_0, .int next_0, .int sits_0], cI cy (a0 0) 6 kind_0, cI cy (a0 1) 6 grievance_0, cI cy (a0 2) 6 wins_0, cI cy (a0 3) 6 lean_0, cI cy (a0 4) 6 favours_0, cI cy (a0 5) 12 plaintiff_0, cI cy (a0 6) 12 defendant_0, cI cy (a0 7) 12 weight_0, cI cy (a0 8) 12 winner_0]) (wr := []) (As := [.int p3, .int p2]) (rest := []) (b := h0) (C := RX1) ⟨hx, hb, hml, hown, hts⟩ hf (fun r hr => c_X1_opponentOf l D cy N h0 a0 parties_0 judges_0 cases_0 next_0 sits_0 kind_0 grievance_0 wins_0 lean_0 favours_0 plaintiff_0 defendant_0 weight_0 winner_0 p3 p2 r hr) (cwV 2 hts gX1_sitsAfter_X1_opponentOf rfl rfl rfl (by decide +kernel) ⟨Nat.le_of_ble_eq_true rfl, Nat.le_of_ble_eq_true rfl⟩) hK hP hD hS hA 0 1 rfl rfl [0, 1, 2, 3, 4, 5, 6, 7, 8, 9] [] [0, 1, 2, 3, 4, 5, 6, 7, 8, 9] rfl rfl rfl rfl (by decide) (fun _ => rfl) rfl rfl hl.1 rfl (Nat.le_of_ble_eq_true rfl) ⟨Nat.zero_le _, Nat.zero_le _⟩ dX1_sitsAfter_3 (fun r_1 H locs hf hP hD hS => ?_)
  refine lv_istore (lv' := [(4, .int r_1), (0, .ref h0), (1, .int p1), (2, .int p2), (3, .int p3)]) hx hb dX1_sitsAfter_6 hl (by decide) rfl (fun ls hl => ?_)
  refine lv_aload_n hx hb dX1_sitsAfter_8 rfl (lv_at hl 1 rfl) ?_
  refine lv_iload hx hb dX1_sitsAfter_9 (lv_at hl 0 rfl) ?_
  refine lv_aload_n hx hb dX1_sitsAfter_11 rfl (lv_at hl 1 rfl) ?_
  refine pq_get (D := D) (ci := 1) (v := .ref (a0 0)) (C := RX1) (T := TX1) (N := 14) hx hb hts hiX1 hown hK hP 0 rfl rfl 0 (by decide) k0 rfl rfl dX1_sitsAfter_12 ?_
  refine lv_iload hx hb dX1_sitsAfter_15 (lv_at hl 0 rfl) ?_
  refine pq_iald hx hb hK hP 1 0 rfl rfl hf dX1_sitsAfter_17 (fun hf => ?_)
  refine lv_iload_n hx hb dX1_sitsAfter_18 rfl (lv_at hl 2 rfl) ?_
  refine pq_cVi (rz := fun r => r) (w1 := fun r => [cO h0 1 [.ref (a0 0), .ref (a0 1), .ref (a0 2), .ref (a0 3), .ref (a0 4), .ref (a0 5), .ref (a0 6), .ref (a0 7), .ref (a0 8), .int parties_0, .int judges_0, .int cases_0, .int next_0, .int sits_0], cI cy (a0 0) 6 kind_0, cI cy (a0 1) 6 grievance_0, cI cy (a0 2) 6 wins_0, cI cy (a0 3) 6 lean_0, cI cy (a0 4) 6 favours_0, cI cy (a0 5) 12 plaintiff_0, cI cy (a0 6) 12 defendant_0, cI cy (a0 7) 12 weight_0, cI cy (a0 8) 12 winner_0]) (ws1 := fun r => [cO h0 1 [.ref (a0 0), .ref (a0 1), .ref (a0 2), .ref (a0 3), .ref (a0 4), .ref (a0 5), .ref (a0 6), .ref (a0 7), .ref (a0 8), .int parties_0, .int judges_0, .int cases_0, .int next_0, .int sits_0], cI cy (a0 0) 6 kind_0, cI cy (a0 1) 6 grievance_0, cI cy (a0 2) 6 wins_0, cI cy (a0 3) 6 lean_0, cI cy (a0 4) 6 favours_0, cI cy (a0 5) 12 plaintiff_0, cI cy (a0 6) 12 defendant_0, cI cy (a0 7) 12 weight_0, cI cy (a0 8) 12 winner_0]) (wc := [cO h0 1 [.ref (a0 0), .ref (a0 1), .ref (a0 2), .ref (a0 3), .ref (a0 4), .ref (a0 5), .ref (a0 6), .ref (a0 7), .ref (a0 8), .int parties_0, .int judges_0, .int cases_0, .int next_0, .int sits_0], cI cy (a0 0) 6 kind_0, cI cy (a0 1) 6 grievance_0, cI cy (a0 2) 6 wins_0, cI cy (a0 3) 6 lean_0, cI cy (a0 4) 6 favours_0, cI cy (a0 5) 12 plaintiff_0, cI cy (a0 6) 12 defendant_0, cI cy (a0 7) 12 weight_0, cI cy (a0 8) 12 winner_0]) (wr := []) (As := [.int r_1, .int (kind_0 (r_1 : Int32).toNatClampNeg), .int p1]) (rest := []) (b := h0) (C := RX1) ⟨hx, hb, hml, hown, hts⟩ hf (fun r hr => c_X1_namedAs l D cy N h0 a0 parties_0 judges_0 cases_0 next_0 sits_0 kind_0 grievance_0 wins_0 lean_0 favours_0 plaintiff_0 defendant_0 weight_0 winner_0 r_1 (kind_0 (r_1 : Int32).toNatClampNeg) p1 r hr) (cwV 3 hts gX1_sitsAfter_X1_namedAs rfl rfl rfl (by decide +kernel) ⟨Nat.le_of_ble_eq_true rfl, Nat.le_of_ble_eq_true rfl⟩) hK hP hD hS hA 0 1 rfl rfl [0, 1, 2, 3, 4, 5, 6, 7, 8, 9] [] [0, 1, 2, 3, 4, 5, 6, 7, 8, 9] rfl rfl rfl rfl (by decide) (fun _ => rfl) rfl rfl hl.1 rfl (Nat.le_of_ble_eq_true rfl) ⟨Nat.zero_le _, Nat.zero_le _⟩ dX1_sitsAfter_19 (fun r_2 H locs hf hP hD hS => ?_)
  rw [hQ]
  exact pq_iret hx hb hr hlocks hK hP hD hS hf (fun z => z) (fun z => [cO h0 1 [.ref (a0 0), .ref (a0 1), .ref (a0 2), .ref (a0 3), .ref (a0 4), .ref (a0 5), .ref (a0 6), .ref (a0 7), .ref (a0 8), .int parties_0, .int judges_0, .int cases_0, .int next_0, .int sits_0], cI cy (a0 0) 6 kind_0, cI cy (a0 1) 6 grievance_0, cI cy (a0 2) 6 wins_0, cI cy (a0 3) 6 lean_0, cI cy (a0 4) 6 favours_0, cI cy (a0 5) 12 plaintiff_0, cI cy (a0 6) 12 defendant_0, cI cy (a0 7) 12 weight_0, cI cy (a0 8) 12 winner_0]) rfl rfl dX1_sitsAfter_22

abbrev rm_X1_hurtOf : Room := { frames := 0, cells := 0, slots := 0, locals := 0 }
set_option maxHeartbeats 4000000 in
set_option maxRecDepth 100000 in
theorem c_X1_hurtOf (l : Launch) (D : va_G) (cy : Nat → ClassId) (N : Nat) (h0 : Nat) (a0 : Nat → Nat) (parties_0 : Int32) (judges_0 : Int32) (cases_0 : Int32) (next_0 : Int32) (sits_0 : Int32) (kind_0 : Nat → Int32) (grievance_0 : Nat → Int32) (wins_0 : Nat → Int32) (lean_0 : Nat → Int32) (favours_0 : Nat → Int32) (plaintiff_0 : Nat → Int32) (defendant_0 : Nat → Int32) (weight_0 : Nat → Int32) (winner_0 : Nat → Int32) (p1 : Int32) (p2 : Int32) (z : Int32) (hf : f_X1_hurtOf N kind_0 p1 p2 = some z) : pq_MI l yX1_hurtOf wsX1_hurtOf rm_X1_hurtOf D cy [.ref h0, .int p1, .int p2] [cO h0 1 [.ref (a0 0), .ref (a0 1), .ref (a0 2), .ref (a0 3), .ref (a0 4), .ref (a0 5), .ref (a0 6), .ref (a0 7), .ref (a0 8), .int parties_0, .int judges_0, .int cases_0, .int next_0, .int sits_0], cI cy (a0 0) 6 kind_0, cI cy (a0 1) 6 grievance_0, cI cy (a0 2) 6 wins_0, cI cy (a0 3) 6 lean_0, cI cy (a0 4) 6 favours_0, cI cy (a0 5) 12 plaintiff_0, cI cy (a0 6) 12 defendant_0, cI cy (a0 7) 12 weight_0, cI cy (a0 8) 12 winner_0] [cO h0 1 [.ref (a0 0), .ref (a0 1), .ref (a0 2), .ref (a0 3), .ref (a0 4), .ref (a0 5), .ref (a0 6), .ref (a0 7), .ref (a0 8), .int parties_0, .int judges_0, .int cases_0, .int next_0, .int sits_0], cI cy (a0 0) 6 kind_0, cI cy (a0 1) 6 grievance_0, cI cy (a0 2) 6 wins_0, cI cy (a0 3) 6 lean_0, cI cy (a0 4) 6 favours_0, cI cy (a0 5) 12 plaintiff_0, cI cy (a0 6) 12 defendant_0, cI cy (a0 7) 12 weight_0, cI cy (a0 8) 12 winner_0] (z) := by
  intro sz
  refine pq_ent (Qf := fun A => pq_Qi D cy A [cO h0 1 [.ref (a0 0), .ref (a0 1), .ref (a0 2), .ref (a0 3), .ref (a0 4), .ref (a0 5), .ref (a0 6), .ref (a0 7), .ref (a0 8), .int parties_0, .int judges_0, .int cases_0, .int next_0, .int sits_0], cI cy (a0 0) 6 kind_0, cI cy (a0 1) 6 grievance_0, cI cy (a0 2) 6 wins_0, cI cy (a0 3) 6 lean_0, cI cy (a0 4) 6 favours_0, cI cy (a0 5) 12 plaintiff_0, cI cy (a0 6) 12 defendant_0, cI cy (a0 7) 12 weight_0, cI cy (a0 8) 12 winner_0] (z)) (cc := cX1_hurtOf) (maxL := 3) (ret := (some .int)) (by decide) rfl (Nat.le_of_ble_eq_true rfl) ?_
  intro p e s m args below meth c A ls Q hQ X hK hP hD hA hS hl
  obtain ⟨hx, hb, hr, hts, hown, hlocks, hml⟩ := X
  have hl : lv_has ls 3 [(0, .ref h0), (1, .int p1), (2, .int p2)] := hl
  unfold f_X1_hurtOf at hf
  have hiX1 : ∀ w ∈ wsX10, w ∈ wsX1_hurtOf := by decide +kernel
  have k0 := hts (.fieldLink RX1 9 "LoserPicks$Circuit" "kind" "[I") (by decide +kernel)
  refine lv_aload_n hx hb dX1_hurtOf_0 rfl (lv_at hl 0 rfl) ?_
  refine pq_get (D := D) (ci := 1) (v := .ref (a0 0)) (C := RX1) (T := TX1) (N := 14) hx hb hts hiX1 hown hK hP 0 rfl rfl 0 (by decide) k0 rfl rfl dX1_hurtOf_1 ?_
  refine lv_iload_n hx hb dX1_hurtOf_4 rfl (lv_at hl 1 rfl) ?_
  refine pq_iald hx hb hK hP 1 0 rfl rfl hf dX1_hurtOf_5 (fun hf => ?_)
  rcases Classical.em ((kind_0 (p1 : Int32).toNatClampNeg) = 2) with c2 | c2
  · have hf := pq_it hf c2
    rw [c2]
    refine lv_tableIn (tgt := 36) hx hb dX1_hurtOf_6 (by decide) (by decide) rfl (by decide) ?_
    refine lv_iconst (v := 2) hx hb dX1_hurtOf_36 (by decide) ?_
    refine lv_iload_n hx hb dX1_hurtOf_37 rfl (lv_at hl 2 rfl) ?_
    refine lv_imul hx hb dX1_hurtOf_38 ?_
    rw [hQ]
    exact pq_iret hx hb hr hlocks hK hP hD hS hf (fun z => z) (fun z => [cO h0 1 [.ref (a0 0), .ref (a0 1), .ref (a0 2), .ref (a0 3), .ref (a0 4), .ref (a0 5), .ref (a0 6), .ref (a0 7), .ref (a0 8), .int parties_0, .int judges_0, .int cases_0, .int next_0, .int sits_0], cI cy (a0 0) 6 kind_0, cI cy (a0 1) 6 grievance_0, cI cy (a0 2) 6 wins_0, cI cy (a0 3) 6 lean_0, cI cy (a0 4) 6 favours_0, cI cy (a0 5) 12 plaintiff_0, cI cy (a0 6) 12 defendant_0, cI cy (a0 7) 12 weight_0, cI cy (a0 8) 12 winner_0]) rfl rfl dX1_hurtOf_39
  · have hf := pq_if hf c2
    rcases Classical.em ((kind_0 (p1 : Int32).toNatClampNeg) = 3) with c3 | c3
    · have hf := pq_it hf c3
      rw [c3]
      refine lv_tableIn (tgt := 46) hx hb dX1_hurtOf_6 (by decide) (by decide) rfl (by decide) ?_
      refine lv_iconst (v := 0) hx hb dX1_hurtOf_46 (by decide) ?_
      rw [hQ]
      exact pq_iret hx hb hr hlocks hK hP hD hS hf (fun z => z) (fun z => [cO h0 1 [.ref (a0 0), .ref (a0 1), .ref (a0 2), .ref (a0 3), .ref (a0 4), .ref (a0 5), .ref (a0 6), .ref (a0 7), .ref (a0 8), .int parties_0, .int judges_0, .int cases_0, .int next_0, .int sits_0], cI cy (a0 0) 6 kind_0, cI cy (a0 1) 6 grievance_0, cI cy (a0 2) 6 wins_0, cI cy (a0 3) 6 lean_0, cI cy (a0 4) 6 favours_0, cI cy (a0 5) 12 plaintiff_0, cI cy (a0 6) 12 defendant_0, cI cy (a0 7) 12 weight_0, cI cy (a0 8) 12 winner_0]) rfl rfl dX1_hurtOf_47
    · have hf := pq_if hf c3
      rcases Classical.em ((kind_0 (p1 : Int32).toNatClampNeg) = 4) with c4 | c4
      · have hf := pq_it hf c4
        rw [c4]
        refine lv_tableIn (tgt := 48) hx hb dX1_hurtOf_6 (by decide) (by decide) rfl (by decide) ?_
        refine lv_iconst (v := 1) hx hb dX1_hurtOf_48 (by decide) ?_
        rw [hQ]
        exact pq_iret hx hb hr hlocks hK hP hD hS hf (fun z => z) (fun z => [cO h0 1 [.ref (a0 0), .ref (a0 1), .ref (a0 2), .ref (a0 3), .ref (a0 4), .ref (a0 5), .ref (a0 6), .ref (a0 7), .ref (a0 8), .int parties_0, .int judges_0, .int cases_0, .int next_0, .int sits_0], cI cy (a0 0) 6 kind_0, cI cy (a0 1) 6 grievance_0, cI cy (a0 2) 6 wins_0, cI cy (a0 3) 6 lean_0, cI cy (a0 4) 6 favours_0, cI cy (a0 5) 12 plaintiff_0, cI cy (a0 6) 12 defendant_0, cI cy (a0 7) 12 weight_0, cI cy (a0 8) 12 winner_0]) rfl rfl dX1_hurtOf_49
      · have hf := pq_if hf c4
        rcases Classical.em ((kind_0 (p1 : Int32).toNatClampNeg) = 5) with c5 | c5
        · have hf := pq_it hf c5
          rw [c5]
          refine lv_tableIn (tgt := 40) hx hb dX1_hurtOf_6 (by decide) (by decide) rfl (by decide) ?_
          refine lv_iconst (v := 2) hx hb dX1_hurtOf_40 (by decide) ?_
          refine lv_iload_n hx hb dX1_hurtOf_41 rfl (lv_at hl 2 rfl) ?_
          refine lv_imul hx hb dX1_hurtOf_42 ?_
          refine lv_iconst (v := 1) hx hb dX1_hurtOf_43 (by decide) ?_
          refine lv_iadd hx hb dX1_hurtOf_44 ?_
          rw [hQ]
          exact pq_iret hx hb hr hlocks hK hP hD hS hf (fun z => z) (fun z => [cO h0 1 [.ref (a0 0), .ref (a0 1), .ref (a0 2), .ref (a0 3), .ref (a0 4), .ref (a0 5), .ref (a0 6), .ref (a0 7), .ref (a0 8), .int parties_0, .int judges_0, .int cases_0, .int next_0, .int sits_0], cI cy (a0 0) 6 kind_0, cI cy (a0 1) 6 grievance_0, cI cy (a0 2) 6 wins_0, cI cy (a0 3) 6 lean_0, cI cy (a0 4) 6 favours_0, cI cy (a0 5) 12 plaintiff_0, cI cy (a0 6) 12 defendant_0, cI cy (a0 7) 12 weight_0, cI cy (a0 8) 12 winner_0]) rfl rfl dX1_hurtOf_45
        · have hf := pq_if hf c5
          refine lv_tableOut (tgt := 50) hx hb dX1_hurtOf_6 (by have e2 := pq_ne c2 (show (2 : Int32).toInt = 2 from rfl); have e3 := pq_ne c3 (show (3 : Int32).toInt = 3 from rfl); have e4 := pq_ne c4 (show (4 : Int32).toInt = 4 from rfl); have e5 := pq_ne c5 (show (5 : Int32).toInt = 5 from rfl); omega) (by decide) ?_
          refine lv_iload_n hx hb dX1_hurtOf_50 rfl (lv_at hl 2 rfl) ?_
          rw [hQ]
          exact pq_iret hx hb hr hlocks hK hP hD hS hf (fun z => z) (fun z => [cO h0 1 [.ref (a0 0), .ref (a0 1), .ref (a0 2), .ref (a0 3), .ref (a0 4), .ref (a0 5), .ref (a0 6), .ref (a0 7), .ref (a0 8), .int parties_0, .int judges_0, .int cases_0, .int next_0, .int sits_0], cI cy (a0 0) 6 kind_0, cI cy (a0 1) 6 grievance_0, cI cy (a0 2) 6 wins_0, cI cy (a0 3) 6 lean_0, cI cy (a0 4) 6 favours_0, cI cy (a0 5) 12 plaintiff_0, cI cy (a0 6) 12 defendant_0, cI cy (a0 7) 12 weight_0, cI cy (a0 8) 12 winner_0]) rfl rfl dX1_hurtOf_51

abbrev rm_X1_settle : Room := { frames := 3, cells := 0, slots := 0, locals := 73 }
set_option maxHeartbeats 4000000 in
set_option maxRecDepth 100000 in
theorem c_X1_settle (l : Launch) (D : va_G) (cy : Nat → ClassId) (N : Nat) (h0 : Nat) (a0 : Nat → Nat) (parties_0 : Int32) (judges_0 : Int32) (cases_0 : Int32) (next_0 : Int32) (sits_0 : Int32) (kind_0 : Nat → Int32) (grievance_0 : Nat → Int32) (wins_0 : Nat → Int32) (lean_0 : Nat → Int32) (favours_0 : Nat → Int32) (plaintiff_0 : Nat → Int32) (defendant_0 : Nat → Int32) (weight_0 : Nat → Int32) (winner_0 : Nat → Int32) (p1 : Int32) (p2 : Int32) (z : Int32 × (Nat → Int32) × (Nat → Int32) × (Nat → Int32)) (hf : f_X1_settle N judges_0 sits_0 kind_0 grievance_0 wins_0 lean_0 favours_0 plaintiff_0 defendant_0 weight_0 winner_0 p1 p2 = some z) : pq_MV l yX1_settle wsX1_settle rm_X1_settle D cy [.ref h0, .int p1, .int p2] [cO h0 1 [.ref (a0 0), .ref (a0 1), .ref (a0 2), .ref (a0 3), .ref (a0 4), .ref (a0 5), .ref (a0 6), .ref (a0 7), .ref (a0 8), .int parties_0, .int judges_0, .int cases_0, .int next_0, .int sits_0], cI cy (a0 0) 6 kind_0, cI cy (a0 1) 6 grievance_0, cI cy (a0 2) 6 wins_0, cI cy (a0 3) 6 lean_0, cI cy (a0 4) 6 favours_0, cI cy (a0 5) 12 plaintiff_0, cI cy (a0 6) 12 defendant_0, cI cy (a0 7) 12 weight_0, cI cy (a0 8) 12 winner_0] [cO h0 1 [.ref (a0 0), .ref (a0 1), .ref (a0 2), .ref (a0 3), .ref (a0 4), .ref (a0 5), .ref (a0 6), .ref (a0 7), .ref (a0 8), .int parties_0, .int judges_0, .int cases_0, .int next_0, .int z.1], cI cy (a0 0) 6 kind_0, cI cy (a0 1) 6 z.2.1, cI cy (a0 2) 6 z.2.2.1, cI cy (a0 3) 6 lean_0, cI cy (a0 4) 6 favours_0, cI cy (a0 5) 12 plaintiff_0, cI cy (a0 6) 12 defendant_0, cI cy (a0 7) 12 weight_0, cI cy (a0 8) 12 z.2.2.2] := by
  intro sz
  refine pq_ent (Qf := fun A => pq_Qv D cy A [cO h0 1 [.ref (a0 0), .ref (a0 1), .ref (a0 2), .ref (a0 3), .ref (a0 4), .ref (a0 5), .ref (a0 6), .ref (a0 7), .ref (a0 8), .int parties_0, .int judges_0, .int cases_0, .int next_0, .int z.1], cI cy (a0 0) 6 kind_0, cI cy (a0 1) 6 z.2.1, cI cy (a0 2) 6 z.2.2.1, cI cy (a0 3) 6 lean_0, cI cy (a0 4) 6 favours_0, cI cy (a0 5) 12 plaintiff_0, cI cy (a0 6) 12 defendant_0, cI cy (a0 7) 12 weight_0, cI cy (a0 8) 12 z.2.2.2]) (cc := cX1_settle) (maxL := 5) (ret := none) (by decide) rfl (Nat.le_of_ble_eq_true rfl) ?_
  intro p e s m args below meth c A ls Q hQ X hK hP hD hA hS hl
  obtain ⟨hx, hb, hr, hts, hown, hlocks, hml⟩ := X
  have hl : lv_has ls 5 [(0, .ref h0), (1, .int p1), (2, .int p2)] := hl
  unfold f_X1_settle at hf
  have hiX1 : ∀ w ∈ wsX10, w ∈ wsX1_settle := by decide +kernel
  have k0 := hts (.fieldLink RX1 52 "LoserPicks$Circuit" "sits" "I") (by decide +kernel)
  have k1 := hts (.fieldLink RX1 36 "LoserPicks$Circuit" "winner" "[I") (by decide +kernel)
  have k2 := hts (.fieldLink RX1 18 "LoserPicks$Circuit" "wins" "[I") (by decide +kernel)
  have k3 := hts (.fieldLink RX1 15 "LoserPicks$Circuit" "grievance" "[I") (by decide +kernel)
  have k4 := hts (.methodLink RX1 81 Lib.Math.max.name) (by decide +kernel)
  have k5 := hts (.static Lib.Math.max.name) (by decide +kernel)
  have k6 := hts (.initialized "java/lang/Math") (by decide +kernel)
  have k7 := hts (.code Lib.Math.max.name Lib.Math.max.code 2 (some .int)) (by decide +kernel)
  have k8 := hts (.fieldLink RX1 33 "LoserPicks$Circuit" "weight" "[I") (by decide +kernel)
  have k9 := hts (.methodLink RX1 89 Lib.Math.min.name) (by decide +kernel)
  have k10 := hts (.static Lib.Math.min.name) (by decide +kernel)
  have k11 := hts (.code Lib.Math.min.name Lib.Math.min.code 2 (some .int)) (by decide +kernel)
  have k12 := hts (.fieldLink RX1 9 "LoserPicks$Circuit" "kind" "[I") (by decide +kernel)
  have k13 := hts (.fieldLink RX1 27 "LoserPicks$Circuit" "plaintiff" "[I") (by decide +kernel)
  have k14 := hts (.fieldLink RX1 30 "LoserPicks$Circuit" "defendant" "[I") (by decide +kernel)
  refine lv_aload_n hx hb dX1_settle_0 rfl (lv_at hl 0 rfl) ?_
  refine lv_aload_n hx hb dX1_settle_1 rfl (lv_at hl 0 rfl) ?_
  refine pq_get (D := D) (ci := 1) (v := .int sits_0) (C := RX1) (T := TX1) (N := 14) hx hb hts hiX1 hown hK hP 0 rfl rfl 13 (by decide) k0 rfl rfl dX1_settle_2 ?_
  refine lv_iload_n hx hb dX1_settle_5 rfl (lv_at hl 1 rfl) ?_
  refine pq_cVi (rz := fun r => r) (w1 := fun r => [cO h0 1 [.ref (a0 0), .ref (a0 1), .ref (a0 2), .ref (a0 3), .ref (a0 4), .ref (a0 5), .ref (a0 6), .ref (a0 7), .ref (a0 8), .int parties_0, .int judges_0, .int cases_0, .int next_0, .int sits_0], cI cy (a0 0) 6 kind_0, cI cy (a0 1) 6 grievance_0, cI cy (a0 2) 6 wins_0, cI cy (a0 3) 6 lean_0, cI cy (a0 4) 6 favours_0, cI cy (a0 5) 12 plaintiff_0, cI cy (a0 6) 12 defendant_0, cI cy (a0 7) 12 weight_0, cI cy (a0 8) 12 winner_0]) (ws1 := fun r => [cO h0 1 [.ref (a0 0), .ref (a0 1), .ref (a0 2), .ref (a0 3), .ref (a0 4), .ref (a0 5), .ref (a0 6), .ref (a0 7), .ref (a0 8), .int parties_0, .int judges_0, .int cases_0, .int next_0, .int sits_0], cI cy (a0 0) 6 kind_0, cI cy (a0 1) 6 grievance_0, cI cy (a0 2) 6 wins_0, cI cy (a0 3) 6 lean_0, cI cy (a0 4) 6 favours_0, cI cy (a0 5) 12 plaintiff_0, cI cy (a0 6) 12 defendant_0, cI cy (a0 7) 12 weight_0, cI cy (a0 8) 12 winner_0]) (wc := [cO h0 1 [.ref (a0 0), .ref (a0 1), .ref (a0 2), .ref (a0 3), .ref (a0 4), .ref (a0 5), .ref (a0 6), .ref (a0 7), .ref (a0 8), .int parties_0, .int judges_0, .int cases_0, .int next_0, .int sits_0], cI cy (a0 0) 6 kind_0, cI cy (a0 1) 6 grievance_0, cI cy (a0 2) 6 wins_0, cI cy (a0 3) 6 lean_0, cI cy (a0 4) 6 favours_0, cI cy (a0 5) 12 plaintiff_0, cI cy (a0 6) 12 defendant_0, cI cy (a0 7) 12 weight_0, cI cy (a0 8) 12 winner_0]) (wr := []) (As := [.int sits_0, .int p1]) (rest := []) (b := h0) (C := RX1) ⟨hx, hb, hml, hown, hts⟩ hf (fun r hr => c_X1_winnerBefore l D cy N h0 a0 parties_0 judges_0 cases_0 next_0 sits_0 kind_0 grievance_0 wins_0 lean_0 favours_0 plaintiff_0 defendant_0 weight_0 winner_0 sits_0 p1 r hr) (cwV 2 hts gX1_settle_X1_winnerBefore rfl rfl rfl (by decide +kernel) ⟨Nat.le_of_ble_eq_true rfl, Nat.le_of_ble_eq_true rfl⟩) hK hP hD hS hA 0 1 rfl rfl [0, 1, 2, 3, 4, 5, 6, 7, 8, 9] [] [0, 1, 2, 3, 4, 5, 6, 7, 8, 9] rfl rfl rfl rfl (by decide) (fun _ => rfl) rfl rfl hl.1 rfl (Nat.le_of_ble_eq_true rfl) ⟨Nat.zero_le _, Nat.zero_le _⟩ dX1_settle_6 (fun r_1 H locs hf hP hD hS => ?_)
  refine lv_istore_n (lv' := [(3, .int r_1), (0, .ref h0), (1, .int p1), (2, .int p2)]) hx hb dX1_settle_9 rfl hl (by decide) rfl (fun ls hl => ?_)
  refine lv_iload_n hx hb dX1_settle_10 rfl (lv_at hl 3 rfl) ?_
  refine lv_iconst (v := 1) hx hb dX1_settle_11 (by decide) ?_
  obtain ⟨kJ37, ekJ37, hf⟩ := pq_j_e hf
  have hJ37 : ∀ (x3_J37 : Int32) (H : Heap) (locs : List Loc) (ls : Array Slot), kJ37 x3_J37 = some z → va_P D vwCl [cO h0 1 [.ref (a0 0), .ref (a0 1), .ref (a0 2), .ref (a0 3), .ref (a0 4), .ref (a0 5), .ref (a0 6), .ref (a0 7), .ref (a0 8), .int parties_0, .int judges_0, .int cases_0, .int next_0, .int sits_0], cI cy (a0 0) 6 kind_0, cI cy (a0 1) 6 grievance_0, cI cy (a0 2) 6 wins_0, cI cy (a0 3) 6 lean_0, cI cy (a0 4) 6 favours_0, cI cy (a0 5) 12 plaintiff_0, cI cy (a0 6) 12 defendant_0, cI cy (a0 7) 12 weight_0, cI cy (a0 8) 12 winner_0] H → va_D A [cO h0 1 [.ref (a0 0), .ref (a0 1), .ref (a0 2), .ref (a0 3), .ref (a0 4), .ref (a0 5), .ref (a0 6), .ref (a0 7), .ref (a0 8), .int parties_0, .int judges_0, .int cases_0, .int next_0, .int sits_0], cI cy (a0 0) 6 kind_0, cI cy (a0 1) 6 grievance_0, cI cy (a0 2) 6 wins_0, cI cy (a0 3) 6 lean_0, cI cy (a0 4) 6 favours_0, cI cy (a0 5) 12 plaintiff_0, cI cy (a0 6) 12 defendant_0, cI cy (a0 7) 12 weight_0, cI cy (a0 8) 12 winner_0] → va_S A s.heap H locs → lv_has ls 5 [(0, .ref h0), (1, .int p1), (3, .int x3_J37)] → W p l e rm_X1_settle s m args below meth c H locs 0 0 Q (F0 m 37 ls []) := by
    clear hf hP hD hS hl
    intro x3_J37 H locs ls hf hP hD hS hl
    rw [ekJ37] at hf
    refine lv_aload_n hx hb dX1_settle_37 rfl (lv_at hl 0 rfl) ?_
    refine lv_iload_n hx hb dX1_settle_38 rfl (lv_at hl 2 rfl) ?_
    refine lv_iload_n hx hb dX1_settle_39 rfl (lv_at hl 1 rfl) ?_
    refine pq_cVi (rz := fun r => r) (w1 := fun r => [cO h0 1 [.ref (a0 0), .ref (a0 1), .ref (a0 2), .ref (a0 3), .ref (a0 4), .ref (a0 5), .ref (a0 6), .ref (a0 7), .ref (a0 8), .int parties_0, .int judges_0, .int cases_0, .int next_0, .int sits_0], cI cy (a0 0) 6 kind_0, cI cy (a0 1) 6 grievance_0, cI cy (a0 2) 6 wins_0, cI cy (a0 3) 6 lean_0, cI cy (a0 4) 6 favours_0, cI cy (a0 5) 12 plaintiff_0, cI cy (a0 6) 12 defendant_0, cI cy (a0 7) 12 weight_0, cI cy (a0 8) 12 winner_0]) (ws1 := fun r => [cO h0 1 [.ref (a0 0), .ref (a0 1), .ref (a0 2), .ref (a0 3), .ref (a0 4), .ref (a0 5), .ref (a0 6), .ref (a0 7), .ref (a0 8), .int parties_0, .int judges_0, .int cases_0, .int next_0, .int sits_0], cI cy (a0 0) 6 kind_0, cI cy (a0 1) 6 grievance_0, cI cy (a0 2) 6 wins_0, cI cy (a0 3) 6 lean_0, cI cy (a0 4) 6 favours_0, cI cy (a0 5) 12 plaintiff_0, cI cy (a0 6) 12 defendant_0, cI cy (a0 7) 12 weight_0, cI cy (a0 8) 12 winner_0]) (wc := [cO h0 1 [.ref (a0 0), .ref (a0 1), .ref (a0 2), .ref (a0 3), .ref (a0 4), .ref (a0 5), .ref (a0 6), .ref (a0 7), .ref (a0 8), .int parties_0, .int judges_0, .int cases_0, .int next_0, .int sits_0], cI cy (a0 0) 6 kind_0, cI cy (a0 1) 6 grievance_0, cI cy (a0 2) 6 wins_0, cI cy (a0 3) 6 lean_0, cI cy (a0 4) 6 favours_0, cI cy (a0 5) 12 plaintiff_0, cI cy (a0 6) 12 defendant_0, cI cy (a0 7) 12 weight_0, cI cy (a0 8) 12 winner_0]) (wr := []) (As := [.int x3_J37, .int p1]) (rest := []) (b := h0) (C := RX1) ⟨hx, hb, hml, hown, hts⟩ hf (fun r hr => c_X1_opponentOf l D cy N h0 a0 parties_0 judges_0 cases_0 next_0 sits_0 kind_0 grievance_0 wins_0 lean_0 favours_0 plaintiff_0 defendant_0 weight_0 winner_0 x3_J37 p1 r hr) (cwV 2 hts gX1_settle_X1_opponentOf rfl rfl rfl (by decide +kernel) ⟨Nat.le_of_ble_eq_true rfl, Nat.le_of_ble_eq_true rfl⟩) hK hP hD hS hA 0 1 rfl rfl [0, 1, 2, 3, 4, 5, 6, 7, 8, 9] [] [0, 1, 2, 3, 4, 5, 6, 7, 8, 9] rfl rfl rfl rfl (by decide) (fun _ => rfl) rfl rfl hl.1 rfl (Nat.le_of_ble_eq_true rfl) ⟨Nat.zero_le _, Nat.zero_le _⟩ dX1_settle_40 (fun r_2 H locs hf hP hD hS => ?_)
    refine lv_istore (lv' := [(4, .int r_2), (0, .ref h0), (1, .int p1), (3, .int x3_J37)]) hx hb dX1_settle_43 hl (by decide) rfl (fun ls hl => ?_)
    refine lv_aload_n hx hb dX1_settle_45 rfl (lv_at hl 1 rfl) ?_
    refine pq_get (D := D) (ci := 1) (v := .ref (a0 8)) (C := RX1) (T := TX1) (N := 14) hx hb hts hiX1 hown hK hP 0 rfl rfl 8 (by decide) k1 rfl rfl dX1_settle_46 ?_
    refine lv_iload_n hx hb dX1_settle_49 rfl (lv_at hl 2 rfl) ?_
    refine lv_iload_n hx hb dX1_settle_50 rfl (lv_at hl 3 rfl) ?_
    refine pq_iast (ws1 := fun g => [cO h0 1 [.ref (a0 0), .ref (a0 1), .ref (a0 2), .ref (a0 3), .ref (a0 4), .ref (a0 5), .ref (a0 6), .ref (a0 7), .ref (a0 8), .int parties_0, .int judges_0, .int cases_0, .int next_0, .int sits_0], cI cy (a0 0) 6 kind_0, cI cy (a0 1) 6 grievance_0, cI cy (a0 2) 6 wins_0, cI cy (a0 3) 6 lean_0, cI cy (a0 4) 6 favours_0, cI cy (a0 5) 12 plaintiff_0, cI cy (a0 6) 12 defendant_0, cI cy (a0 7) 12 weight_0, cI cy (a0 8) 12 g]) hx hb hK hP hD hS 9 0 rfl rfl (fun _ => rfl) hf dX1_settle_51 (fun winner_0_3 H locs hf hP hD hS => ?_)
    refine lv_aload_n hx hb dX1_settle_52 rfl (lv_at hl 1 rfl) ?_
    refine pq_get (D := D) (ci := 1) (v := .ref (a0 2)) (C := RX1) (T := TX1) (N := 14) hx hb hts hiX1 hown hK hP 0 rfl rfl 2 (by decide) k2 rfl rfl dX1_settle_53 ?_
    refine lv_iload_n hx hb dX1_settle_56 rfl (lv_at hl 3 rfl) ?_
    refine lv_dup2_11 hx hb dX1_settle_57 rfl rfl ?_
    refine pq_iald hx hb hK hP 3 0 rfl rfl hf dX1_settle_58 (fun hf => ?_)
    refine lv_iconst (v := 1) hx hb dX1_settle_59 (by decide) ?_
    refine lv_iadd hx hb dX1_settle_60 ?_
    refine pq_iast (ws1 := fun g => [cO h0 1 [.ref (a0 0), .ref (a0 1), .ref (a0 2), .ref (a0 3), .ref (a0 4), .ref (a0 5), .ref (a0 6), .ref (a0 7), .ref (a0 8), .int parties_0, .int judges_0, .int cases_0, .int next_0, .int sits_0], cI cy (a0 0) 6 kind_0, cI cy (a0 1) 6 grievance_0, cI cy (a0 2) 6 g, cI cy (a0 3) 6 lean_0, cI cy (a0 4) 6 favours_0, cI cy (a0 5) 12 plaintiff_0, cI cy (a0 6) 12 defendant_0, cI cy (a0 7) 12 weight_0, cI cy (a0 8) 12 winner_0_3]) hx hb hK hP hD hS 3 0 rfl rfl (fun _ => rfl) hf dX1_settle_61 (fun wins_0_4 H locs hf hP hD hS => ?_)
    refine lv_aload_n hx hb dX1_settle_62 rfl (lv_at hl 1 rfl) ?_
    refine pq_get (D := D) (ci := 1) (v := .ref (a0 1)) (C := RX1) (T := TX1) (N := 14) hx hb hts hiX1 hown hK hP 0 rfl rfl 1 (by decide) k3 rfl rfl dX1_settle_63 ?_
    refine lv_iload_n hx hb dX1_settle_66 rfl (lv_at hl 3 rfl) ?_
    refine lv_aload_n hx hb dX1_settle_67 rfl (lv_at hl 1 rfl) ?_
    refine pq_get (D := D) (ci := 1) (v := .ref (a0 1)) (C := RX1) (T := TX1) (N := 14) hx hb hts hiX1 hown hK hP 0 rfl rfl 1 (by decide) k3 rfl rfl dX1_settle_68 ?_
    refine lv_iload_n hx hb dX1_settle_71 rfl (lv_at hl 3 rfl) ?_
    refine pq_iald hx hb hK hP 2 0 rfl rfl hf dX1_settle_72 (fun hf => ?_)
    refine lv_iconst (v := 1) hx hb dX1_settle_73 (by decide) ?_
    refine lv_isub hx hb dX1_settle_74 ?_
    refine lv_iconst (v := 0) hx hb dX1_settle_75 (by decide) ?_
    refine va_mmax hx hb (hml.trans hl.1.symm) hown k4 k5 k6 k7 (Nat.le_of_ble_eq_true rfl) (Nat.le_of_ble_eq_true rfl) (Nat.zero_le _) (Nat.zero_le _) dX1_settle_76 ?_
    refine pq_iast (ws1 := fun g => [cO h0 1 [.ref (a0 0), .ref (a0 1), .ref (a0 2), .ref (a0 3), .ref (a0 4), .ref (a0 5), .ref (a0 6), .ref (a0 7), .ref (a0 8), .int parties_0, .int judges_0, .int cases_0, .int next_0, .int sits_0], cI cy (a0 0) 6 kind_0, cI cy (a0 1) 6 g, cI cy (a0 2) 6 wins_0_4, cI cy (a0 3) 6 lean_0, cI cy (a0 4) 6 favours_0, cI cy (a0 5) 12 plaintiff_0, cI cy (a0 6) 12 defendant_0, cI cy (a0 7) 12 weight_0, cI cy (a0 8) 12 winner_0_3]) hx hb hK hP hD hS 2 0 rfl rfl (fun _ => rfl) hf dX1_settle_79 (fun grievance_0_5 H locs hf hP hD hS => ?_)
    refine lv_aload_n hx hb dX1_settle_80 rfl (lv_at hl 1 rfl) ?_
    refine pq_get (D := D) (ci := 1) (v := .ref (a0 1)) (C := RX1) (T := TX1) (N := 14) hx hb hts hiX1 hown hK hP 0 rfl rfl 1 (by decide) k3 rfl rfl dX1_settle_81 ?_
    refine lv_iload hx hb dX1_settle_84 (lv_at hl 0 rfl) ?_
    refine lv_aload_n hx hb dX1_settle_86 rfl (lv_at hl 1 rfl) ?_
    refine pq_get (D := D) (ci := 1) (v := .ref (a0 1)) (C := RX1) (T := TX1) (N := 14) hx hb hts hiX1 hown hK hP 0 rfl rfl 1 (by decide) k3 rfl rfl dX1_settle_87 ?_
    refine lv_iload hx hb dX1_settle_90 (lv_at hl 0 rfl) ?_
    refine pq_iald hx hb hK hP 2 0 rfl rfl hf dX1_settle_92 (fun hf => ?_)
    refine lv_aload_n hx hb dX1_settle_93 rfl (lv_at hl 1 rfl) ?_
    refine lv_iload hx hb dX1_settle_94 (lv_at hl 0 rfl) ?_
    refine lv_aload_n hx hb dX1_settle_96 rfl (lv_at hl 1 rfl) ?_
    refine pq_get (D := D) (ci := 1) (v := .ref (a0 7)) (C := RX1) (T := TX1) (N := 14) hx hb hts hiX1 hown hK hP 0 rfl rfl 7 (by decide) k8 rfl rfl dX1_settle_97 ?_
    refine lv_iload_n hx hb dX1_settle_100 rfl (lv_at hl 2 rfl) ?_
    refine pq_iald hx hb hK hP 8 0 rfl rfl hf dX1_settle_101 (fun hf => ?_)
    refine pq_cVi (rz := fun r => r) (w1 := fun r => [cO h0 1 [.ref (a0 0), .ref (a0 1), .ref (a0 2), .ref (a0 3), .ref (a0 4), .ref (a0 5), .ref (a0 6), .ref (a0 7), .ref (a0 8), .int parties_0, .int judges_0, .int cases_0, .int next_0, .int sits_0], cI cy (a0 0) 6 kind_0, cI cy (a0 1) 6 grievance_0_5, cI cy (a0 2) 6 wins_0_4, cI cy (a0 3) 6 lean_0, cI cy (a0 4) 6 favours_0, cI cy (a0 5) 12 plaintiff_0, cI cy (a0 6) 12 defendant_0, cI cy (a0 7) 12 weight_0, cI cy (a0 8) 12 winner_0_3]) (ws1 := fun r => [cO h0 1 [.ref (a0 0), .ref (a0 1), .ref (a0 2), .ref (a0 3), .ref (a0 4), .ref (a0 5), .ref (a0 6), .ref (a0 7), .ref (a0 8), .int parties_0, .int judges_0, .int cases_0, .int next_0, .int sits_0], cI cy (a0 0) 6 kind_0, cI cy (a0 1) 6 grievance_0_5, cI cy (a0 2) 6 wins_0_4, cI cy (a0 3) 6 lean_0, cI cy (a0 4) 6 favours_0, cI cy (a0 5) 12 plaintiff_0, cI cy (a0 6) 12 defendant_0, cI cy (a0 7) 12 weight_0, cI cy (a0 8) 12 winner_0_3]) (wc := [cO h0 1 [.ref (a0 0), .ref (a0 1), .ref (a0 2), .ref (a0 3), .ref (a0 4), .ref (a0 5), .ref (a0 6), .ref (a0 7), .ref (a0 8), .int parties_0, .int judges_0, .int cases_0, .int next_0, .int sits_0], cI cy (a0 0) 6 kind_0, cI cy (a0 1) 6 grievance_0_5, cI cy (a0 2) 6 wins_0_4, cI cy (a0 3) 6 lean_0, cI cy (a0 4) 6 favours_0, cI cy (a0 5) 12 plaintiff_0, cI cy (a0 6) 12 defendant_0, cI cy (a0 7) 12 weight_0, cI cy (a0 8) 12 winner_0_3]) (wr := []) (As := [.int r_2, .int (weight_0 (p1 : Int32).toNatClampNeg)]) (rest := [.int (grievance_0_5 (r_2 : Int32).toNatClampNeg), .int r_2, .ref (a0 1)]) (b := h0) (C := RX1) ⟨hx, hb, hml, hown, hts⟩ hf (fun r hr => c_X1_hurtOf l D cy N h0 a0 parties_0 judges_0 cases_0 next_0 sits_0 kind_0 grievance_0_5 wins_0_4 lean_0 favours_0 plaintiff_0 defendant_0 weight_0 winner_0_3 r_2 (weight_0 (p1 : Int32).toNatClampNeg) r hr) (cwV 2 hts gX1_settle_X1_hurtOf rfl rfl rfl (by decide +kernel) ⟨Nat.le_of_ble_eq_true rfl, Nat.le_of_ble_eq_true rfl⟩) hK hP hD hS hA 0 1 rfl rfl [0, 1, 2, 3, 4, 5, 6, 7, 8, 9] [] [0, 1, 2, 3, 4, 5, 6, 7, 8, 9] rfl rfl rfl rfl (by decide) (fun _ => rfl) rfl rfl hl.1 rfl (Nat.le_of_ble_eq_true rfl) ⟨Nat.zero_le _, Nat.zero_le _⟩ dX1_settle_102 (fun r_6 H locs hf hP hD hS => ?_)
    refine lv_iadd hx hb dX1_settle_105 ?_
    refine lv_bipush (v := 20) hx hb dX1_settle_106 (by decide) ?_
    refine va_mmin hx hb (hml.trans hl.1.symm) hown k9 k10 k6 k11 (Nat.le_of_ble_eq_true rfl) (Nat.le_of_ble_eq_true rfl) (Nat.zero_le _) (Nat.zero_le _) dX1_settle_108 ?_
    refine pq_iast (ws1 := fun g => [cO h0 1 [.ref (a0 0), .ref (a0 1), .ref (a0 2), .ref (a0 3), .ref (a0 4), .ref (a0 5), .ref (a0 6), .ref (a0 7), .ref (a0 8), .int parties_0, .int judges_0, .int cases_0, .int next_0, .int sits_0], cI cy (a0 0) 6 kind_0, cI cy (a0 1) 6 g, cI cy (a0 2) 6 wins_0_4, cI cy (a0 3) 6 lean_0, cI cy (a0 4) 6 favours_0, cI cy (a0 5) 12 plaintiff_0, cI cy (a0 6) 12 defendant_0, cI cy (a0 7) 12 weight_0, cI cy (a0 8) 12 winner_0_3]) hx hb hK hP hD hS 2 0 rfl rfl (fun _ => rfl) hf dX1_settle_111 (fun grievance_0_7 H locs hf hP hD hS => ?_)
    refine lv_aload_n hx hb dX1_settle_112 rfl (lv_at hl 1 rfl) ?_
    refine lv_aload_n hx hb dX1_settle_113 rfl (lv_at hl 1 rfl) ?_
    refine lv_iload hx hb dX1_settle_114 (lv_at hl 0 rfl) ?_
    refine lv_aload_n hx hb dX1_settle_116 rfl (lv_at hl 1 rfl) ?_
    refine pq_get (D := D) (ci := 1) (v := .ref (a0 0)) (C := RX1) (T := TX1) (N := 14) hx hb hts hiX1 hown hK hP 0 rfl rfl 0 (by decide) k12 rfl rfl dX1_settle_117 ?_
    refine lv_iload hx hb dX1_settle_120 (lv_at hl 0 rfl) ?_
    refine pq_iald hx hb hK hP 1 0 rfl rfl hf dX1_settle_122 (fun hf => ?_)
    refine lv_aload_n hx hb dX1_settle_123 rfl (lv_at hl 1 rfl) ?_
    refine pq_get (D := D) (ci := 1) (v := .int sits_0) (C := RX1) (T := TX1) (N := 14) hx hb hts hiX1 hown hK hP 0 rfl rfl 13 (by decide) k0 rfl rfl dX1_settle_124 ?_
    refine pq_cVi (rz := fun r => r) (w1 := fun r => [cO h0 1 [.ref (a0 0), .ref (a0 1), .ref (a0 2), .ref (a0 3), .ref (a0 4), .ref (a0 5), .ref (a0 6), .ref (a0 7), .ref (a0 8), .int parties_0, .int judges_0, .int cases_0, .int next_0, .int sits_0], cI cy (a0 0) 6 kind_0, cI cy (a0 1) 6 grievance_0_7, cI cy (a0 2) 6 wins_0_4, cI cy (a0 3) 6 lean_0, cI cy (a0 4) 6 favours_0, cI cy (a0 5) 12 plaintiff_0, cI cy (a0 6) 12 defendant_0, cI cy (a0 7) 12 weight_0, cI cy (a0 8) 12 winner_0_3]) (ws1 := fun r => [cO h0 1 [.ref (a0 0), .ref (a0 1), .ref (a0 2), .ref (a0 3), .ref (a0 4), .ref (a0 5), .ref (a0 6), .ref (a0 7), .ref (a0 8), .int parties_0, .int judges_0, .int cases_0, .int next_0, .int sits_0], cI cy (a0 0) 6 kind_0, cI cy (a0 1) 6 grievance_0_7, cI cy (a0 2) 6 wins_0_4, cI cy (a0 3) 6 lean_0, cI cy (a0 4) 6 favours_0, cI cy (a0 5) 12 plaintiff_0, cI cy (a0 6) 12 defendant_0, cI cy (a0 7) 12 weight_0, cI cy (a0 8) 12 winner_0_3]) (wc := [cO h0 1 [.ref (a0 0), .ref (a0 1), .ref (a0 2), .ref (a0 3), .ref (a0 4), .ref (a0 5), .ref (a0 6), .ref (a0 7), .ref (a0 8), .int parties_0, .int judges_0, .int cases_0, .int next_0, .int sits_0], cI cy (a0 0) 6 kind_0, cI cy (a0 1) 6 grievance_0_7, cI cy (a0 2) 6 wins_0_4, cI cy (a0 3) 6 lean_0, cI cy (a0 4) 6 favours_0, cI cy (a0 5) 12 plaintiff_0, cI cy (a0 6) 12 defendant_0, cI cy (a0 7) 12 weight_0, cI cy (a0 8) 12 winner_0_3]) (wr := []) (As := [.int r_2, .int (kind_0 (r_2 : Int32).toNatClampNeg), .int sits_0]) (rest := [.ref h0]) (b := h0) (C := RX1) ⟨hx, hb, hml, hown, hts⟩ hf (fun r hr => c_X1_namedAs l D cy N h0 a0 parties_0 judges_0 cases_0 next_0 sits_0 kind_0 grievance_0_7 wins_0_4 lean_0 favours_0 plaintiff_0 defendant_0 weight_0 winner_0_3 r_2 (kind_0 (r_2 : Int32).toNatClampNeg) sits_0 r hr) (cwV 3 hts gX1_settle_X1_namedAs rfl rfl rfl (by decide +kernel) ⟨Nat.le_of_ble_eq_true rfl, Nat.le_of_ble_eq_true rfl⟩) hK hP hD hS hA 0 1 rfl rfl [0, 1, 2, 3, 4, 5, 6, 7, 8, 9] [] [0, 1, 2, 3, 4, 5, 6, 7, 8, 9] rfl rfl rfl rfl (by decide) (fun _ => rfl) rfl rfl hl.1 rfl (Nat.le_of_ble_eq_true rfl) ⟨Nat.zero_le _, Nat.zero_le _⟩ dX1_settle_127 (fun r_8 H locs hf hP hD hS => ?_)
    refine pq_put (D := D) (ci := 1) (v := .int r_8) (C := RX1) (T := TX1) (N := 14) (ws1 := [cO h0 1 [.ref (a0 0), .ref (a0 1), .ref (a0 2), .ref (a0 3), .ref (a0 4), .ref (a0 5), .ref (a0 6), .ref (a0 7), .ref (a0 8), .int parties_0, .int judges_0, .int cases_0, .int next_0, .int r_8], cI cy (a0 0) 6 kind_0, cI cy (a0 1) 6 grievance_0_7, cI cy (a0 2) 6 wins_0_4, cI cy (a0 3) 6 lean_0, cI cy (a0 4) 6 favours_0, cI cy (a0 5) 12 plaintiff_0, cI cy (a0 6) 12 defendant_0, cI cy (a0 7) 12 weight_0, cI cy (a0 8) 12 winner_0_3]) hx hb hts hiX1 tyX1 tyX1_ok nmX1 hown hK hP hD hS 0 rfl rfl 13 (by decide) k0 rfl rfl .int (by decide +kernel) rfl rfl (Nat.le_of_ble_eq_true rfl) rfl dX1_settle_130 (fun H locs hP hD hS => ?_)
    rw [hQ]
    exact pq_vret hx hb hr hlocks hK hP hD hS hf (fun z => [cO h0 1 [.ref (a0 0), .ref (a0 1), .ref (a0 2), .ref (a0 3), .ref (a0 4), .ref (a0 5), .ref (a0 6), .ref (a0 7), .ref (a0 8), .int parties_0, .int judges_0, .int cases_0, .int next_0, .int z.1], cI cy (a0 0) 6 kind_0, cI cy (a0 1) 6 z.2.1, cI cy (a0 2) 6 z.2.2.1, cI cy (a0 3) 6 lean_0, cI cy (a0 4) 6 favours_0, cI cy (a0 5) 12 plaintiff_0, cI cy (a0 6) 12 defendant_0, cI cy (a0 7) 12 weight_0, cI cy (a0 8) 12 z.2.2.2]) rfl dX1_settle_133
  clear ekJ37
  refine pq_icmp_ne hx hb 25 hf dX1_settle_12 (by decide) (fun _ hf => ?_) (fun _ hf => ?_)
  · refine lv_iload_n hx hb dX1_settle_25 rfl (lv_at hl 3 rfl) ?_
    refine lv_iconst (v := 2) hx hb dX1_settle_26 (by decide) ?_
    refine pq_icmp_ne hx hb 37 hf dX1_settle_27 (by decide) (fun _ hf => ?_) (fun _ hf => ?_)
    · exact hJ37 r_1 _ _ _ hf hP hD hS (lv_sub hl [1, 2, 0] rfl)
    · refine lv_aload_n hx hb dX1_settle_30 rfl (lv_at hl 1 rfl) ?_
      refine pq_get (D := D) (ci := 1) (v := .ref (a0 5)) (C := RX1) (T := TX1) (N := 14) hx hb hts hiX1 hown hK hP 0 rfl rfl 5 (by decide) k13 rfl rfl dX1_settle_31 ?_
      refine lv_iload_n hx hb dX1_settle_34 rfl (lv_at hl 2 rfl) ?_
      refine pq_iald hx hb hK hP 6 0 rfl rfl hf dX1_settle_35 (fun hf => ?_)
      refine pq_li hf (fun x3_9 hf => ?_)
      refine lv_istore_n (lv' := [(3, .int x3_9), (0, .ref h0), (1, .int p1), (2, .int p2)]) hx hb dX1_settle_36 rfl hl (by decide) rfl (fun ls hl => ?_)
      exact hJ37 x3_9 _ _ _ hf hP hD hS (lv_sub hl [1, 2, 0] rfl)
  · refine lv_aload_n hx hb dX1_settle_15 rfl (lv_at hl 1 rfl) ?_
    refine pq_get (D := D) (ci := 1) (v := .ref (a0 6)) (C := RX1) (T := TX1) (N := 14) hx hb hts hiX1 hown hK hP 0 rfl rfl 6 (by decide) k14 rfl rfl dX1_settle_16 ?_
    refine lv_iload_n hx hb dX1_settle_19 rfl (lv_at hl 2 rfl) ?_
    refine pq_iald hx hb hK hP 7 0 rfl rfl hf dX1_settle_20 (fun hf => ?_)
    refine pq_li hf (fun x3_10 hf => ?_)
    refine lv_istore_n (lv' := [(3, .int x3_10), (0, .ref h0), (1, .int p1), (2, .int p2)]) hx hb dX1_settle_21 rfl hl (by decide) rfl (fun ls hl => ?_)
    refine lv_goto (tgt := 37) hx hb dX1_settle_22 (by decide) ?_
    exact hJ37 x3_10 _ _ _ hf hP hD hS (lv_sub hl [1, 2, 0] rfl)

abbrev rm_X1_hearByDraws : Room := { frames := 4, cells := 0, slots := 0, locals := 97 }
set_option maxHeartbeats 4000000 in
set_option maxRecDepth 100000 in
theorem c_X1_hearByDraws (l : Launch) (D : va_G) (cy : Nat → ClassId) (N : Nat) (h0 : Nat) (a0 : Nat → Nat) (parties_0 : Int32) (judges_0 : Int32) (cases_0 : Int32) (next_0 : Int32) (sits_0 : Int32) (kind_0 : Nat → Int32) (grievance_0 : Nat → Int32) (wins_0 : Nat → Int32) (lean_0 : Nat → Int32) (favours_0 : Nat → Int32) (plaintiff_0 : Nat → Int32) (defendant_0 : Nat → Int32) (weight_0 : Nat → Int32) (winner_0 : Nat → Int32) (p1 : Int32) (p2 : Int32) (z : Int32 × (Nat → Int32) × (Nat → Int32) × (Nat → Int32)) (hf : f_X1_hearByDraws N judges_0 cases_0 next_0 sits_0 kind_0 grievance_0 wins_0 lean_0 favours_0 plaintiff_0 defendant_0 weight_0 winner_0 p1 p2 = some z) : pq_MV l yX1_hearByDraws wsX1_hearByDraws rm_X1_hearByDraws D cy [.ref h0, .int p1, .int p2] [cO h0 1 [.ref (a0 0), .ref (a0 1), .ref (a0 2), .ref (a0 3), .ref (a0 4), .ref (a0 5), .ref (a0 6), .ref (a0 7), .ref (a0 8), .int parties_0, .int judges_0, .int cases_0, .int next_0, .int sits_0], cI cy (a0 0) 6 kind_0, cI cy (a0 1) 6 grievance_0, cI cy (a0 2) 6 wins_0, cI cy (a0 3) 6 lean_0, cI cy (a0 4) 6 favours_0, cI cy (a0 5) 12 plaintiff_0, cI cy (a0 6) 12 defendant_0, cI cy (a0 7) 12 weight_0, cI cy (a0 8) 12 winner_0] [cO h0 1 [.ref (a0 0), .ref (a0 1), .ref (a0 2), .ref (a0 3), .ref (a0 4), .ref (a0 5), .ref (a0 6), .ref (a0 7), .ref (a0 8), .int parties_0, .int judges_0, .int cases_0, .int next_0, .int z.1], cI cy (a0 0) 6 kind_0, cI cy (a0 1) 6 z.2.1, cI cy (a0 2) 6 z.2.2.1, cI cy (a0 3) 6 lean_0, cI cy (a0 4) 6 favours_0, cI cy (a0 5) 12 plaintiff_0, cI cy (a0 6) 12 defendant_0, cI cy (a0 7) 12 weight_0, cI cy (a0 8) 12 z.2.2.2] := by
  intro sz
  refine pq_ent (Qf := fun A => pq_Qv D cy A [cO h0 1 [.ref (a0 0), .ref (a0 1), .ref (a0 2), .ref (a0 3), .ref (a0 4), .ref (a0 5), .ref (a0 6), .ref (a0 7), .ref (a0 8), .int parties_0, .int judges_0, .int cases_0, .int next_0, .int z.1], cI cy (a0 0) 6 kind_0, cI cy (a0 1) 6 z.2.1, cI cy (a0 2) 6 z.2.2.1, cI cy (a0 3) 6 lean_0, cI cy (a0 4) 6 favours_0, cI cy (a0 5) 12 plaintiff_0, cI cy (a0 6) 12 defendant_0, cI cy (a0 7) 12 weight_0, cI cy (a0 8) 12 z.2.2.2]) (cc := cX1_hearByDraws) (maxL := 9) (ret := none) (by decide) rfl (Nat.le_of_ble_eq_true rfl) ?_
  intro p e s m args below meth c A ls Q hQ X hK hP hD hA hS hl
  obtain ⟨hx, hb, hr, hts, hown, hlocks, hml⟩ := X
  have hl : lv_has ls 9 [(0, .ref h0), (1, .int p1), (2, .int p2)] := hl
  unfold f_X1_hearByDraws at hf
  have hiX1 : ∀ w ∈ wsX10, w ∈ wsX1_hearByDraws := by decide +kernel
  have k0 := hts (.fieldLink RX1 49 "LoserPicks$Circuit" "next" "I") (by decide +kernel)
  have k1 := hts (.fieldLink RX1 46 "LoserPicks$Circuit" "cases" "I") (by decide +kernel)
  have k2 := hts (.constantLong RX1 92 (16807)) (by decide +kernel)
  have k3 := hts (.constantLong RX1 94 (2147483647)) (by decide +kernel)
  have k4 := hts (.constantLong RX1 96 (8)) (by decide +kernel)
  have k5 := hts (.constantLong RX1 98 (5)) (by decide +kernel)
  refine lv_iload_n hx hb dX1_hearByDraws_0 rfl (lv_at hl 2 rfl) ?_
  refine lv_i2l (v := (p2 : Int32).toInt64) hx hb dX1_hearByDraws_1 rfl ?_
  refine pq_ll hf (fun x3_1 hf => ?_)
  refine lv_lstore_n (lv' := [(3, .long x3_1), (0, .ref h0), (1, .int p1), (2, .int p2)]) hx hb dX1_hearByDraws_2 rfl hl (by decide) rfl (fun ls hl => ?_)
  refine lv_aload_n hx hb dX1_hearByDraws_3 rfl (lv_at hl 1 rfl) ?_
  refine pq_get (D := D) (ci := 1) (v := .int next_0) (C := RX1) (T := TX1) (N := 14) hx hb hts hiX1 hown hK hP 0 rfl rfl 12 (by decide) k0 rfl rfl dX1_hearByDraws_4 ?_
  refine lv_istore (lv' := [(5, .int next_0), (3, .long x3_1), (0, .ref h0), (1, .int p1), (2, .int p2)]) hx hb dX1_hearByDraws_7 hl (by decide) rfl (fun ls hl => ?_)
  refine lv_iconst (v := 0) hx hb dX1_hearByDraws_9 (by decide) ?_
  refine lv_istore (lv' := [(6, .int 0), (5, .int next_0), (3, .long x3_1), (0, .ref h0), (1, .int p1), (2, .int p2)]) hx hb dX1_hearByDraws_10 hl (by decide) rfl (fun ls hl => ?_)
  have hL12 : ∀ (n : Nat) (x3_L12 : Int64) (x5_L12 : Int32) (x6_L12 : Int32) (sits_0_L12 : Int32) (grievance_0_L12 : Nat → Int32) (wins_0_L12 : Nat → Int32) (winner_0_L12 : Nat → Int32) (H : Heap) (locs : List Loc) (ls : Array Slot), pq_w (fun _ _ _ _ _ _ _ => none) (f_X1_hearByDraws_L12 N judges_0 cases_0 kind_0 lean_0 favours_0 plaintiff_0 defendant_0 weight_0 p1) n x3_L12 x5_L12 x6_L12 sits_0_L12 grievance_0_L12 wins_0_L12 winner_0_L12 = some z → va_P D vwCl [cO h0 1 [.ref (a0 0), .ref (a0 1), .ref (a0 2), .ref (a0 3), .ref (a0 4), .ref (a0 5), .ref (a0 6), .ref (a0 7), .ref (a0 8), .int parties_0, .int judges_0, .int cases_0, .int next_0, .int sits_0_L12], cI cy (a0 0) 6 kind_0, cI cy (a0 1) 6 grievance_0_L12, cI cy (a0 2) 6 wins_0_L12, cI cy (a0 3) 6 lean_0, cI cy (a0 4) 6 favours_0, cI cy (a0 5) 12 plaintiff_0, cI cy (a0 6) 12 defendant_0, cI cy (a0 7) 12 weight_0, cI cy (a0 8) 12 winner_0_L12] H → va_D A [cO h0 1 [.ref (a0 0), .ref (a0 1), .ref (a0 2), .ref (a0 3), .ref (a0 4), .ref (a0 5), .ref (a0 6), .ref (a0 7), .ref (a0 8), .int parties_0, .int judges_0, .int cases_0, .int next_0, .int sits_0_L12], cI cy (a0 0) 6 kind_0, cI cy (a0 1) 6 grievance_0_L12, cI cy (a0 2) 6 wins_0_L12, cI cy (a0 3) 6 lean_0, cI cy (a0 4) 6 favours_0, cI cy (a0 5) 12 plaintiff_0, cI cy (a0 6) 12 defendant_0, cI cy (a0 7) 12 weight_0, cI cy (a0 8) 12 winner_0_L12] → va_S A s.heap H locs → lv_has ls 9 [(0, .ref h0), (1, .int p1), (3, .long x3_L12), (5, .int x5_L12), (6, .int x6_L12)] → W p l e rm_X1_hearByDraws s m args below meth c H locs 0 0 Q (F0 m 12 ls []) := by
    intro n
    induction n with
    | zero =>
      intro x3_L12 x5_L12 x6_L12 sits_0_L12 grievance_0_L12 wins_0_L12 winner_0_L12 H locs ls hf
      exact absurd (show none = some z from hf) (fun h => nomatch h)
    | succ n ihL12 =>
      intro x3_L12 x5_L12 x6_L12 sits_0_L12 grievance_0_L12 wins_0_L12 winner_0_L12 H locs ls hf hP hD hS hl
      have hf : (f_X1_hearByDraws_L12 N judges_0 cases_0 kind_0 lean_0 favours_0 plaintiff_0 defendant_0 weight_0 p1) (pq_w (fun _ _ _ _ _ _ _ => none) (f_X1_hearByDraws_L12 N judges_0 cases_0 kind_0 lean_0 favours_0 plaintiff_0 defendant_0 weight_0 p1) n) x3_L12 x5_L12 x6_L12 sits_0_L12 grievance_0_L12 wins_0_L12 winner_0_L12 = some z := hf
      generalize pq_w (fun _ _ _ _ _ _ _ => none) (f_X1_hearByDraws_L12 N judges_0 cases_0 kind_0 lean_0 favours_0 plaintiff_0 defendant_0 weight_0 p1) n = kL12 at hf ihL12
      unfold f_X1_hearByDraws_L12 at hf
      refine lv_iload hx hb dX1_hearByDraws_12 (lv_at hl 4 rfl) ?_
      refine lv_iload_n hx hb dX1_hearByDraws_14 rfl (lv_at hl 1 rfl) ?_
      refine pq_icmp_ge hx hb 89 hf dX1_hearByDraws_15 (by decide) (fun _ hf => ?_) (fun _ hf => ?_)
      · rw [hQ]
        exact pq_vret hx hb hr hlocks hK hP hD hS hf (fun z => [cO h0 1 [.ref (a0 0), .ref (a0 1), .ref (a0 2), .ref (a0 3), .ref (a0 4), .ref (a0 5), .ref (a0 6), .ref (a0 7), .ref (a0 8), .int parties_0, .int judges_0, .int cases_0, .int next_0, .int z.1], cI cy (a0 0) 6 kind_0, cI cy (a0 1) 6 z.2.1, cI cy (a0 2) 6 z.2.2.1, cI cy (a0 3) 6 lean_0, cI cy (a0 4) 6 favours_0, cI cy (a0 5) 12 plaintiff_0, cI cy (a0 6) 12 defendant_0, cI cy (a0 7) 12 weight_0, cI cy (a0 8) 12 z.2.2.2]) rfl dX1_hearByDraws_89
      · refine lv_iload hx hb dX1_hearByDraws_18 (lv_at hl 3 rfl) ?_
        refine lv_aload_n hx hb dX1_hearByDraws_20 rfl (lv_at hl 0 rfl) ?_
        refine pq_get (D := D) (ci := 1) (v := .int cases_0) (C := RX1) (T := TX1) (N := 14) hx hb hts hiX1 hown hK hP 0 rfl rfl 11 (by decide) k1 rfl rfl dX1_hearByDraws_21 ?_
        obtain ⟨kJ30, ekJ30, hf⟩ := pq_j_e hf
        have hJ30 : ∀ (x5_J30 : Int32) (H : Heap) (locs : List Loc) (ls : Array Slot), kJ30 x5_J30 = some z → va_P D vwCl [cO h0 1 [.ref (a0 0), .ref (a0 1), .ref (a0 2), .ref (a0 3), .ref (a0 4), .ref (a0 5), .ref (a0 6), .ref (a0 7), .ref (a0 8), .int parties_0, .int judges_0, .int cases_0, .int next_0, .int sits_0_L12], cI cy (a0 0) 6 kind_0, cI cy (a0 1) 6 grievance_0_L12, cI cy (a0 2) 6 wins_0_L12, cI cy (a0 3) 6 lean_0, cI cy (a0 4) 6 favours_0, cI cy (a0 5) 12 plaintiff_0, cI cy (a0 6) 12 defendant_0, cI cy (a0 7) 12 weight_0, cI cy (a0 8) 12 winner_0_L12] H → va_D A [cO h0 1 [.ref (a0 0), .ref (a0 1), .ref (a0 2), .ref (a0 3), .ref (a0 4), .ref (a0 5), .ref (a0 6), .ref (a0 7), .ref (a0 8), .int parties_0, .int judges_0, .int cases_0, .int next_0, .int sits_0_L12], cI cy (a0 0) 6 kind_0, cI cy (a0 1) 6 grievance_0_L12, cI cy (a0 2) 6 wins_0_L12, cI cy (a0 3) 6 lean_0, cI cy (a0 4) 6 favours_0, cI cy (a0 5) 12 plaintiff_0, cI cy (a0 6) 12 defendant_0, cI cy (a0 7) 12 weight_0, cI cy (a0 8) 12 winner_0_L12] → va_S A s.heap H locs → lv_has ls 9 [(0, .ref h0), (1, .int p1), (3, .long x3_L12), (5, .int x5_J30), (6, .int x6_L12)] → W p l e rm_X1_hearByDraws s m args below meth c H locs 0 0 Q (F0 m 30 ls []) := by
          clear hf hP hD hS hl
          intro x5_J30 H locs ls hf hP hD hS hl
          rw [ekJ30] at hf
          refine lv_ldc2 hx hb hown k2 dX1_hearByDraws_30 ?_
          refine lv_lload_n hx hb dX1_hearByDraws_33 rfl (lv_at hl 2 rfl) ?_
          refine lv_lmul hx hb dX1_hearByDraws_34 ?_
          refine lv_ldc2 hx hb hown k3 dX1_hearByDraws_35 ?_
          refine lv_lrem hx hb dX1_hearByDraws_38 (by decide) ?_
          refine pq_ll hf (fun x3_2 hf => ?_)
          refine lv_lstore_n (lv' := [(3, .long x3_2), (0, .ref h0), (1, .int p1), (5, .int x5_J30), (6, .int x6_L12)]) hx hb dX1_hearByDraws_39 rfl hl (by decide) rfl (fun ls hl => ?_)
          refine lv_lload_n hx hb dX1_hearByDraws_40 rfl (lv_at hl 0 rfl) ?_
          refine lv_ldc2 hx hb hown k4 dX1_hearByDraws_41 ?_
          refine lv_ldiv hx hb dX1_hearByDraws_44 (by decide) ?_
          refine lv_ldc2 hx hb hown k5 dX1_hearByDraws_45 ?_
          refine lv_lrem hx hb dX1_hearByDraws_48 (by decide) ?_
          refine pq_ll hf (fun x7_3 hf => ?_)
          refine lv_lstore (lv' := [(7, .long x7_3), (3, .long x3_2), (0, .ref h0), (1, .int p1), (5, .int x5_J30), (6, .int x6_L12)]) hx hb dX1_hearByDraws_49 hl (by decide) rfl (fun ls hl => ?_)
          refine lv_aload_n hx hb dX1_hearByDraws_51 rfl (lv_at hl 2 rfl) ?_
          refine lv_iload hx hb dX1_hearByDraws_52 (lv_at hl 4 rfl) ?_
          refine lv_lload hx hb dX1_hearByDraws_54 (lv_at hl 0 rfl) ?_
          refine lv_lconst (v := 0) hx hb dX1_hearByDraws_56 (by decide) ?_
          refine W.lcmp hx hb dX1_hearByDraws_57 ?_
          obtain ⟨kJ77, ekJ77, hf⟩ := pq_j_e hf
          have hJ77 : ∀ (y0_J77 : Int32) (H : Heap) (locs : List Loc) (ls : Array Slot), kJ77 y0_J77 = some z → va_P D vwCl [cO h0 1 [.ref (a0 0), .ref (a0 1), .ref (a0 2), .ref (a0 3), .ref (a0 4), .ref (a0 5), .ref (a0 6), .ref (a0 7), .ref (a0 8), .int parties_0, .int judges_0, .int cases_0, .int next_0, .int sits_0_L12], cI cy (a0 0) 6 kind_0, cI cy (a0 1) 6 grievance_0_L12, cI cy (a0 2) 6 wins_0_L12, cI cy (a0 3) 6 lean_0, cI cy (a0 4) 6 favours_0, cI cy (a0 5) 12 plaintiff_0, cI cy (a0 6) 12 defendant_0, cI cy (a0 7) 12 weight_0, cI cy (a0 8) 12 winner_0_L12] H → va_D A [cO h0 1 [.ref (a0 0), .ref (a0 1), .ref (a0 2), .ref (a0 3), .ref (a0 4), .ref (a0 5), .ref (a0 6), .ref (a0 7), .ref (a0 8), .int parties_0, .int judges_0, .int cases_0, .int next_0, .int sits_0_L12], cI cy (a0 0) 6 kind_0, cI cy (a0 1) 6 grievance_0_L12, cI cy (a0 2) 6 wins_0_L12, cI cy (a0 3) 6 lean_0, cI cy (a0 4) 6 favours_0, cI cy (a0 5) 12 plaintiff_0, cI cy (a0 6) 12 defendant_0, cI cy (a0 7) 12 weight_0, cI cy (a0 8) 12 winner_0_L12] → va_S A s.heap H locs → lv_has ls 9 [(0, .ref h0), (1, .int p1), (3, .long x3_2), (5, .int x5_J30), (6, .int x6_L12)] → W p l e rm_X1_hearByDraws s m args below meth c H locs 0 0 Q (F0 m 77 ls [.int y0_J77, .int x5_J30, .ref h0]) := by
            clear hf hP hD hS hl
            intro y0_J77 H locs ls hf hP hD hS hl
            rw [ekJ77] at hf
            refine pq_cVv (w1 := fun r => [cO h0 1 [.ref (a0 0), .ref (a0 1), .ref (a0 2), .ref (a0 3), .ref (a0 4), .ref (a0 5), .ref (a0 6), .ref (a0 7), .ref (a0 8), .int parties_0, .int judges_0, .int cases_0, .int next_0, .int r.1], cI cy (a0 0) 6 kind_0, cI cy (a0 1) 6 r.2.1, cI cy (a0 2) 6 r.2.2.1, cI cy (a0 3) 6 lean_0, cI cy (a0 4) 6 favours_0, cI cy (a0 5) 12 plaintiff_0, cI cy (a0 6) 12 defendant_0, cI cy (a0 7) 12 weight_0, cI cy (a0 8) 12 r.2.2.2]) (ws1 := fun r => [cO h0 1 [.ref (a0 0), .ref (a0 1), .ref (a0 2), .ref (a0 3), .ref (a0 4), .ref (a0 5), .ref (a0 6), .ref (a0 7), .ref (a0 8), .int parties_0, .int judges_0, .int cases_0, .int next_0, .int r.1], cI cy (a0 0) 6 kind_0, cI cy (a0 1) 6 r.2.1, cI cy (a0 2) 6 r.2.2.1, cI cy (a0 3) 6 lean_0, cI cy (a0 4) 6 favours_0, cI cy (a0 5) 12 plaintiff_0, cI cy (a0 6) 12 defendant_0, cI cy (a0 7) 12 weight_0, cI cy (a0 8) 12 r.2.2.2]) (wc := [cO h0 1 [.ref (a0 0), .ref (a0 1), .ref (a0 2), .ref (a0 3), .ref (a0 4), .ref (a0 5), .ref (a0 6), .ref (a0 7), .ref (a0 8), .int parties_0, .int judges_0, .int cases_0, .int next_0, .int sits_0_L12], cI cy (a0 0) 6 kind_0, cI cy (a0 1) 6 grievance_0_L12, cI cy (a0 2) 6 wins_0_L12, cI cy (a0 3) 6 lean_0, cI cy (a0 4) 6 favours_0, cI cy (a0 5) 12 plaintiff_0, cI cy (a0 6) 12 defendant_0, cI cy (a0 7) 12 weight_0, cI cy (a0 8) 12 winner_0_L12]) (wr := []) (As := [.int x5_J30, .int y0_J77]) (rest := []) (b := h0) (C := RX1) ⟨hx, hb, hml, hown, hts⟩ hf (fun r hr => c_X1_settle l D cy N h0 a0 parties_0 judges_0 cases_0 next_0 sits_0_L12 kind_0 grievance_0_L12 wins_0_L12 lean_0 favours_0 plaintiff_0 defendant_0 weight_0 winner_0_L12 x5_J30 y0_J77 r hr) (cwV 2 hts gX1_hearByDraws_X1_settle rfl rfl rfl (by decide +kernel) ⟨Nat.le_of_ble_eq_true rfl, Nat.le_of_ble_eq_true rfl⟩) hK hP hD hS hA 0 1 rfl rfl [0, 1, 2, 3, 4, 5, 6, 7, 8, 9] [] [0, 1, 2, 3, 4, 5, 6, 7, 8, 9] rfl rfl rfl rfl (by decide) (fun _ => rfl) rfl rfl hl.1 rfl (Nat.le_of_ble_eq_true rfl) ⟨Nat.zero_le _, Nat.zero_le _⟩ dX1_hearByDraws_77 (fun r_4 H locs hf hP hD hS => ?_)
            refine pq_iinc (v := x5_J30 + 1) (lv1 := fun y => [(5, .int y), (0, .ref h0), (1, .int p1), (3, .long x3_2), (6, .int x6_L12)]) hx hb hf dX1_hearByDraws_80 hl (kp := 3) rfl rfl (by decide) (fun _ => rfl) (fun x5_5 ls hf hl => ?_)
            refine pq_iinc (v := x6_L12 + 1) (lv1 := fun y => [(6, .int y), (5, .int x5_5), (0, .ref h0), (1, .int p1), (3, .long x3_2)]) hx hb hf dX1_hearByDraws_83 hl (kp := 4) rfl rfl (by decide) (fun _ => rfl) (fun x6_6 ls hf hl => ?_)
            refine lv_goto (tgt := 12) hx hb dX1_hearByDraws_86 (by decide) ?_
            exact ihL12 x3_2 x5_5 x6_6 r_4.1 r_4.2.1 r_4.2.2.1 r_4.2.2.2 _ _ _ hf hP hD hS (lv_sub hl [2, 3, 4, 1, 0] rfl)
          clear ekJ77
          refine pq_if_ne hx hb 65 hf dX1_hearByDraws_58 (by decide) (fun _ hf => ?_) (fun _ hf => ?_)
          · refine lv_lload hx hb dX1_hearByDraws_65 (lv_at hl 0 rfl) ?_
            refine lv_lconst (v := 1) hx hb dX1_hearByDraws_67 (by decide) ?_
            refine W.lcmp hx hb dX1_hearByDraws_68 ?_
            refine pq_if_ne hx hb 76 hf dX1_hearByDraws_69 (by decide) (fun _ hf => ?_) (fun _ hf => ?_)
            · refine lv_iconst (v := 0) hx hb dX1_hearByDraws_76 (by decide) ?_
              exact hJ77 0 _ _ _ hf hP hD hS (lv_sub hl [2, 3, 1, 4, 5] rfl)
            · refine lv_iconst (v := 2) hx hb dX1_hearByDraws_72 (by decide) ?_
              refine lv_goto (tgt := 77) hx hb dX1_hearByDraws_73 (by decide) ?_
              exact hJ77 2 _ _ _ hf hP hD hS (lv_sub hl [2, 3, 1, 4, 5] rfl)
          · refine lv_iconst (v := 1) hx hb dX1_hearByDraws_61 (by decide) ?_
            refine lv_goto (tgt := 77) hx hb dX1_hearByDraws_62 (by decide) ?_
            exact hJ77 1 _ _ _ hf hP hD hS (lv_sub hl [2, 3, 1, 4, 5] rfl)
        clear ekJ30
        refine pq_icmp_lt hx hb 30 hf dX1_hearByDraws_24 (by decide) (fun _ hf => ?_) (fun _ hf => ?_)
        · exact hJ30 x5_L12 _ _ _ hf hP hD hS (lv_sub hl [0, 1, 2, 3, 4] rfl)
        · refine lv_iconst (v := 0) hx hb dX1_hearByDraws_27 (by decide) ?_
          refine lv_istore (lv' := [(5, .int 0), (0, .ref h0), (1, .int p1), (3, .long x3_L12), (6, .int x6_L12)]) hx hb dX1_hearByDraws_28 hl (by decide) rfl (fun ls hl => ?_)
          exact hJ30 0 _ _ _ hf hP hD hS (lv_sub hl [1, 2, 3, 0, 4] rfl)
  exact hL12 N x3_1 next_0 0 sits_0 grievance_0 wins_0 winner_0 _ _ _ hf hP hD hS (lv_sub hl [3, 4, 2, 1, 0] rfl)

abbrev rm_X1_exchangeIn : Room := { frames := 0, cells := 0, slots := 0, locals := 0 }
set_option maxHeartbeats 4000000 in
set_option maxRecDepth 100000 in
theorem c_X1_exchangeIn (l : Launch) (D : va_G) (cy : Nat → ClassId) (N : Nat) (h0 : Nat) (n0 : Nat) (ar_0 : Nat → Int32) (p1 : Int32) (p2 : Int32) (z : (Nat → Int32)) (hf : f_X1_exchangeIn N n0 ar_0 p1 p2 = some z) : pq_MV l yX1_exchangeIn wsX1_exchangeIn rm_X1_exchangeIn D cy [.ref h0, .int p1, .int p2] [cI cy h0 n0 ar_0] [cI cy h0 n0 z] := by
  intro sz
  refine pq_ent (Qf := fun A => pq_Qv D cy A [cI cy h0 n0 z]) (cc := cX1_exchangeIn) (maxL := 4) (ret := none) (by decide) rfl (Nat.le_of_ble_eq_true rfl) ?_
  intro p e s m args below meth c A ls Q hQ X hK hP hD hA hS hl
  obtain ⟨hx, hb, hr, hts, hown, hlocks, hml⟩ := X
  have hl : lv_has ls 4 [(0, .ref h0), (1, .int p1), (2, .int p2)] := hl
  unfold f_X1_exchangeIn at hf
  refine lv_aload_n hx hb dX1_exchangeIn_0 rfl (lv_at hl 0 rfl) ?_
  refine lv_iload_n hx hb dX1_exchangeIn_1 rfl (lv_at hl 1 rfl) ?_
  refine pq_iald hx hb hK hP 0 0 rfl rfl hf dX1_exchangeIn_2 (fun hf => ?_)
  refine pq_li hf (fun x3_1 hf => ?_)
  refine lv_istore_n (lv' := [(3, .int x3_1), (0, .ref h0), (1, .int p1), (2, .int p2)]) hx hb dX1_exchangeIn_3 rfl hl (by decide) rfl (fun ls hl => ?_)
  refine lv_aload_n hx hb dX1_exchangeIn_4 rfl (lv_at hl 1 rfl) ?_
  refine lv_iload_n hx hb dX1_exchangeIn_5 rfl (lv_at hl 2 rfl) ?_
  refine lv_aload_n hx hb dX1_exchangeIn_6 rfl (lv_at hl 1 rfl) ?_
  refine lv_iload_n hx hb dX1_exchangeIn_7 rfl (lv_at hl 3 rfl) ?_
  refine pq_iald hx hb hK hP 0 0 rfl rfl hf dX1_exchangeIn_8 (fun hf => ?_)
  refine pq_iast (ws1 := fun g => [cI cy h0 n0 g]) hx hb hK hP hD hS 0 0 rfl rfl (fun _ => rfl) hf dX1_exchangeIn_9 (fun ar_0_2 H locs hf hP hD hS => ?_)
  refine lv_aload_n hx hb dX1_exchangeIn_10 rfl (lv_at hl 1 rfl) ?_
  refine lv_iload_n hx hb dX1_exchangeIn_11 rfl (lv_at hl 3 rfl) ?_
  refine lv_iload_n hx hb dX1_exchangeIn_12 rfl (lv_at hl 0 rfl) ?_
  refine pq_iast (ws1 := fun g => [cI cy h0 n0 g]) hx hb hK hP hD hS 0 0 rfl rfl (fun _ => rfl) hf dX1_exchangeIn_13 (fun ar_0_3 H locs hf hP hD hS => ?_)
  rw [hQ]
  exact pq_vret hx hb hr hlocks hK hP hD hS hf (fun z => [cI cy h0 n0 z]) rfl dX1_exchangeIn_14

abbrev rm_X1_exchange : Room := { frames := 1, cells := 0, slots := 0, locals := 23 }
set_option maxHeartbeats 4000000 in
set_option maxRecDepth 100000 in
theorem c_X1_exchange (l : Launch) (D : va_G) (cy : Nat → ClassId) (N : Nat) (h0 : Nat) (a0 : Nat → Nat) (parties_0 : Int32) (judges_0 : Int32) (cases_0 : Int32) (next_0 : Int32) (sits_0 : Int32) (kind_0 : Nat → Int32) (grievance_0 : Nat → Int32) (wins_0 : Nat → Int32) (lean_0 : Nat → Int32) (favours_0 : Nat → Int32) (plaintiff_0 : Nat → Int32) (defendant_0 : Nat → Int32) (weight_0 : Nat → Int32) (winner_0 : Nat → Int32) (p1 : Int32) (p2 : Int32) (z : (Nat → Int32) × (Nat → Int32) × (Nat → Int32)) (hf : f_X1_exchange N plaintiff_0 defendant_0 weight_0 p1 p2 = some z) : pq_MV l yX1_exchange wsX1_exchange rm_X1_exchange D cy [.ref h0, .int p1, .int p2] [cO h0 1 [.ref (a0 0), .ref (a0 1), .ref (a0 2), .ref (a0 3), .ref (a0 4), .ref (a0 5), .ref (a0 6), .ref (a0 7), .ref (a0 8), .int parties_0, .int judges_0, .int cases_0, .int next_0, .int sits_0], cI cy (a0 0) 6 kind_0, cI cy (a0 1) 6 grievance_0, cI cy (a0 2) 6 wins_0, cI cy (a0 3) 6 lean_0, cI cy (a0 4) 6 favours_0, cI cy (a0 5) 12 plaintiff_0, cI cy (a0 6) 12 defendant_0, cI cy (a0 7) 12 weight_0, cI cy (a0 8) 12 winner_0] [cO h0 1 [.ref (a0 0), .ref (a0 1), .ref (a0 2), .ref (a0 3), .ref (a0 4), .ref (a0 5), .ref (a0 6), .ref (a0 7), .ref (a0 8), .int parties_0, .int judges_0, .int cases_0, .int next_0, .int sits_0], cI cy (a0 0) 6 kind_0, cI cy (a0 1) 6 grievance_0, cI cy (a0 2) 6 wins_0, cI cy (a0 3) 6 lean_0, cI cy (a0 4) 6 favours_0, cI cy (a0 5) 12 z.1, cI cy (a0 6) 12 z.2.1, cI cy (a0 7) 12 z.2.2, cI cy (a0 8) 12 winner_0] := by
  intro sz
  refine pq_ent (Qf := fun A => pq_Qv D cy A [cO h0 1 [.ref (a0 0), .ref (a0 1), .ref (a0 2), .ref (a0 3), .ref (a0 4), .ref (a0 5), .ref (a0 6), .ref (a0 7), .ref (a0 8), .int parties_0, .int judges_0, .int cases_0, .int next_0, .int sits_0], cI cy (a0 0) 6 kind_0, cI cy (a0 1) 6 grievance_0, cI cy (a0 2) 6 wins_0, cI cy (a0 3) 6 lean_0, cI cy (a0 4) 6 favours_0, cI cy (a0 5) 12 z.1, cI cy (a0 6) 12 z.2.1, cI cy (a0 7) 12 z.2.2, cI cy (a0 8) 12 winner_0]) (cc := cX1_exchange) (maxL := 3) (ret := none) (by decide) rfl (Nat.le_of_ble_eq_true rfl) ?_
  intro p e s m args below meth c A ls Q hQ X hK hP hD hA hS hl
  obtain ⟨hx, hb, hr, hts, hown, hlocks, hml⟩ := X
  have hl : lv_has ls 3 [(0, .ref h0), (1, .int p1), (2, .int p2)] := hl
  unfold f_X1_exchange at hf
  have hiX1 : ∀ w ∈ wsX10, w ∈ wsX1_exchange := by decide +kernel
  have k0 := hts (.fieldLink RX1 27 "LoserPicks$Circuit" "plaintiff" "[I") (by decide +kernel)
  have k1 := hts (.fieldLink RX1 30 "LoserPicks$Circuit" "defendant" "[I") (by decide +kernel)
  have k2 := hts (.fieldLink RX1 33 "LoserPicks$Circuit" "weight" "[I") (by decide +kernel)
  refine lv_aload_n hx hb dX1_exchange_0 rfl (lv_at hl 0 rfl) ?_
  refine pq_get (D := D) (ci := 1) (v := .ref (a0 5)) (C := RX1) (T := TX1) (N := 14) hx hb hts hiX1 hown hK hP 0 rfl rfl 5 (by decide) k0 rfl rfl dX1_exchange_1 ?_
  refine lv_iload_n hx hb dX1_exchange_4 rfl (lv_at hl 1 rfl) ?_
  refine lv_iload_n hx hb dX1_exchange_5 rfl (lv_at hl 2 rfl) ?_
  refine pq_cSv (w1 := fun r => [cI cy (a0 5) 12 r]) (ws1 := fun r => [cO h0 1 [.ref (a0 0), .ref (a0 1), .ref (a0 2), .ref (a0 3), .ref (a0 4), .ref (a0 5), .ref (a0 6), .ref (a0 7), .ref (a0 8), .int parties_0, .int judges_0, .int cases_0, .int next_0, .int sits_0], cI cy (a0 0) 6 kind_0, cI cy (a0 1) 6 grievance_0, cI cy (a0 2) 6 wins_0, cI cy (a0 3) 6 lean_0, cI cy (a0 4) 6 favours_0, cI cy (a0 5) 12 r, cI cy (a0 6) 12 defendant_0, cI cy (a0 7) 12 weight_0, cI cy (a0 8) 12 winner_0]) (wc := [cI cy (a0 5) 12 plaintiff_0]) (wr := [cO h0 1 [.ref (a0 0), .ref (a0 1), .ref (a0 2), .ref (a0 3), .ref (a0 4), .ref (a0 5), .ref (a0 6), .ref (a0 7), .ref (a0 8), .int parties_0, .int judges_0, .int cases_0, .int next_0, .int sits_0], cI cy (a0 0) 6 kind_0, cI cy (a0 1) 6 grievance_0, cI cy (a0 2) 6 wins_0, cI cy (a0 3) 6 lean_0, cI cy (a0 4) 6 favours_0, cI cy (a0 6) 12 defendant_0, cI cy (a0 7) 12 weight_0, cI cy (a0 8) 12 winner_0]) (As := [.ref (a0 5), .int p1, .int p2]) (rest := []) ⟨hx, hb, hml, hown, hts⟩ hf (fun r hr => c_X1_exchangeIn l D cy N (a0 5) 12 plaintiff_0 p1 p2 r hr) (va_cwS 3 hts gX1_exchange_X1_exchangeIn rfl rfl rfl (by decide +kernel) ⟨Nat.le_of_ble_eq_true rfl, Nat.le_of_ble_eq_true rfl⟩) hK hP hD hS hA [6] [0, 1, 2, 3, 4, 5, 7, 8, 9] [0, 1, 2, 3, 4, 5, 9, 6, 7, 8] rfl rfl rfl rfl (by decide) (fun _ => rfl) rfl rfl hl.1 rfl (Nat.le_of_ble_eq_true rfl) ⟨Nat.zero_le _, Nat.zero_le _⟩ dX1_exchange_6 (fun r_1 H locs hf hP hD hS => ?_)
  refine lv_aload_n hx hb dX1_exchange_9 rfl (lv_at hl 0 rfl) ?_
  refine pq_get (D := D) (ci := 1) (v := .ref (a0 6)) (C := RX1) (T := TX1) (N := 14) hx hb hts hiX1 hown hK hP 0 rfl rfl 6 (by decide) k1 rfl rfl dX1_exchange_10 ?_
  refine lv_iload_n hx hb dX1_exchange_13 rfl (lv_at hl 1 rfl) ?_
  refine lv_iload_n hx hb dX1_exchange_14 rfl (lv_at hl 2 rfl) ?_
  refine pq_cSv (w1 := fun r => [cI cy (a0 6) 12 r]) (ws1 := fun r => [cO h0 1 [.ref (a0 0), .ref (a0 1), .ref (a0 2), .ref (a0 3), .ref (a0 4), .ref (a0 5), .ref (a0 6), .ref (a0 7), .ref (a0 8), .int parties_0, .int judges_0, .int cases_0, .int next_0, .int sits_0], cI cy (a0 0) 6 kind_0, cI cy (a0 1) 6 grievance_0, cI cy (a0 2) 6 wins_0, cI cy (a0 3) 6 lean_0, cI cy (a0 4) 6 favours_0, cI cy (a0 5) 12 r_1, cI cy (a0 6) 12 r, cI cy (a0 7) 12 weight_0, cI cy (a0 8) 12 winner_0]) (wc := [cI cy (a0 6) 12 defendant_0]) (wr := [cO h0 1 [.ref (a0 0), .ref (a0 1), .ref (a0 2), .ref (a0 3), .ref (a0 4), .ref (a0 5), .ref (a0 6), .ref (a0 7), .ref (a0 8), .int parties_0, .int judges_0, .int cases_0, .int next_0, .int sits_0], cI cy (a0 0) 6 kind_0, cI cy (a0 1) 6 grievance_0, cI cy (a0 2) 6 wins_0, cI cy (a0 3) 6 lean_0, cI cy (a0 4) 6 favours_0, cI cy (a0 5) 12 r_1, cI cy (a0 7) 12 weight_0, cI cy (a0 8) 12 winner_0]) (As := [.ref (a0 6), .int p1, .int p2]) (rest := []) ⟨hx, hb, hml, hown, hts⟩ hf (fun r hr => c_X1_exchangeIn l D cy N (a0 6) 12 defendant_0 p1 p2 r hr) (va_cwS 3 hts gX1_exchange_X1_exchangeIn rfl rfl rfl (by decide +kernel) ⟨Nat.le_of_ble_eq_true rfl, Nat.le_of_ble_eq_true rfl⟩) hK hP hD hS hA [7] [0, 1, 2, 3, 4, 5, 6, 8, 9] [0, 1, 2, 3, 4, 5, 6, 9, 7, 8] rfl rfl rfl rfl (by decide) (fun _ => rfl) rfl rfl hl.1 rfl (Nat.le_of_ble_eq_true rfl) ⟨Nat.zero_le _, Nat.zero_le _⟩ dX1_exchange_15 (fun r_2 H locs hf hP hD hS => ?_)
  refine lv_aload_n hx hb dX1_exchange_18 rfl (lv_at hl 0 rfl) ?_
  refine pq_get (D := D) (ci := 1) (v := .ref (a0 7)) (C := RX1) (T := TX1) (N := 14) hx hb hts hiX1 hown hK hP 0 rfl rfl 7 (by decide) k2 rfl rfl dX1_exchange_19 ?_
  refine lv_iload_n hx hb dX1_exchange_22 rfl (lv_at hl 1 rfl) ?_
  refine lv_iload_n hx hb dX1_exchange_23 rfl (lv_at hl 2 rfl) ?_
  refine pq_cSv (w1 := fun r => [cI cy (a0 7) 12 r]) (ws1 := fun r => [cO h0 1 [.ref (a0 0), .ref (a0 1), .ref (a0 2), .ref (a0 3), .ref (a0 4), .ref (a0 5), .ref (a0 6), .ref (a0 7), .ref (a0 8), .int parties_0, .int judges_0, .int cases_0, .int next_0, .int sits_0], cI cy (a0 0) 6 kind_0, cI cy (a0 1) 6 grievance_0, cI cy (a0 2) 6 wins_0, cI cy (a0 3) 6 lean_0, cI cy (a0 4) 6 favours_0, cI cy (a0 5) 12 r_1, cI cy (a0 6) 12 r_2, cI cy (a0 7) 12 r, cI cy (a0 8) 12 winner_0]) (wc := [cI cy (a0 7) 12 weight_0]) (wr := [cO h0 1 [.ref (a0 0), .ref (a0 1), .ref (a0 2), .ref (a0 3), .ref (a0 4), .ref (a0 5), .ref (a0 6), .ref (a0 7), .ref (a0 8), .int parties_0, .int judges_0, .int cases_0, .int next_0, .int sits_0], cI cy (a0 0) 6 kind_0, cI cy (a0 1) 6 grievance_0, cI cy (a0 2) 6 wins_0, cI cy (a0 3) 6 lean_0, cI cy (a0 4) 6 favours_0, cI cy (a0 5) 12 r_1, cI cy (a0 6) 12 r_2, cI cy (a0 8) 12 winner_0]) (As := [.ref (a0 7), .int p1, .int p2]) (rest := []) ⟨hx, hb, hml, hown, hts⟩ hf (fun r hr => c_X1_exchangeIn l D cy N (a0 7) 12 weight_0 p1 p2 r hr) (va_cwS 3 hts gX1_exchange_X1_exchangeIn rfl rfl rfl (by decide +kernel) ⟨Nat.le_of_ble_eq_true rfl, Nat.le_of_ble_eq_true rfl⟩) hK hP hD hS hA [8] [0, 1, 2, 3, 4, 5, 6, 7, 9] [0, 1, 2, 3, 4, 5, 6, 7, 9, 8] rfl rfl rfl rfl (by decide) (fun _ => rfl) rfl rfl hl.1 rfl (Nat.le_of_ble_eq_true rfl) ⟨Nat.zero_le _, Nat.zero_le _⟩ dX1_exchange_24 (fun r_3 H locs hf hP hD hS => ?_)
  rw [hQ]
  exact pq_vret hx hb hr hlocks hK hP hD hS hf (fun z => [cO h0 1 [.ref (a0 0), .ref (a0 1), .ref (a0 2), .ref (a0 3), .ref (a0 4), .ref (a0 5), .ref (a0 6), .ref (a0 7), .ref (a0 8), .int parties_0, .int judges_0, .int cases_0, .int next_0, .int sits_0], cI cy (a0 0) 6 kind_0, cI cy (a0 1) 6 grievance_0, cI cy (a0 2) 6 wins_0, cI cy (a0 3) 6 lean_0, cI cy (a0 4) 6 favours_0, cI cy (a0 5) 12 z.1, cI cy (a0 6) 12 z.2.1, cI cy (a0 7) 12 z.2.2, cI cy (a0 8) 12 winner_0]) rfl dX1_exchange_27

abbrev rm_X1_allGrievance : Room := { frames := 0, cells := 0, slots := 0, locals := 0 }
set_option maxHeartbeats 4000000 in
set_option maxRecDepth 100000 in
theorem c_X1_allGrievance (l : Launch) (D : va_G) (cy : Nat → ClassId) (N : Nat) (h0 : Nat) (a0 : Nat → Nat) (parties_0 : Int32) (judges_0 : Int32) (cases_0 : Int32) (next_0 : Int32) (sits_0 : Int32) (kind_0 : Nat → Int32) (grievance_0 : Nat → Int32) (wins_0 : Nat → Int32) (lean_0 : Nat → Int32) (favours_0 : Nat → Int32) (plaintiff_0 : Nat → Int32) (defendant_0 : Nat → Int32) (weight_0 : Nat → Int32) (winner_0 : Nat → Int32) (z : Int32) (hf : f_X1_allGrievance N parties_0 grievance_0 = some z) : pq_MI l yX1_allGrievance wsX1_allGrievance rm_X1_allGrievance D cy [.ref h0] [cO h0 1 [.ref (a0 0), .ref (a0 1), .ref (a0 2), .ref (a0 3), .ref (a0 4), .ref (a0 5), .ref (a0 6), .ref (a0 7), .ref (a0 8), .int parties_0, .int judges_0, .int cases_0, .int next_0, .int sits_0], cI cy (a0 0) 6 kind_0, cI cy (a0 1) 6 grievance_0, cI cy (a0 2) 6 wins_0, cI cy (a0 3) 6 lean_0, cI cy (a0 4) 6 favours_0, cI cy (a0 5) 12 plaintiff_0, cI cy (a0 6) 12 defendant_0, cI cy (a0 7) 12 weight_0, cI cy (a0 8) 12 winner_0] [cO h0 1 [.ref (a0 0), .ref (a0 1), .ref (a0 2), .ref (a0 3), .ref (a0 4), .ref (a0 5), .ref (a0 6), .ref (a0 7), .ref (a0 8), .int parties_0, .int judges_0, .int cases_0, .int next_0, .int sits_0], cI cy (a0 0) 6 kind_0, cI cy (a0 1) 6 grievance_0, cI cy (a0 2) 6 wins_0, cI cy (a0 3) 6 lean_0, cI cy (a0 4) 6 favours_0, cI cy (a0 5) 12 plaintiff_0, cI cy (a0 6) 12 defendant_0, cI cy (a0 7) 12 weight_0, cI cy (a0 8) 12 winner_0] (z) := by
  intro sz
  refine pq_ent (Qf := fun A => pq_Qi D cy A [cO h0 1 [.ref (a0 0), .ref (a0 1), .ref (a0 2), .ref (a0 3), .ref (a0 4), .ref (a0 5), .ref (a0 6), .ref (a0 7), .ref (a0 8), .int parties_0, .int judges_0, .int cases_0, .int next_0, .int sits_0], cI cy (a0 0) 6 kind_0, cI cy (a0 1) 6 grievance_0, cI cy (a0 2) 6 wins_0, cI cy (a0 3) 6 lean_0, cI cy (a0 4) 6 favours_0, cI cy (a0 5) 12 plaintiff_0, cI cy (a0 6) 12 defendant_0, cI cy (a0 7) 12 weight_0, cI cy (a0 8) 12 winner_0] (z)) (cc := cX1_allGrievance) (maxL := 3) (ret := (some .int)) (by decide) rfl (Nat.le_of_ble_eq_true rfl) ?_
  intro p e s m args below meth c A ls Q hQ X hK hP hD hA hS hl
  obtain ⟨hx, hb, hr, hts, hown, hlocks, hml⟩ := X
  have hl : lv_has ls 3 [(0, .ref h0)] := hl
  unfold f_X1_allGrievance at hf
  have hiX1 : ∀ w ∈ wsX10, w ∈ wsX1_allGrievance := by decide +kernel
  have k0 := hts (.fieldLink RX1 39 "LoserPicks$Circuit" "parties" "I") (by decide +kernel)
  have k1 := hts (.fieldLink RX1 15 "LoserPicks$Circuit" "grievance" "[I") (by decide +kernel)
  refine lv_iconst (v := 0) hx hb dX1_allGrievance_0 (by decide) ?_
  refine lv_istore_n (lv' := [(1, .int 0), (0, .ref h0)]) hx hb dX1_allGrievance_1 rfl hl (by decide) rfl (fun ls hl => ?_)
  refine lv_iconst (v := 0) hx hb dX1_allGrievance_2 (by decide) ?_
  refine lv_istore_n (lv' := [(2, .int 0), (1, .int 0), (0, .ref h0)]) hx hb dX1_allGrievance_3 rfl hl (by decide) rfl (fun ls hl => ?_)
  have hL4 : ∀ (n : Nat) (x1_L4 : Int32) (x2_L4 : Int32) (H : Heap) (locs : List Loc) (ls : Array Slot), pq_w (fun _ _ => none) (f_X1_allGrievance_L4 N parties_0 grievance_0) n x1_L4 x2_L4 = some z → va_P D vwCl [cO h0 1 [.ref (a0 0), .ref (a0 1), .ref (a0 2), .ref (a0 3), .ref (a0 4), .ref (a0 5), .ref (a0 6), .ref (a0 7), .ref (a0 8), .int parties_0, .int judges_0, .int cases_0, .int next_0, .int sits_0], cI cy (a0 0) 6 kind_0, cI cy (a0 1) 6 grievance_0, cI cy (a0 2) 6 wins_0, cI cy (a0 3) 6 lean_0, cI cy (a0 4) 6 favours_0, cI cy (a0 5) 12 plaintiff_0, cI cy (a0 6) 12 defendant_0, cI cy (a0 7) 12 weight_0, cI cy (a0 8) 12 winner_0] H → va_D A [cO h0 1 [.ref (a0 0), .ref (a0 1), .ref (a0 2), .ref (a0 3), .ref (a0 4), .ref (a0 5), .ref (a0 6), .ref (a0 7), .ref (a0 8), .int parties_0, .int judges_0, .int cases_0, .int next_0, .int sits_0], cI cy (a0 0) 6 kind_0, cI cy (a0 1) 6 grievance_0, cI cy (a0 2) 6 wins_0, cI cy (a0 3) 6 lean_0, cI cy (a0 4) 6 favours_0, cI cy (a0 5) 12 plaintiff_0, cI cy (a0 6) 12 defendant_0, cI cy (a0 7) 12 weight_0, cI cy (a0 8) 12 winner_0] → va_S A s.heap H locs → lv_has ls 3 [(0, .ref h0), (1, .int x1_L4), (2, .int x2_L4)] → W p l e rm_X1_allGrievance s m args below meth c H locs 0 0 Q (F0 m 4 ls []) := by
    intro n
    induction n with
    | zero =>
      intro x1_L4 x2_L4 H locs ls hf
      exact absurd (show none = some z from hf) (fun h => nomatch h)
    | succ n ihL4 =>
      intro x1_L4 x2_L4 H locs ls hf hP hD hS hl
      have hf : (f_X1_allGrievance_L4 N parties_0 grievance_0) (pq_w (fun _ _ => none) (f_X1_allGrievance_L4 N parties_0 grievance_0) n) x1_L4 x2_L4 = some z := hf
      generalize pq_w (fun _ _ => none) (f_X1_allGrievance_L4 N parties_0 grievance_0) n = kL4 at hf ihL4
      unfold f_X1_allGrievance_L4 at hf
      refine lv_iload_n hx hb dX1_allGrievance_4 rfl (lv_at hl 2 rfl) ?_
      refine lv_aload_n hx hb dX1_allGrievance_5 rfl (lv_at hl 0 rfl) ?_
      refine pq_get (D := D) (ci := 1) (v := .int parties_0) (C := RX1) (T := TX1) (N := 14) hx hb hts hiX1 hown hK hP 0 rfl rfl 9 (by decide) k0 rfl rfl dX1_allGrievance_6 ?_
      refine pq_icmp_ge hx hb 27 hf dX1_allGrievance_9 (by decide) (fun _ hf => ?_) (fun _ hf => ?_)
      · refine lv_iload_n hx hb dX1_allGrievance_27 rfl (lv_at hl 1 rfl) ?_
        rw [hQ]
        exact pq_iret hx hb hr hlocks hK hP hD hS hf (fun z => z) (fun z => [cO h0 1 [.ref (a0 0), .ref (a0 1), .ref (a0 2), .ref (a0 3), .ref (a0 4), .ref (a0 5), .ref (a0 6), .ref (a0 7), .ref (a0 8), .int parties_0, .int judges_0, .int cases_0, .int next_0, .int sits_0], cI cy (a0 0) 6 kind_0, cI cy (a0 1) 6 grievance_0, cI cy (a0 2) 6 wins_0, cI cy (a0 3) 6 lean_0, cI cy (a0 4) 6 favours_0, cI cy (a0 5) 12 plaintiff_0, cI cy (a0 6) 12 defendant_0, cI cy (a0 7) 12 weight_0, cI cy (a0 8) 12 winner_0]) rfl rfl dX1_allGrievance_28
      · refine lv_iload_n hx hb dX1_allGrievance_12 rfl (lv_at hl 1 rfl) ?_
        refine lv_aload_n hx hb dX1_allGrievance_13 rfl (lv_at hl 0 rfl) ?_
        refine pq_get (D := D) (ci := 1) (v := .ref (a0 1)) (C := RX1) (T := TX1) (N := 14) hx hb hts hiX1 hown hK hP 0 rfl rfl 1 (by decide) k1 rfl rfl dX1_allGrievance_14 ?_
        refine lv_iload_n hx hb dX1_allGrievance_17 rfl (lv_at hl 2 rfl) ?_
        refine pq_iald hx hb hK hP 2 0 rfl rfl hf dX1_allGrievance_18 (fun hf => ?_)
        refine lv_iadd hx hb dX1_allGrievance_19 ?_
        refine pq_li hf (fun x1_1 hf => ?_)
        refine lv_istore_n (lv' := [(1, .int x1_1), (0, .ref h0), (2, .int x2_L4)]) hx hb dX1_allGrievance_20 rfl hl (by decide) rfl (fun ls hl => ?_)
        refine pq_iinc (v := x2_L4 + 1) (lv1 := fun y => [(2, .int y), (1, .int x1_1), (0, .ref h0)]) hx hb hf dX1_allGrievance_21 hl (kp := 2) rfl rfl (by decide) (fun _ => rfl) (fun x2_2 ls hf hl => ?_)
        refine lv_goto (tgt := 4) hx hb dX1_allGrievance_24 (by decide) ?_
        exact ihL4 x1_1 x2_2 _ _ _ hf hP hD hS (lv_sub hl [2, 1, 0] rfl)
  exact hL4 N 0 0 _ _ _ hf hP hD hS (lv_sub hl [2, 1, 0] rfl)

abbrev rm_X1_justlyWon : Room := { frames := 1, cells := 0, slots := 0, locals := 21 }
set_option maxHeartbeats 4000000 in
set_option maxRecDepth 100000 in
theorem c_X1_justlyWon (l : Launch) (D : va_G) (cy : Nat → ClassId) (N : Nat) (h0 : Nat) (a0 : Nat → Nat) (parties_0 : Int32) (judges_0 : Int32) (cases_0 : Int32) (next_0 : Int32) (sits_0 : Int32) (kind_0 : Nat → Int32) (grievance_0 : Nat → Int32) (wins_0 : Nat → Int32) (lean_0 : Nat → Int32) (favours_0 : Nat → Int32) (plaintiff_0 : Nat → Int32) (defendant_0 : Nat → Int32) (weight_0 : Nat → Int32) (winner_0 : Nat → Int32) (z : Int32) (hf : f_X1_justlyWon N next_0 plaintiff_0 defendant_0 weight_0 winner_0 = some z) : pq_MI l yX1_justlyWon wsX1_justlyWon rm_X1_justlyWon D cy [.ref h0] [cO h0 1 [.ref (a0 0), .ref (a0 1), .ref (a0 2), .ref (a0 3), .ref (a0 4), .ref (a0 5), .ref (a0 6), .ref (a0 7), .ref (a0 8), .int parties_0, .int judges_0, .int cases_0, .int next_0, .int sits_0], cI cy (a0 0) 6 kind_0, cI cy (a0 1) 6 grievance_0, cI cy (a0 2) 6 wins_0, cI cy (a0 3) 6 lean_0, cI cy (a0 4) 6 favours_0, cI cy (a0 5) 12 plaintiff_0, cI cy (a0 6) 12 defendant_0, cI cy (a0 7) 12 weight_0, cI cy (a0 8) 12 winner_0] [cO h0 1 [.ref (a0 0), .ref (a0 1), .ref (a0 2), .ref (a0 3), .ref (a0 4), .ref (a0 5), .ref (a0 6), .ref (a0 7), .ref (a0 8), .int parties_0, .int judges_0, .int cases_0, .int next_0, .int sits_0], cI cy (a0 0) 6 kind_0, cI cy (a0 1) 6 grievance_0, cI cy (a0 2) 6 wins_0, cI cy (a0 3) 6 lean_0, cI cy (a0 4) 6 favours_0, cI cy (a0 5) 12 plaintiff_0, cI cy (a0 6) 12 defendant_0, cI cy (a0 7) 12 weight_0, cI cy (a0 8) 12 winner_0] (z) := by
  intro sz
  refine pq_ent (Qf := fun A => pq_Qi D cy A [cO h0 1 [.ref (a0 0), .ref (a0 1), .ref (a0 2), .ref (a0 3), .ref (a0 4), .ref (a0 5), .ref (a0 6), .ref (a0 7), .ref (a0 8), .int parties_0, .int judges_0, .int cases_0, .int next_0, .int sits_0], cI cy (a0 0) 6 kind_0, cI cy (a0 1) 6 grievance_0, cI cy (a0 2) 6 wins_0, cI cy (a0 3) 6 lean_0, cI cy (a0 4) 6 favours_0, cI cy (a0 5) 12 plaintiff_0, cI cy (a0 6) 12 defendant_0, cI cy (a0 7) 12 weight_0, cI cy (a0 8) 12 winner_0] (z)) (cc := cX1_justlyWon) (maxL := 3) (ret := (some .int)) (by decide) rfl (Nat.le_of_ble_eq_true rfl) ?_
  intro p e s m args below meth c A ls Q hQ X hK hP hD hA hS hl
  obtain ⟨hx, hb, hr, hts, hown, hlocks, hml⟩ := X
  have hl : lv_has ls 3 [(0, .ref h0)] := hl
  unfold f_X1_justlyWon at hf
  have hiX1 : ∀ w ∈ wsX10, w ∈ wsX1_justlyWon := by decide +kernel
  have k0 := hts (.fieldLink RX1 49 "LoserPicks$Circuit" "next" "I") (by decide +kernel)
  have k1 := hts (.fieldLink RX1 36 "LoserPicks$Circuit" "winner" "[I") (by decide +kernel)
  refine lv_iconst (v := 0) hx hb dX1_justlyWon_0 (by decide) ?_
  refine lv_istore_n (lv' := [(1, .int 0), (0, .ref h0)]) hx hb dX1_justlyWon_1 rfl hl (by decide) rfl (fun ls hl => ?_)
  refine lv_iconst (v := 0) hx hb dX1_justlyWon_2 (by decide) ?_
  refine lv_istore_n (lv' := [(2, .int 0), (1, .int 0), (0, .ref h0)]) hx hb dX1_justlyWon_3 rfl hl (by decide) rfl (fun ls hl => ?_)
  have hL4 : ∀ (n : Nat) (x1_L4 : Int32) (x2_L4 : Int32) (H : Heap) (locs : List Loc) (ls : Array Slot), pq_w (fun _ _ => none) (f_X1_justlyWon_L4 N next_0 plaintiff_0 defendant_0 weight_0 winner_0) n x1_L4 x2_L4 = some z → va_P D vwCl [cO h0 1 [.ref (a0 0), .ref (a0 1), .ref (a0 2), .ref (a0 3), .ref (a0 4), .ref (a0 5), .ref (a0 6), .ref (a0 7), .ref (a0 8), .int parties_0, .int judges_0, .int cases_0, .int next_0, .int sits_0], cI cy (a0 0) 6 kind_0, cI cy (a0 1) 6 grievance_0, cI cy (a0 2) 6 wins_0, cI cy (a0 3) 6 lean_0, cI cy (a0 4) 6 favours_0, cI cy (a0 5) 12 plaintiff_0, cI cy (a0 6) 12 defendant_0, cI cy (a0 7) 12 weight_0, cI cy (a0 8) 12 winner_0] H → va_D A [cO h0 1 [.ref (a0 0), .ref (a0 1), .ref (a0 2), .ref (a0 3), .ref (a0 4), .ref (a0 5), .ref (a0 6), .ref (a0 7), .ref (a0 8), .int parties_0, .int judges_0, .int cases_0, .int next_0, .int sits_0], cI cy (a0 0) 6 kind_0, cI cy (a0 1) 6 grievance_0, cI cy (a0 2) 6 wins_0, cI cy (a0 3) 6 lean_0, cI cy (a0 4) 6 favours_0, cI cy (a0 5) 12 plaintiff_0, cI cy (a0 6) 12 defendant_0, cI cy (a0 7) 12 weight_0, cI cy (a0 8) 12 winner_0] → va_S A s.heap H locs → lv_has ls 3 [(0, .ref h0), (1, .int x1_L4), (2, .int x2_L4)] → W p l e rm_X1_justlyWon s m args below meth c H locs 0 0 Q (F0 m 4 ls []) := by
    intro n
    induction n with
    | zero =>
      intro x1_L4 x2_L4 H locs ls hf
      exact absurd (show none = some z from hf) (fun h => nomatch h)
    | succ n ihL4 =>
      intro x1_L4 x2_L4 H locs ls hf hP hD hS hl
      have hf : (f_X1_justlyWon_L4 N next_0 plaintiff_0 defendant_0 weight_0 winner_0) (pq_w (fun _ _ => none) (f_X1_justlyWon_L4 N next_0 plaintiff_0 defendant_0 weight_0 winner_0) n) x1_L4 x2_L4 = some z := hf
      generalize pq_w (fun _ _ => none) (f_X1_justlyWon_L4 N next_0 plaintiff_0 defendant_0 weight_0 winner_0) n = kL4 at hf ihL4
      unfold f_X1_justlyWon_L4 at hf
      refine lv_iload_n hx hb dX1_justlyWon_4 rfl (lv_at hl 2 rfl) ?_
      refine lv_aload_n hx hb dX1_justlyWon_5 rfl (lv_at hl 0 rfl) ?_
      refine pq_get (D := D) (ci := 1) (v := .int next_0) (C := RX1) (T := TX1) (N := 14) hx hb hts hiX1 hown hK hP 0 rfl rfl 12 (by decide) k0 rfl rfl dX1_justlyWon_6 ?_
      refine pq_icmp_ge hx hb 35 hf dX1_justlyWon_9 (by decide) (fun _ hf => ?_) (fun _ hf => ?_)
      · refine lv_iload_n hx hb dX1_justlyWon_35 rfl (lv_at hl 1 rfl) ?_
        rw [hQ]
        exact pq_iret hx hb hr hlocks hK hP hD hS hf (fun z => z) (fun z => [cO h0 1 [.ref (a0 0), .ref (a0 1), .ref (a0 2), .ref (a0 3), .ref (a0 4), .ref (a0 5), .ref (a0 6), .ref (a0 7), .ref (a0 8), .int parties_0, .int judges_0, .int cases_0, .int next_0, .int sits_0], cI cy (a0 0) 6 kind_0, cI cy (a0 1) 6 grievance_0, cI cy (a0 2) 6 wins_0, cI cy (a0 3) 6 lean_0, cI cy (a0 4) 6 favours_0, cI cy (a0 5) 12 plaintiff_0, cI cy (a0 6) 12 defendant_0, cI cy (a0 7) 12 weight_0, cI cy (a0 8) 12 winner_0]) rfl rfl dX1_justlyWon_36
      · refine lv_aload_n hx hb dX1_justlyWon_12 rfl (lv_at hl 0 rfl) ?_
        refine pq_get (D := D) (ci := 1) (v := .ref (a0 8)) (C := RX1) (T := TX1) (N := 14) hx hb hts hiX1 hown hK hP 0 rfl rfl 8 (by decide) k1 rfl rfl dX1_justlyWon_13 ?_
        refine lv_iload_n hx hb dX1_justlyWon_16 rfl (lv_at hl 2 rfl) ?_
        refine pq_iald hx hb hK hP 9 0 rfl rfl hf dX1_justlyWon_17 (fun hf => ?_)
        refine lv_aload_n hx hb dX1_justlyWon_18 rfl (lv_at hl 0 rfl) ?_
        refine lv_iload_n hx hb dX1_justlyWon_19 rfl (lv_at hl 2 rfl) ?_
        refine pq_cVi (rz := fun r => r) (w1 := fun r => [cO h0 1 [.ref (a0 0), .ref (a0 1), .ref (a0 2), .ref (a0 3), .ref (a0 4), .ref (a0 5), .ref (a0 6), .ref (a0 7), .ref (a0 8), .int parties_0, .int judges_0, .int cases_0, .int next_0, .int sits_0], cI cy (a0 0) 6 kind_0, cI cy (a0 1) 6 grievance_0, cI cy (a0 2) 6 wins_0, cI cy (a0 3) 6 lean_0, cI cy (a0 4) 6 favours_0, cI cy (a0 5) 12 plaintiff_0, cI cy (a0 6) 12 defendant_0, cI cy (a0 7) 12 weight_0, cI cy (a0 8) 12 winner_0]) (ws1 := fun r => [cO h0 1 [.ref (a0 0), .ref (a0 1), .ref (a0 2), .ref (a0 3), .ref (a0 4), .ref (a0 5), .ref (a0 6), .ref (a0 7), .ref (a0 8), .int parties_0, .int judges_0, .int cases_0, .int next_0, .int sits_0], cI cy (a0 0) 6 kind_0, cI cy (a0 1) 6 grievance_0, cI cy (a0 2) 6 wins_0, cI cy (a0 3) 6 lean_0, cI cy (a0 4) 6 favours_0, cI cy (a0 5) 12 plaintiff_0, cI cy (a0 6) 12 defendant_0, cI cy (a0 7) 12 weight_0, cI cy (a0 8) 12 winner_0]) (wc := [cO h0 1 [.ref (a0 0), .ref (a0 1), .ref (a0 2), .ref (a0 3), .ref (a0 4), .ref (a0 5), .ref (a0 6), .ref (a0 7), .ref (a0 8), .int parties_0, .int judges_0, .int cases_0, .int next_0, .int sits_0], cI cy (a0 0) 6 kind_0, cI cy (a0 1) 6 grievance_0, cI cy (a0 2) 6 wins_0, cI cy (a0 3) 6 lean_0, cI cy (a0 4) 6 favours_0, cI cy (a0 5) 12 plaintiff_0, cI cy (a0 6) 12 defendant_0, cI cy (a0 7) 12 weight_0, cI cy (a0 8) 12 winner_0]) (wr := []) (As := [.int x2_L4]) (rest := [.int (winner_0 (x2_L4 : Int32).toNatClampNeg)]) (b := h0) (C := RX1) ⟨hx, hb, hml, hown, hts⟩ hf (fun r hr => c_X1_justWinner l D cy N h0 a0 parties_0 judges_0 cases_0 next_0 sits_0 kind_0 grievance_0 wins_0 lean_0 favours_0 plaintiff_0 defendant_0 weight_0 winner_0 x2_L4 r hr) (cwV 1 hts gX1_justlyWon_X1_justWinner rfl rfl rfl (by decide +kernel) ⟨Nat.le_of_ble_eq_true rfl, Nat.le_of_ble_eq_true rfl⟩) hK hP hD hS hA 0 1 rfl rfl [0, 1, 2, 3, 4, 5, 6, 7, 8, 9] [] [0, 1, 2, 3, 4, 5, 6, 7, 8, 9] rfl rfl rfl rfl (by decide) (fun _ => rfl) rfl rfl hl.1 rfl (Nat.le_of_ble_eq_true rfl) ⟨Nat.zero_le _, Nat.zero_le _⟩ dX1_justlyWon_20 (fun r_1 H locs hf hP hD hS => ?_)
        obtain ⟨kJ29, ekJ29, hf⟩ := pq_j_e hf
        have hJ29 : ∀ (x1_J29 : Int32) (H : Heap) (locs : List Loc) (ls : Array Slot), kJ29 x1_J29 = some z → va_P D vwCl [cO h0 1 [.ref (a0 0), .ref (a0 1), .ref (a0 2), .ref (a0 3), .ref (a0 4), .ref (a0 5), .ref (a0 6), .ref (a0 7), .ref (a0 8), .int parties_0, .int judges_0, .int cases_0, .int next_0, .int sits_0], cI cy (a0 0) 6 kind_0, cI cy (a0 1) 6 grievance_0, cI cy (a0 2) 6 wins_0, cI cy (a0 3) 6 lean_0, cI cy (a0 4) 6 favours_0, cI cy (a0 5) 12 plaintiff_0, cI cy (a0 6) 12 defendant_0, cI cy (a0 7) 12 weight_0, cI cy (a0 8) 12 winner_0] H → va_D A [cO h0 1 [.ref (a0 0), .ref (a0 1), .ref (a0 2), .ref (a0 3), .ref (a0 4), .ref (a0 5), .ref (a0 6), .ref (a0 7), .ref (a0 8), .int parties_0, .int judges_0, .int cases_0, .int next_0, .int sits_0], cI cy (a0 0) 6 kind_0, cI cy (a0 1) 6 grievance_0, cI cy (a0 2) 6 wins_0, cI cy (a0 3) 6 lean_0, cI cy (a0 4) 6 favours_0, cI cy (a0 5) 12 plaintiff_0, cI cy (a0 6) 12 defendant_0, cI cy (a0 7) 12 weight_0, cI cy (a0 8) 12 winner_0] → va_S A s.heap H locs → lv_has ls 3 [(0, .ref h0), (1, .int x1_J29), (2, .int x2_L4)] → W p l e rm_X1_justlyWon s m args below meth c H locs 0 0 Q (F0 m 29 ls []) := by
          clear hf hP hD hS hl
          intro x1_J29 H locs ls hf hP hD hS hl
          rw [ekJ29] at hf
          refine pq_iinc (v := x2_L4 + 1) (lv1 := fun y => [(2, .int y), (0, .ref h0), (1, .int x1_J29)]) hx hb hf dX1_justlyWon_29 hl (kp := 2) rfl rfl (by decide) (fun _ => rfl) (fun x2_2 ls hf hl => ?_)
          refine lv_goto (tgt := 4) hx hb dX1_justlyWon_32 (by decide) ?_
          exact ihL4 x1_J29 x2_2 _ _ _ hf hP hD hS (lv_sub hl [1, 2, 0] rfl)
        clear ekJ29
        refine pq_icmp_ne hx hb 29 hf dX1_justlyWon_23 (by decide) (fun _ hf => ?_) (fun _ hf => ?_)
        · exact hJ29 x1_L4 _ _ _ hf hP hD hS (lv_sub hl [0, 1, 2] rfl)
        · refine pq_iinc (v := x1_L4 + 1) (lv1 := fun y => [(1, .int y), (0, .ref h0), (2, .int x2_L4)]) hx hb hf dX1_justlyWon_26 hl (kp := 1) rfl rfl (by decide) (fun _ => rfl) (fun x1_3 ls hf hl => ?_)
          exact hJ29 x1_3 _ _ _ hf hP hD hS (lv_sub hl [1, 0, 2] rfl)
  exact hL4 N 0 0 _ _ _ hf hP hD hS (lv_sub hl [2, 1, 0] rfl)

abbrev rm_X1_stateOf : Room := { frames := 0, cells := 0, slots := 0, locals := 0 }
set_option maxHeartbeats 4000000 in
set_option maxRecDepth 100000 in
theorem c_X1_stateOf (l : Launch) (D : va_G) (cy : Nat → ClassId) (N : Nat) (h0 : Nat) (a0 : Nat → Nat) (parties_0 : Int32) (judges_0 : Int32) (cases_0 : Int32) (next_0 : Int32) (sits_0 : Int32) (kind_0 : Nat → Int32) (grievance_0 : Nat → Int32) (wins_0 : Nat → Int32) (lean_0 : Nat → Int32) (favours_0 : Nat → Int32) (plaintiff_0 : Nat → Int32) (defendant_0 : Nat → Int32) (weight_0 : Nat → Int32) (winner_0 : Nat → Int32) (p1 : Int32) (z : Int32) (hf : f_X1_stateOf N sits_0 grievance_0 plaintiff_0 defendant_0 p1 = some z) : pq_MI l yX1_stateOf wsX1_stateOf rm_X1_stateOf D cy [.ref h0, .int p1] [cO h0 1 [.ref (a0 0), .ref (a0 1), .ref (a0 2), .ref (a0 3), .ref (a0 4), .ref (a0 5), .ref (a0 6), .ref (a0 7), .ref (a0 8), .int parties_0, .int judges_0, .int cases_0, .int next_0, .int sits_0], cI cy (a0 0) 6 kind_0, cI cy (a0 1) 6 grievance_0, cI cy (a0 2) 6 wins_0, cI cy (a0 3) 6 lean_0, cI cy (a0 4) 6 favours_0, cI cy (a0 5) 12 plaintiff_0, cI cy (a0 6) 12 defendant_0, cI cy (a0 7) 12 weight_0, cI cy (a0 8) 12 winner_0] [cO h0 1 [.ref (a0 0), .ref (a0 1), .ref (a0 2), .ref (a0 3), .ref (a0 4), .ref (a0 5), .ref (a0 6), .ref (a0 7), .ref (a0 8), .int parties_0, .int judges_0, .int cases_0, .int next_0, .int sits_0], cI cy (a0 0) 6 kind_0, cI cy (a0 1) 6 grievance_0, cI cy (a0 2) 6 wins_0, cI cy (a0 3) 6 lean_0, cI cy (a0 4) 6 favours_0, cI cy (a0 5) 12 plaintiff_0, cI cy (a0 6) 12 defendant_0, cI cy (a0 7) 12 weight_0, cI cy (a0 8) 12 winner_0] (z) := by
  intro sz
  refine pq_ent (Qf := fun A => pq_Qi D cy A [cO h0 1 [.ref (a0 0), .ref (a0 1), .ref (a0 2), .ref (a0 3), .ref (a0 4), .ref (a0 5), .ref (a0 6), .ref (a0 7), .ref (a0 8), .int parties_0, .int judges_0, .int cases_0, .int next_0, .int sits_0], cI cy (a0 0) 6 kind_0, cI cy (a0 1) 6 grievance_0, cI cy (a0 2) 6 wins_0, cI cy (a0 3) 6 lean_0, cI cy (a0 4) 6 favours_0, cI cy (a0 5) 12 plaintiff_0, cI cy (a0 6) 12 defendant_0, cI cy (a0 7) 12 weight_0, cI cy (a0 8) 12 winner_0] (z)) (cc := cX1_stateOf) (maxL := 2) (ret := (some .int)) (by decide) rfl (Nat.le_of_ble_eq_true rfl) ?_
  intro p e s m args below meth c A ls Q hQ X hK hP hD hA hS hl
  obtain ⟨hx, hb, hr, hts, hown, hlocks, hml⟩ := X
  have hl : lv_has ls 2 [(0, .ref h0), (1, .int p1)] := hl
  unfold f_X1_stateOf at hf
  have hiX1 : ∀ w ∈ wsX10, w ∈ wsX1_stateOf := by decide +kernel
  have k0 := hts (.fieldLink RX1 52 "LoserPicks$Circuit" "sits" "I") (by decide +kernel)
  have k1 := hts (.fieldLink RX1 15 "LoserPicks$Circuit" "grievance" "[I") (by decide +kernel)
  have k2 := hts (.fieldLink RX1 27 "LoserPicks$Circuit" "plaintiff" "[I") (by decide +kernel)
  have k3 := hts (.fieldLink RX1 30 "LoserPicks$Circuit" "defendant" "[I") (by decide +kernel)
  refine lv_aload_n hx hb dX1_stateOf_0 rfl (lv_at hl 0 rfl) ?_
  refine pq_get (D := D) (ci := 1) (v := .int sits_0) (C := RX1) (T := TX1) (N := 14) hx hb hts hiX1 hown hK hP 0 rfl rfl 13 (by decide) k0 rfl rfl dX1_stateOf_1 ?_
  refine lv_bipush (v := 21) hx hb dX1_stateOf_4 (by decide) ?_
  refine lv_imul hx hb dX1_stateOf_6 ?_
  refine lv_aload_n hx hb dX1_stateOf_7 rfl (lv_at hl 0 rfl) ?_
  refine pq_get (D := D) (ci := 1) (v := .ref (a0 1)) (C := RX1) (T := TX1) (N := 14) hx hb hts hiX1 hown hK hP 0 rfl rfl 1 (by decide) k1 rfl rfl dX1_stateOf_8 ?_
  refine lv_aload_n hx hb dX1_stateOf_11 rfl (lv_at hl 0 rfl) ?_
  refine pq_get (D := D) (ci := 1) (v := .ref (a0 5)) (C := RX1) (T := TX1) (N := 14) hx hb hts hiX1 hown hK hP 0 rfl rfl 5 (by decide) k2 rfl rfl dX1_stateOf_12 ?_
  refine lv_iload_n hx hb dX1_stateOf_15 rfl (lv_at hl 1 rfl) ?_
  refine pq_iald hx hb hK hP 6 0 rfl rfl hf dX1_stateOf_16 (fun hf => ?_)
  refine pq_iald hx hb hK hP 2 0 rfl rfl hf dX1_stateOf_17 (fun hf => ?_)
  refine lv_iadd hx hb dX1_stateOf_18 ?_
  refine lv_bipush (v := 21) hx hb dX1_stateOf_19 (by decide) ?_
  refine lv_imul hx hb dX1_stateOf_21 ?_
  refine lv_aload_n hx hb dX1_stateOf_22 rfl (lv_at hl 0 rfl) ?_
  refine pq_get (D := D) (ci := 1) (v := .ref (a0 1)) (C := RX1) (T := TX1) (N := 14) hx hb hts hiX1 hown hK hP 0 rfl rfl 1 (by decide) k1 rfl rfl dX1_stateOf_23 ?_
  refine lv_aload_n hx hb dX1_stateOf_26 rfl (lv_at hl 0 rfl) ?_
  refine pq_get (D := D) (ci := 1) (v := .ref (a0 6)) (C := RX1) (T := TX1) (N := 14) hx hb hts hiX1 hown hK hP 0 rfl rfl 6 (by decide) k3 rfl rfl dX1_stateOf_27 ?_
  refine lv_iload_n hx hb dX1_stateOf_30 rfl (lv_at hl 1 rfl) ?_
  refine pq_iald hx hb hK hP 7 0 rfl rfl hf dX1_stateOf_31 (fun hf => ?_)
  refine pq_iald hx hb hK hP 2 0 rfl rfl hf dX1_stateOf_32 (fun hf => ?_)
  refine lv_iadd hx hb dX1_stateOf_33 ?_
  rw [hQ]
  exact pq_iret hx hb hr hlocks hK hP hD hS hf (fun z => z) (fun z => [cO h0 1 [.ref (a0 0), .ref (a0 1), .ref (a0 2), .ref (a0 3), .ref (a0 4), .ref (a0 5), .ref (a0 6), .ref (a0 7), .ref (a0 8), .int parties_0, .int judges_0, .int cases_0, .int next_0, .int sits_0], cI cy (a0 0) 6 kind_0, cI cy (a0 1) 6 grievance_0, cI cy (a0 2) 6 wins_0, cI cy (a0 3) 6 lean_0, cI cy (a0 4) 6 favours_0, cI cy (a0 5) 12 plaintiff_0, cI cy (a0 6) 12 defendant_0, cI cy (a0 7) 12 weight_0, cI cy (a0 8) 12 winner_0]) rfl rfl dX1_stateOf_34

abbrev rm_X1_stateBehind : Room := { frames := 4, cells := 0, slots := 0, locals := 97 }
set_option maxHeartbeats 4000000 in
set_option maxRecDepth 100000 in
theorem c_X1_stateBehind (l : Launch) (D : va_G) (cy : Nat → ClassId) (N : Nat) (h0 : Nat) (a0 : Nat → Nat) (parties_0 : Int32) (judges_0 : Int32) (cases_0 : Int32) (next_0 : Int32) (sits_0 : Int32) (kind_0 : Nat → Int32) (grievance_0 : Nat → Int32) (wins_0 : Nat → Int32) (lean_0 : Nat → Int32) (favours_0 : Nat → Int32) (plaintiff_0 : Nat → Int32) (defendant_0 : Nat → Int32) (weight_0 : Nat → Int32) (winner_0 : Nat → Int32) (p1 : Int32) (p2 : Int32) (z : Int32 × Int32 × (Nat → Int32) × (Nat → Int32) × (Nat → Int32)) (hf : f_X1_stateBehind N judges_0 sits_0 kind_0 grievance_0 wins_0 lean_0 favours_0 plaintiff_0 defendant_0 weight_0 winner_0 p1 p2 = some z) : pq_MI l yX1_stateBehind wsX1_stateBehind rm_X1_stateBehind D cy [.ref h0, .int p1, .int p2] [cO h0 1 [.ref (a0 0), .ref (a0 1), .ref (a0 2), .ref (a0 3), .ref (a0 4), .ref (a0 5), .ref (a0 6), .ref (a0 7), .ref (a0 8), .int parties_0, .int judges_0, .int cases_0, .int next_0, .int sits_0], cI cy (a0 0) 6 kind_0, cI cy (a0 1) 6 grievance_0, cI cy (a0 2) 6 wins_0, cI cy (a0 3) 6 lean_0, cI cy (a0 4) 6 favours_0, cI cy (a0 5) 12 plaintiff_0, cI cy (a0 6) 12 defendant_0, cI cy (a0 7) 12 weight_0, cI cy (a0 8) 12 winner_0] [cO h0 1 [.ref (a0 0), .ref (a0 1), .ref (a0 2), .ref (a0 3), .ref (a0 4), .ref (a0 5), .ref (a0 6), .ref (a0 7), .ref (a0 8), .int parties_0, .int judges_0, .int cases_0, .int next_0, .int z.2.1], cI cy (a0 0) 6 kind_0, cI cy (a0 1) 6 z.2.2.1, cI cy (a0 2) 6 z.2.2.2.1, cI cy (a0 3) 6 lean_0, cI cy (a0 4) 6 favours_0, cI cy (a0 5) 12 plaintiff_0, cI cy (a0 6) 12 defendant_0, cI cy (a0 7) 12 weight_0, cI cy (a0 8) 12 z.2.2.2.2] (z.1) := by
  intro sz
  refine pq_ent (Qf := fun A => pq_Qi D cy A [cO h0 1 [.ref (a0 0), .ref (a0 1), .ref (a0 2), .ref (a0 3), .ref (a0 4), .ref (a0 5), .ref (a0 6), .ref (a0 7), .ref (a0 8), .int parties_0, .int judges_0, .int cases_0, .int next_0, .int z.2.1], cI cy (a0 0) 6 kind_0, cI cy (a0 1) 6 z.2.2.1, cI cy (a0 2) 6 z.2.2.2.1, cI cy (a0 3) 6 lean_0, cI cy (a0 4) 6 favours_0, cI cy (a0 5) 12 plaintiff_0, cI cy (a0 6) 12 defendant_0, cI cy (a0 7) 12 weight_0, cI cy (a0 8) 12 z.2.2.2.2] (z.1)) (cc := cX1_stateBehind) (maxL := 3) (ret := (some .int)) (by decide) rfl (Nat.le_of_ble_eq_true rfl) ?_
  intro p e s m args below meth c A ls Q hQ X hK hP hD hA hS hl
  obtain ⟨hx, hb, hr, hts, hown, hlocks, hml⟩ := X
  have hl : lv_has ls 3 [(0, .ref h0), (1, .int p1), (2, .int p2)] := hl
  unfold f_X1_stateBehind at hf
  have hiX1 : ∀ w ∈ wsX10, w ∈ wsX1_stateBehind := by decide +kernel
  have k0 := hts (.fieldLink RX1 52 "LoserPicks$Circuit" "sits" "I") (by decide +kernel)
  have k1 := hts (.fieldLink RX1 15 "LoserPicks$Circuit" "grievance" "[I") (by decide +kernel)
  have k2 := hts (.fieldLink RX1 27 "LoserPicks$Circuit" "plaintiff" "[I") (by decide +kernel)
  have k3 := hts (.fieldLink RX1 30 "LoserPicks$Circuit" "defendant" "[I") (by decide +kernel)
  refine lv_aload_n hx hb dX1_stateBehind_0 rfl (lv_at hl 0 rfl) ?_
  refine lv_iload_n hx hb dX1_stateBehind_1 rfl (lv_at hl 2 rfl) ?_
  refine lv_bipush (v := 21) hx hb dX1_stateBehind_2 (by decide) ?_
  refine lv_idiv hx hb dX1_stateBehind_4 (by decide) ?_
  refine lv_bipush (v := 21) hx hb dX1_stateBehind_5 (by decide) ?_
  refine lv_idiv hx hb dX1_stateBehind_7 (by decide) ?_
  refine pq_li hf (fun f_1 hf => ?_)
  refine pq_put (D := D) (ci := 1) (v := .int f_1) (C := RX1) (T := TX1) (N := 14) (ws1 := [cO h0 1 [.ref (a0 0), .ref (a0 1), .ref (a0 2), .ref (a0 3), .ref (a0 4), .ref (a0 5), .ref (a0 6), .ref (a0 7), .ref (a0 8), .int parties_0, .int judges_0, .int cases_0, .int next_0, .int f_1], cI cy (a0 0) 6 kind_0, cI cy (a0 1) 6 grievance_0, cI cy (a0 2) 6 wins_0, cI cy (a0 3) 6 lean_0, cI cy (a0 4) 6 favours_0, cI cy (a0 5) 12 plaintiff_0, cI cy (a0 6) 12 defendant_0, cI cy (a0 7) 12 weight_0, cI cy (a0 8) 12 winner_0]) hx hb hts hiX1 tyX1 tyX1_ok nmX1 hown hK hP hD hS 0 rfl rfl 13 (by decide) k0 rfl rfl .int (by decide +kernel) rfl rfl (Nat.le_of_ble_eq_true rfl) rfl dX1_stateBehind_8 (fun H locs hP hD hS => ?_)
  refine lv_aload_n hx hb dX1_stateBehind_11 rfl (lv_at hl 0 rfl) ?_
  refine pq_get (D := D) (ci := 1) (v := .ref (a0 1)) (C := RX1) (T := TX1) (N := 14) hx hb hts hiX1 hown hK hP 0 rfl rfl 1 (by decide) k1 rfl rfl dX1_stateBehind_12 ?_
  refine lv_aload_n hx hb dX1_stateBehind_15 rfl (lv_at hl 0 rfl) ?_
  refine pq_get (D := D) (ci := 1) (v := .ref (a0 5)) (C := RX1) (T := TX1) (N := 14) hx hb hts hiX1 hown hK hP 0 rfl rfl 5 (by decide) k2 rfl rfl dX1_stateBehind_16 ?_
  refine lv_iload_n hx hb dX1_stateBehind_19 rfl (lv_at hl 1 rfl) ?_
  refine pq_iald hx hb hK hP 6 0 rfl rfl hf dX1_stateBehind_20 (fun hf => ?_)
  refine lv_iload_n hx hb dX1_stateBehind_21 rfl (lv_at hl 2 rfl) ?_
  refine lv_bipush (v := 21) hx hb dX1_stateBehind_22 (by decide) ?_
  refine lv_idiv hx hb dX1_stateBehind_24 (by decide) ?_
  refine lv_bipush (v := 21) hx hb dX1_stateBehind_25 (by decide) ?_
  refine lv_irem hx hb dX1_stateBehind_27 (by decide) ?_
  refine pq_iast (ws1 := fun g => [cO h0 1 [.ref (a0 0), .ref (a0 1), .ref (a0 2), .ref (a0 3), .ref (a0 4), .ref (a0 5), .ref (a0 6), .ref (a0 7), .ref (a0 8), .int parties_0, .int judges_0, .int cases_0, .int next_0, .int f_1], cI cy (a0 0) 6 kind_0, cI cy (a0 1) 6 g, cI cy (a0 2) 6 wins_0, cI cy (a0 3) 6 lean_0, cI cy (a0 4) 6 favours_0, cI cy (a0 5) 12 plaintiff_0, cI cy (a0 6) 12 defendant_0, cI cy (a0 7) 12 weight_0, cI cy (a0 8) 12 winner_0]) hx hb hK hP hD hS 2 0 rfl rfl (fun _ => rfl) hf dX1_stateBehind_28 (fun grievance_0_2 H locs hf hP hD hS => ?_)
  refine lv_aload_n hx hb dX1_stateBehind_29 rfl (lv_at hl 0 rfl) ?_
  refine pq_get (D := D) (ci := 1) (v := .ref (a0 1)) (C := RX1) (T := TX1) (N := 14) hx hb hts hiX1 hown hK hP 0 rfl rfl 1 (by decide) k1 rfl rfl dX1_stateBehind_30 ?_
  refine lv_aload_n hx hb dX1_stateBehind_33 rfl (lv_at hl 0 rfl) ?_
  refine pq_get (D := D) (ci := 1) (v := .ref (a0 6)) (C := RX1) (T := TX1) (N := 14) hx hb hts hiX1 hown hK hP 0 rfl rfl 6 (by decide) k3 rfl rfl dX1_stateBehind_34 ?_
  refine lv_iload_n hx hb dX1_stateBehind_37 rfl (lv_at hl 1 rfl) ?_
  refine pq_iald hx hb hK hP 7 0 rfl rfl hf dX1_stateBehind_38 (fun hf => ?_)
  refine lv_iload_n hx hb dX1_stateBehind_39 rfl (lv_at hl 2 rfl) ?_
  refine lv_bipush (v := 21) hx hb dX1_stateBehind_40 (by decide) ?_
  refine lv_irem hx hb dX1_stateBehind_42 (by decide) ?_
  refine pq_iast (ws1 := fun g => [cO h0 1 [.ref (a0 0), .ref (a0 1), .ref (a0 2), .ref (a0 3), .ref (a0 4), .ref (a0 5), .ref (a0 6), .ref (a0 7), .ref (a0 8), .int parties_0, .int judges_0, .int cases_0, .int next_0, .int f_1], cI cy (a0 0) 6 kind_0, cI cy (a0 1) 6 g, cI cy (a0 2) 6 wins_0, cI cy (a0 3) 6 lean_0, cI cy (a0 4) 6 favours_0, cI cy (a0 5) 12 plaintiff_0, cI cy (a0 6) 12 defendant_0, cI cy (a0 7) 12 weight_0, cI cy (a0 8) 12 winner_0]) hx hb hK hP hD hS 2 0 rfl rfl (fun _ => rfl) hf dX1_stateBehind_43 (fun grievance_0_3 H locs hf hP hD hS => ?_)
  refine lv_aload_n hx hb dX1_stateBehind_44 rfl (lv_at hl 0 rfl) ?_
  refine lv_iload_n hx hb dX1_stateBehind_45 rfl (lv_at hl 1 rfl) ?_
  refine lv_iconst (v := 0) hx hb dX1_stateBehind_46 (by decide) ?_
  refine pq_cVv (w1 := fun r => [cO h0 1 [.ref (a0 0), .ref (a0 1), .ref (a0 2), .ref (a0 3), .ref (a0 4), .ref (a0 5), .ref (a0 6), .ref (a0 7), .ref (a0 8), .int parties_0, .int judges_0, .int cases_0, .int next_0, .int r.1], cI cy (a0 0) 6 kind_0, cI cy (a0 1) 6 r.2.1, cI cy (a0 2) 6 r.2.2.1, cI cy (a0 3) 6 lean_0, cI cy (a0 4) 6 favours_0, cI cy (a0 5) 12 plaintiff_0, cI cy (a0 6) 12 defendant_0, cI cy (a0 7) 12 weight_0, cI cy (a0 8) 12 r.2.2.2]) (ws1 := fun r => [cO h0 1 [.ref (a0 0), .ref (a0 1), .ref (a0 2), .ref (a0 3), .ref (a0 4), .ref (a0 5), .ref (a0 6), .ref (a0 7), .ref (a0 8), .int parties_0, .int judges_0, .int cases_0, .int next_0, .int r.1], cI cy (a0 0) 6 kind_0, cI cy (a0 1) 6 r.2.1, cI cy (a0 2) 6 r.2.2.1, cI cy (a0 3) 6 lean_0, cI cy (a0 4) 6 favours_0, cI cy (a0 5) 12 plaintiff_0, cI cy (a0 6) 12 defendant_0, cI cy (a0 7) 12 weight_0, cI cy (a0 8) 12 r.2.2.2]) (wc := [cO h0 1 [.ref (a0 0), .ref (a0 1), .ref (a0 2), .ref (a0 3), .ref (a0 4), .ref (a0 5), .ref (a0 6), .ref (a0 7), .ref (a0 8), .int parties_0, .int judges_0, .int cases_0, .int next_0, .int f_1], cI cy (a0 0) 6 kind_0, cI cy (a0 1) 6 grievance_0_3, cI cy (a0 2) 6 wins_0, cI cy (a0 3) 6 lean_0, cI cy (a0 4) 6 favours_0, cI cy (a0 5) 12 plaintiff_0, cI cy (a0 6) 12 defendant_0, cI cy (a0 7) 12 weight_0, cI cy (a0 8) 12 winner_0]) (wr := []) (As := [.int p1, .int 0]) (rest := []) (b := h0) (C := RX1) ⟨hx, hb, hml, hown, hts⟩ hf (fun r hr => c_X1_settle l D cy N h0 a0 parties_0 judges_0 cases_0 next_0 f_1 kind_0 grievance_0_3 wins_0 lean_0 favours_0 plaintiff_0 defendant_0 weight_0 winner_0 p1 0 r hr) (cwV 2 hts gX1_stateBehind_X1_settle rfl rfl rfl (by decide +kernel) ⟨Nat.le_of_ble_eq_true rfl, Nat.le_of_ble_eq_true rfl⟩) hK hP hD hS hA 0 1 rfl rfl [0, 1, 2, 3, 4, 5, 6, 7, 8, 9] [] [0, 1, 2, 3, 4, 5, 6, 7, 8, 9] rfl rfl rfl rfl (by decide) (fun _ => rfl) rfl rfl hl.1 rfl (Nat.le_of_ble_eq_true rfl) ⟨Nat.zero_le _, Nat.zero_le _⟩ dX1_stateBehind_47 (fun r_4 H locs hf hP hD hS => ?_)
  refine lv_aload_n hx hb dX1_stateBehind_50 rfl (lv_at hl 0 rfl) ?_
  refine lv_iload_n hx hb dX1_stateBehind_51 rfl (lv_at hl 1 rfl) ?_
  refine pq_cVi (rz := fun r => r) (w1 := fun r => [cO h0 1 [.ref (a0 0), .ref (a0 1), .ref (a0 2), .ref (a0 3), .ref (a0 4), .ref (a0 5), .ref (a0 6), .ref (a0 7), .ref (a0 8), .int parties_0, .int judges_0, .int cases_0, .int next_0, .int r_4.1], cI cy (a0 0) 6 kind_0, cI cy (a0 1) 6 r_4.2.1, cI cy (a0 2) 6 r_4.2.2.1, cI cy (a0 3) 6 lean_0, cI cy (a0 4) 6 favours_0, cI cy (a0 5) 12 plaintiff_0, cI cy (a0 6) 12 defendant_0, cI cy (a0 7) 12 weight_0, cI cy (a0 8) 12 r_4.2.2.2]) (ws1 := fun r => [cO h0 1 [.ref (a0 0), .ref (a0 1), .ref (a0 2), .ref (a0 3), .ref (a0 4), .ref (a0 5), .ref (a0 6), .ref (a0 7), .ref (a0 8), .int parties_0, .int judges_0, .int cases_0, .int next_0, .int r_4.1], cI cy (a0 0) 6 kind_0, cI cy (a0 1) 6 r_4.2.1, cI cy (a0 2) 6 r_4.2.2.1, cI cy (a0 3) 6 lean_0, cI cy (a0 4) 6 favours_0, cI cy (a0 5) 12 plaintiff_0, cI cy (a0 6) 12 defendant_0, cI cy (a0 7) 12 weight_0, cI cy (a0 8) 12 r_4.2.2.2]) (wc := [cO h0 1 [.ref (a0 0), .ref (a0 1), .ref (a0 2), .ref (a0 3), .ref (a0 4), .ref (a0 5), .ref (a0 6), .ref (a0 7), .ref (a0 8), .int parties_0, .int judges_0, .int cases_0, .int next_0, .int r_4.1], cI cy (a0 0) 6 kind_0, cI cy (a0 1) 6 r_4.2.1, cI cy (a0 2) 6 r_4.2.2.1, cI cy (a0 3) 6 lean_0, cI cy (a0 4) 6 favours_0, cI cy (a0 5) 12 plaintiff_0, cI cy (a0 6) 12 defendant_0, cI cy (a0 7) 12 weight_0, cI cy (a0 8) 12 r_4.2.2.2]) (wr := []) (As := [.int p1]) (rest := []) (b := h0) (C := RX1) ⟨hx, hb, hml, hown, hts⟩ hf (fun r hr => c_X1_stateOf l D cy N h0 a0 parties_0 judges_0 cases_0 next_0 r_4.1 kind_0 r_4.2.1 r_4.2.2.1 lean_0 favours_0 plaintiff_0 defendant_0 weight_0 r_4.2.2.2 p1 r hr) (cwV 1 hts gX1_stateBehind_X1_stateOf rfl rfl rfl (by decide +kernel) ⟨Nat.le_of_ble_eq_true rfl, Nat.le_of_ble_eq_true rfl⟩) hK hP hD hS hA 0 1 rfl rfl [0, 1, 2, 3, 4, 5, 6, 7, 8, 9] [] [0, 1, 2, 3, 4, 5, 6, 7, 8, 9] rfl rfl rfl rfl (by decide) (fun _ => rfl) rfl rfl hl.1 rfl (Nat.le_of_ble_eq_true rfl) ⟨Nat.zero_le _, Nat.zero_le _⟩ dX1_stateBehind_52 (fun r_5 H locs hf hP hD hS => ?_)
  rw [hQ]
  exact pq_iret hx hb hr hlocks hK hP hD hS hf (fun z => z.1) (fun z => [cO h0 1 [.ref (a0 0), .ref (a0 1), .ref (a0 2), .ref (a0 3), .ref (a0 4), .ref (a0 5), .ref (a0 6), .ref (a0 7), .ref (a0 8), .int parties_0, .int judges_0, .int cases_0, .int next_0, .int z.2.1], cI cy (a0 0) 6 kind_0, cI cy (a0 1) 6 z.2.2.1, cI cy (a0 2) 6 z.2.2.2.1, cI cy (a0 3) 6 lean_0, cI cy (a0 4) 6 favours_0, cI cy (a0 5) 12 plaintiff_0, cI cy (a0 6) 12 defendant_0, cI cy (a0 7) 12 weight_0, cI cy (a0 8) 12 z.2.2.2.2]) rfl rfl dX1_stateBehind_55
