abbrev rm_X0_takeBackHearing : Room := { frames := 0, cells := 0, slots := 0, locals := 0 }
set_option maxHeartbeats 4000000 in
set_option maxRecDepth 100000 in
theorem c_X0_takeBackHearing (l : Launch) (D : va_G) (cy : Nat → ClassId) (N : Nat) (h0 : Nat) (a0 : Nat → Nat) (h1 : Nat) (a1 : Nat → Nat) (what_0 : Int32) (one_0 : Int32) (other_0 : Int32) (before_0 : Int32) (beforeOther_0 : Int32) (sat_0 : Int32) (parties_1 : Int32) (judges_1 : Int32) (cases_1 : Int32) (next_1 : Int32) (sits_1 : Int32) (kind_1 : Nat → Int32) (grievance_1 : Nat → Int32) (wins_1 : Nat → Int32) (lean_1 : Nat → Int32) (favours_1 : Nat → Int32) (plaintiff_1 : Nat → Int32) (defendant_1 : Nat → Int32) (weight_1 : Nat → Int32) (winner_1 : Nat → Int32) (z : Int32 × Int32 × (Nat → Int32) × (Nat → Int32) × (Nat → Int32)) (hf : f_X0_takeBackHearing N one_0 before_0 beforeOther_0 sat_0 next_1 sits_1 grievance_1 wins_1 plaintiff_1 defendant_1 winner_1 = some z) : pq_MV l yX0_takeBackHearing wsX0_takeBackHearing rm_X0_takeBackHearing D cy [.ref h0, .ref h1] [cO h0 0 [.int what_0, .int one_0, .int other_0, .int before_0, .int beforeOther_0, .int sat_0], cO h1 1 [.ref (a1 0), .ref (a1 1), .ref (a1 2), .ref (a1 3), .ref (a1 4), .ref (a1 5), .ref (a1 6), .ref (a1 7), .ref (a1 8), .int parties_1, .int judges_1, .int cases_1, .int next_1, .int sits_1], cI cy (a1 0) 6 kind_1, cI cy (a1 1) 6 grievance_1, cI cy (a1 2) 6 wins_1, cI cy (a1 3) 6 lean_1, cI cy (a1 4) 6 favours_1, cI cy (a1 5) 12 plaintiff_1, cI cy (a1 6) 12 defendant_1, cI cy (a1 7) 12 weight_1, cI cy (a1 8) 12 winner_1] [cO h0 0 [.int what_0, .int one_0, .int other_0, .int before_0, .int beforeOther_0, .int sat_0], cO h1 1 [.ref (a1 0), .ref (a1 1), .ref (a1 2), .ref (a1 3), .ref (a1 4), .ref (a1 5), .ref (a1 6), .ref (a1 7), .ref (a1 8), .int parties_1, .int judges_1, .int cases_1, .int z.1, .int z.2.1], cI cy (a1 0) 6 kind_1, cI cy (a1 1) 6 z.2.2.1, cI cy (a1 2) 6 z.2.2.2.1, cI cy (a1 3) 6 lean_1, cI cy (a1 4) 6 favours_1, cI cy (a1 5) 12 plaintiff_1, cI cy (a1 6) 12 defendant_1, cI cy (a1 7) 12 weight_1, cI cy (a1 8) 12 z.2.2.2.2] := by
  intro sz
  refine pq_ent (Qf := fun A => pq_Qv D cy A [cO h0 0 [.int what_0, .int one_0, .int other_0, .int before_0, .int beforeOther_0, .int sat_0], cO h1 1 [.ref (a1 0), .ref (a1 1), .ref (a1 2), .ref (a1 3), .ref (a1 4), .ref (a1 5), .ref (a1 6), .ref (a1 7), .ref (a1 8), .int parties_1, .int judges_1, .int cases_1, .int z.1, .int z.2.1], cI cy (a1 0) 6 kind_1, cI cy (a1 1) 6 z.2.2.1, cI cy (a1 2) 6 z.2.2.2.1, cI cy (a1 3) 6 lean_1, cI cy (a1 4) 6 favours_1, cI cy (a1 5) 12 plaintiff_1, cI cy (a1 6) 12 defendant_1, cI cy (a1 7) 12 weight_1, cI cy (a1 8) 12 z.2.2.2.2]) (cc := cX0_takeBackHearing) (maxL := 2) (ret := none) (by decide) rfl (Nat.le_of_ble_eq_true rfl) ?_
  intro p e s m args below meth c A ls Q hQ X hK hP hD hA hS hl
  obtain ⟨hx, hb, hr, hts, hown, hlocks, hml⟩ := X
  have hl : lv_has ls 2 [(0, .ref h0), (1, .ref h1)] := hl
  unfold f_X0_takeBackHearing at hf
  have hiX0 : ∀ w ∈ wsX00, w ∈ wsX0_takeBackHearing := by decide +kernel
  have hiX1 : ∀ w ∈ wsX10, w ∈ wsX0_takeBackHearing := by decide +kernel
  have k0 := hts (.fieldLink RX0 50 "LoserPicks$Circuit" "wins" "[I") (by decide +kernel)
  have k1 := hts (.fieldLink RX0 53 "LoserPicks$Circuit" "winner" "[I") (by decide +kernel)
  have k2 := hts (.fieldLink RX0 15 "LoserPicks$Act" "one" "I") (by decide +kernel)
  have k3 := hts (.fieldLink RX0 40 "LoserPicks$Circuit" "grievance" "[I") (by decide +kernel)
  have k4 := hts (.fieldLink RX0 56 "LoserPicks$Circuit" "plaintiff" "[I") (by decide +kernel)
  have k5 := hts (.fieldLink RX0 21 "LoserPicks$Act" "before" "I") (by decide +kernel)
  have k6 := hts (.fieldLink RX0 59 "LoserPicks$Circuit" "defendant" "[I") (by decide +kernel)
  have k7 := hts (.fieldLink RX0 24 "LoserPicks$Act" "beforeOther" "I") (by decide +kernel)
  have k8 := hts (.fieldLink RX0 27 "LoserPicks$Act" "sat" "I") (by decide +kernel)
  have k9 := hts (.fieldLink RX0 44 "LoserPicks$Circuit" "sits" "I") (by decide +kernel)
  have k10 := hts (.fieldLink RX0 62 "LoserPicks$Circuit" "next" "I") (by decide +kernel)
  refine lv_aload_n hx hb dX0_takeBackHearing_0 rfl (lv_at hl 1 rfl) ?_
  refine pq_get (D := D) (ci := 1) (v := .ref (a1 2)) (C := RX1) (T := TX1) (N := 14) hx hb hts hiX1 hown hK hP 1 rfl rfl 2 (by decide) k0 rfl rfl dX0_takeBackHearing_1 ?_
  refine lv_aload_n hx hb dX0_takeBackHearing_4 rfl (lv_at hl 1 rfl) ?_
  refine pq_get (D := D) (ci := 1) (v := .ref (a1 8)) (C := RX1) (T := TX1) (N := 14) hx hb hts hiX1 hown hK hP 1 rfl rfl 8 (by decide) k1 rfl rfl dX0_takeBackHearing_5 ?_
  refine lv_aload_n hx hb dX0_takeBackHearing_8 rfl (lv_at hl 0 rfl) ?_
  refine pq_get (D := D) (ci := 0) (v := .int one_0) (C := RX0) (T := TX0) (N := 6) hx hb hts hiX0 hown hK hP 0 rfl rfl 1 (by decide) k2 rfl rfl dX0_takeBackHearing_9 ?_
  refine pq_iald hx hb hK hP 10 0 rfl rfl hf dX0_takeBackHearing_12 (fun hf => ?_)
  refine lv_dup2_11 hx hb dX0_takeBackHearing_13 rfl rfl ?_
  refine pq_iald hx hb hK hP 4 0 rfl rfl hf dX0_takeBackHearing_14 (fun hf => ?_)
  refine lv_iconst (v := 1) hx hb dX0_takeBackHearing_15 (by decide) ?_
  refine lv_isub hx hb dX0_takeBackHearing_16 ?_
  refine pq_iast (ws1 := fun g => [cO h0 0 [.int what_0, .int one_0, .int other_0, .int before_0, .int beforeOther_0, .int sat_0], cO h1 1 [.ref (a1 0), .ref (a1 1), .ref (a1 2), .ref (a1 3), .ref (a1 4), .ref (a1 5), .ref (a1 6), .ref (a1 7), .ref (a1 8), .int parties_1, .int judges_1, .int cases_1, .int next_1, .int sits_1], cI cy (a1 0) 6 kind_1, cI cy (a1 1) 6 grievance_1, cI cy (a1 2) 6 g, cI cy (a1 3) 6 lean_1, cI cy (a1 4) 6 favours_1, cI cy (a1 5) 12 plaintiff_1, cI cy (a1 6) 12 defendant_1, cI cy (a1 7) 12 weight_1, cI cy (a1 8) 12 winner_1]) hx hb hK hP hD hS 4 0 rfl rfl (fun _ => rfl) hf dX0_takeBackHearing_17 (fun wins_1_1 H locs hf hP hD hS => ?_)
  refine lv_aload_n hx hb dX0_takeBackHearing_18 rfl (lv_at hl 1 rfl) ?_
  refine pq_get (D := D) (ci := 1) (v := .ref (a1 8)) (C := RX1) (T := TX1) (N := 14) hx hb hts hiX1 hown hK hP 1 rfl rfl 8 (by decide) k1 rfl rfl dX0_takeBackHearing_19 ?_
  refine lv_aload_n hx hb dX0_takeBackHearing_22 rfl (lv_at hl 0 rfl) ?_
  refine pq_get (D := D) (ci := 0) (v := .int one_0) (C := RX0) (T := TX0) (N := 6) hx hb hts hiX0 hown hK hP 0 rfl rfl 1 (by decide) k2 rfl rfl dX0_takeBackHearing_23 ?_
  refine lv_bipush (v := (-4)) hx hb dX0_takeBackHearing_26 (by decide) ?_
  refine pq_iast (ws1 := fun g => [cO h0 0 [.int what_0, .int one_0, .int other_0, .int before_0, .int beforeOther_0, .int sat_0], cO h1 1 [.ref (a1 0), .ref (a1 1), .ref (a1 2), .ref (a1 3), .ref (a1 4), .ref (a1 5), .ref (a1 6), .ref (a1 7), .ref (a1 8), .int parties_1, .int judges_1, .int cases_1, .int next_1, .int sits_1], cI cy (a1 0) 6 kind_1, cI cy (a1 1) 6 grievance_1, cI cy (a1 2) 6 wins_1_1, cI cy (a1 3) 6 lean_1, cI cy (a1 4) 6 favours_1, cI cy (a1 5) 12 plaintiff_1, cI cy (a1 6) 12 defendant_1, cI cy (a1 7) 12 weight_1, cI cy (a1 8) 12 g]) hx hb hK hP hD hS 10 0 rfl rfl (fun _ => rfl) hf dX0_takeBackHearing_28 (fun winner_1_2 H locs hf hP hD hS => ?_)
  refine lv_aload_n hx hb dX0_takeBackHearing_29 rfl (lv_at hl 1 rfl) ?_
  refine pq_get (D := D) (ci := 1) (v := .ref (a1 1)) (C := RX1) (T := TX1) (N := 14) hx hb hts hiX1 hown hK hP 1 rfl rfl 1 (by decide) k3 rfl rfl dX0_takeBackHearing_30 ?_
  refine lv_aload_n hx hb dX0_takeBackHearing_33 rfl (lv_at hl 1 rfl) ?_
  refine pq_get (D := D) (ci := 1) (v := .ref (a1 5)) (C := RX1) (T := TX1) (N := 14) hx hb hts hiX1 hown hK hP 1 rfl rfl 5 (by decide) k4 rfl rfl dX0_takeBackHearing_34 ?_
  refine lv_aload_n hx hb dX0_takeBackHearing_37 rfl (lv_at hl 0 rfl) ?_
  refine pq_get (D := D) (ci := 0) (v := .int one_0) (C := RX0) (T := TX0) (N := 6) hx hb hts hiX0 hown hK hP 0 rfl rfl 1 (by decide) k2 rfl rfl dX0_takeBackHearing_38 ?_
  refine pq_iald hx hb hK hP 7 0 rfl rfl hf dX0_takeBackHearing_41 (fun hf => ?_)
  refine lv_aload_n hx hb dX0_takeBackHearing_42 rfl (lv_at hl 0 rfl) ?_
  refine pq_get (D := D) (ci := 0) (v := .int before_0) (C := RX0) (T := TX0) (N := 6) hx hb hts hiX0 hown hK hP 0 rfl rfl 3 (by decide) k5 rfl rfl dX0_takeBackHearing_43 ?_
  refine pq_iast (ws1 := fun g => [cO h0 0 [.int what_0, .int one_0, .int other_0, .int before_0, .int beforeOther_0, .int sat_0], cO h1 1 [.ref (a1 0), .ref (a1 1), .ref (a1 2), .ref (a1 3), .ref (a1 4), .ref (a1 5), .ref (a1 6), .ref (a1 7), .ref (a1 8), .int parties_1, .int judges_1, .int cases_1, .int next_1, .int sits_1], cI cy (a1 0) 6 kind_1, cI cy (a1 1) 6 g, cI cy (a1 2) 6 wins_1_1, cI cy (a1 3) 6 lean_1, cI cy (a1 4) 6 favours_1, cI cy (a1 5) 12 plaintiff_1, cI cy (a1 6) 12 defendant_1, cI cy (a1 7) 12 weight_1, cI cy (a1 8) 12 winner_1_2]) hx hb hK hP hD hS 3 0 rfl rfl (fun _ => rfl) hf dX0_takeBackHearing_46 (fun grievance_1_3 H locs hf hP hD hS => ?_)
  refine lv_aload_n hx hb dX0_takeBackHearing_47 rfl (lv_at hl 1 rfl) ?_
  refine pq_get (D := D) (ci := 1) (v := .ref (a1 1)) (C := RX1) (T := TX1) (N := 14) hx hb hts hiX1 hown hK hP 1 rfl rfl 1 (by decide) k3 rfl rfl dX0_takeBackHearing_48 ?_
  refine lv_aload_n hx hb dX0_takeBackHearing_51 rfl (lv_at hl 1 rfl) ?_
  refine pq_get (D := D) (ci := 1) (v := .ref (a1 6)) (C := RX1) (T := TX1) (N := 14) hx hb hts hiX1 hown hK hP 1 rfl rfl 6 (by decide) k6 rfl rfl dX0_takeBackHearing_52 ?_
  refine lv_aload_n hx hb dX0_takeBackHearing_55 rfl (lv_at hl 0 rfl) ?_
  refine pq_get (D := D) (ci := 0) (v := .int one_0) (C := RX0) (T := TX0) (N := 6) hx hb hts hiX0 hown hK hP 0 rfl rfl 1 (by decide) k2 rfl rfl dX0_takeBackHearing_56 ?_
  refine pq_iald hx hb hK hP 8 0 rfl rfl hf dX0_takeBackHearing_59 (fun hf => ?_)
  refine lv_aload_n hx hb dX0_takeBackHearing_60 rfl (lv_at hl 0 rfl) ?_
  refine pq_get (D := D) (ci := 0) (v := .int beforeOther_0) (C := RX0) (T := TX0) (N := 6) hx hb hts hiX0 hown hK hP 0 rfl rfl 4 (by decide) k7 rfl rfl dX0_takeBackHearing_61 ?_
  refine pq_iast (ws1 := fun g => [cO h0 0 [.int what_0, .int one_0, .int other_0, .int before_0, .int beforeOther_0, .int sat_0], cO h1 1 [.ref (a1 0), .ref (a1 1), .ref (a1 2), .ref (a1 3), .ref (a1 4), .ref (a1 5), .ref (a1 6), .ref (a1 7), .ref (a1 8), .int parties_1, .int judges_1, .int cases_1, .int next_1, .int sits_1], cI cy (a1 0) 6 kind_1, cI cy (a1 1) 6 g, cI cy (a1 2) 6 wins_1_1, cI cy (a1 3) 6 lean_1, cI cy (a1 4) 6 favours_1, cI cy (a1 5) 12 plaintiff_1, cI cy (a1 6) 12 defendant_1, cI cy (a1 7) 12 weight_1, cI cy (a1 8) 12 winner_1_2]) hx hb hK hP hD hS 3 0 rfl rfl (fun _ => rfl) hf dX0_takeBackHearing_64 (fun grievance_1_4 H locs hf hP hD hS => ?_)
  refine lv_aload_n hx hb dX0_takeBackHearing_65 rfl (lv_at hl 1 rfl) ?_
  refine lv_aload_n hx hb dX0_takeBackHearing_66 rfl (lv_at hl 0 rfl) ?_
  refine pq_get (D := D) (ci := 0) (v := .int sat_0) (C := RX0) (T := TX0) (N := 6) hx hb hts hiX0 hown hK hP 0 rfl rfl 5 (by decide) k8 rfl rfl dX0_takeBackHearing_67 ?_
  refine pq_put (D := D) (ci := 1) (v := .int sat_0) (C := RX1) (T := TX1) (N := 14) (ws1 := [cO h0 0 [.int what_0, .int one_0, .int other_0, .int before_0, .int beforeOther_0, .int sat_0], cO h1 1 [.ref (a1 0), .ref (a1 1), .ref (a1 2), .ref (a1 3), .ref (a1 4), .ref (a1 5), .ref (a1 6), .ref (a1 7), .ref (a1 8), .int parties_1, .int judges_1, .int cases_1, .int next_1, .int sat_0], cI cy (a1 0) 6 kind_1, cI cy (a1 1) 6 grievance_1_4, cI cy (a1 2) 6 wins_1_1, cI cy (a1 3) 6 lean_1, cI cy (a1 4) 6 favours_1, cI cy (a1 5) 12 plaintiff_1, cI cy (a1 6) 12 defendant_1, cI cy (a1 7) 12 weight_1, cI cy (a1 8) 12 winner_1_2]) hx hb hts hiX1 tyX1 tyX1_ok nmX1 hown hK hP hD hS 1 rfl rfl 13 (by decide) k9 rfl rfl .int (by decide +kernel) rfl rfl (Nat.le_of_ble_eq_true rfl) rfl dX0_takeBackHearing_70 (fun H locs hP hD hS => ?_)
  refine lv_aload_n hx hb dX0_takeBackHearing_73 rfl (lv_at hl 1 rfl) ?_
  refine lv_aload_n hx hb dX0_takeBackHearing_74 rfl (lv_at hl 0 rfl) ?_
  refine pq_get (D := D) (ci := 0) (v := .int one_0) (C := RX0) (T := TX0) (N := 6) hx hb hts hiX0 hown hK hP 0 rfl rfl 1 (by decide) k2 rfl rfl dX0_takeBackHearing_75 ?_
  refine pq_put (D := D) (ci := 1) (v := .int one_0) (C := RX1) (T := TX1) (N := 14) (ws1 := [cO h0 0 [.int what_0, .int one_0, .int other_0, .int before_0, .int beforeOther_0, .int sat_0], cO h1 1 [.ref (a1 0), .ref (a1 1), .ref (a1 2), .ref (a1 3), .ref (a1 4), .ref (a1 5), .ref (a1 6), .ref (a1 7), .ref (a1 8), .int parties_1, .int judges_1, .int cases_1, .int one_0, .int sat_0], cI cy (a1 0) 6 kind_1, cI cy (a1 1) 6 grievance_1_4, cI cy (a1 2) 6 wins_1_1, cI cy (a1 3) 6 lean_1, cI cy (a1 4) 6 favours_1, cI cy (a1 5) 12 plaintiff_1, cI cy (a1 6) 12 defendant_1, cI cy (a1 7) 12 weight_1, cI cy (a1 8) 12 winner_1_2]) hx hb hts hiX1 tyX1 tyX1_ok nmX1 hown hK hP hD hS 1 rfl rfl 12 (by decide) k10 rfl rfl .int (by decide +kernel) rfl rfl (Nat.le_of_ble_eq_true rfl) rfl dX0_takeBackHearing_78 (fun H locs hP hD hS => ?_)
  rw [hQ]
  exact pq_vret hx hb hr hlocks hK hP hD hS hf (fun z => [cO h0 0 [.int what_0, .int one_0, .int other_0, .int before_0, .int beforeOther_0, .int sat_0], cO h1 1 [.ref (a1 0), .ref (a1 1), .ref (a1 2), .ref (a1 3), .ref (a1 4), .ref (a1 5), .ref (a1 6), .ref (a1 7), .ref (a1 8), .int parties_1, .int judges_1, .int cases_1, .int z.1, .int z.2.1], cI cy (a1 0) 6 kind_1, cI cy (a1 1) 6 z.2.2.1, cI cy (a1 2) 6 z.2.2.2.1, cI cy (a1 3) 6 lean_1, cI cy (a1 4) 6 favours_1, cI cy (a1 5) 12 plaintiff_1, cI cy (a1 6) 12 defendant_1, cI cy (a1 7) 12 weight_1, cI cy (a1 8) 12 z.2.2.2.2]) rfl dX0_takeBackHearing_81

abbrev rm_X0_takeBack : Room := { frames := 2, cells := 0, slots := 0, locals := 45 }
set_option maxHeartbeats 4000000 in
set_option maxRecDepth 100000 in
theorem c_X0_takeBack (l : Launch) (D : va_G) (cy : Nat → ClassId) (N : Nat) (h0 : Nat) (a0 : Nat → Nat) (h1 : Nat) (a1 : Nat → Nat) (what_0 : Int32) (one_0 : Int32) (other_0 : Int32) (before_0 : Int32) (beforeOther_0 : Int32) (sat_0 : Int32) (parties_1 : Int32) (judges_1 : Int32) (cases_1 : Int32) (next_1 : Int32) (sits_1 : Int32) (kind_1 : Nat → Int32) (grievance_1 : Nat → Int32) (wins_1 : Nat → Int32) (lean_1 : Nat → Int32) (favours_1 : Nat → Int32) (plaintiff_1 : Nat → Int32) (defendant_1 : Nat → Int32) (weight_1 : Nat → Int32) (winner_1 : Nat → Int32) (z : Int32 × Int32 × (Nat → Int32) × (Nat → Int32) × (Nat → Int32) × (Nat → Int32) × (Nat → Int32) × (Nat → Int32) × (Nat → Int32)) (hf : f_X0_takeBack N what_0 one_0 other_0 before_0 beforeOther_0 sat_0 next_1 sits_1 grievance_1 wins_1 lean_1 plaintiff_1 defendant_1 weight_1 winner_1 = some z) : pq_MV l yX0_takeBack wsX0_takeBack rm_X0_takeBack D cy [.ref h0, .ref h1] [cO h0 0 [.int what_0, .int one_0, .int other_0, .int before_0, .int beforeOther_0, .int sat_0], cO h1 1 [.ref (a1 0), .ref (a1 1), .ref (a1 2), .ref (a1 3), .ref (a1 4), .ref (a1 5), .ref (a1 6), .ref (a1 7), .ref (a1 8), .int parties_1, .int judges_1, .int cases_1, .int next_1, .int sits_1], cI cy (a1 0) 6 kind_1, cI cy (a1 1) 6 grievance_1, cI cy (a1 2) 6 wins_1, cI cy (a1 3) 6 lean_1, cI cy (a1 4) 6 favours_1, cI cy (a1 5) 12 plaintiff_1, cI cy (a1 6) 12 defendant_1, cI cy (a1 7) 12 weight_1, cI cy (a1 8) 12 winner_1] [cO h0 0 [.int what_0, .int one_0, .int other_0, .int before_0, .int beforeOther_0, .int sat_0], cO h1 1 [.ref (a1 0), .ref (a1 1), .ref (a1 2), .ref (a1 3), .ref (a1 4), .ref (a1 5), .ref (a1 6), .ref (a1 7), .ref (a1 8), .int parties_1, .int judges_1, .int cases_1, .int z.1, .int z.2.1], cI cy (a1 0) 6 kind_1, cI cy (a1 1) 6 z.2.2.1, cI cy (a1 2) 6 z.2.2.2.1, cI cy (a1 3) 6 z.2.2.2.2.1, cI cy (a1 4) 6 favours_1, cI cy (a1 5) 12 z.2.2.2.2.2.1, cI cy (a1 6) 12 z.2.2.2.2.2.2.1, cI cy (a1 7) 12 z.2.2.2.2.2.2.2.1, cI cy (a1 8) 12 z.2.2.2.2.2.2.2.2] := by
  intro sz
  refine pq_ent (Qf := fun A => pq_Qv D cy A [cO h0 0 [.int what_0, .int one_0, .int other_0, .int before_0, .int beforeOther_0, .int sat_0], cO h1 1 [.ref (a1 0), .ref (a1 1), .ref (a1 2), .ref (a1 3), .ref (a1 4), .ref (a1 5), .ref (a1 6), .ref (a1 7), .ref (a1 8), .int parties_1, .int judges_1, .int cases_1, .int z.1, .int z.2.1], cI cy (a1 0) 6 kind_1, cI cy (a1 1) 6 z.2.2.1, cI cy (a1 2) 6 z.2.2.2.1, cI cy (a1 3) 6 z.2.2.2.2.1, cI cy (a1 4) 6 favours_1, cI cy (a1 5) 12 z.2.2.2.2.2.1, cI cy (a1 6) 12 z.2.2.2.2.2.2.1, cI cy (a1 7) 12 z.2.2.2.2.2.2.2.1, cI cy (a1 8) 12 z.2.2.2.2.2.2.2.2]) (cc := cX0_takeBack) (maxL := 2) (ret := none) (by decide) rfl (Nat.le_of_ble_eq_true rfl) ?_
  intro p e s m args below meth c A ls Q hQ X hK hP hD hA hS hl
  obtain ⟨hx, hb, hr, hts, hown, hlocks, hml⟩ := X
  have hl : lv_has ls 2 [(0, .ref h0), (1, .ref h1)] := hl
  unfold f_X0_takeBack at hf
  have hiX0 : ∀ w ∈ wsX00, w ∈ wsX0_takeBack := by decide +kernel
  have hiX1 : ∀ w ∈ wsX10, w ∈ wsX0_takeBack := by decide +kernel
  have k0 := hts (.fieldLink RX0 9 "LoserPicks$Act" "what" "I") (by decide +kernel)
  have k1 := hts (.fieldLink RX0 47 "LoserPicks$Circuit" "lean" "[I") (by decide +kernel)
  have k2 := hts (.fieldLink RX0 15 "LoserPicks$Act" "one" "I") (by decide +kernel)
  have k3 := hts (.fieldLink RX0 21 "LoserPicks$Act" "before" "I") (by decide +kernel)
  have k4 := hts (.fieldLink RX0 18 "LoserPicks$Act" "other" "I") (by decide +kernel)
  have k5 := hts (.fieldLink RX0 40 "LoserPicks$Circuit" "grievance" "[I") (by decide +kernel)
  have k6 := hts (.fieldLink RX0 27 "LoserPicks$Act" "sat" "I") (by decide +kernel)
  have k7 := hts (.fieldLink RX0 44 "LoserPicks$Circuit" "sits" "I") (by decide +kernel)
  refine lv_aload_n hx hb dX0_takeBack_0 rfl (lv_at hl 0 rfl) ?_
  refine pq_get (D := D) (ci := 0) (v := .int what_0) (C := RX0) (T := TX0) (N := 6) hx hb hts hiX0 hown hK hP 0 rfl rfl 0 (by decide) k0 rfl rfl dX0_takeBack_1 ?_
  rcases Classical.em (what_0 = 0) with c0 | c0
  · have hf := pq_it hf c0
    rw [c0]
    refine lv_tableIn (tgt := 36) hx hb dX0_takeBack_4 (by decide) (by decide) rfl (by decide) ?_
    refine lv_aload_n hx hb dX0_takeBack_36 rfl (lv_at hl 0 rfl) ?_
    refine lv_aload_n hx hb dX0_takeBack_37 rfl (lv_at hl 1 rfl) ?_
    refine pq_cVv (w1 := fun r => [cO h0 0 [.int what_0, .int one_0, .int other_0, .int before_0, .int beforeOther_0, .int sat_0], cO h1 1 [.ref (a1 0), .ref (a1 1), .ref (a1 2), .ref (a1 3), .ref (a1 4), .ref (a1 5), .ref (a1 6), .ref (a1 7), .ref (a1 8), .int parties_1, .int judges_1, .int cases_1, .int r.1, .int r.2.1], cI cy (a1 0) 6 kind_1, cI cy (a1 1) 6 r.2.2.1, cI cy (a1 2) 6 r.2.2.2.1, cI cy (a1 3) 6 lean_1, cI cy (a1 4) 6 favours_1, cI cy (a1 5) 12 plaintiff_1, cI cy (a1 6) 12 defendant_1, cI cy (a1 7) 12 weight_1, cI cy (a1 8) 12 r.2.2.2.2]) (ws1 := fun r => [cO h0 0 [.int what_0, .int one_0, .int other_0, .int before_0, .int beforeOther_0, .int sat_0], cO h1 1 [.ref (a1 0), .ref (a1 1), .ref (a1 2), .ref (a1 3), .ref (a1 4), .ref (a1 5), .ref (a1 6), .ref (a1 7), .ref (a1 8), .int parties_1, .int judges_1, .int cases_1, .int r.1, .int r.2.1], cI cy (a1 0) 6 kind_1, cI cy (a1 1) 6 r.2.2.1, cI cy (a1 2) 6 r.2.2.2.1, cI cy (a1 3) 6 lean_1, cI cy (a1 4) 6 favours_1, cI cy (a1 5) 12 plaintiff_1, cI cy (a1 6) 12 defendant_1, cI cy (a1 7) 12 weight_1, cI cy (a1 8) 12 r.2.2.2.2]) (wc := [cO h0 0 [.int what_0, .int one_0, .int other_0, .int before_0, .int beforeOther_0, .int sat_0], cO h1 1 [.ref (a1 0), .ref (a1 1), .ref (a1 2), .ref (a1 3), .ref (a1 4), .ref (a1 5), .ref (a1 6), .ref (a1 7), .ref (a1 8), .int parties_1, .int judges_1, .int cases_1, .int next_1, .int sits_1], cI cy (a1 0) 6 kind_1, cI cy (a1 1) 6 grievance_1, cI cy (a1 2) 6 wins_1, cI cy (a1 3) 6 lean_1, cI cy (a1 4) 6 favours_1, cI cy (a1 5) 12 plaintiff_1, cI cy (a1 6) 12 defendant_1, cI cy (a1 7) 12 weight_1, cI cy (a1 8) 12 winner_1]) (wr := []) (As := [.ref h1]) (rest := []) (b := h0) (C := RX0) ⟨hx, hb, hml, hown, hts⟩ hf (fun r hr => c_X0_takeBackHearing l D cy N h0 a0 h1 a1 what_0 one_0 other_0 before_0 beforeOther_0 sat_0 parties_1 judges_1 cases_1 next_1 sits_1 kind_1 grievance_1 wins_1 lean_1 favours_1 plaintiff_1 defendant_1 weight_1 winner_1 r hr) (cwV 1 hts gX0_takeBack_X0_takeBackHearing rfl rfl rfl (by decide +kernel) ⟨Nat.le_of_ble_eq_true rfl, Nat.le_of_ble_eq_true rfl⟩) hK hP hD hS hA 0 0 rfl rfl [0, 1, 2, 3, 4, 5, 6, 7, 8, 9, 10] [] [0, 1, 2, 3, 4, 5, 6, 7, 8, 9, 10] rfl rfl rfl rfl (by decide) (fun _ => rfl) rfl rfl hl.1 rfl (Nat.le_of_ble_eq_true rfl) ⟨Nat.zero_le _, Nat.zero_le _⟩ dX0_takeBack_38 (fun r_2 H locs hf hP hD hS => ?_)
    refine lv_goto (tgt := 99) hx hb dX0_takeBack_41 (by decide) ?_
    rw [hQ]
    exact pq_vret hx hb hr hlocks hK hP hD hS hf (fun z => [cO h0 0 [.int what_0, .int one_0, .int other_0, .int before_0, .int beforeOther_0, .int sat_0], cO h1 1 [.ref (a1 0), .ref (a1 1), .ref (a1 2), .ref (a1 3), .ref (a1 4), .ref (a1 5), .ref (a1 6), .ref (a1 7), .ref (a1 8), .int parties_1, .int judges_1, .int cases_1, .int z.1, .int z.2.1], cI cy (a1 0) 6 kind_1, cI cy (a1 1) 6 z.2.2.1, cI cy (a1 2) 6 z.2.2.2.1, cI cy (a1 3) 6 z.2.2.2.2.1, cI cy (a1 4) 6 favours_1, cI cy (a1 5) 12 z.2.2.2.2.2.1, cI cy (a1 6) 12 z.2.2.2.2.2.2.1, cI cy (a1 7) 12 z.2.2.2.2.2.2.2.1, cI cy (a1 8) 12 z.2.2.2.2.2.2.2.2]) rfl dX0_takeBack_99
  · have hf := pq_if hf c0
    rcases Classical.em (what_0 = 1) with c1 | c1
    · have hf := pq_it hf c1
      rw [c1]
      refine lv_tableIn (tgt := 44) hx hb dX0_takeBack_4 (by decide) (by decide) rfl (by decide) ?_
      refine lv_aload_n hx hb dX0_takeBack_44 rfl (lv_at hl 1 rfl) ?_
      refine lv_aload_n hx hb dX0_takeBack_45 rfl (lv_at hl 0 rfl) ?_
      refine pq_get (D := D) (ci := 0) (v := .int one_0) (C := RX0) (T := TX0) (N := 6) hx hb hts hiX0 hown hK hP 0 rfl rfl 1 (by decide) k2 rfl rfl dX0_takeBack_46 ?_
      refine lv_aload_n hx hb dX0_takeBack_49 rfl (lv_at hl 0 rfl) ?_
      refine pq_get (D := D) (ci := 0) (v := .int other_0) (C := RX0) (T := TX0) (N := 6) hx hb hts hiX0 hown hK hP 0 rfl rfl 2 (by decide) k4 rfl rfl dX0_takeBack_50 ?_
      refine pq_cVv (w1 := fun r => [cO h1 1 [.ref (a1 0), .ref (a1 1), .ref (a1 2), .ref (a1 3), .ref (a1 4), .ref (a1 5), .ref (a1 6), .ref (a1 7), .ref (a1 8), .int parties_1, .int judges_1, .int cases_1, .int next_1, .int sits_1], cI cy (a1 0) 6 kind_1, cI cy (a1 1) 6 grievance_1, cI cy (a1 2) 6 wins_1, cI cy (a1 3) 6 lean_1, cI cy (a1 4) 6 favours_1, cI cy (a1 5) 12 r.1, cI cy (a1 6) 12 r.2.1, cI cy (a1 7) 12 r.2.2, cI cy (a1 8) 12 winner_1]) (ws1 := fun r => [cO h0 0 [.int what_0, .int one_0, .int other_0, .int before_0, .int beforeOther_0, .int sat_0], cO h1 1 [.ref (a1 0), .ref (a1 1), .ref (a1 2), .ref (a1 3), .ref (a1 4), .ref (a1 5), .ref (a1 6), .ref (a1 7), .ref (a1 8), .int parties_1, .int judges_1, .int cases_1, .int next_1, .int sits_1], cI cy (a1 0) 6 kind_1, cI cy (a1 1) 6 grievance_1, cI cy (a1 2) 6 wins_1, cI cy (a1 3) 6 lean_1, cI cy (a1 4) 6 favours_1, cI cy (a1 5) 12 r.1, cI cy (a1 6) 12 r.2.1, cI cy (a1 7) 12 r.2.2, cI cy (a1 8) 12 winner_1]) (wc := [cO h1 1 [.ref (a1 0), .ref (a1 1), .ref (a1 2), .ref (a1 3), .ref (a1 4), .ref (a1 5), .ref (a1 6), .ref (a1 7), .ref (a1 8), .int parties_1, .int judges_1, .int cases_1, .int next_1, .int sits_1], cI cy (a1 0) 6 kind_1, cI cy (a1 1) 6 grievance_1, cI cy (a1 2) 6 wins_1, cI cy (a1 3) 6 lean_1, cI cy (a1 4) 6 favours_1, cI cy (a1 5) 12 plaintiff_1, cI cy (a1 6) 12 defendant_1, cI cy (a1 7) 12 weight_1, cI cy (a1 8) 12 winner_1]) (wr := [cO h0 0 [.int what_0, .int one_0, .int other_0, .int before_0, .int beforeOther_0, .int sat_0]]) (As := [.int one_0, .int other_0]) (rest := []) (b := h1) (C := RX1) ⟨hx, hb, hml, hown, hts⟩ hf (fun r hr => c_X1_exchange l D cy N h1 a1 parties_1 judges_1 cases_1 next_1 sits_1 kind_1 grievance_1 wins_1 lean_1 favours_1 plaintiff_1 defendant_1 weight_1 winner_1 one_0 other_0 r hr) (cwV 2 hts gX0_takeBack_X1_exchange rfl rfl rfl (by decide +kernel) ⟨Nat.le_of_ble_eq_true rfl, Nat.le_of_ble_eq_true rfl⟩) hK hP hD hS hA 0 1 rfl rfl [1, 2, 3, 4, 5, 6, 7, 8, 9, 10] [0] [0, 1, 2, 3, 4, 5, 6, 7, 8, 9, 10] rfl rfl rfl rfl (by decide) (fun _ => rfl) rfl rfl hl.1 rfl (Nat.le_of_ble_eq_true rfl) ⟨Nat.zero_le _, Nat.zero_le _⟩ dX0_takeBack_53 (fun r_3 H locs hf hP hD hS => ?_)
      refine lv_goto (tgt := 99) hx hb dX0_takeBack_56 (by decide) ?_
      rw [hQ]
      exact pq_vret hx hb hr hlocks hK hP hD hS hf (fun z => [cO h0 0 [.int what_0, .int one_0, .int other_0, .int before_0, .int beforeOther_0, .int sat_0], cO h1 1 [.ref (a1 0), .ref (a1 1), .ref (a1 2), .ref (a1 3), .ref (a1 4), .ref (a1 5), .ref (a1 6), .ref (a1 7), .ref (a1 8), .int parties_1, .int judges_1, .int cases_1, .int z.1, .int z.2.1], cI cy (a1 0) 6 kind_1, cI cy (a1 1) 6 z.2.2.1, cI cy (a1 2) 6 z.2.2.2.1, cI cy (a1 3) 6 z.2.2.2.2.1, cI cy (a1 4) 6 favours_1, cI cy (a1 5) 12 z.2.2.2.2.2.1, cI cy (a1 6) 12 z.2.2.2.2.2.2.1, cI cy (a1 7) 12 z.2.2.2.2.2.2.2.1, cI cy (a1 8) 12 z.2.2.2.2.2.2.2.2]) rfl dX0_takeBack_99
    · have hf := pq_if hf c1
      rcases Classical.em (what_0 = 2) with c2 | c2
      · have hf := pq_it hf c2
        rw [c2]
        refine lv_tableIn (tgt := 59) hx hb dX0_takeBack_4 (by decide) (by decide) rfl (by decide) ?_
        refine lv_aload_n hx hb dX0_takeBack_59 rfl (lv_at hl 1 rfl) ?_
        refine pq_get (D := D) (ci := 1) (v := .ref (a1 1)) (C := RX1) (T := TX1) (N := 14) hx hb hts hiX1 hown hK hP 1 rfl rfl 1 (by decide) k5 rfl rfl dX0_takeBack_60 ?_
        refine lv_aload_n hx hb dX0_takeBack_63 rfl (lv_at hl 0 rfl) ?_
        refine pq_get (D := D) (ci := 0) (v := .int one_0) (C := RX0) (T := TX0) (N := 6) hx hb hts hiX0 hown hK hP 0 rfl rfl 1 (by decide) k2 rfl rfl dX0_takeBack_64 ?_
        refine lv_aload_n hx hb dX0_takeBack_67 rfl (lv_at hl 0 rfl) ?_
        refine pq_get (D := D) (ci := 0) (v := .int before_0) (C := RX0) (T := TX0) (N := 6) hx hb hts hiX0 hown hK hP 0 rfl rfl 3 (by decide) k3 rfl rfl dX0_takeBack_68 ?_
        refine pq_iast (ws1 := fun g => [cO h0 0 [.int what_0, .int one_0, .int other_0, .int before_0, .int beforeOther_0, .int sat_0], cO h1 1 [.ref (a1 0), .ref (a1 1), .ref (a1 2), .ref (a1 3), .ref (a1 4), .ref (a1 5), .ref (a1 6), .ref (a1 7), .ref (a1 8), .int parties_1, .int judges_1, .int cases_1, .int next_1, .int sits_1], cI cy (a1 0) 6 kind_1, cI cy (a1 1) 6 g, cI cy (a1 2) 6 wins_1, cI cy (a1 3) 6 lean_1, cI cy (a1 4) 6 favours_1, cI cy (a1 5) 12 plaintiff_1, cI cy (a1 6) 12 defendant_1, cI cy (a1 7) 12 weight_1, cI cy (a1 8) 12 winner_1]) hx hb hK hP hD hS 3 0 rfl rfl (fun _ => rfl) hf dX0_takeBack_71 (fun grievance_1_4 H locs hf hP hD hS => ?_)
        refine lv_goto (tgt := 99) hx hb dX0_takeBack_72 (by decide) ?_
        rw [hQ]
        exact pq_vret hx hb hr hlocks hK hP hD hS hf (fun z => [cO h0 0 [.int what_0, .int one_0, .int other_0, .int before_0, .int beforeOther_0, .int sat_0], cO h1 1 [.ref (a1 0), .ref (a1 1), .ref (a1 2), .ref (a1 3), .ref (a1 4), .ref (a1 5), .ref (a1 6), .ref (a1 7), .ref (a1 8), .int parties_1, .int judges_1, .int cases_1, .int z.1, .int z.2.1], cI cy (a1 0) 6 kind_1, cI cy (a1 1) 6 z.2.2.1, cI cy (a1 2) 6 z.2.2.2.1, cI cy (a1 3) 6 z.2.2.2.2.1, cI cy (a1 4) 6 favours_1, cI cy (a1 5) 12 z.2.2.2.2.2.1, cI cy (a1 6) 12 z.2.2.2.2.2.2.1, cI cy (a1 7) 12 z.2.2.2.2.2.2.2.1, cI cy (a1 8) 12 z.2.2.2.2.2.2.2.2]) rfl dX0_takeBack_99
      · have hf := pq_if hf c2
        rcases Classical.em (what_0 = 3) with c3 | c3
        · have hf := pq_it hf c3
          rw [c3]
          refine lv_tableIn (tgt := 75) hx hb dX0_takeBack_4 (by decide) (by decide) rfl (by decide) ?_
          refine lv_aload_n hx hb dX0_takeBack_75 rfl (lv_at hl 1 rfl) ?_
          refine lv_aload_n hx hb dX0_takeBack_76 rfl (lv_at hl 0 rfl) ?_
          refine pq_get (D := D) (ci := 0) (v := .int sat_0) (C := RX0) (T := TX0) (N := 6) hx hb hts hiX0 hown hK hP 0 rfl rfl 5 (by decide) k6 rfl rfl dX0_takeBack_77 ?_
          refine pq_put (D := D) (ci := 1) (v := .int sat_0) (C := RX1) (T := TX1) (N := 14) (ws1 := [cO h0 0 [.int what_0, .int one_0, .int other_0, .int before_0, .int beforeOther_0, .int sat_0], cO h1 1 [.ref (a1 0), .ref (a1 1), .ref (a1 2), .ref (a1 3), .ref (a1 4), .ref (a1 5), .ref (a1 6), .ref (a1 7), .ref (a1 8), .int parties_1, .int judges_1, .int cases_1, .int next_1, .int sat_0], cI cy (a1 0) 6 kind_1, cI cy (a1 1) 6 grievance_1, cI cy (a1 2) 6 wins_1, cI cy (a1 3) 6 lean_1, cI cy (a1 4) 6 favours_1, cI cy (a1 5) 12 plaintiff_1, cI cy (a1 6) 12 defendant_1, cI cy (a1 7) 12 weight_1, cI cy (a1 8) 12 winner_1]) hx hb hts hiX1 tyX1 tyX1_ok nmX1 hown hK hP hD hS 1 rfl rfl 13 (by decide) k7 rfl rfl .int (by decide +kernel) rfl rfl (Nat.le_of_ble_eq_true rfl) rfl dX0_takeBack_80 (fun H locs hP hD hS => ?_)
          refine lv_goto (tgt := 99) hx hb dX0_takeBack_83 (by decide) ?_
          rw [hQ]
          exact pq_vret hx hb hr hlocks hK hP hD hS hf (fun z => [cO h0 0 [.int what_0, .int one_0, .int other_0, .int before_0, .int beforeOther_0, .int sat_0], cO h1 1 [.ref (a1 0), .ref (a1 1), .ref (a1 2), .ref (a1 3), .ref (a1 4), .ref (a1 5), .ref (a1 6), .ref (a1 7), .ref (a1 8), .int parties_1, .int judges_1, .int cases_1, .int z.1, .int z.2.1], cI cy (a1 0) 6 kind_1, cI cy (a1 1) 6 z.2.2.1, cI cy (a1 2) 6 z.2.2.2.1, cI cy (a1 3) 6 z.2.2.2.2.1, cI cy (a1 4) 6 favours_1, cI cy (a1 5) 12 z.2.2.2.2.2.1, cI cy (a1 6) 12 z.2.2.2.2.2.2.1, cI cy (a1 7) 12 z.2.2.2.2.2.2.2.1, cI cy (a1 8) 12 z.2.2.2.2.2.2.2.2]) rfl dX0_takeBack_99
        · have hf := pq_if hf c3
          refine lv_tableOut (tgt := 86) hx hb dX0_takeBack_4 (by have e0 := pq_ne c0 (show (0 : Int32).toInt = 0 from rfl); have e1 := pq_ne c1 (show (1 : Int32).toInt = 1 from rfl); have e2 := pq_ne c2 (show (2 : Int32).toInt = 2 from rfl); have e3 := pq_ne c3 (show (3 : Int32).toInt = 3 from rfl); omega) (by decide) ?_
          refine lv_aload_n hx hb dX0_takeBack_86 rfl (lv_at hl 1 rfl) ?_
          refine pq_get (D := D) (ci := 1) (v := .ref (a1 3)) (C := RX1) (T := TX1) (N := 14) hx hb hts hiX1 hown hK hP 1 rfl rfl 3 (by decide) k1 rfl rfl dX0_takeBack_87 ?_
          refine lv_aload_n hx hb dX0_takeBack_90 rfl (lv_at hl 0 rfl) ?_
          refine pq_get (D := D) (ci := 0) (v := .int one_0) (C := RX0) (T := TX0) (N := 6) hx hb hts hiX0 hown hK hP 0 rfl rfl 1 (by decide) k2 rfl rfl dX0_takeBack_91 ?_
          refine lv_aload_n hx hb dX0_takeBack_94 rfl (lv_at hl 0 rfl) ?_
          refine pq_get (D := D) (ci := 0) (v := .int before_0) (C := RX0) (T := TX0) (N := 6) hx hb hts hiX0 hown hK hP 0 rfl rfl 3 (by decide) k3 rfl rfl dX0_takeBack_95 ?_
          refine pq_iast (ws1 := fun g => [cO h0 0 [.int what_0, .int one_0, .int other_0, .int before_0, .int beforeOther_0, .int sat_0], cO h1 1 [.ref (a1 0), .ref (a1 1), .ref (a1 2), .ref (a1 3), .ref (a1 4), .ref (a1 5), .ref (a1 6), .ref (a1 7), .ref (a1 8), .int parties_1, .int judges_1, .int cases_1, .int next_1, .int sits_1], cI cy (a1 0) 6 kind_1, cI cy (a1 1) 6 grievance_1, cI cy (a1 2) 6 wins_1, cI cy (a1 3) 6 g, cI cy (a1 4) 6 favours_1, cI cy (a1 5) 12 plaintiff_1, cI cy (a1 6) 12 defendant_1, cI cy (a1 7) 12 weight_1, cI cy (a1 8) 12 winner_1]) hx hb hK hP hD hS 5 0 rfl rfl (fun _ => rfl) hf dX0_takeBack_98 (fun lean_1_1 H locs hf hP hD hS => ?_)
          rw [hQ]
          exact pq_vret hx hb hr hlocks hK hP hD hS hf (fun z => [cO h0 0 [.int what_0, .int one_0, .int other_0, .int before_0, .int beforeOther_0, .int sat_0], cO h1 1 [.ref (a1 0), .ref (a1 1), .ref (a1 2), .ref (a1 3), .ref (a1 4), .ref (a1 5), .ref (a1 6), .ref (a1 7), .ref (a1 8), .int parties_1, .int judges_1, .int cases_1, .int z.1, .int z.2.1], cI cy (a1 0) 6 kind_1, cI cy (a1 1) 6 z.2.2.1, cI cy (a1 2) 6 z.2.2.2.1, cI cy (a1 3) 6 z.2.2.2.2.1, cI cy (a1 4) 6 favours_1, cI cy (a1 5) 12 z.2.2.2.2.2.1, cI cy (a1 6) 12 z.2.2.2.2.2.2.1, cI cy (a1 7) 12 z.2.2.2.2.2.2.2.1, cI cy (a1 8) 12 z.2.2.2.2.2.2.2.2]) rfl dX0_takeBack_99

abbrev rm_X2_take : Room := { frames := 0, cells := 0, slots := 0, locals := 0 }
set_option maxHeartbeats 4000000 in
set_option maxRecDepth 100000 in
theorem c_X2_take (l : Launch) (D : va_G) (cy : Nat → ClassId) (N : Nat) (h0 : Nat) (a0 : Nat → Nat) (h1 : Nat) (a1 : Nat → Nat) (pairs_0 : Int32) (first_0 : Nat → Int32) (second_0 : Nat → Int32) (alike_0 : Nat → Int32) (held_1 : Int32) (lane_1 : Int32) (size_1 : Int32) (items_1 : Nat → Int64) (p2 : Int32) (p3 : Int32) (p4 : Int32) (p5 : Int32) (z : Int32 × Int32 × (Nat → Int32) × (Nat → Int32)) (hf : f_X2_take N pairs_0 first_0 second_0 items_1 p2 p3 p4 p5 = some z) : pq_MI l yX2_take wsX2_take rm_X2_take D cy [.ref h0, .ref h1, .int p2, .int p3, .int p4, .int p5] [cO h0 2 [.ref (a0 0), .ref (a0 1), .ref (a0 2), .int pairs_0], cI cy (a0 0) 10 first_0, cI cy (a0 1) 10 second_0, cI cy (a0 2) 6 alike_0, cO h1 5 [.ref (a1 0), .int held_1, .int lane_1, .int size_1], cJ cy (a1 0) 24 items_1] [cO h0 2 [.ref (a0 0), .ref (a0 1), .ref (a0 2), .int z.2.1], cI cy (a0 0) 10 z.2.2.1, cI cy (a0 1) 10 z.2.2.2, cI cy (a0 2) 6 alike_0, cO h1 5 [.ref (a1 0), .int held_1, .int lane_1, .int size_1], cJ cy (a1 0) 24 items_1] (z.1) := by
  intro sz
  refine pq_ent (Qf := fun A => pq_Qi D cy A [cO h0 2 [.ref (a0 0), .ref (a0 1), .ref (a0 2), .int z.2.1], cI cy (a0 0) 10 z.2.2.1, cI cy (a0 1) 10 z.2.2.2, cI cy (a0 2) 6 alike_0, cO h1 5 [.ref (a1 0), .int held_1, .int lane_1, .int size_1], cJ cy (a1 0) 24 items_1] (z.1)) (cc := cX2_take) (maxL := 11) (ret := (some .boolean)) (by decide) rfl (Nat.le_of_ble_eq_true rfl) ?_
  intro p e s m args below meth c A ls Q hQ X hK hP hD hA hS hl
  obtain ⟨hx, hb, hr, hts, hown, hlocks, hml⟩ := X
  have hl : lv_has ls 11 [(0, .ref h0), (1, .ref h1), (2, .int p2), (3, .int p3), (4, .int p4), (5, .int p5)] := hl
  unfold f_X2_take at hf
  have hiX2 : ∀ w ∈ wsX20, w ∈ wsX2_take := by decide +kernel
  have hiX5 : ∀ w ∈ wsX50, w ∈ wsX2_take := by decide +kernel
  have k0 := hts (.fieldLink RX2 21 "LoserPicks$Clues" "pairs" "I") (by decide +kernel)
  have k1 := hts (.fieldLink RX2 25 "LoserPicks$Sheet" "items" "[J") (by decide +kernel)
  have k2 := hts (.fieldLink RX2 9 "LoserPicks$Clues" "first" "[I") (by decide +kernel)
  have k3 := hts (.fieldLink RX2 15 "LoserPicks$Clues" "second" "[I") (by decide +kernel)
  refine lv_aload_n hx hb dX2_take_0 rfl (lv_at hl 0 rfl) ?_
  refine lv_iload_n hx hb dX2_take_1 rfl (lv_at hl 3 rfl) ?_
  refine pq_put (D := D) (ci := 2) (v := .int p3) (C := RX2) (T := TX2) (N := 4) (ws1 := [cO h0 2 [.ref (a0 0), .ref (a0 1), .ref (a0 2), .int p3], cI cy (a0 0) 10 first_0, cI cy (a0 1) 10 second_0, cI cy (a0 2) 6 alike_0, cO h1 5 [.ref (a1 0), .int held_1, .int lane_1, .int size_1], cJ cy (a1 0) 24 items_1]) hx hb hts hiX2 tyX2 tyX2_ok nmX2 hown hK hP hD hS 0 rfl rfl 3 (by decide) k0 rfl rfl .int (by decide +kernel) rfl rfl (Nat.le_of_ble_eq_true rfl) rfl dX2_take_2 (fun H locs hP hD hS => ?_)
  refine lv_iconst (v := 0) hx hb dX2_take_5 (by decide) ?_
  refine lv_istore (lv' := [(6, .int 0), (0, .ref h0), (1, .ref h1), (2, .int p2), (3, .int p3), (4, .int p4), (5, .int p5)]) hx hb dX2_take_6 hl (by decide) rfl (fun ls hl => ?_)
  have hL8 : ∀ (n : Nat) (x6_L8 : Int32) (first_0_L8 : Nat → Int32) (second_0_L8 : Nat → Int32) (H : Heap) (locs : List Loc) (ls : Array Slot), pq_w (fun _ _ _ => none) (f_X2_take_L8 N items_1 p2 p3 p4 p5) n x6_L8 first_0_L8 second_0_L8 = some z → va_P D vwCl [cO h0 2 [.ref (a0 0), .ref (a0 1), .ref (a0 2), .int p3], cI cy (a0 0) 10 first_0_L8, cI cy (a0 1) 10 second_0_L8, cI cy (a0 2) 6 alike_0, cO h1 5 [.ref (a1 0), .int held_1, .int lane_1, .int size_1], cJ cy (a1 0) 24 items_1] H → va_D A [cO h0 2 [.ref (a0 0), .ref (a0 1), .ref (a0 2), .int p3], cI cy (a0 0) 10 first_0_L8, cI cy (a0 1) 10 second_0_L8, cI cy (a0 2) 6 alike_0, cO h1 5 [.ref (a1 0), .int held_1, .int lane_1, .int size_1], cJ cy (a1 0) 24 items_1] → va_S A s.heap H locs → lv_has ls 11 [(0, .ref h0), (1, .ref h1), (2, .int p2), (3, .int p3), (4, .int p4), (5, .int p5), (6, .int x6_L8)] → W p l e rm_X2_take s m args below meth c H locs 0 0 Q (F0 m 8 ls []) := by
    intro n
    induction n with
    | zero =>
      intro x6_L8 first_0_L8 second_0_L8 H locs ls hf
      exact absurd (show none = some z from hf) (fun h => nomatch h)
    | succ n ihL8 =>
      intro x6_L8 first_0_L8 second_0_L8 H locs ls hf hP hD hS hl
      have hf : (f_X2_take_L8 N items_1 p2 p3 p4 p5) (pq_w (fun _ _ _ => none) (f_X2_take_L8 N items_1 p2 p3 p4 p5) n) x6_L8 first_0_L8 second_0_L8 = some z := hf
      generalize pq_w (fun _ _ _ => none) (f_X2_take_L8 N items_1 p2 p3 p4 p5) n = kL8 at hf ihL8
      unfold f_X2_take_L8 at hf
      refine lv_iload hx hb dX2_take_8 (lv_at hl 6 rfl) ?_
      refine lv_iload_n hx hb dX2_take_10 rfl (lv_at hl 3 rfl) ?_
      refine pq_icmp_ge hx hb 102 hf dX2_take_11 (by decide) (fun _ hf => ?_) (fun _ hf => ?_)
      · refine lv_iconst (v := 1) hx hb dX2_take_102 (by decide) ?_
        rw [hQ]
        exact pq_zret hx hb hr hlocks hK hP hD hS hf (fun z => z.1) (fun z => [cO h0 2 [.ref (a0 0), .ref (a0 1), .ref (a0 2), .int z.2.1], cI cy (a0 0) 10 z.2.2.1, cI cy (a0 1) 10 z.2.2.2, cI cy (a0 2) 6 alike_0, cO h1 5 [.ref (a1 0), .int held_1, .int lane_1, .int size_1], cJ cy (a1 0) 24 items_1]) rfl rfl dX2_take_103
      · refine lv_aload_n hx hb dX2_take_14 rfl (lv_at hl 1 rfl) ?_
        refine pq_get (D := D) (ci := 5) (v := .ref (a1 0)) (C := RX5) (T := TX5) (N := 4) hx hb hts hiX5 hown hK hP 4 rfl rfl 0 (by decide) k1 rfl rfl dX2_take_15 ?_
        refine lv_iload_n hx hb dX2_take_18 rfl (lv_at hl 2 rfl) ?_
        refine lv_iconst (v := 2) hx hb dX2_take_19 (by decide) ?_
        refine lv_iload hx hb dX2_take_20 (lv_at hl 6 rfl) ?_
        refine lv_imul hx hb dX2_take_22 ?_
        refine lv_iadd hx hb dX2_take_23 ?_
        refine pq_lald hx hb hK hP 5 1 rfl rfl hf dX2_take_24 (fun hf => ?_)
        refine pq_ll hf (fun x7_1 hf => ?_)
        refine lv_lstore (lv' := [(7, .long x7_1), (0, .ref h0), (1, .ref h1), (2, .int p2), (3, .int p3), (4, .int p4), (5, .int p5), (6, .int x6_L8)]) hx hb dX2_take_25 hl (by decide) rfl (fun ls hl => ?_)
        refine lv_aload_n hx hb dX2_take_27 rfl (lv_at hl 2 rfl) ?_
        refine pq_get (D := D) (ci := 5) (v := .ref (a1 0)) (C := RX5) (T := TX5) (N := 4) hx hb hts hiX5 hown hK hP 4 rfl rfl 0 (by decide) k1 rfl rfl dX2_take_28 ?_
        refine lv_iload_n hx hb dX2_take_31 rfl (lv_at hl 3 rfl) ?_
        refine lv_iconst (v := 2) hx hb dX2_take_32 (by decide) ?_
        refine lv_iload hx hb dX2_take_33 (lv_at hl 7 rfl) ?_
        refine lv_imul hx hb dX2_take_35 ?_
        refine lv_iadd hx hb dX2_take_36 ?_
        refine lv_iconst (v := 1) hx hb dX2_take_37 (by decide) ?_
        refine lv_iadd hx hb dX2_take_38 ?_
        refine pq_lald hx hb hK hP 5 1 rfl rfl hf dX2_take_39 (fun hf => ?_)
        refine pq_ll hf (fun x9_2 hf => ?_)
        refine lv_lstore (lv' := [(9, .long x9_2), (7, .long x7_1), (0, .ref h0), (1, .ref h1), (2, .int p2), (3, .int p3), (4, .int p4), (5, .int p5), (6, .int x6_L8)]) hx hb dX2_take_40 hl (by decide) rfl (fun ls hl => ?_)
        refine lv_lload hx hb dX2_take_42 (lv_at hl 1 rfl) ?_
        refine lv_lconst (v := 0) hx hb dX2_take_44 (by decide) ?_
        refine W.lcmp hx hb dX2_take_45 ?_
        refine pq_if_lt hx hb 74 hf dX2_take_46 (by decide) (fun _ hf => ?_) (fun _ hf => ?_)
        · refine lv_iconst (v := 0) hx hb dX2_take_74 (by decide) ?_
          rw [hQ]
          exact pq_zret hx hb hr hlocks hK hP hD hS hf (fun z => z.1) (fun z => [cO h0 2 [.ref (a0 0), .ref (a0 1), .ref (a0 2), .int z.2.1], cI cy (a0 0) 10 z.2.2.1, cI cy (a0 1) 10 z.2.2.2, cI cy (a0 2) 6 alike_0, cO h1 5 [.ref (a1 0), .int held_1, .int lane_1, .int size_1], cJ cy (a1 0) 24 items_1]) rfl rfl dX2_take_75
        · refine lv_lload hx hb dX2_take_49 (lv_at hl 1 rfl) ?_
          refine lv_iload hx hb dX2_take_51 (lv_at hl 6 rfl) ?_
          refine lv_i2l (v := (p4 : Int32).toInt64) hx hb dX2_take_53 rfl ?_
          refine W.lcmp hx hb dX2_take_54 ?_
          refine pq_if_ge hx hb 74 hf dX2_take_55 (by decide) (fun _ hf => ?_) (fun _ hf => ?_)
          · refine lv_iconst (v := 0) hx hb dX2_take_74 (by decide) ?_
            rw [hQ]
            exact pq_zret hx hb hr hlocks hK hP hD hS hf (fun z => z.1) (fun z => [cO h0 2 [.ref (a0 0), .ref (a0 1), .ref (a0 2), .int z.2.1], cI cy (a0 0) 10 z.2.2.1, cI cy (a0 1) 10 z.2.2.2, cI cy (a0 2) 6 alike_0, cO h1 5 [.ref (a1 0), .int held_1, .int lane_1, .int size_1], cJ cy (a1 0) 24 items_1]) rfl rfl dX2_take_75
          · refine lv_lload hx hb dX2_take_58 (lv_at hl 0 rfl) ?_
            refine lv_lconst (v := 0) hx hb dX2_take_60 (by decide) ?_
            refine W.lcmp hx hb dX2_take_61 ?_
            refine pq_if_lt hx hb 74 hf dX2_take_62 (by decide) (fun _ hf => ?_) (fun _ hf => ?_)
            · refine lv_iconst (v := 0) hx hb dX2_take_74 (by decide) ?_
              rw [hQ]
              exact pq_zret hx hb hr hlocks hK hP hD hS hf (fun z => z.1) (fun z => [cO h0 2 [.ref (a0 0), .ref (a0 1), .ref (a0 2), .int z.2.1], cI cy (a0 0) 10 z.2.2.1, cI cy (a0 1) 10 z.2.2.2, cI cy (a0 2) 6 alike_0, cO h1 5 [.ref (a1 0), .int held_1, .int lane_1, .int size_1], cJ cy (a1 0) 24 items_1]) rfl rfl dX2_take_75
            · refine lv_lload hx hb dX2_take_65 (lv_at hl 0 rfl) ?_
              refine lv_iload hx hb dX2_take_67 (lv_at hl 7 rfl) ?_
              refine lv_i2l (v := (p5 : Int32).toInt64) hx hb dX2_take_69 rfl ?_
              refine W.lcmp hx hb dX2_take_70 ?_
              refine pq_if_lt hx hb 76 hf dX2_take_71 (by decide) (fun _ hf => ?_) (fun _ hf => ?_)
              · refine lv_aload_n hx hb dX2_take_76 rfl (lv_at hl 2 rfl) ?_
                refine pq_get (D := D) (ci := 2) (v := .ref (a0 0)) (C := RX2) (T := TX2) (N := 4) hx hb hts hiX2 hown hK hP 0 rfl rfl 0 (by decide) k2 rfl rfl dX2_take_77 ?_
                refine lv_iload hx hb dX2_take_80 (lv_at hl 8 rfl) ?_
                refine lv_lload hx hb dX2_take_82 (lv_at hl 1 rfl) ?_
                refine lv_l2i (v := (x7_1 : Int64).toInt32) hx hb dX2_take_84 rfl ?_
                refine pq_iast (ws1 := fun g => [cO h0 2 [.ref (a0 0), .ref (a0 1), .ref (a0 2), .int p3], cI cy (a0 0) 10 g, cI cy (a0 1) 10 second_0_L8, cI cy (a0 2) 6 alike_0, cO h1 5 [.ref (a1 0), .int held_1, .int lane_1, .int size_1], cJ cy (a1 0) 24 items_1]) hx hb hK hP hD hS 1 0 rfl rfl (fun _ => rfl) hf dX2_take_85 (fun first_0_3 H locs hf hP hD hS => ?_)
                refine lv_aload_n hx hb dX2_take_86 rfl (lv_at hl 2 rfl) ?_
                refine pq_get (D := D) (ci := 2) (v := .ref (a0 1)) (C := RX2) (T := TX2) (N := 4) hx hb hts hiX2 hown hK hP 0 rfl rfl 1 (by decide) k3 rfl rfl dX2_take_87 ?_
                refine lv_iload hx hb dX2_take_90 (lv_at hl 8 rfl) ?_
                refine lv_lload hx hb dX2_take_92 (lv_at hl 0 rfl) ?_
                refine lv_l2i (v := (x9_2 : Int64).toInt32) hx hb dX2_take_94 rfl ?_
                refine pq_iast (ws1 := fun g => [cO h0 2 [.ref (a0 0), .ref (a0 1), .ref (a0 2), .int p3], cI cy (a0 0) 10 first_0_3, cI cy (a0 1) 10 g, cI cy (a0 2) 6 alike_0, cO h1 5 [.ref (a1 0), .int held_1, .int lane_1, .int size_1], cJ cy (a1 0) 24 items_1]) hx hb hK hP hD hS 2 0 rfl rfl (fun _ => rfl) hf dX2_take_95 (fun second_0_4 H locs hf hP hD hS => ?_)
                refine pq_iinc (v := x6_L8 + 1) (lv1 := fun y => [(6, .int y), (9, .long x9_2), (7, .long x7_1), (0, .ref h0), (1, .ref h1), (2, .int p2), (3, .int p3), (4, .int p4), (5, .int p5)]) hx hb hf dX2_take_96 hl (kp := 8) rfl rfl (by decide) (fun _ => rfl) (fun x6_5 ls hf hl => ?_)
                refine lv_goto (tgt := 8) hx hb dX2_take_99 (by decide) ?_
                exact ihL8 x6_5 first_0_3 second_0_4 _ _ _ hf hP hD hS (lv_sub hl [3, 4, 5, 6, 7, 8, 0] rfl)
              · refine lv_iconst (v := 0) hx hb dX2_take_74 (by decide) ?_
                rw [hQ]
                exact pq_zret hx hb hr hlocks hK hP hD hS hf (fun z => z.1) (fun z => [cO h0 2 [.ref (a0 0), .ref (a0 1), .ref (a0 2), .int z.2.1], cI cy (a0 0) 10 z.2.2.1, cI cy (a0 1) 10 z.2.2.2, cI cy (a0 2) 6 alike_0, cO h1 5 [.ref (a1 0), .int held_1, .int lane_1, .int size_1], cJ cy (a1 0) 24 items_1]) rfl rfl dX2_take_75
  exact hL8 N 0 first_0 second_0 _ _ _ hf hP hD hS (lv_sub hl [1, 2, 3, 4, 5, 6, 0] rfl)

abbrev rm_X2_leansOf : Room := { frames := 1, cells := 0, slots := 0, locals := 23 }
set_option maxHeartbeats 4000000 in
set_option maxRecDepth 100000 in
theorem c_X2_leansOf (l : Launch) (D : va_G) (cy : Nat → ClassId) (N : Nat) (h0 : Nat) (a0 : Nat → Nat) (h1 : Nat) (a1 : Nat → Nat) (pairs_0 : Int32) (first_0 : Nat → Int32) (second_0 : Nat → Int32) (alike_0 : Nat → Int32) (parties_1 : Int32) (judges_1 : Int32) (cases_1 : Int32) (next_1 : Int32) (sits_1 : Int32) (kind_1 : Nat → Int32) (grievance_1 : Nat → Int32) (wins_1 : Nat → Int32) (lean_1 : Nat → Int32) (favours_1 : Nat → Int32) (plaintiff_1 : Nat → Int32) (defendant_1 : Nat → Int32) (weight_1 : Nat → Int32) (winner_1 : Nat → Int32) (p2 : Int32) (z : Int32) (hf : f_X2_leansOf N pairs_0 first_0 second_0 favours_1 plaintiff_1 defendant_1 weight_1 p2 = some z) : pq_MI l yX2_leansOf wsX2_leansOf rm_X2_leansOf D cy [.ref h0, .ref h1, .int p2] [cO h0 2 [.ref (a0 0), .ref (a0 1), .ref (a0 2), .int pairs_0], cI cy (a0 0) 10 first_0, cI cy (a0 1) 10 second_0, cI cy (a0 2) 6 alike_0, cO h1 1 [.ref (a1 0), .ref (a1 1), .ref (a1 2), .ref (a1 3), .ref (a1 4), .ref (a1 5), .ref (a1 6), .ref (a1 7), .ref (a1 8), .int parties_1, .int judges_1, .int cases_1, .int next_1, .int sits_1], cI cy (a1 0) 6 kind_1, cI cy (a1 1) 6 grievance_1, cI cy (a1 2) 6 wins_1, cI cy (a1 3) 6 lean_1, cI cy (a1 4) 6 favours_1, cI cy (a1 5) 12 plaintiff_1, cI cy (a1 6) 12 defendant_1, cI cy (a1 7) 12 weight_1, cI cy (a1 8) 12 winner_1] [cO h0 2 [.ref (a0 0), .ref (a0 1), .ref (a0 2), .int pairs_0], cI cy (a0 0) 10 first_0, cI cy (a0 1) 10 second_0, cI cy (a0 2) 6 alike_0, cO h1 1 [.ref (a1 0), .ref (a1 1), .ref (a1 2), .ref (a1 3), .ref (a1 4), .ref (a1 5), .ref (a1 6), .ref (a1 7), .ref (a1 8), .int parties_1, .int judges_1, .int cases_1, .int next_1, .int sits_1], cI cy (a1 0) 6 kind_1, cI cy (a1 1) 6 grievance_1, cI cy (a1 2) 6 wins_1, cI cy (a1 3) 6 lean_1, cI cy (a1 4) 6 favours_1, cI cy (a1 5) 12 plaintiff_1, cI cy (a1 6) 12 defendant_1, cI cy (a1 7) 12 weight_1, cI cy (a1 8) 12 winner_1] (z) := by
  intro sz
  refine pq_ent (Qf := fun A => pq_Qi D cy A [cO h0 2 [.ref (a0 0), .ref (a0 1), .ref (a0 2), .int pairs_0], cI cy (a0 0) 10 first_0, cI cy (a0 1) 10 second_0, cI cy (a0 2) 6 alike_0, cO h1 1 [.ref (a1 0), .ref (a1 1), .ref (a1 2), .ref (a1 3), .ref (a1 4), .ref (a1 5), .ref (a1 6), .ref (a1 7), .ref (a1 8), .int parties_1, .int judges_1, .int cases_1, .int next_1, .int sits_1], cI cy (a1 0) 6 kind_1, cI cy (a1 1) 6 grievance_1, cI cy (a1 2) 6 wins_1, cI cy (a1 3) 6 lean_1, cI cy (a1 4) 6 favours_1, cI cy (a1 5) 12 plaintiff_1, cI cy (a1 6) 12 defendant_1, cI cy (a1 7) 12 weight_1, cI cy (a1 8) 12 winner_1] (z)) (cc := cX2_leansOf) (maxL := 8) (ret := (some .int)) (by decide) rfl (Nat.le_of_ble_eq_true rfl) ?_
  intro p e s m args below meth c A ls Q hQ X hK hP hD hA hS hl
  obtain ⟨hx, hb, hr, hts, hown, hlocks, hml⟩ := X
  have hl : lv_has ls 8 [(0, .ref h0), (1, .ref h1), (2, .int p2)] := hl
  unfold f_X2_leansOf at hf
  have hiX2 : ∀ w ∈ wsX20, w ∈ wsX2_leansOf := by decide +kernel
  have k0 := hts (.fieldLink RX2 21 "LoserPicks$Clues" "pairs" "I") (by decide +kernel)
  have k1 := hts (.fieldLink RX2 9 "LoserPicks$Clues" "first" "[I") (by decide +kernel)
  have k2 := hts (.fieldLink RX2 15 "LoserPicks$Clues" "second" "[I") (by decide +kernel)
  refine lv_iconst (v := 0) hx hb dX2_leansOf_0 (by decide) ?_
  refine lv_istore_n (lv' := [(3, .int 0), (0, .ref h0), (1, .ref h1), (2, .int p2)]) hx hb dX2_leansOf_1 rfl hl (by decide) rfl (fun ls hl => ?_)
  refine lv_iconst (v := 0) hx hb dX2_leansOf_2 (by decide) ?_
  refine lv_istore (lv' := [(4, .int 0), (3, .int 0), (0, .ref h0), (1, .ref h1), (2, .int p2)]) hx hb dX2_leansOf_3 hl (by decide) rfl (fun ls hl => ?_)
  have hL5 : ∀ (n : Nat) (x3_L5 : Int32) (x4_L5 : Int32) (H : Heap) (locs : List Loc) (ls : Array Slot), pq_w (fun _ _ => none) (f_X2_leansOf_L5 N pairs_0 first_0 second_0 favours_1 plaintiff_1 defendant_1 weight_1 p2) n x3_L5 x4_L5 = some z → va_P D vwCl [cO h0 2 [.ref (a0 0), .ref (a0 1), .ref (a0 2), .int pairs_0], cI cy (a0 0) 10 first_0, cI cy (a0 1) 10 second_0, cI cy (a0 2) 6 alike_0, cO h1 1 [.ref (a1 0), .ref (a1 1), .ref (a1 2), .ref (a1 3), .ref (a1 4), .ref (a1 5), .ref (a1 6), .ref (a1 7), .ref (a1 8), .int parties_1, .int judges_1, .int cases_1, .int next_1, .int sits_1], cI cy (a1 0) 6 kind_1, cI cy (a1 1) 6 grievance_1, cI cy (a1 2) 6 wins_1, cI cy (a1 3) 6 lean_1, cI cy (a1 4) 6 favours_1, cI cy (a1 5) 12 plaintiff_1, cI cy (a1 6) 12 defendant_1, cI cy (a1 7) 12 weight_1, cI cy (a1 8) 12 winner_1] H → va_D A [cO h0 2 [.ref (a0 0), .ref (a0 1), .ref (a0 2), .int pairs_0], cI cy (a0 0) 10 first_0, cI cy (a0 1) 10 second_0, cI cy (a0 2) 6 alike_0, cO h1 1 [.ref (a1 0), .ref (a1 1), .ref (a1 2), .ref (a1 3), .ref (a1 4), .ref (a1 5), .ref (a1 6), .ref (a1 7), .ref (a1 8), .int parties_1, .int judges_1, .int cases_1, .int next_1, .int sits_1], cI cy (a1 0) 6 kind_1, cI cy (a1 1) 6 grievance_1, cI cy (a1 2) 6 wins_1, cI cy (a1 3) 6 lean_1, cI cy (a1 4) 6 favours_1, cI cy (a1 5) 12 plaintiff_1, cI cy (a1 6) 12 defendant_1, cI cy (a1 7) 12 weight_1, cI cy (a1 8) 12 winner_1] → va_S A s.heap H locs → lv_has ls 8 [(0, .ref h0), (1, .ref h1), (2, .int p2), (3, .int x3_L5), (4, .int x4_L5)] → W p l e rm_X2_leansOf s m args below meth c H locs 0 0 Q (F0 m 5 ls []) := by
    intro n
    induction n with
    | zero =>
      intro x3_L5 x4_L5 H locs ls hf
      exact absurd (show none = some z from hf) (fun h => nomatch h)
    | succ n ihL5 =>
      intro x3_L5 x4_L5 H locs ls hf hP hD hS hl
      have hf : (f_X2_leansOf_L5 N pairs_0 first_0 second_0 favours_1 plaintiff_1 defendant_1 weight_1 p2) (pq_w (fun _ _ => none) (f_X2_leansOf_L5 N pairs_0 first_0 second_0 favours_1 plaintiff_1 defendant_1 weight_1 p2) n) x3_L5 x4_L5 = some z := hf
      generalize pq_w (fun _ _ => none) (f_X2_leansOf_L5 N pairs_0 first_0 second_0 favours_1 plaintiff_1 defendant_1 weight_1 p2) n = kL5 at hf ihL5
      unfold f_X2_leansOf_L5 at hf
      refine lv_iload hx hb dX2_leansOf_5 (lv_at hl 4 rfl) ?_
      refine lv_bipush (v := 9) hx hb dX2_leansOf_7 (by decide) ?_
      refine pq_icmp_gt hx hb 99 hf dX2_leansOf_9 (by decide) (fun _ hf => ?_) (fun _ hf => ?_)
      · refine lv_iload_n hx hb dX2_leansOf_99 rfl (lv_at hl 3 rfl) ?_
        rw [hQ]
        exact pq_iret hx hb hr hlocks hK hP hD hS hf (fun z => z) (fun z => [cO h0 2 [.ref (a0 0), .ref (a0 1), .ref (a0 2), .int pairs_0], cI cy (a0 0) 10 first_0, cI cy (a0 1) 10 second_0, cI cy (a0 2) 6 alike_0, cO h1 1 [.ref (a1 0), .ref (a1 1), .ref (a1 2), .ref (a1 3), .ref (a1 4), .ref (a1 5), .ref (a1 6), .ref (a1 7), .ref (a1 8), .int parties_1, .int judges_1, .int cases_1, .int next_1, .int sits_1], cI cy (a1 0) 6 kind_1, cI cy (a1 1) 6 grievance_1, cI cy (a1 2) 6 wins_1, cI cy (a1 3) 6 lean_1, cI cy (a1 4) 6 favours_1, cI cy (a1 5) 12 plaintiff_1, cI cy (a1 6) 12 defendant_1, cI cy (a1 7) 12 weight_1, cI cy (a1 8) 12 winner_1]) rfl rfl dX2_leansOf_100
      · refine lv_iconst (v := 1) hx hb dX2_leansOf_12 (by decide) ?_
        refine lv_istore (lv' := [(5, .int 1), (0, .ref h0), (1, .ref h1), (2, .int p2), (3, .int x3_L5), (4, .int x4_L5)]) hx hb dX2_leansOf_13 hl (by decide) rfl (fun ls hl => ?_)
        refine lv_iconst (v := 0) hx hb dX2_leansOf_15 (by decide) ?_
        refine lv_istore (lv' := [(6, .int 0), (5, .int 1), (0, .ref h0), (1, .ref h1), (2, .int p2), (3, .int x3_L5), (4, .int x4_L5)]) hx hb dX2_leansOf_16 hl (by decide) rfl (fun ls hl => ?_)
        have hL18 : ∀ (n : Nat) (x5_L18 : Int32) (x6_L18 : Int32) (H : Heap) (locs : List Loc) (ls : Array Slot), pq_w (fun _ _ => none) (f_X2_leansOf_L18 N pairs_0 first_0 second_0 favours_1 plaintiff_1 defendant_1 weight_1 p2 x3_L5 x4_L5 kL5) n x5_L18 x6_L18 = some z → va_P D vwCl [cO h0 2 [.ref (a0 0), .ref (a0 1), .ref (a0 2), .int pairs_0], cI cy (a0 0) 10 first_0, cI cy (a0 1) 10 second_0, cI cy (a0 2) 6 alike_0, cO h1 1 [.ref (a1 0), .ref (a1 1), .ref (a1 2), .ref (a1 3), .ref (a1 4), .ref (a1 5), .ref (a1 6), .ref (a1 7), .ref (a1 8), .int parties_1, .int judges_1, .int cases_1, .int next_1, .int sits_1], cI cy (a1 0) 6 kind_1, cI cy (a1 1) 6 grievance_1, cI cy (a1 2) 6 wins_1, cI cy (a1 3) 6 lean_1, cI cy (a1 4) 6 favours_1, cI cy (a1 5) 12 plaintiff_1, cI cy (a1 6) 12 defendant_1, cI cy (a1 7) 12 weight_1, cI cy (a1 8) 12 winner_1] H → va_D A [cO h0 2 [.ref (a0 0), .ref (a0 1), .ref (a0 2), .int pairs_0], cI cy (a0 0) 10 first_0, cI cy (a0 1) 10 second_0, cI cy (a0 2) 6 alike_0, cO h1 1 [.ref (a1 0), .ref (a1 1), .ref (a1 2), .ref (a1 3), .ref (a1 4), .ref (a1 5), .ref (a1 6), .ref (a1 7), .ref (a1 8), .int parties_1, .int judges_1, .int cases_1, .int next_1, .int sits_1], cI cy (a1 0) 6 kind_1, cI cy (a1 1) 6 grievance_1, cI cy (a1 2) 6 wins_1, cI cy (a1 3) 6 lean_1, cI cy (a1 4) 6 favours_1, cI cy (a1 5) 12 plaintiff_1, cI cy (a1 6) 12 defendant_1, cI cy (a1 7) 12 weight_1, cI cy (a1 8) 12 winner_1] → va_S A s.heap H locs → lv_has ls 8 [(0, .ref h0), (1, .ref h1), (2, .int p2), (3, .int x3_L5), (4, .int x4_L5), (5, .int x5_L18), (6, .int x6_L18)] → W p l e rm_X2_leansOf s m args below meth c H locs 0 0 Q (F0 m 18 ls []) := by
          intro n
          induction n with
          | zero =>
            intro x5_L18 x6_L18 H locs ls hf
            exact absurd (show none = some z from hf) (fun h => nomatch h)
          | succ n ihL18 =>
            intro x5_L18 x6_L18 H locs ls hf hP hD hS hl
            have hf : (f_X2_leansOf_L18 N pairs_0 first_0 second_0 favours_1 plaintiff_1 defendant_1 weight_1 p2 x3_L5 x4_L5 kL5) (pq_w (fun _ _ => none) (f_X2_leansOf_L18 N pairs_0 first_0 second_0 favours_1 plaintiff_1 defendant_1 weight_1 p2 x3_L5 x4_L5 kL5) n) x5_L18 x6_L18 = some z := hf
            generalize pq_w (fun _ _ => none) (f_X2_leansOf_L18 N pairs_0 first_0 second_0 favours_1 plaintiff_1 defendant_1 weight_1 p2 x3_L5 x4_L5 kL5) n = kL18 at hf ihL18
            unfold f_X2_leansOf_L18 at hf
            refine lv_iload hx hb dX2_leansOf_18 (lv_at hl 6 rfl) ?_
            refine lv_aload_n hx hb dX2_leansOf_20 rfl (lv_at hl 0 rfl) ?_
            refine pq_get (D := D) (ci := 2) (v := .int pairs_0) (C := RX2) (T := TX2) (N := 4) hx hb hts hiX2 hown hK hP 0 rfl rfl 3 (by decide) k0 rfl rfl dX2_leansOf_21 ?_
            refine pq_icmp_ge hx hb 81 hf dX2_leansOf_24 (by decide) (fun _ hf => ?_) (fun _ hf => ?_)
            · refine lv_iload hx hb dX2_leansOf_81 (lv_at hl 5 rfl) ?_
              obtain ⟨kJ93, ekJ93, hf⟩ := pq_j_e hf
              have hJ93 : ∀ (x3_J93 : Int32) (H : Heap) (locs : List Loc) (ls : Array Slot), kJ93 x3_J93 = some z → va_P D vwCl [cO h0 2 [.ref (a0 0), .ref (a0 1), .ref (a0 2), .int pairs_0], cI cy (a0 0) 10 first_0, cI cy (a0 1) 10 second_0, cI cy (a0 2) 6 alike_0, cO h1 1 [.ref (a1 0), .ref (a1 1), .ref (a1 2), .ref (a1 3), .ref (a1 4), .ref (a1 5), .ref (a1 6), .ref (a1 7), .ref (a1 8), .int parties_1, .int judges_1, .int cases_1, .int next_1, .int sits_1], cI cy (a1 0) 6 kind_1, cI cy (a1 1) 6 grievance_1, cI cy (a1 2) 6 wins_1, cI cy (a1 3) 6 lean_1, cI cy (a1 4) 6 favours_1, cI cy (a1 5) 12 plaintiff_1, cI cy (a1 6) 12 defendant_1, cI cy (a1 7) 12 weight_1, cI cy (a1 8) 12 winner_1] H → va_D A [cO h0 2 [.ref (a0 0), .ref (a0 1), .ref (a0 2), .int pairs_0], cI cy (a0 0) 10 first_0, cI cy (a0 1) 10 second_0, cI cy (a0 2) 6 alike_0, cO h1 1 [.ref (a1 0), .ref (a1 1), .ref (a1 2), .ref (a1 3), .ref (a1 4), .ref (a1 5), .ref (a1 6), .ref (a1 7), .ref (a1 8), .int parties_1, .int judges_1, .int cases_1, .int next_1, .int sits_1], cI cy (a1 0) 6 kind_1, cI cy (a1 1) 6 grievance_1, cI cy (a1 2) 6 wins_1, cI cy (a1 3) 6 lean_1, cI cy (a1 4) 6 favours_1, cI cy (a1 5) 12 plaintiff_1, cI cy (a1 6) 12 defendant_1, cI cy (a1 7) 12 weight_1, cI cy (a1 8) 12 winner_1] → va_S A s.heap H locs → lv_has ls 8 [(0, .ref h0), (1, .ref h1), (2, .int p2), (3, .int x3_J93), (4, .int x4_L5)] → W p l e rm_X2_leansOf s m args below meth c H locs 0 0 Q (F0 m 93 ls []) := by
                clear hf hP hD hS hl
                intro x3_J93 H locs ls hf hP hD hS hl
                rw [ekJ93] at hf
                refine pq_iinc (v := x4_L5 + 1) (lv1 := fun y => [(4, .int y), (0, .ref h0), (1, .ref h1), (2, .int p2), (3, .int x3_J93)]) hx hb hf dX2_leansOf_93 hl (kp := 4) rfl rfl (by decide) (fun _ => rfl) (fun x4_1 ls hf hl => ?_)
                refine lv_goto (tgt := 5) hx hb dX2_leansOf_96 (by decide) ?_
                exact ihL5 x3_J93 x4_1 _ _ _ hf hP hD hS (lv_sub hl [1, 2, 3, 4, 0] rfl)
              clear ekJ93
              refine pq_if_eq hx hb 93 hf dX2_leansOf_83 (by decide) (fun _ hf => ?_) (fun _ hf => ?_)
              · exact hJ93 x3_L5 _ _ _ hf hP hD hS (lv_sub hl [0, 1, 2, 3, 4] rfl)
              · refine lv_iload_n hx hb dX2_leansOf_86 rfl (lv_at hl 3 rfl) ?_
                refine lv_iconst (v := 1) hx hb dX2_leansOf_87 (by decide) ?_
                refine lv_iload hx hb dX2_leansOf_88 (lv_at hl 4 rfl) ?_
                refine lv_ishl hx hb dX2_leansOf_90 ?_
                refine lv_ior hx hb dX2_leansOf_91 ?_
                refine pq_li hf (fun x3_2 hf => ?_)
                refine lv_istore_n (lv' := [(3, .int x3_2), (0, .ref h0), (1, .ref h1), (2, .int p2), (4, .int x4_L5), (5, .int x5_L18), (6, .int x6_L18)]) hx hb dX2_leansOf_92 rfl hl (by decide) rfl (fun ls hl => ?_)
                exact hJ93 x3_2 _ _ _ hf hP hD hS (lv_sub hl [1, 2, 3, 0, 4] rfl)
            · refine lv_aload_n hx hb dX2_leansOf_27 rfl (lv_at hl 1 rfl) ?_
              refine lv_iload_n hx hb dX2_leansOf_28 rfl (lv_at hl 2 rfl) ?_
              refine lv_aload_n hx hb dX2_leansOf_29 rfl (lv_at hl 0 rfl) ?_
              refine pq_get (D := D) (ci := 2) (v := .ref (a0 0)) (C := RX2) (T := TX2) (N := 4) hx hb hts hiX2 hown hK hP 0 rfl rfl 0 (by decide) k1 rfl rfl dX2_leansOf_30 ?_
              refine lv_iload hx hb dX2_leansOf_33 (lv_at hl 6 rfl) ?_
              refine pq_iald hx hb hK hP 1 0 rfl rfl hf dX2_leansOf_35 (fun hf => ?_)
              refine pq_cVi (rz := fun r => r) (w1 := fun r => [cO h1 1 [.ref (a1 0), .ref (a1 1), .ref (a1 2), .ref (a1 3), .ref (a1 4), .ref (a1 5), .ref (a1 6), .ref (a1 7), .ref (a1 8), .int parties_1, .int judges_1, .int cases_1, .int next_1, .int sits_1], cI cy (a1 0) 6 kind_1, cI cy (a1 1) 6 grievance_1, cI cy (a1 2) 6 wins_1, cI cy (a1 3) 6 lean_1, cI cy (a1 4) 6 favours_1, cI cy (a1 5) 12 plaintiff_1, cI cy (a1 6) 12 defendant_1, cI cy (a1 7) 12 weight_1, cI cy (a1 8) 12 winner_1]) (ws1 := fun r => [cO h0 2 [.ref (a0 0), .ref (a0 1), .ref (a0 2), .int pairs_0], cI cy (a0 0) 10 first_0, cI cy (a0 1) 10 second_0, cI cy (a0 2) 6 alike_0, cO h1 1 [.ref (a1 0), .ref (a1 1), .ref (a1 2), .ref (a1 3), .ref (a1 4), .ref (a1 5), .ref (a1 6), .ref (a1 7), .ref (a1 8), .int parties_1, .int judges_1, .int cases_1, .int next_1, .int sits_1], cI cy (a1 0) 6 kind_1, cI cy (a1 1) 6 grievance_1, cI cy (a1 2) 6 wins_1, cI cy (a1 3) 6 lean_1, cI cy (a1 4) 6 favours_1, cI cy (a1 5) 12 plaintiff_1, cI cy (a1 6) 12 defendant_1, cI cy (a1 7) 12 weight_1, cI cy (a1 8) 12 winner_1]) (wc := [cO h1 1 [.ref (a1 0), .ref (a1 1), .ref (a1 2), .ref (a1 3), .ref (a1 4), .ref (a1 5), .ref (a1 6), .ref (a1 7), .ref (a1 8), .int parties_1, .int judges_1, .int cases_1, .int next_1, .int sits_1], cI cy (a1 0) 6 kind_1, cI cy (a1 1) 6 grievance_1, cI cy (a1 2) 6 wins_1, cI cy (a1 3) 6 lean_1, cI cy (a1 4) 6 favours_1, cI cy (a1 5) 12 plaintiff_1, cI cy (a1 6) 12 defendant_1, cI cy (a1 7) 12 weight_1, cI cy (a1 8) 12 winner_1]) (wr := [cO h0 2 [.ref (a0 0), .ref (a0 1), .ref (a0 2), .int pairs_0], cI cy (a0 0) 10 first_0, cI cy (a0 1) 10 second_0, cI cy (a0 2) 6 alike_0]) (As := [.int p2, .int (first_0 (x6_L18 : Int32).toNatClampNeg)]) (rest := []) (b := h1) (C := RX1) ⟨hx, hb, hml, hown, hts⟩ hf (fun r hr => c_X1_pleaBefore l D cy N h1 a1 parties_1 judges_1 cases_1 next_1 sits_1 kind_1 grievance_1 wins_1 lean_1 favours_1 plaintiff_1 defendant_1 weight_1 winner_1 p2 (first_0 (x6_L18 : Int32).toNatClampNeg) r hr) (cwV 2 hts gX2_leansOf_X1_pleaBefore rfl rfl rfl (by decide +kernel) ⟨Nat.le_of_ble_eq_true rfl, Nat.le_of_ble_eq_true rfl⟩) hK hP hD hS hA 0 1 rfl rfl [4, 5, 6, 7, 8, 9, 10, 11, 12, 13] [0, 1, 2, 3] [0, 1, 2, 3, 4, 5, 6, 7, 8, 9, 10, 11, 12, 13] rfl rfl rfl rfl (by decide) (fun _ => rfl) rfl rfl hl.1 rfl (Nat.le_of_ble_eq_true rfl) ⟨Nat.zero_le _, Nat.zero_le _⟩ dX2_leansOf_36 (fun r_3 H locs hf hP hD hS => ?_)
              refine lv_iload hx hb dX2_leansOf_39 (lv_at hl 4 rfl) ?_
              obtain ⟨kJ49, ekJ49, hf⟩ := pq_j_e hf
              have hJ49 : ∀ (y0_J49 : Int32) (H : Heap) (locs : List Loc) (ls : Array Slot), kJ49 y0_J49 = some z → va_P D vwCl [cO h0 2 [.ref (a0 0), .ref (a0 1), .ref (a0 2), .int pairs_0], cI cy (a0 0) 10 first_0, cI cy (a0 1) 10 second_0, cI cy (a0 2) 6 alike_0, cO h1 1 [.ref (a1 0), .ref (a1 1), .ref (a1 2), .ref (a1 3), .ref (a1 4), .ref (a1 5), .ref (a1 6), .ref (a1 7), .ref (a1 8), .int parties_1, .int judges_1, .int cases_1, .int next_1, .int sits_1], cI cy (a1 0) 6 kind_1, cI cy (a1 1) 6 grievance_1, cI cy (a1 2) 6 wins_1, cI cy (a1 3) 6 lean_1, cI cy (a1 4) 6 favours_1, cI cy (a1 5) 12 plaintiff_1, cI cy (a1 6) 12 defendant_1, cI cy (a1 7) 12 weight_1, cI cy (a1 8) 12 winner_1] H → va_D A [cO h0 2 [.ref (a0 0), .ref (a0 1), .ref (a0 2), .int pairs_0], cI cy (a0 0) 10 first_0, cI cy (a0 1) 10 second_0, cI cy (a0 2) 6 alike_0, cO h1 1 [.ref (a1 0), .ref (a1 1), .ref (a1 2), .ref (a1 3), .ref (a1 4), .ref (a1 5), .ref (a1 6), .ref (a1 7), .ref (a1 8), .int parties_1, .int judges_1, .int cases_1, .int next_1, .int sits_1], cI cy (a1 0) 6 kind_1, cI cy (a1 1) 6 grievance_1, cI cy (a1 2) 6 wins_1, cI cy (a1 3) 6 lean_1, cI cy (a1 4) 6 favours_1, cI cy (a1 5) 12 plaintiff_1, cI cy (a1 6) 12 defendant_1, cI cy (a1 7) 12 weight_1, cI cy (a1 8) 12 winner_1] → va_S A s.heap H locs → lv_has ls 8 [(0, .ref h0), (1, .ref h1), (2, .int p2), (3, .int x3_L5), (4, .int x4_L5), (5, .int x5_L18), (6, .int x6_L18)] → W p l e rm_X2_leansOf s m args below meth c H locs 0 0 Q (F0 m 49 ls [.int y0_J49]) := by
                clear hf hP hD hS hl
                intro y0_J49 H locs ls hf hP hD hS hl
                rw [ekJ49] at hf
                refine lv_istore (lv' := [(7, .int y0_J49), (0, .ref h0), (1, .ref h1), (2, .int p2), (3, .int x3_L5), (4, .int x4_L5), (5, .int x5_L18), (6, .int x6_L18)]) hx hb dX2_leansOf_49 hl (by decide) rfl (fun ls hl => ?_)
                refine lv_iload hx hb dX2_leansOf_51 (lv_at hl 6 rfl) ?_
                obtain ⟨kJ73, ekJ73, hf⟩ := pq_j_e hf
                have hJ73 : ∀ (y0_J73 : Int32) (H : Heap) (locs : List Loc) (ls : Array Slot), kJ73 y0_J73 = some z → va_P D vwCl [cO h0 2 [.ref (a0 0), .ref (a0 1), .ref (a0 2), .int pairs_0], cI cy (a0 0) 10 first_0, cI cy (a0 1) 10 second_0, cI cy (a0 2) 6 alike_0, cO h1 1 [.ref (a1 0), .ref (a1 1), .ref (a1 2), .ref (a1 3), .ref (a1 4), .ref (a1 5), .ref (a1 6), .ref (a1 7), .ref (a1 8), .int parties_1, .int judges_1, .int cases_1, .int next_1, .int sits_1], cI cy (a1 0) 6 kind_1, cI cy (a1 1) 6 grievance_1, cI cy (a1 2) 6 wins_1, cI cy (a1 3) 6 lean_1, cI cy (a1 4) 6 favours_1, cI cy (a1 5) 12 plaintiff_1, cI cy (a1 6) 12 defendant_1, cI cy (a1 7) 12 weight_1, cI cy (a1 8) 12 winner_1] H → va_D A [cO h0 2 [.ref (a0 0), .ref (a0 1), .ref (a0 2), .int pairs_0], cI cy (a0 0) 10 first_0, cI cy (a0 1) 10 second_0, cI cy (a0 2) 6 alike_0, cO h1 1 [.ref (a1 0), .ref (a1 1), .ref (a1 2), .ref (a1 3), .ref (a1 4), .ref (a1 5), .ref (a1 6), .ref (a1 7), .ref (a1 8), .int parties_1, .int judges_1, .int cases_1, .int next_1, .int sits_1], cI cy (a1 0) 6 kind_1, cI cy (a1 1) 6 grievance_1, cI cy (a1 2) 6 wins_1, cI cy (a1 3) 6 lean_1, cI cy (a1 4) 6 favours_1, cI cy (a1 5) 12 plaintiff_1, cI cy (a1 6) 12 defendant_1, cI cy (a1 7) 12 weight_1, cI cy (a1 8) 12 winner_1] → va_S A s.heap H locs → lv_has ls 8 [(0, .ref h0), (1, .ref h1), (2, .int p2), (3, .int x3_L5), (4, .int x4_L5), (6, .int x6_L18)] → W p l e rm_X2_leansOf s m args below meth c H locs 0 0 Q (F0 m 73 ls [.int y0_J73]) := by
                  clear hf hP hD hS hl
                  intro y0_J73 H locs ls hf hP hD hS hl
                  rw [ekJ73] at hf
                  refine lv_istore (lv' := [(5, .int y0_J73), (0, .ref h0), (1, .ref h1), (2, .int p2), (3, .int x3_L5), (4, .int x4_L5), (6, .int x6_L18)]) hx hb dX2_leansOf_73 hl (by decide) rfl (fun ls hl => ?_)
                  refine pq_iinc (v := x6_L18 + 1) (lv1 := fun y => [(6, .int y), (5, .int y0_J73), (0, .ref h0), (1, .ref h1), (2, .int p2), (3, .int x3_L5), (4, .int x4_L5)]) hx hb hf dX2_leansOf_75 hl (kp := 6) rfl rfl (by decide) (fun _ => rfl) (fun x6_4 ls hf hl => ?_)
                  refine lv_goto (tgt := 18) hx hb dX2_leansOf_78 (by decide) ?_
                  exact ihL18 y0_J73 x6_4 _ _ _ hf hP hD hS (lv_sub hl [2, 3, 4, 5, 6, 1, 0] rfl)
                clear ekJ73
                obtain ⟨kJ72, ekJ72, hf⟩ := pq_j_e hf
                have hJ72 : ∀ (H : Heap) (locs : List Loc) (ls : Array Slot), kJ72 = some z → va_P D vwCl [cO h0 2 [.ref (a0 0), .ref (a0 1), .ref (a0 2), .int pairs_0], cI cy (a0 0) 10 first_0, cI cy (a0 1) 10 second_0, cI cy (a0 2) 6 alike_0, cO h1 1 [.ref (a1 0), .ref (a1 1), .ref (a1 2), .ref (a1 3), .ref (a1 4), .ref (a1 5), .ref (a1 6), .ref (a1 7), .ref (a1 8), .int parties_1, .int judges_1, .int cases_1, .int next_1, .int sits_1], cI cy (a1 0) 6 kind_1, cI cy (a1 1) 6 grievance_1, cI cy (a1 2) 6 wins_1, cI cy (a1 3) 6 lean_1, cI cy (a1 4) 6 favours_1, cI cy (a1 5) 12 plaintiff_1, cI cy (a1 6) 12 defendant_1, cI cy (a1 7) 12 weight_1, cI cy (a1 8) 12 winner_1] H → va_D A [cO h0 2 [.ref (a0 0), .ref (a0 1), .ref (a0 2), .int pairs_0], cI cy (a0 0) 10 first_0, cI cy (a0 1) 10 second_0, cI cy (a0 2) 6 alike_0, cO h1 1 [.ref (a1 0), .ref (a1 1), .ref (a1 2), .ref (a1 3), .ref (a1 4), .ref (a1 5), .ref (a1 6), .ref (a1 7), .ref (a1 8), .int parties_1, .int judges_1, .int cases_1, .int next_1, .int sits_1], cI cy (a1 0) 6 kind_1, cI cy (a1 1) 6 grievance_1, cI cy (a1 2) 6 wins_1, cI cy (a1 3) 6 lean_1, cI cy (a1 4) 6 favours_1, cI cy (a1 5) 12 plaintiff_1, cI cy (a1 6) 12 defendant_1, cI cy (a1 7) 12 weight_1, cI cy (a1 8) 12 winner_1] → va_S A s.heap H locs → lv_has ls 8 [(0, .ref h0), (1, .ref h1), (2, .int p2), (3, .int x3_L5), (4, .int x4_L5), (6, .int x6_L18)] → W p l e rm_X2_leansOf s m args below meth c H locs 0 0 Q (F0 m 72 ls []) := by
                  clear hf hP hD hS hl
                  intro  H locs ls hf hP hD hS hl
                  rw [ekJ72] at hf
                  refine lv_iconst (v := 0) hx hb dX2_leansOf_72 (by decide) ?_
                  exact hJ73 0 _ _ _ hf hP hD hS (lv_sub hl [0, 1, 2, 3, 4, 5] rfl)
                clear ekJ72
                refine pq_if_eq hx hb 72 hf dX2_leansOf_53 (by decide) (fun _ hf => ?_) (fun _ hf => ?_)
                · exact hJ72 _ _ _ hf hP hD hS (lv_sub hl [1, 2, 3, 4, 5, 7] rfl)
                · refine lv_iload hx hb dX2_leansOf_56 (lv_at hl 0 rfl) ?_
                  refine lv_aload_n hx hb dX2_leansOf_58 rfl (lv_at hl 1 rfl) ?_
                  refine pq_get (D := D) (ci := 2) (v := .ref (a0 1)) (C := RX2) (T := TX2) (N := 4) hx hb hts hiX2 hown hK hP 0 rfl rfl 1 (by decide) k2 rfl rfl dX2_leansOf_59 ?_
                  refine lv_iload hx hb dX2_leansOf_62 (lv_at hl 7 rfl) ?_
                  refine pq_iald hx hb hK hP 2 0 rfl rfl hf dX2_leansOf_64 (fun hf => ?_)
                  refine pq_icmp_ne hx hb 72 hf dX2_leansOf_65 (by decide) (fun _ hf => ?_) (fun _ hf => ?_)
                  · exact hJ72 _ _ _ hf hP hD hS (lv_sub hl [1, 2, 3, 4, 5, 7] rfl)
                  · refine lv_iconst (v := 1) hx hb dX2_leansOf_68 (by decide) ?_
                    refine lv_goto (tgt := 73) hx hb dX2_leansOf_69 (by decide) ?_
                    exact hJ73 1 _ _ _ hf hP hD hS (lv_sub hl [1, 2, 3, 4, 5, 7] rfl)
              clear ekJ49
              refine pq_icmp_lt hx hb 48 hf dX2_leansOf_41 (by decide) (fun _ hf => ?_) (fun _ hf => ?_)
              · refine lv_iconst (v := 1) hx hb dX2_leansOf_48 (by decide) ?_
                exact hJ49 1 _ _ _ hf hP hD hS (lv_sub hl [0, 1, 2, 3, 4, 5, 6] rfl)
              · refine lv_iconst (v := 0) hx hb dX2_leansOf_44 (by decide) ?_
                refine lv_goto (tgt := 49) hx hb dX2_leansOf_45 (by decide) ?_
                exact hJ49 0 _ _ _ hf hP hD hS (lv_sub hl [0, 1, 2, 3, 4, 5, 6] rfl)
        exact hL18 N 1 0 _ _ _ hf hP hD hS (lv_sub hl [2, 3, 4, 5, 6, 1, 0] rfl)
  exact hL5 N 0 0 _ _ _ hf hP hD hS (lv_sub hl [2, 3, 4, 1, 0] rfl)

abbrev rm_X2_greaterPart : Room := { frames := 1, cells := 0, slots := 0, locals := 21 }
set_option maxHeartbeats 4000000 in
set_option maxRecDepth 100000 in
theorem c_X2_greaterPart (l : Launch) (D : va_G) (cy : Nat → ClassId) (N : Nat) (p0 : Int32) (p1 : Int32) (z : Int32) (hf : f_X2_greaterPart N p0 p1 = some z) : pq_MI l yX2_greaterPart wsX2_greaterPart rm_X2_greaterPart D cy [.int p0, .int p1] [] [] (z) := by
  intro sz
  refine pq_ent (Qf := fun A => pq_Qi D cy A [] (z)) (cc := cX2_greaterPart) (maxL := 4) (ret := (some .int)) (by decide) rfl (Nat.le_of_ble_eq_true rfl) ?_
  intro p e s m args below meth c A ls Q hQ X hK hP hD hA hS hl
  obtain ⟨hx, hb, hr, hts, hown, hlocks, hml⟩ := X
  have hl : lv_has ls 4 [(0, .int p0), (1, .int p1)] := hl
  unfold f_X2_greaterPart at hf
  have k0 := hts (.methodLink RX2 49 Lib.Math.max.name) (by decide +kernel)
  have k1 := hts (.static Lib.Math.max.name) (by decide +kernel)
  have k2 := hts (.initialized "java/lang/Math") (by decide +kernel)
  have k3 := hts (.code Lib.Math.max.name Lib.Math.max.code 2 (some .int)) (by decide +kernel)
  refine lv_iconst (v := 0) hx hb dX2_greaterPart_0 (by decide) ?_
  refine lv_istore_n (lv' := [(2, .int 0), (0, .int p0), (1, .int p1)]) hx hb dX2_greaterPart_1 rfl hl (by decide) rfl (fun ls hl => ?_)
  refine lv_iconst (v := 0) hx hb dX2_greaterPart_2 (by decide) ?_
  refine lv_istore_n (lv' := [(3, .int 0), (2, .int 0), (0, .int p0), (1, .int p1)]) hx hb dX2_greaterPart_3 rfl hl (by decide) rfl (fun ls hl => ?_)
  have hL4 : ∀ (n : Nat) (x2_L4 : Int32) (x3_L4 : Int32) (H : Heap) (locs : List Loc) (ls : Array Slot), pq_w (fun _ _ => none) (f_X2_greaterPart_L4 N p0 p1) n x2_L4 x3_L4 = some z → va_P D vwCl [] H → va_D A [] → va_S A s.heap H locs → lv_has ls 4 [(0, .int p0), (1, .int p1), (2, .int x2_L4), (3, .int x3_L4)] → W p l e rm_X2_greaterPart s m args below meth c H locs 0 0 Q (F0 m 4 ls []) := by
    intro n
    induction n with
    | zero =>
      intro x2_L4 x3_L4 H locs ls hf
      exact absurd (show none = some z from hf) (fun h => nomatch h)
    | succ n ihL4 =>
      intro x2_L4 x3_L4 H locs ls hf hP hD hS hl
      have hf : (f_X2_greaterPart_L4 N p0 p1) (pq_w (fun _ _ => none) (f_X2_greaterPart_L4 N p0 p1) n) x2_L4 x3_L4 = some z := hf
      generalize pq_w (fun _ _ => none) (f_X2_greaterPart_L4 N p0 p1) n = kL4 at hf ihL4
      unfold f_X2_greaterPart_L4 at hf
      refine lv_iload_n hx hb dX2_greaterPart_4 rfl (lv_at hl 3 rfl) ?_
      refine lv_bipush (v := 9) hx hb dX2_greaterPart_5 (by decide) ?_
      obtain ⟨kJ29, ekJ29, hf⟩ := pq_j_e hf
      have hJ29 : ∀ (H : Heap) (locs : List Loc) (ls : Array Slot), kJ29 = some z → va_P D vwCl [] H → va_D A [] → va_S A s.heap H locs → lv_has ls 4 [(1, .int p1), (2, .int x2_L4)] → W p l e rm_X2_greaterPart s m args below meth c H locs 0 0 Q (F0 m 29 ls []) := by
        clear hf hP hD hS hl
        intro  H locs ls hf hP hD hS hl
        rw [ekJ29] at hf
        refine lv_iload_n hx hb dX2_greaterPart_29 rfl (lv_at hl 1 rfl) ?_
        refine lv_iload_n hx hb dX2_greaterPart_30 rfl (lv_at hl 0 rfl) ?_
        refine pq_cSi (rz := fun r => r) (w1 := fun r => []) (ws1 := fun r => []) (wc := []) (wr := []) (As := [.int p1]) (rest := [.int x2_L4]) ⟨hx, hb, hml, hown, hts⟩ hf (fun r hr => c_J6_bitCount_0f7a4 l D cy N p1 r hr) (va_cwS 1 hts gX2_greaterPart_J6_bitCount_0f7a4 rfl rfl rfl (by decide +kernel) ⟨Nat.le_of_ble_eq_true rfl, Nat.le_of_ble_eq_true rfl⟩) hK hP hD hS hA [] [] [] rfl rfl rfl rfl (by decide) (fun _ => rfl) rfl rfl hl.1 rfl (Nat.le_of_ble_eq_true rfl) ⟨Nat.zero_le _, Nat.zero_le _⟩ dX2_greaterPart_31 (fun r_1 H locs hf hP hD hS => ?_)
        refine lv_iload_n hx hb dX2_greaterPart_34 rfl (lv_at hl 1 rfl) ?_
        refine lv_isub hx hb dX2_greaterPart_35 ?_
        refine va_mmax hx hb (hml.trans hl.1.symm) hown k0 k1 k2 k3 (Nat.le_of_ble_eq_true rfl) (Nat.le_of_ble_eq_true rfl) (Nat.zero_le _) (Nat.zero_le _) dX2_greaterPart_36 ?_
        rw [hQ]
        exact pq_iret hx hb hr hlocks hK hP hD hS hf (fun z => z) (fun z => []) rfl rfl dX2_greaterPart_39
      clear ekJ29
      refine pq_icmp_gt hx hb 29 hf dX2_greaterPart_7 (by decide) (fun _ hf => ?_) (fun _ hf => ?_)
      · exact hJ29 _ _ _ hf hP hD hS (lv_sub hl [1, 2] rfl)
      · refine lv_iload_n hx hb dX2_greaterPart_10 rfl (lv_at hl 3 rfl) ?_
        refine lv_iload_n hx hb dX2_greaterPart_11 rfl (lv_at hl 0 rfl) ?_
        refine pq_icmp_gt hx hb 29 hf dX2_greaterPart_12 (by decide) (fun _ hf => ?_) (fun _ hf => ?_)
        · exact hJ29 _ _ _ hf hP hD hS (lv_sub hl [1, 2] rfl)
        · refine lv_iload_n hx hb dX2_greaterPart_15 rfl (lv_at hl 2 rfl) ?_
          refine lv_iload_n hx hb dX2_greaterPart_16 rfl (lv_at hl 1 rfl) ?_
          refine lv_iload_n hx hb dX2_greaterPart_17 rfl (lv_at hl 3 rfl) ?_
          refine lv_ishr hx hb dX2_greaterPart_18 ?_
          refine lv_iconst (v := 1) hx hb dX2_greaterPart_19 (by decide) ?_
          refine lv_iand hx hb dX2_greaterPart_20 ?_
          refine lv_iadd hx hb dX2_greaterPart_21 ?_
          refine pq_li hf (fun x2_2 hf => ?_)
          refine lv_istore_n (lv' := [(2, .int x2_2), (0, .int p0), (1, .int p1), (3, .int x3_L4)]) hx hb dX2_greaterPart_22 rfl hl (by decide) rfl (fun ls hl => ?_)
          refine pq_iinc (v := x3_L4 + 1) (lv1 := fun y => [(3, .int y), (2, .int x2_2), (0, .int p0), (1, .int p1)]) hx hb hf dX2_greaterPart_23 hl (kp := 3) rfl rfl (by decide) (fun _ => rfl) (fun x3_3 ls hf hl => ?_)
          refine lv_goto (tgt := 4) hx hb dX2_greaterPart_26 (by decide) ?_
          exact ihL4 x2_2 x3_3 _ _ _ hf hP hD hS (lv_sub hl [2, 3, 1, 0] rfl)
  exact hL4 N 0 0 _ _ _ hf hP hD hS (lv_sub hl [2, 3, 1, 0] rfl)

abbrev rm_X2_caseToTry : Room := { frames := 2, cells := 0, slots := 0, locals := 44 }
set_option maxHeartbeats 4000000 in
set_option maxRecDepth 100000 in
theorem c_X2_caseToTry (l : Launch) (D : va_G) (cy : Nat → ClassId) (N : Nat) (h0 : Nat) (a0 : Nat → Nat) (h1 : Nat) (a1 : Nat → Nat) (pairs_0 : Int32) (first_0 : Nat → Int32) (second_0 : Nat → Int32) (alike_0 : Nat → Int32) (parties_1 : Int32) (judges_1 : Int32) (cases_1 : Int32) (next_1 : Int32) (sits_1 : Int32) (kind_1 : Nat → Int32) (grievance_1 : Nat → Int32) (wins_1 : Nat → Int32) (lean_1 : Nat → Int32) (favours_1 : Nat → Int32) (plaintiff_1 : Nat → Int32) (defendant_1 : Nat → Int32) (weight_1 : Nat → Int32) (winner_1 : Nat → Int32) (p2 : Int32) (p3 : Int32) (z : Int32) (hf : f_X2_caseToTry N cases_1 favours_1 plaintiff_1 defendant_1 weight_1 p2 p3 = some z) : pq_MI l yX2_caseToTry wsX2_caseToTry rm_X2_caseToTry D cy [.ref h0, .ref h1, .int p2, .int p3] [cO h0 2 [.ref (a0 0), .ref (a0 1), .ref (a0 2), .int pairs_0], cI cy (a0 0) 10 first_0, cI cy (a0 1) 10 second_0, cI cy (a0 2) 6 alike_0, cO h1 1 [.ref (a1 0), .ref (a1 1), .ref (a1 2), .ref (a1 3), .ref (a1 4), .ref (a1 5), .ref (a1 6), .ref (a1 7), .ref (a1 8), .int parties_1, .int judges_1, .int cases_1, .int next_1, .int sits_1], cI cy (a1 0) 6 kind_1, cI cy (a1 1) 6 grievance_1, cI cy (a1 2) 6 wins_1, cI cy (a1 3) 6 lean_1, cI cy (a1 4) 6 favours_1, cI cy (a1 5) 12 plaintiff_1, cI cy (a1 6) 12 defendant_1, cI cy (a1 7) 12 weight_1, cI cy (a1 8) 12 winner_1] [cO h0 2 [.ref (a0 0), .ref (a0 1), .ref (a0 2), .int pairs_0], cI cy (a0 0) 10 first_0, cI cy (a0 1) 10 second_0, cI cy (a0 2) 6 alike_0, cO h1 1 [.ref (a1 0), .ref (a1 1), .ref (a1 2), .ref (a1 3), .ref (a1 4), .ref (a1 5), .ref (a1 6), .ref (a1 7), .ref (a1 8), .int parties_1, .int judges_1, .int cases_1, .int next_1, .int sits_1], cI cy (a1 0) 6 kind_1, cI cy (a1 1) 6 grievance_1, cI cy (a1 2) 6 wins_1, cI cy (a1 3) 6 lean_1, cI cy (a1 4) 6 favours_1, cI cy (a1 5) 12 plaintiff_1, cI cy (a1 6) 12 defendant_1, cI cy (a1 7) 12 weight_1, cI cy (a1 8) 12 winner_1] (z) := by
  intro sz
  refine pq_ent (Qf := fun A => pq_Qi D cy A [cO h0 2 [.ref (a0 0), .ref (a0 1), .ref (a0 2), .int pairs_0], cI cy (a0 0) 10 first_0, cI cy (a0 1) 10 second_0, cI cy (a0 2) 6 alike_0, cO h1 1 [.ref (a1 0), .ref (a1 1), .ref (a1 2), .ref (a1 3), .ref (a1 4), .ref (a1 5), .ref (a1 6), .ref (a1 7), .ref (a1 8), .int parties_1, .int judges_1, .int cases_1, .int next_1, .int sits_1], cI cy (a1 0) 6 kind_1, cI cy (a1 1) 6 grievance_1, cI cy (a1 2) 6 wins_1, cI cy (a1 3) 6 lean_1, cI cy (a1 4) 6 favours_1, cI cy (a1 5) 12 plaintiff_1, cI cy (a1 6) 12 defendant_1, cI cy (a1 7) 12 weight_1, cI cy (a1 8) 12 winner_1] (z)) (cc := cX2_caseToTry) (maxL := 8) (ret := (some .int)) (by decide) rfl (Nat.le_of_ble_eq_true rfl) ?_
  intro p e s m args below meth c A ls Q hQ X hK hP hD hA hS hl
  obtain ⟨hx, hb, hr, hts, hown, hlocks, hml⟩ := X
  have hl : lv_has ls 8 [(0, .ref h0), (1, .ref h1), (2, .int p2), (3, .int p3)] := hl
  unfold f_X2_caseToTry at hf
  have hiX1 : ∀ w ∈ wsX10, w ∈ wsX2_caseToTry := by decide +kernel
  have k0 := hts (.fieldLink RX2 37 "LoserPicks$Circuit" "cases" "I") (by decide +kernel)
  refine lv_bipush (v := (-4)) hx hb dX2_caseToTry_0 (by decide) ?_
  refine lv_istore (lv' := [(4, .int (-4)), (0, .ref h0), (1, .ref h1), (2, .int p2), (3, .int p3)]) hx hb dX2_caseToTry_2 hl (by decide) rfl (fun ls hl => ?_)
  refine lv_iconst (v := 0) hx hb dX2_caseToTry_4 (by decide) ?_
  refine lv_istore (lv' := [(5, .int 0), (4, .int (-4)), (0, .ref h0), (1, .ref h1), (2, .int p2), (3, .int p3)]) hx hb dX2_caseToTry_5 hl (by decide) rfl (fun ls hl => ?_)
  refine lv_iconst (v := 0) hx hb dX2_caseToTry_7 (by decide) ?_
  refine lv_istore (lv' := [(6, .int 0), (5, .int 0), (4, .int (-4)), (0, .ref h0), (1, .ref h1), (2, .int p2), (3, .int p3)]) hx hb dX2_caseToTry_8 hl (by decide) rfl (fun ls hl => ?_)
  have hL10 : ∀ (n : Nat) (x4_L10 : Int32) (x5_L10 : Int32) (x6_L10 : Int32) (H : Heap) (locs : List Loc) (ls : Array Slot), pq_w (fun _ _ _ => none) (f_X2_caseToTry_L10 N cases_1 favours_1 plaintiff_1 defendant_1 weight_1 p2 p3) n x4_L10 x5_L10 x6_L10 = some z → va_P D vwCl [cO h0 2 [.ref (a0 0), .ref (a0 1), .ref (a0 2), .int pairs_0], cI cy (a0 0) 10 first_0, cI cy (a0 1) 10 second_0, cI cy (a0 2) 6 alike_0, cO h1 1 [.ref (a1 0), .ref (a1 1), .ref (a1 2), .ref (a1 3), .ref (a1 4), .ref (a1 5), .ref (a1 6), .ref (a1 7), .ref (a1 8), .int parties_1, .int judges_1, .int cases_1, .int next_1, .int sits_1], cI cy (a1 0) 6 kind_1, cI cy (a1 1) 6 grievance_1, cI cy (a1 2) 6 wins_1, cI cy (a1 3) 6 lean_1, cI cy (a1 4) 6 favours_1, cI cy (a1 5) 12 plaintiff_1, cI cy (a1 6) 12 defendant_1, cI cy (a1 7) 12 weight_1, cI cy (a1 8) 12 winner_1] H → va_D A [cO h0 2 [.ref (a0 0), .ref (a0 1), .ref (a0 2), .int pairs_0], cI cy (a0 0) 10 first_0, cI cy (a0 1) 10 second_0, cI cy (a0 2) 6 alike_0, cO h1 1 [.ref (a1 0), .ref (a1 1), .ref (a1 2), .ref (a1 3), .ref (a1 4), .ref (a1 5), .ref (a1 6), .ref (a1 7), .ref (a1 8), .int parties_1, .int judges_1, .int cases_1, .int next_1, .int sits_1], cI cy (a1 0) 6 kind_1, cI cy (a1 1) 6 grievance_1, cI cy (a1 2) 6 wins_1, cI cy (a1 3) 6 lean_1, cI cy (a1 4) 6 favours_1, cI cy (a1 5) 12 plaintiff_1, cI cy (a1 6) 12 defendant_1, cI cy (a1 7) 12 weight_1, cI cy (a1 8) 12 winner_1] → va_S A s.heap H locs → lv_has ls 8 [(1, .ref h1), (2, .int p2), (3, .int p3), (4, .int x4_L10), (5, .int x5_L10), (6, .int x6_L10)] → W p l e rm_X2_caseToTry s m args below meth c H locs 0 0 Q (F0 m 10 ls []) := by
    intro n
    induction n with
    | zero =>
      intro x4_L10 x5_L10 x6_L10 H locs ls hf
      exact absurd (show none = some z from hf) (fun h => nomatch h)
    | succ n ihL10 =>
      intro x4_L10 x5_L10 x6_L10 H locs ls hf hP hD hS hl
      have hf : (f_X2_caseToTry_L10 N cases_1 favours_1 plaintiff_1 defendant_1 weight_1 p2 p3) (pq_w (fun _ _ _ => none) (f_X2_caseToTry_L10 N cases_1 favours_1 plaintiff_1 defendant_1 weight_1 p2 p3) n) x4_L10 x5_L10 x6_L10 = some z := hf
      generalize pq_w (fun _ _ _ => none) (f_X2_caseToTry_L10 N cases_1 favours_1 plaintiff_1 defendant_1 weight_1 p2 p3) n = kL10 at hf ihL10
      unfold f_X2_caseToTry_L10 at hf
      refine lv_iload hx hb dX2_caseToTry_10 (lv_at hl 5 rfl) ?_
      refine lv_aload_n hx hb dX2_caseToTry_12 rfl (lv_at hl 0 rfl) ?_
      refine pq_get (D := D) (ci := 1) (v := .int cases_1) (C := RX1) (T := TX1) (N := 14) hx hb hts hiX1 hown hK hP 4 rfl rfl 11 (by decide) k0 rfl rfl dX2_caseToTry_13 ?_
      refine pq_icmp_ge hx hb 64 hf dX2_caseToTry_16 (by decide) (fun _ hf => ?_) (fun _ hf => ?_)
      · refine lv_iload hx hb dX2_caseToTry_64 (lv_at hl 3 rfl) ?_
        rw [hQ]
        exact pq_iret hx hb hr hlocks hK hP hD hS hf (fun z => z) (fun z => [cO h0 2 [.ref (a0 0), .ref (a0 1), .ref (a0 2), .int pairs_0], cI cy (a0 0) 10 first_0, cI cy (a0 1) 10 second_0, cI cy (a0 2) 6 alike_0, cO h1 1 [.ref (a1 0), .ref (a1 1), .ref (a1 2), .ref (a1 3), .ref (a1 4), .ref (a1 5), .ref (a1 6), .ref (a1 7), .ref (a1 8), .int parties_1, .int judges_1, .int cases_1, .int next_1, .int sits_1], cI cy (a1 0) 6 kind_1, cI cy (a1 1) 6 grievance_1, cI cy (a1 2) 6 wins_1, cI cy (a1 3) 6 lean_1, cI cy (a1 4) 6 favours_1, cI cy (a1 5) 12 plaintiff_1, cI cy (a1 6) 12 defendant_1, cI cy (a1 7) 12 weight_1, cI cy (a1 8) 12 winner_1]) rfl rfl dX2_caseToTry_66
      · refine lv_iload_n hx hb dX2_caseToTry_19 rfl (lv_at hl 2 rfl) ?_
        refine pq_if_eq hx hb 64 hf dX2_caseToTry_20 (by decide) (fun _ hf => ?_) (fun _ hf => ?_)
        · refine lv_iload hx hb dX2_caseToTry_64 (lv_at hl 3 rfl) ?_
          rw [hQ]
          exact pq_iret hx hb hr hlocks hK hP hD hS hf (fun z => z) (fun z => [cO h0 2 [.ref (a0 0), .ref (a0 1), .ref (a0 2), .int pairs_0], cI cy (a0 0) 10 first_0, cI cy (a0 1) 10 second_0, cI cy (a0 2) 6 alike_0, cO h1 1 [.ref (a1 0), .ref (a1 1), .ref (a1 2), .ref (a1 3), .ref (a1 4), .ref (a1 5), .ref (a1 6), .ref (a1 7), .ref (a1 8), .int parties_1, .int judges_1, .int cases_1, .int next_1, .int sits_1], cI cy (a1 0) 6 kind_1, cI cy (a1 1) 6 grievance_1, cI cy (a1 2) 6 wins_1, cI cy (a1 3) 6 lean_1, cI cy (a1 4) 6 favours_1, cI cy (a1 5) 12 plaintiff_1, cI cy (a1 6) 12 defendant_1, cI cy (a1 7) 12 weight_1, cI cy (a1 8) 12 winner_1]) rfl rfl dX2_caseToTry_66
        · refine lv_aload_n hx hb dX2_caseToTry_23 rfl (lv_at hl 0 rfl) ?_
          refine lv_iload_n hx hb dX2_caseToTry_24 rfl (lv_at hl 1 rfl) ?_
          refine lv_iload hx hb dX2_caseToTry_25 (lv_at hl 5 rfl) ?_
          refine pq_cVi (rz := fun r => r) (w1 := fun r => [cO h1 1 [.ref (a1 0), .ref (a1 1), .ref (a1 2), .ref (a1 3), .ref (a1 4), .ref (a1 5), .ref (a1 6), .ref (a1 7), .ref (a1 8), .int parties_1, .int judges_1, .int cases_1, .int next_1, .int sits_1], cI cy (a1 0) 6 kind_1, cI cy (a1 1) 6 grievance_1, cI cy (a1 2) 6 wins_1, cI cy (a1 3) 6 lean_1, cI cy (a1 4) 6 favours_1, cI cy (a1 5) 12 plaintiff_1, cI cy (a1 6) 12 defendant_1, cI cy (a1 7) 12 weight_1, cI cy (a1 8) 12 winner_1]) (ws1 := fun r => [cO h0 2 [.ref (a0 0), .ref (a0 1), .ref (a0 2), .int pairs_0], cI cy (a0 0) 10 first_0, cI cy (a0 1) 10 second_0, cI cy (a0 2) 6 alike_0, cO h1 1 [.ref (a1 0), .ref (a1 1), .ref (a1 2), .ref (a1 3), .ref (a1 4), .ref (a1 5), .ref (a1 6), .ref (a1 7), .ref (a1 8), .int parties_1, .int judges_1, .int cases_1, .int next_1, .int sits_1], cI cy (a1 0) 6 kind_1, cI cy (a1 1) 6 grievance_1, cI cy (a1 2) 6 wins_1, cI cy (a1 3) 6 lean_1, cI cy (a1 4) 6 favours_1, cI cy (a1 5) 12 plaintiff_1, cI cy (a1 6) 12 defendant_1, cI cy (a1 7) 12 weight_1, cI cy (a1 8) 12 winner_1]) (wc := [cO h1 1 [.ref (a1 0), .ref (a1 1), .ref (a1 2), .ref (a1 3), .ref (a1 4), .ref (a1 5), .ref (a1 6), .ref (a1 7), .ref (a1 8), .int parties_1, .int judges_1, .int cases_1, .int next_1, .int sits_1], cI cy (a1 0) 6 kind_1, cI cy (a1 1) 6 grievance_1, cI cy (a1 2) 6 wins_1, cI cy (a1 3) 6 lean_1, cI cy (a1 4) 6 favours_1, cI cy (a1 5) 12 plaintiff_1, cI cy (a1 6) 12 defendant_1, cI cy (a1 7) 12 weight_1, cI cy (a1 8) 12 winner_1]) (wr := [cO h0 2 [.ref (a0 0), .ref (a0 1), .ref (a0 2), .int pairs_0], cI cy (a0 0) 10 first_0, cI cy (a0 1) 10 second_0, cI cy (a0 2) 6 alike_0]) (As := [.int p2, .int x6_L10]) (rest := []) (b := h1) (C := RX1) ⟨hx, hb, hml, hown, hts⟩ hf (fun r hr => c_X1_pleaBefore l D cy N h1 a1 parties_1 judges_1 cases_1 next_1 sits_1 kind_1 grievance_1 wins_1 lean_1 favours_1 plaintiff_1 defendant_1 weight_1 winner_1 p2 x6_L10 r hr) (cwV 2 hts gX2_caseToTry_X1_pleaBefore rfl rfl rfl (by decide +kernel) ⟨Nat.le_of_ble_eq_true rfl, Nat.le_of_ble_eq_true rfl⟩) hK hP hD hS hA 0 1 rfl rfl [4, 5, 6, 7, 8, 9, 10, 11, 12, 13] [0, 1, 2, 3] [0, 1, 2, 3, 4, 5, 6, 7, 8, 9, 10, 11, 12, 13] rfl rfl rfl rfl (by decide) (fun _ => rfl) rfl rfl hl.1 rfl (Nat.le_of_ble_eq_true rfl) ⟨Nat.zero_le _, Nat.zero_le _⟩ dX2_caseToTry_27 (fun r_1 H locs hf hP hD hS => ?_)
          refine lv_iload_n hx hb dX2_caseToTry_30 rfl (lv_at hl 2 rfl) ?_
          refine pq_cSi (rz := fun r => r) (w1 := fun r => []) (ws1 := fun r => [cO h0 2 [.ref (a0 0), .ref (a0 1), .ref (a0 2), .int pairs_0], cI cy (a0 0) 10 first_0, cI cy (a0 1) 10 second_0, cI cy (a0 2) 6 alike_0, cO h1 1 [.ref (a1 0), .ref (a1 1), .ref (a1 2), .ref (a1 3), .ref (a1 4), .ref (a1 5), .ref (a1 6), .ref (a1 7), .ref (a1 8), .int parties_1, .int judges_1, .int cases_1, .int next_1, .int sits_1], cI cy (a1 0) 6 kind_1, cI cy (a1 1) 6 grievance_1, cI cy (a1 2) 6 wins_1, cI cy (a1 3) 6 lean_1, cI cy (a1 4) 6 favours_1, cI cy (a1 5) 12 plaintiff_1, cI cy (a1 6) 12 defendant_1, cI cy (a1 7) 12 weight_1, cI cy (a1 8) 12 winner_1]) (wc := []) (wr := [cO h0 2 [.ref (a0 0), .ref (a0 1), .ref (a0 2), .int pairs_0], cI cy (a0 0) 10 first_0, cI cy (a0 1) 10 second_0, cI cy (a0 2) 6 alike_0, cO h1 1 [.ref (a1 0), .ref (a1 1), .ref (a1 2), .ref (a1 3), .ref (a1 4), .ref (a1 5), .ref (a1 6), .ref (a1 7), .ref (a1 8), .int parties_1, .int judges_1, .int cases_1, .int next_1, .int sits_1], cI cy (a1 0) 6 kind_1, cI cy (a1 1) 6 grievance_1, cI cy (a1 2) 6 wins_1, cI cy (a1 3) 6 lean_1, cI cy (a1 4) 6 favours_1, cI cy (a1 5) 12 plaintiff_1, cI cy (a1 6) 12 defendant_1, cI cy (a1 7) 12 weight_1, cI cy (a1 8) 12 winner_1]) (As := [.int r_1, .int p3]) (rest := []) ⟨hx, hb, hml, hown, hts⟩ hf (fun r hr => c_X2_greaterPart l D cy N r_1 p3 r hr) (va_cwS 2 hts gX2_caseToTry_X2_greaterPart rfl rfl rfl (by decide +kernel) ⟨Nat.le_of_ble_eq_true rfl, Nat.le_of_ble_eq_true rfl⟩) hK hP hD hS hA [] [0, 1, 2, 3, 4, 5, 6, 7, 8, 9, 10, 11, 12, 13] [0, 1, 2, 3, 4, 5, 6, 7, 8, 9, 10, 11, 12, 13] rfl rfl rfl rfl (by decide) (fun _ => rfl) rfl rfl hl.1 rfl (Nat.le_of_ble_eq_true rfl) ⟨Nat.zero_le _, Nat.zero_le _⟩ dX2_caseToTry_31 (fun r_2 H locs hf hP hD hS => ?_)
          refine lv_istore (lv' := [(7, .int r_2), (1, .ref h1), (2, .int p2), (3, .int p3), (4, .int x4_L10), (5, .int x5_L10), (6, .int x6_L10)]) hx hb dX2_caseToTry_34 hl (by decide) rfl (fun ls hl => ?_)
          refine lv_iload hx hb dX2_caseToTry_36 (lv_at hl 4 rfl) ?_
          refine lv_bipush (v := (-4)) hx hb dX2_caseToTry_38 (by decide) ?_
          obtain ⟨kJ58, ekJ58, hf⟩ := pq_j_e hf
          have hJ58 : ∀ (x4_J58 : Int32) (x5_J58 : Int32) (H : Heap) (locs : List Loc) (ls : Array Slot), kJ58 x4_J58 x5_J58 = some z → va_P D vwCl [cO h0 2 [.ref (a0 0), .ref (a0 1), .ref (a0 2), .int pairs_0], cI cy (a0 0) 10 first_0, cI cy (a0 1) 10 second_0, cI cy (a0 2) 6 alike_0, cO h1 1 [.ref (a1 0), .ref (a1 1), .ref (a1 2), .ref (a1 3), .ref (a1 4), .ref (a1 5), .ref (a1 6), .ref (a1 7), .ref (a1 8), .int parties_1, .int judges_1, .int cases_1, .int next_1, .int sits_1], cI cy (a1 0) 6 kind_1, cI cy (a1 1) 6 grievance_1, cI cy (a1 2) 6 wins_1, cI cy (a1 3) 6 lean_1, cI cy (a1 4) 6 favours_1, cI cy (a1 5) 12 plaintiff_1, cI cy (a1 6) 12 defendant_1, cI cy (a1 7) 12 weight_1, cI cy (a1 8) 12 winner_1] H → va_D A [cO h0 2 [.ref (a0 0), .ref (a0 1), .ref (a0 2), .int pairs_0], cI cy (a0 0) 10 first_0, cI cy (a0 1) 10 second_0, cI cy (a0 2) 6 alike_0, cO h1 1 [.ref (a1 0), .ref (a1 1), .ref (a1 2), .ref (a1 3), .ref (a1 4), .ref (a1 5), .ref (a1 6), .ref (a1 7), .ref (a1 8), .int parties_1, .int judges_1, .int cases_1, .int next_1, .int sits_1], cI cy (a1 0) 6 kind_1, cI cy (a1 1) 6 grievance_1, cI cy (a1 2) 6 wins_1, cI cy (a1 3) 6 lean_1, cI cy (a1 4) 6 favours_1, cI cy (a1 5) 12 plaintiff_1, cI cy (a1 6) 12 defendant_1, cI cy (a1 7) 12 weight_1, cI cy (a1 8) 12 winner_1] → va_S A s.heap H locs → lv_has ls 8 [(1, .ref h1), (2, .int p2), (3, .int p3), (4, .int x4_J58), (5, .int x5_J58), (6, .int x6_L10)] → W p l e rm_X2_caseToTry s m args below meth c H locs 0 0 Q (F0 m 58 ls []) := by
            clear hf hP hD hS hl
            intro x4_J58 x5_J58 H locs ls hf hP hD hS hl
            rw [ekJ58] at hf
            refine pq_iinc (v := x6_L10 + 1) (lv1 := fun y => [(6, .int y), (1, .ref h1), (2, .int p2), (3, .int p3), (4, .int x4_J58), (5, .int x5_J58)]) hx hb hf dX2_caseToTry_58 hl (kp := 5) rfl rfl (by decide) (fun _ => rfl) (fun x6_3 ls hf hl => ?_)
            refine lv_goto (tgt := 10) hx hb dX2_caseToTry_61 (by decide) ?_
            exact ihL10 x4_J58 x5_J58 x6_3 _ _ _ hf hP hD hS (lv_sub hl [1, 2, 3, 4, 5, 0] rfl)
          clear ekJ58
          obtain ⟨kJ50, ekJ50, hf⟩ := pq_j_e hf
          have hJ50 : ∀ (H : Heap) (locs : List Loc) (ls : Array Slot), kJ50 = some z → va_P D vwCl [cO h0 2 [.ref (a0 0), .ref (a0 1), .ref (a0 2), .int pairs_0], cI cy (a0 0) 10 first_0, cI cy (a0 1) 10 second_0, cI cy (a0 2) 6 alike_0, cO h1 1 [.ref (a1 0), .ref (a1 1), .ref (a1 2), .ref (a1 3), .ref (a1 4), .ref (a1 5), .ref (a1 6), .ref (a1 7), .ref (a1 8), .int parties_1, .int judges_1, .int cases_1, .int next_1, .int sits_1], cI cy (a1 0) 6 kind_1, cI cy (a1 1) 6 grievance_1, cI cy (a1 2) 6 wins_1, cI cy (a1 3) 6 lean_1, cI cy (a1 4) 6 favours_1, cI cy (a1 5) 12 plaintiff_1, cI cy (a1 6) 12 defendant_1, cI cy (a1 7) 12 weight_1, cI cy (a1 8) 12 winner_1] H → va_D A [cO h0 2 [.ref (a0 0), .ref (a0 1), .ref (a0 2), .int pairs_0], cI cy (a0 0) 10 first_0, cI cy (a0 1) 10 second_0, cI cy (a0 2) 6 alike_0, cO h1 1 [.ref (a1 0), .ref (a1 1), .ref (a1 2), .ref (a1 3), .ref (a1 4), .ref (a1 5), .ref (a1 6), .ref (a1 7), .ref (a1 8), .int parties_1, .int judges_1, .int cases_1, .int next_1, .int sits_1], cI cy (a1 0) 6 kind_1, cI cy (a1 1) 6 grievance_1, cI cy (a1 2) 6 wins_1, cI cy (a1 3) 6 lean_1, cI cy (a1 4) 6 favours_1, cI cy (a1 5) 12 plaintiff_1, cI cy (a1 6) 12 defendant_1, cI cy (a1 7) 12 weight_1, cI cy (a1 8) 12 winner_1] → va_S A s.heap H locs → lv_has ls 8 [(1, .ref h1), (2, .int p2), (3, .int p3), (6, .int x6_L10), (7, .int r_2)] → W p l e rm_X2_caseToTry s m args below meth c H locs 0 0 Q (F0 m 50 ls []) := by
            clear hf hP hD hS hl
            intro  H locs ls hf hP hD hS hl
            rw [ekJ50] at hf
            refine lv_iload hx hb dX2_caseToTry_50 (lv_at hl 3 rfl) ?_
            refine lv_istore (lv' := [(4, .int x6_L10), (1, .ref h1), (2, .int p2), (3, .int p3), (6, .int x6_L10), (7, .int r_2)]) hx hb dX2_caseToTry_52 hl (by decide) rfl (fun ls hl => ?_)
            refine lv_iload hx hb dX2_caseToTry_54 (lv_at hl 5 rfl) ?_
            refine lv_istore (lv' := [(5, .int r_2), (4, .int x6_L10), (1, .ref h1), (2, .int p2), (3, .int p3), (6, .int x6_L10), (7, .int r_2)]) hx hb dX2_caseToTry_56 hl (by decide) rfl (fun ls hl => ?_)
            exact hJ58 x6_L10 r_2 _ _ _ hf hP hD hS (lv_sub hl [2, 3, 4, 1, 0, 5] rfl)
          clear ekJ50
          refine pq_icmp_eq hx hb 50 hf dX2_caseToTry_40 (by decide) (fun _ hf => ?_) (fun _ hf => ?_)
          · exact hJ50 _ _ _ hf hP hD hS (lv_sub hl [1, 2, 3, 6, 0] rfl)
          · refine lv_iload hx hb dX2_caseToTry_43 (lv_at hl 0 rfl) ?_
            refine lv_iload hx hb dX2_caseToTry_45 (lv_at hl 5 rfl) ?_
            refine pq_icmp_ge hx hb 58 hf dX2_caseToTry_47 (by decide) (fun _ hf => ?_) (fun _ hf => ?_)
            · exact hJ58 x4_L10 x5_L10 _ _ _ hf hP hD hS (lv_sub hl [1, 2, 3, 4, 5, 6] rfl)
            · exact hJ50 _ _ _ hf hP hD hS (lv_sub hl [1, 2, 3, 6, 0] rfl)
  exact hL10 N (-4) 0 0 _ _ _ hf hP hD hS (lv_sub hl [4, 5, 6, 2, 1, 0] rfl)

abbrev rm_X2_kindsOf : Room := { frames := 3, cells := 0, slots := 0, locals := 73 }
set_option maxHeartbeats 4000000 in
set_option maxRecDepth 100000 in
theorem c_X2_kindsOf (l : Launch) (D : va_G) (cy : Nat → ClassId) (N : Nat) (h0 : Nat) (a0 : Nat → Nat) (h1 : Nat) (a1 : Nat → Nat) (pairs_0 : Int32) (first_0 : Nat → Int32) (second_0 : Nat → Int32) (alike_0 : Nat → Int32) (parties_1 : Int32) (judges_1 : Int32) (cases_1 : Int32) (next_1 : Int32) (sits_1 : Int32) (kind_1 : Nat → Int32) (grievance_1 : Nat → Int32) (wins_1 : Nat → Int32) (lean_1 : Nat → Int32) (favours_1 : Nat → Int32) (plaintiff_1 : Nat → Int32) (defendant_1 : Nat → Int32) (weight_1 : Nat → Int32) (winner_1 : Nat → Int32) (p2 : Int32) (z : Int32) (hf : f_X2_kindsOf N pairs_0 first_0 second_0 judges_1 lean_1 favours_1 p2 = some z) : pq_MI l yX2_kindsOf wsX2_kindsOf rm_X2_kindsOf D cy [.ref h0, .ref h1, .int p2] [cO h0 2 [.ref (a0 0), .ref (a0 1), .ref (a0 2), .int pairs_0], cI cy (a0 0) 10 first_0, cI cy (a0 1) 10 second_0, cI cy (a0 2) 6 alike_0, cO h1 1 [.ref (a1 0), .ref (a1 1), .ref (a1 2), .ref (a1 3), .ref (a1 4), .ref (a1 5), .ref (a1 6), .ref (a1 7), .ref (a1 8), .int parties_1, .int judges_1, .int cases_1, .int next_1, .int sits_1], cI cy (a1 0) 6 kind_1, cI cy (a1 1) 6 grievance_1, cI cy (a1 2) 6 wins_1, cI cy (a1 3) 6 lean_1, cI cy (a1 4) 6 favours_1, cI cy (a1 5) 12 plaintiff_1, cI cy (a1 6) 12 defendant_1, cI cy (a1 7) 12 weight_1, cI cy (a1 8) 12 winner_1] [cO h0 2 [.ref (a0 0), .ref (a0 1), .ref (a0 2), .int pairs_0], cI cy (a0 0) 10 first_0, cI cy (a0 1) 10 second_0, cI cy (a0 2) 6 alike_0, cO h1 1 [.ref (a1 0), .ref (a1 1), .ref (a1 2), .ref (a1 3), .ref (a1 4), .ref (a1 5), .ref (a1 6), .ref (a1 7), .ref (a1 8), .int parties_1, .int judges_1, .int cases_1, .int next_1, .int sits_1], cI cy (a1 0) 6 kind_1, cI cy (a1 1) 6 grievance_1, cI cy (a1 2) 6 wins_1, cI cy (a1 3) 6 lean_1, cI cy (a1 4) 6 favours_1, cI cy (a1 5) 12 plaintiff_1, cI cy (a1 6) 12 defendant_1, cI cy (a1 7) 12 weight_1, cI cy (a1 8) 12 winner_1] (z) := by
  intro sz
  refine pq_ent (Qf := fun A => pq_Qi D cy A [cO h0 2 [.ref (a0 0), .ref (a0 1), .ref (a0 2), .int pairs_0], cI cy (a0 0) 10 first_0, cI cy (a0 1) 10 second_0, cI cy (a0 2) 6 alike_0, cO h1 1 [.ref (a1 0), .ref (a1 1), .ref (a1 2), .ref (a1 3), .ref (a1 4), .ref (a1 5), .ref (a1 6), .ref (a1 7), .ref (a1 8), .int parties_1, .int judges_1, .int cases_1, .int next_1, .int sits_1], cI cy (a1 0) 6 kind_1, cI cy (a1 1) 6 grievance_1, cI cy (a1 2) 6 wins_1, cI cy (a1 3) 6 lean_1, cI cy (a1 4) 6 favours_1, cI cy (a1 5) 12 plaintiff_1, cI cy (a1 6) 12 defendant_1, cI cy (a1 7) 12 weight_1, cI cy (a1 8) 12 winner_1] (z)) (cc := cX2_kindsOf) (maxL := 7) (ret := (some .int)) (by decide) rfl (Nat.le_of_ble_eq_true rfl) ?_
  intro p e s m args below meth c A ls Q hQ X hK hP hD hA hS hl
  obtain ⟨hx, hb, hr, hts, hown, hlocks, hml⟩ := X
  have hl : lv_has ls 7 [(0, .ref h0), (1, .ref h1), (2, .int p2)] := hl
  unfold f_X2_kindsOf at hf
  have hiX2 : ∀ w ∈ wsX20, w ∈ wsX2_kindsOf := by decide +kernel
  have k0 := hts (.fieldLink RX2 21 "LoserPicks$Clues" "pairs" "I") (by decide +kernel)
  have k1 := hts (.fieldLink RX2 9 "LoserPicks$Clues" "first" "[I") (by decide +kernel)
  have k2 := hts (.fieldLink RX2 15 "LoserPicks$Clues" "second" "[I") (by decide +kernel)
  refine lv_iconst (v := 0) hx hb dX2_kindsOf_0 (by decide) ?_
  refine lv_istore_n (lv' := [(3, .int 0), (0, .ref h0), (1, .ref h1), (2, .int p2)]) hx hb dX2_kindsOf_1 rfl hl (by decide) rfl (fun ls hl => ?_)
  refine lv_iconst (v := 1) hx hb dX2_kindsOf_2 (by decide) ?_
  refine lv_istore (lv' := [(4, .int 1), (3, .int 0), (0, .ref h0), (1, .ref h1), (2, .int p2)]) hx hb dX2_kindsOf_3 hl (by decide) rfl (fun ls hl => ?_)
  have hL5 : ∀ (n : Nat) (x3_L5 : Int32) (x4_L5 : Int32) (H : Heap) (locs : List Loc) (ls : Array Slot), pq_w (fun _ _ => none) (f_X2_kindsOf_L5 N pairs_0 first_0 second_0 judges_1 lean_1 favours_1 p2) n x3_L5 x4_L5 = some z → va_P D vwCl [cO h0 2 [.ref (a0 0), .ref (a0 1), .ref (a0 2), .int pairs_0], cI cy (a0 0) 10 first_0, cI cy (a0 1) 10 second_0, cI cy (a0 2) 6 alike_0, cO h1 1 [.ref (a1 0), .ref (a1 1), .ref (a1 2), .ref (a1 3), .ref (a1 4), .ref (a1 5), .ref (a1 6), .ref (a1 7), .ref (a1 8), .int parties_1, .int judges_1, .int cases_1, .int next_1, .int sits_1], cI cy (a1 0) 6 kind_1, cI cy (a1 1) 6 grievance_1, cI cy (a1 2) 6 wins_1, cI cy (a1 3) 6 lean_1, cI cy (a1 4) 6 favours_1, cI cy (a1 5) 12 plaintiff_1, cI cy (a1 6) 12 defendant_1, cI cy (a1 7) 12 weight_1, cI cy (a1 8) 12 winner_1] H → va_D A [cO h0 2 [.ref (a0 0), .ref (a0 1), .ref (a0 2), .int pairs_0], cI cy (a0 0) 10 first_0, cI cy (a0 1) 10 second_0, cI cy (a0 2) 6 alike_0, cO h1 1 [.ref (a1 0), .ref (a1 1), .ref (a1 2), .ref (a1 3), .ref (a1 4), .ref (a1 5), .ref (a1 6), .ref (a1 7), .ref (a1 8), .int parties_1, .int judges_1, .int cases_1, .int next_1, .int sits_1], cI cy (a1 0) 6 kind_1, cI cy (a1 1) 6 grievance_1, cI cy (a1 2) 6 wins_1, cI cy (a1 3) 6 lean_1, cI cy (a1 4) 6 favours_1, cI cy (a1 5) 12 plaintiff_1, cI cy (a1 6) 12 defendant_1, cI cy (a1 7) 12 weight_1, cI cy (a1 8) 12 winner_1] → va_S A s.heap H locs → lv_has ls 7 [(0, .ref h0), (1, .ref h1), (2, .int p2), (3, .int x3_L5), (4, .int x4_L5)] → W p l e rm_X2_kindsOf s m args below meth c H locs 0 0 Q (F0 m 5 ls []) := by
    intro n
    induction n with
    | zero =>
      intro x3_L5 x4_L5 H locs ls hf
      exact absurd (show none = some z from hf) (fun h => nomatch h)
    | succ n ihL5 =>
      intro x3_L5 x4_L5 H locs ls hf hP hD hS hl
      have hf : (f_X2_kindsOf_L5 N pairs_0 first_0 second_0 judges_1 lean_1 favours_1 p2) (pq_w (fun _ _ => none) (f_X2_kindsOf_L5 N pairs_0 first_0 second_0 judges_1 lean_1 favours_1 p2) n) x3_L5 x4_L5 = some z := hf
      generalize pq_w (fun _ _ => none) (f_X2_kindsOf_L5 N pairs_0 first_0 second_0 judges_1 lean_1 favours_1 p2) n = kL5 at hf ihL5
      unfold f_X2_kindsOf_L5 at hf
      refine lv_iload hx hb dX2_kindsOf_5 (lv_at hl 4 rfl) ?_
      refine lv_iconst (v := 5) hx hb dX2_kindsOf_7 (by decide) ?_
      refine pq_icmp_gt hx hb 86 hf dX2_kindsOf_8 (by decide) (fun _ hf => ?_) (fun _ hf => ?_)
      · refine lv_iload_n hx hb dX2_kindsOf_86 rfl (lv_at hl 3 rfl) ?_
        rw [hQ]
        exact pq_iret hx hb hr hlocks hK hP hD hS hf (fun z => z) (fun z => [cO h0 2 [.ref (a0 0), .ref (a0 1), .ref (a0 2), .int pairs_0], cI cy (a0 0) 10 first_0, cI cy (a0 1) 10 second_0, cI cy (a0 2) 6 alike_0, cO h1 1 [.ref (a1 0), .ref (a1 1), .ref (a1 2), .ref (a1 3), .ref (a1 4), .ref (a1 5), .ref (a1 6), .ref (a1 7), .ref (a1 8), .int parties_1, .int judges_1, .int cases_1, .int next_1, .int sits_1], cI cy (a1 0) 6 kind_1, cI cy (a1 1) 6 grievance_1, cI cy (a1 2) 6 wins_1, cI cy (a1 3) 6 lean_1, cI cy (a1 4) 6 favours_1, cI cy (a1 5) 12 plaintiff_1, cI cy (a1 6) 12 defendant_1, cI cy (a1 7) 12 weight_1, cI cy (a1 8) 12 winner_1]) rfl rfl dX2_kindsOf_87
      · refine lv_iconst (v := 1) hx hb dX2_kindsOf_11 (by decide) ?_
        refine lv_istore (lv' := [(5, .int 1), (0, .ref h0), (1, .ref h1), (2, .int p2), (3, .int x3_L5), (4, .int x4_L5)]) hx hb dX2_kindsOf_12 hl (by decide) rfl (fun ls hl => ?_)
        refine lv_iconst (v := 0) hx hb dX2_kindsOf_14 (by decide) ?_
        refine lv_istore (lv' := [(6, .int 0), (5, .int 1), (0, .ref h0), (1, .ref h1), (2, .int p2), (3, .int x3_L5), (4, .int x4_L5)]) hx hb dX2_kindsOf_15 hl (by decide) rfl (fun ls hl => ?_)
        have hL17 : ∀ (n : Nat) (x5_L17 : Int32) (x6_L17 : Int32) (H : Heap) (locs : List Loc) (ls : Array Slot), pq_w (fun _ _ => none) (f_X2_kindsOf_L17 N pairs_0 first_0 second_0 judges_1 lean_1 favours_1 p2 x3_L5 x4_L5 kL5) n x5_L17 x6_L17 = some z → va_P D vwCl [cO h0 2 [.ref (a0 0), .ref (a0 1), .ref (a0 2), .int pairs_0], cI cy (a0 0) 10 first_0, cI cy (a0 1) 10 second_0, cI cy (a0 2) 6 alike_0, cO h1 1 [.ref (a1 0), .ref (a1 1), .ref (a1 2), .ref (a1 3), .ref (a1 4), .ref (a1 5), .ref (a1 6), .ref (a1 7), .ref (a1 8), .int parties_1, .int judges_1, .int cases_1, .int next_1, .int sits_1], cI cy (a1 0) 6 kind_1, cI cy (a1 1) 6 grievance_1, cI cy (a1 2) 6 wins_1, cI cy (a1 3) 6 lean_1, cI cy (a1 4) 6 favours_1, cI cy (a1 5) 12 plaintiff_1, cI cy (a1 6) 12 defendant_1, cI cy (a1 7) 12 weight_1, cI cy (a1 8) 12 winner_1] H → va_D A [cO h0 2 [.ref (a0 0), .ref (a0 1), .ref (a0 2), .int pairs_0], cI cy (a0 0) 10 first_0, cI cy (a0 1) 10 second_0, cI cy (a0 2) 6 alike_0, cO h1 1 [.ref (a1 0), .ref (a1 1), .ref (a1 2), .ref (a1 3), .ref (a1 4), .ref (a1 5), .ref (a1 6), .ref (a1 7), .ref (a1 8), .int parties_1, .int judges_1, .int cases_1, .int next_1, .int sits_1], cI cy (a1 0) 6 kind_1, cI cy (a1 1) 6 grievance_1, cI cy (a1 2) 6 wins_1, cI cy (a1 3) 6 lean_1, cI cy (a1 4) 6 favours_1, cI cy (a1 5) 12 plaintiff_1, cI cy (a1 6) 12 defendant_1, cI cy (a1 7) 12 weight_1, cI cy (a1 8) 12 winner_1] → va_S A s.heap H locs → lv_has ls 7 [(0, .ref h0), (1, .ref h1), (2, .int p2), (3, .int x3_L5), (4, .int x4_L5), (5, .int x5_L17), (6, .int x6_L17)] → W p l e rm_X2_kindsOf s m args below meth c H locs 0 0 Q (F0 m 17 ls []) := by
          intro n
          induction n with
          | zero =>
            intro x5_L17 x6_L17 H locs ls hf
            exact absurd (show none = some z from hf) (fun h => nomatch h)
          | succ n ihL17 =>
            intro x5_L17 x6_L17 H locs ls hf hP hD hS hl
            have hf : (f_X2_kindsOf_L17 N pairs_0 first_0 second_0 judges_1 lean_1 favours_1 p2 x3_L5 x4_L5 kL5) (pq_w (fun _ _ => none) (f_X2_kindsOf_L17 N pairs_0 first_0 second_0 judges_1 lean_1 favours_1 p2 x3_L5 x4_L5 kL5) n) x5_L17 x6_L17 = some z := hf
            generalize pq_w (fun _ _ => none) (f_X2_kindsOf_L17 N pairs_0 first_0 second_0 judges_1 lean_1 favours_1 p2 x3_L5 x4_L5 kL5) n = kL17 at hf ihL17
            unfold f_X2_kindsOf_L17 at hf
            refine lv_iload hx hb dX2_kindsOf_17 (lv_at hl 6 rfl) ?_
            refine lv_aload_n hx hb dX2_kindsOf_19 rfl (lv_at hl 0 rfl) ?_
            refine pq_get (D := D) (ci := 2) (v := .int pairs_0) (C := RX2) (T := TX2) (N := 4) hx hb hts hiX2 hown hK hP 0 rfl rfl 3 (by decide) k0 rfl rfl dX2_kindsOf_20 ?_
            refine pq_icmp_ge hx hb 68 hf dX2_kindsOf_23 (by decide) (fun _ hf => ?_) (fun _ hf => ?_)
            · refine lv_iload hx hb dX2_kindsOf_68 (lv_at hl 5 rfl) ?_
              obtain ⟨kJ80, ekJ80, hf⟩ := pq_j_e hf
              have hJ80 : ∀ (x3_J80 : Int32) (H : Heap) (locs : List Loc) (ls : Array Slot), kJ80 x3_J80 = some z → va_P D vwCl [cO h0 2 [.ref (a0 0), .ref (a0 1), .ref (a0 2), .int pairs_0], cI cy (a0 0) 10 first_0, cI cy (a0 1) 10 second_0, cI cy (a0 2) 6 alike_0, cO h1 1 [.ref (a1 0), .ref (a1 1), .ref (a1 2), .ref (a1 3), .ref (a1 4), .ref (a1 5), .ref (a1 6), .ref (a1 7), .ref (a1 8), .int parties_1, .int judges_1, .int cases_1, .int next_1, .int sits_1], cI cy (a1 0) 6 kind_1, cI cy (a1 1) 6 grievance_1, cI cy (a1 2) 6 wins_1, cI cy (a1 3) 6 lean_1, cI cy (a1 4) 6 favours_1, cI cy (a1 5) 12 plaintiff_1, cI cy (a1 6) 12 defendant_1, cI cy (a1 7) 12 weight_1, cI cy (a1 8) 12 winner_1] H → va_D A [cO h0 2 [.ref (a0 0), .ref (a0 1), .ref (a0 2), .int pairs_0], cI cy (a0 0) 10 first_0, cI cy (a0 1) 10 second_0, cI cy (a0 2) 6 alike_0, cO h1 1 [.ref (a1 0), .ref (a1 1), .ref (a1 2), .ref (a1 3), .ref (a1 4), .ref (a1 5), .ref (a1 6), .ref (a1 7), .ref (a1 8), .int parties_1, .int judges_1, .int cases_1, .int next_1, .int sits_1], cI cy (a1 0) 6 kind_1, cI cy (a1 1) 6 grievance_1, cI cy (a1 2) 6 wins_1, cI cy (a1 3) 6 lean_1, cI cy (a1 4) 6 favours_1, cI cy (a1 5) 12 plaintiff_1, cI cy (a1 6) 12 defendant_1, cI cy (a1 7) 12 weight_1, cI cy (a1 8) 12 winner_1] → va_S A s.heap H locs → lv_has ls 7 [(0, .ref h0), (1, .ref h1), (2, .int p2), (3, .int x3_J80), (4, .int x4_L5)] → W p l e rm_X2_kindsOf s m args below meth c H locs 0 0 Q (F0 m 80 ls []) := by
                clear hf hP hD hS hl
                intro x3_J80 H locs ls hf hP hD hS hl
                rw [ekJ80] at hf
                refine pq_iinc (v := x4_L5 + 1) (lv1 := fun y => [(4, .int y), (0, .ref h0), (1, .ref h1), (2, .int p2), (3, .int x3_J80)]) hx hb hf dX2_kindsOf_80 hl (kp := 4) rfl rfl (by decide) (fun _ => rfl) (fun x4_1 ls hf hl => ?_)
                refine lv_goto (tgt := 5) hx hb dX2_kindsOf_83 (by decide) ?_
                exact ihL5 x3_J80 x4_1 _ _ _ hf hP hD hS (lv_sub hl [1, 2, 3, 4, 0] rfl)
              clear ekJ80
              refine pq_if_eq hx hb 80 hf dX2_kindsOf_70 (by decide) (fun _ hf => ?_) (fun _ hf => ?_)
              · exact hJ80 x3_L5 _ _ _ hf hP hD hS (lv_sub hl [0, 1, 2, 3, 4] rfl)
              · refine lv_iload_n hx hb dX2_kindsOf_73 rfl (lv_at hl 3 rfl) ?_
                refine lv_iconst (v := 1) hx hb dX2_kindsOf_74 (by decide) ?_
                refine lv_iload hx hb dX2_kindsOf_75 (lv_at hl 4 rfl) ?_
                refine lv_ishl hx hb dX2_kindsOf_77 ?_
                refine lv_ior hx hb dX2_kindsOf_78 ?_
                refine pq_li hf (fun x3_2 hf => ?_)
                refine lv_istore_n (lv' := [(3, .int x3_2), (0, .ref h0), (1, .ref h1), (2, .int p2), (4, .int x4_L5), (5, .int x5_L17), (6, .int x6_L17)]) hx hb dX2_kindsOf_79 rfl hl (by decide) rfl (fun ls hl => ?_)
                exact hJ80 x3_2 _ _ _ hf hP hD hS (lv_sub hl [1, 2, 3, 0, 4] rfl)
            · refine lv_iload hx hb dX2_kindsOf_26 (lv_at hl 5 rfl) ?_
              obtain ⟨kJ60, ekJ60, hf⟩ := pq_j_e hf
              have hJ60 : ∀ (y0_J60 : Int32) (H : Heap) (locs : List Loc) (ls : Array Slot), kJ60 y0_J60 = some z → va_P D vwCl [cO h0 2 [.ref (a0 0), .ref (a0 1), .ref (a0 2), .int pairs_0], cI cy (a0 0) 10 first_0, cI cy (a0 1) 10 second_0, cI cy (a0 2) 6 alike_0, cO h1 1 [.ref (a1 0), .ref (a1 1), .ref (a1 2), .ref (a1 3), .ref (a1 4), .ref (a1 5), .ref (a1 6), .ref (a1 7), .ref (a1 8), .int parties_1, .int judges_1, .int cases_1, .int next_1, .int sits_1], cI cy (a1 0) 6 kind_1, cI cy (a1 1) 6 grievance_1, cI cy (a1 2) 6 wins_1, cI cy (a1 3) 6 lean_1, cI cy (a1 4) 6 favours_1, cI cy (a1 5) 12 plaintiff_1, cI cy (a1 6) 12 defendant_1, cI cy (a1 7) 12 weight_1, cI cy (a1 8) 12 winner_1] H → va_D A [cO h0 2 [.ref (a0 0), .ref (a0 1), .ref (a0 2), .int pairs_0], cI cy (a0 0) 10 first_0, cI cy (a0 1) 10 second_0, cI cy (a0 2) 6 alike_0, cO h1 1 [.ref (a1 0), .ref (a1 1), .ref (a1 2), .ref (a1 3), .ref (a1 4), .ref (a1 5), .ref (a1 6), .ref (a1 7), .ref (a1 8), .int parties_1, .int judges_1, .int cases_1, .int next_1, .int sits_1], cI cy (a1 0) 6 kind_1, cI cy (a1 1) 6 grievance_1, cI cy (a1 2) 6 wins_1, cI cy (a1 3) 6 lean_1, cI cy (a1 4) 6 favours_1, cI cy (a1 5) 12 plaintiff_1, cI cy (a1 6) 12 defendant_1, cI cy (a1 7) 12 weight_1, cI cy (a1 8) 12 winner_1] → va_S A s.heap H locs → lv_has ls 7 [(0, .ref h0), (1, .ref h1), (2, .int p2), (3, .int x3_L5), (4, .int x4_L5), (6, .int x6_L17)] → W p l e rm_X2_kindsOf s m args below meth c H locs 0 0 Q (F0 m 60 ls [.int y0_J60]) := by
                clear hf hP hD hS hl
                intro y0_J60 H locs ls hf hP hD hS hl
                rw [ekJ60] at hf
                refine lv_istore (lv' := [(5, .int y0_J60), (0, .ref h0), (1, .ref h1), (2, .int p2), (3, .int x3_L5), (4, .int x4_L5), (6, .int x6_L17)]) hx hb dX2_kindsOf_60 hl (by decide) rfl (fun ls hl => ?_)
                refine pq_iinc (v := x6_L17 + 1) (lv1 := fun y => [(6, .int y), (5, .int y0_J60), (0, .ref h0), (1, .ref h1), (2, .int p2), (3, .int x3_L5), (4, .int x4_L5)]) hx hb hf dX2_kindsOf_62 hl (kp := 6) rfl rfl (by decide) (fun _ => rfl) (fun x6_3 ls hf hl => ?_)
                refine lv_goto (tgt := 17) hx hb dX2_kindsOf_65 (by decide) ?_
                exact ihL17 y0_J60 x6_3 _ _ _ hf hP hD hS (lv_sub hl [2, 3, 4, 5, 6, 1, 0] rfl)
              clear ekJ60
              obtain ⟨kJ59, ekJ59, hf⟩ := pq_j_e hf
              have hJ59 : ∀ (H : Heap) (locs : List Loc) (ls : Array Slot), kJ59 = some z → va_P D vwCl [cO h0 2 [.ref (a0 0), .ref (a0 1), .ref (a0 2), .int pairs_0], cI cy (a0 0) 10 first_0, cI cy (a0 1) 10 second_0, cI cy (a0 2) 6 alike_0, cO h1 1 [.ref (a1 0), .ref (a1 1), .ref (a1 2), .ref (a1 3), .ref (a1 4), .ref (a1 5), .ref (a1 6), .ref (a1 7), .ref (a1 8), .int parties_1, .int judges_1, .int cases_1, .int next_1, .int sits_1], cI cy (a1 0) 6 kind_1, cI cy (a1 1) 6 grievance_1, cI cy (a1 2) 6 wins_1, cI cy (a1 3) 6 lean_1, cI cy (a1 4) 6 favours_1, cI cy (a1 5) 12 plaintiff_1, cI cy (a1 6) 12 defendant_1, cI cy (a1 7) 12 weight_1, cI cy (a1 8) 12 winner_1] H → va_D A [cO h0 2 [.ref (a0 0), .ref (a0 1), .ref (a0 2), .int pairs_0], cI cy (a0 0) 10 first_0, cI cy (a0 1) 10 second_0, cI cy (a0 2) 6 alike_0, cO h1 1 [.ref (a1 0), .ref (a1 1), .ref (a1 2), .ref (a1 3), .ref (a1 4), .ref (a1 5), .ref (a1 6), .ref (a1 7), .ref (a1 8), .int parties_1, .int judges_1, .int cases_1, .int next_1, .int sits_1], cI cy (a1 0) 6 kind_1, cI cy (a1 1) 6 grievance_1, cI cy (a1 2) 6 wins_1, cI cy (a1 3) 6 lean_1, cI cy (a1 4) 6 favours_1, cI cy (a1 5) 12 plaintiff_1, cI cy (a1 6) 12 defendant_1, cI cy (a1 7) 12 weight_1, cI cy (a1 8) 12 winner_1] → va_S A s.heap H locs → lv_has ls 7 [(0, .ref h0), (1, .ref h1), (2, .int p2), (3, .int x3_L5), (4, .int x4_L5), (6, .int x6_L17)] → W p l e rm_X2_kindsOf s m args below meth c H locs 0 0 Q (F0 m 59 ls []) := by
                clear hf hP hD hS hl
                intro  H locs ls hf hP hD hS hl
                rw [ekJ59] at hf
                refine lv_iconst (v := 0) hx hb dX2_kindsOf_59 (by decide) ?_
                exact hJ60 0 _ _ _ hf hP hD hS (lv_sub hl [0, 1, 2, 3, 4, 5] rfl)
              clear ekJ59
              refine pq_if_eq hx hb 59 hf dX2_kindsOf_28 (by decide) (fun _ hf => ?_) (fun _ hf => ?_)
              · exact hJ59 _ _ _ hf hP hD hS (lv_sub hl [0, 1, 2, 3, 4, 6] rfl)
              · refine lv_aload_n hx hb dX2_kindsOf_31 rfl (lv_at hl 1 rfl) ?_
                refine lv_iload_n hx hb dX2_kindsOf_32 rfl (lv_at hl 2 rfl) ?_
                refine lv_iload hx hb dX2_kindsOf_33 (lv_at hl 4 rfl) ?_
                refine lv_aload_n hx hb dX2_kindsOf_35 rfl (lv_at hl 0 rfl) ?_
                refine pq_get (D := D) (ci := 2) (v := .ref (a0 0)) (C := RX2) (T := TX2) (N := 4) hx hb hts hiX2 hown hK hP 0 rfl rfl 0 (by decide) k1 rfl rfl dX2_kindsOf_36 ?_
                refine lv_iload hx hb dX2_kindsOf_39 (lv_at hl 6 rfl) ?_
                refine pq_iald hx hb hK hP 1 0 rfl rfl hf dX2_kindsOf_41 (fun hf => ?_)
                refine pq_cVi (rz := fun r => r) (w1 := fun r => [cO h1 1 [.ref (a1 0), .ref (a1 1), .ref (a1 2), .ref (a1 3), .ref (a1 4), .ref (a1 5), .ref (a1 6), .ref (a1 7), .ref (a1 8), .int parties_1, .int judges_1, .int cases_1, .int next_1, .int sits_1], cI cy (a1 0) 6 kind_1, cI cy (a1 1) 6 grievance_1, cI cy (a1 2) 6 wins_1, cI cy (a1 3) 6 lean_1, cI cy (a1 4) 6 favours_1, cI cy (a1 5) 12 plaintiff_1, cI cy (a1 6) 12 defendant_1, cI cy (a1 7) 12 weight_1, cI cy (a1 8) 12 winner_1]) (ws1 := fun r => [cO h0 2 [.ref (a0 0), .ref (a0 1), .ref (a0 2), .int pairs_0], cI cy (a0 0) 10 first_0, cI cy (a0 1) 10 second_0, cI cy (a0 2) 6 alike_0, cO h1 1 [.ref (a1 0), .ref (a1 1), .ref (a1 2), .ref (a1 3), .ref (a1 4), .ref (a1 5), .ref (a1 6), .ref (a1 7), .ref (a1 8), .int parties_1, .int judges_1, .int cases_1, .int next_1, .int sits_1], cI cy (a1 0) 6 kind_1, cI cy (a1 1) 6 grievance_1, cI cy (a1 2) 6 wins_1, cI cy (a1 3) 6 lean_1, cI cy (a1 4) 6 favours_1, cI cy (a1 5) 12 plaintiff_1, cI cy (a1 6) 12 defendant_1, cI cy (a1 7) 12 weight_1, cI cy (a1 8) 12 winner_1]) (wc := [cO h1 1 [.ref (a1 0), .ref (a1 1), .ref (a1 2), .ref (a1 3), .ref (a1 4), .ref (a1 5), .ref (a1 6), .ref (a1 7), .ref (a1 8), .int parties_1, .int judges_1, .int cases_1, .int next_1, .int sits_1], cI cy (a1 0) 6 kind_1, cI cy (a1 1) 6 grievance_1, cI cy (a1 2) 6 wins_1, cI cy (a1 3) 6 lean_1, cI cy (a1 4) 6 favours_1, cI cy (a1 5) 12 plaintiff_1, cI cy (a1 6) 12 defendant_1, cI cy (a1 7) 12 weight_1, cI cy (a1 8) 12 winner_1]) (wr := [cO h0 2 [.ref (a0 0), .ref (a0 1), .ref (a0 2), .int pairs_0], cI cy (a0 0) 10 first_0, cI cy (a0 1) 10 second_0, cI cy (a0 2) 6 alike_0]) (As := [.int p2, .int x4_L5, .int (first_0 (x6_L17 : Int32).toNatClampNeg)]) (rest := []) (b := h1) (C := RX1) ⟨hx, hb, hml, hown, hts⟩ hf (fun r hr => c_X1_namedAs l D cy N h1 a1 parties_1 judges_1 cases_1 next_1 sits_1 kind_1 grievance_1 wins_1 lean_1 favours_1 plaintiff_1 defendant_1 weight_1 winner_1 p2 x4_L5 (first_0 (x6_L17 : Int32).toNatClampNeg) r hr) (cwV 3 hts gX2_kindsOf_X1_namedAs rfl rfl rfl (by decide +kernel) ⟨Nat.le_of_ble_eq_true rfl, Nat.le_of_ble_eq_true rfl⟩) hK hP hD hS hA 0 1 rfl rfl [4, 5, 6, 7, 8, 9, 10, 11, 12, 13] [0, 1, 2, 3] [0, 1, 2, 3, 4, 5, 6, 7, 8, 9, 10, 11, 12, 13] rfl rfl rfl rfl (by decide) (fun _ => rfl) rfl rfl hl.1 rfl (Nat.le_of_ble_eq_true rfl) ⟨Nat.zero_le _, Nat.zero_le _⟩ dX2_kindsOf_42 (fun r_4 H locs hf hP hD hS => ?_)
                refine lv_aload_n hx hb dX2_kindsOf_45 rfl (lv_at hl 0 rfl) ?_
                refine pq_get (D := D) (ci := 2) (v := .ref (a0 1)) (C := RX2) (T := TX2) (N := 4) hx hb hts hiX2 hown hK hP 0 rfl rfl 1 (by decide) k2 rfl rfl dX2_kindsOf_46 ?_
                refine lv_iload hx hb dX2_kindsOf_49 (lv_at hl 6 rfl) ?_
                refine pq_iald hx hb hK hP 2 0 rfl rfl hf dX2_kindsOf_51 (fun hf => ?_)
                refine pq_icmp_ne hx hb 59 hf dX2_kindsOf_52 (by decide) (fun _ hf => ?_) (fun _ hf => ?_)
                · exact hJ59 _ _ _ hf hP hD hS (lv_sub hl [0, 1, 2, 3, 4, 6] rfl)
                · refine lv_iconst (v := 1) hx hb dX2_kindsOf_55 (by decide) ?_
                  refine lv_goto (tgt := 60) hx hb dX2_kindsOf_56 (by decide) ?_
                  exact hJ60 1 _ _ _ hf hP hD hS (lv_sub hl [0, 1, 2, 3, 4, 6] rfl)
        exact hL17 N 1 0 _ _ _ hf hP hD hS (lv_sub hl [2, 3, 4, 5, 6, 1, 0] rfl)
  exact hL5 N 0 1 _ _ _ hf hP hD hS (lv_sub hl [2, 3, 4, 1, 0] rfl)

abbrev rm_X2_greatestPart : Room := { frames := 3, cells := 0, slots := 0, locals := 73 }
set_option maxHeartbeats 4000000 in
set_option maxRecDepth 100000 in
theorem c_X2_greatestPart (l : Launch) (D : va_G) (cy : Nat → ClassId) (N : Nat) (h0 : Nat) (a0 : Nat → Nat) (h1 : Nat) (a1 : Nat → Nat) (pairs_0 : Int32) (first_0 : Nat → Int32) (second_0 : Nat → Int32) (alike_0 : Nat → Int32) (parties_1 : Int32) (judges_1 : Int32) (cases_1 : Int32) (next_1 : Int32) (sits_1 : Int32) (kind_1 : Nat → Int32) (grievance_1 : Nat → Int32) (wins_1 : Nat → Int32) (lean_1 : Nat → Int32) (favours_1 : Nat → Int32) (plaintiff_1 : Nat → Int32) (defendant_1 : Nat → Int32) (weight_1 : Nat → Int32) (winner_1 : Nat → Int32) (p2 : Int32) (p3 : Int32) (p4 : Int32) (z : Int32 × (Nat → Int32)) (hf : f_X2_greatestPart N alike_0 judges_1 lean_1 favours_1 p2 p3 p4 = some z) : pq_MI l yX2_greatestPart wsX2_greatestPart rm_X2_greatestPart D cy [.ref h0, .ref h1, .int p2, .int p3, .int p4] [cO h0 2 [.ref (a0 0), .ref (a0 1), .ref (a0 2), .int pairs_0], cI cy (a0 0) 10 first_0, cI cy (a0 1) 10 second_0, cI cy (a0 2) 6 alike_0, cO h1 1 [.ref (a1 0), .ref (a1 1), .ref (a1 2), .ref (a1 3), .ref (a1 4), .ref (a1 5), .ref (a1 6), .ref (a1 7), .ref (a1 8), .int parties_1, .int judges_1, .int cases_1, .int next_1, .int sits_1], cI cy (a1 0) 6 kind_1, cI cy (a1 1) 6 grievance_1, cI cy (a1 2) 6 wins_1, cI cy (a1 3) 6 lean_1, cI cy (a1 4) 6 favours_1, cI cy (a1 5) 12 plaintiff_1, cI cy (a1 6) 12 defendant_1, cI cy (a1 7) 12 weight_1, cI cy (a1 8) 12 winner_1] [cO h0 2 [.ref (a0 0), .ref (a0 1), .ref (a0 2), .int pairs_0], cI cy (a0 0) 10 first_0, cI cy (a0 1) 10 second_0, cI cy (a0 2) 6 z.2, cO h1 1 [.ref (a1 0), .ref (a1 1), .ref (a1 2), .ref (a1 3), .ref (a1 4), .ref (a1 5), .ref (a1 6), .ref (a1 7), .ref (a1 8), .int parties_1, .int judges_1, .int cases_1, .int next_1, .int sits_1], cI cy (a1 0) 6 kind_1, cI cy (a1 1) 6 grievance_1, cI cy (a1 2) 6 wins_1, cI cy (a1 3) 6 lean_1, cI cy (a1 4) 6 favours_1, cI cy (a1 5) 12 plaintiff_1, cI cy (a1 6) 12 defendant_1, cI cy (a1 7) 12 weight_1, cI cy (a1 8) 12 winner_1] (z.1) := by
  intro sz
  refine pq_ent (Qf := fun A => pq_Qi D cy A [cO h0 2 [.ref (a0 0), .ref (a0 1), .ref (a0 2), .int pairs_0], cI cy (a0 0) 10 first_0, cI cy (a0 1) 10 second_0, cI cy (a0 2) 6 z.2, cO h1 1 [.ref (a1 0), .ref (a1 1), .ref (a1 2), .ref (a1 3), .ref (a1 4), .ref (a1 5), .ref (a1 6), .ref (a1 7), .ref (a1 8), .int parties_1, .int judges_1, .int cases_1, .int next_1, .int sits_1], cI cy (a1 0) 6 kind_1, cI cy (a1 1) 6 grievance_1, cI cy (a1 2) 6 wins_1, cI cy (a1 3) 6 lean_1, cI cy (a1 4) 6 favours_1, cI cy (a1 5) 12 plaintiff_1, cI cy (a1 6) 12 defendant_1, cI cy (a1 7) 12 weight_1, cI cy (a1 8) 12 winner_1] (z.1)) (cc := cX2_greatestPart) (maxL := 8) (ret := (some .int)) (by decide) rfl (Nat.le_of_ble_eq_true rfl) ?_
  intro p e s m args below meth c A ls Q hQ X hK hP hD hA hS hl
  obtain ⟨hx, hb, hr, hts, hown, hlocks, hml⟩ := X
  have hl : lv_has ls 8 [(0, .ref h0), (1, .ref h1), (2, .int p2), (3, .int p3), (4, .int p4)] := hl
  unfold f_X2_greatestPart at hf
  have hiX2 : ∀ w ∈ wsX20, w ∈ wsX2_greatestPart := by decide +kernel
  have k0 := hts (.fieldLink RX2 18 "LoserPicks$Clues" "alike" "[I") (by decide +kernel)
  have k1 := hts (.methodLink RX2 49 Lib.Math.max.name) (by decide +kernel)
  have k2 := hts (.static Lib.Math.max.name) (by decide +kernel)
  have k3 := hts (.initialized "java/lang/Math") (by decide +kernel)
  have k4 := hts (.code Lib.Math.max.name Lib.Math.max.code 2 (some .int)) (by decide +kernel)
  refine lv_aload_n hx hb dX2_greatestPart_0 rfl (lv_at hl 0 rfl) ?_
  refine pq_get (D := D) (ci := 2) (v := .ref (a0 2)) (C := RX2) (T := TX2) (N := 4) hx hb hts hiX2 hown hK hP 0 rfl rfl 2 (by decide) k0 rfl rfl dX2_greatestPart_1 ?_
  refine lv_iconst (v := 0) hx hb dX2_greatestPart_4 (by decide) ?_
  refine pq_cSv (w1 := fun r => [cI cy (a0 2) 6 r]) (ws1 := fun r => [cO h0 2 [.ref (a0 0), .ref (a0 1), .ref (a0 2), .int pairs_0], cI cy (a0 0) 10 first_0, cI cy (a0 1) 10 second_0, cI cy (a0 2) 6 r, cO h1 1 [.ref (a1 0), .ref (a1 1), .ref (a1 2), .ref (a1 3), .ref (a1 4), .ref (a1 5), .ref (a1 6), .ref (a1 7), .ref (a1 8), .int parties_1, .int judges_1, .int cases_1, .int next_1, .int sits_1], cI cy (a1 0) 6 kind_1, cI cy (a1 1) 6 grievance_1, cI cy (a1 2) 6 wins_1, cI cy (a1 3) 6 lean_1, cI cy (a1 4) 6 favours_1, cI cy (a1 5) 12 plaintiff_1, cI cy (a1 6) 12 defendant_1, cI cy (a1 7) 12 weight_1, cI cy (a1 8) 12 winner_1]) (wc := [cI cy (a0 2) 6 alike_0]) (wr := [cO h0 2 [.ref (a0 0), .ref (a0 1), .ref (a0 2), .int pairs_0], cI cy (a0 0) 10 first_0, cI cy (a0 1) 10 second_0, cO h1 1 [.ref (a1 0), .ref (a1 1), .ref (a1 2), .ref (a1 3), .ref (a1 4), .ref (a1 5), .ref (a1 6), .ref (a1 7), .ref (a1 8), .int parties_1, .int judges_1, .int cases_1, .int next_1, .int sits_1], cI cy (a1 0) 6 kind_1, cI cy (a1 1) 6 grievance_1, cI cy (a1 2) 6 wins_1, cI cy (a1 3) 6 lean_1, cI cy (a1 4) 6 favours_1, cI cy (a1 5) 12 plaintiff_1, cI cy (a1 6) 12 defendant_1, cI cy (a1 7) 12 weight_1, cI cy (a1 8) 12 winner_1]) (As := [.ref (a0 2), .int 0]) (rest := []) ⟨hx, hb, hml, hown, hts⟩ hf (fun r hr => c_J7_fill_53178 l D cy N (a0 2) 6 alike_0 0 r hr) (va_cwS 2 hts gX2_greatestPart_J7_fill_53178 rfl rfl rfl (by decide +kernel) ⟨Nat.le_of_ble_eq_true rfl, Nat.le_of_ble_eq_true rfl⟩) hK hP hD hS hA [3] [0, 1, 2, 4, 5, 6, 7, 8, 9, 10, 11, 12, 13] [0, 1, 2, 13, 3, 4, 5, 6, 7, 8, 9, 10, 11, 12] rfl rfl rfl rfl (by decide) (fun _ => rfl) rfl rfl hl.1 rfl (Nat.le_of_ble_eq_true rfl) ⟨Nat.zero_le _, Nat.zero_le _⟩ dX2_greatestPart_5 (fun r_1 H locs hf hP hD hS => ?_)
  refine lv_iconst (v := 0) hx hb dX2_greatestPart_8 (by decide) ?_
  refine lv_istore (lv' := [(5, .int 0), (0, .ref h0), (1, .ref h1), (2, .int p2), (3, .int p3), (4, .int p4)]) hx hb dX2_greatestPart_9 hl (by decide) rfl (fun ls hl => ?_)
  refine lv_iconst (v := 1) hx hb dX2_greatestPart_11 (by decide) ?_
  refine lv_istore (lv' := [(6, .int 1), (5, .int 0), (0, .ref h0), (1, .ref h1), (2, .int p2), (3, .int p3), (4, .int p4)]) hx hb dX2_greatestPart_12 hl (by decide) rfl (fun ls hl => ?_)
  have hL14 : ∀ (n : Nat) (x5_L14 : Int32) (x6_L14 : Int32) (alike_0_L14 : Nat → Int32) (H : Heap) (locs : List Loc) (ls : Array Slot), pq_w (fun _ _ _ => none) (f_X2_greatestPart_L14 N judges_1 lean_1 favours_1 p2 p3 p4) n x5_L14 x6_L14 alike_0_L14 = some z → va_P D vwCl [cO h0 2 [.ref (a0 0), .ref (a0 1), .ref (a0 2), .int pairs_0], cI cy (a0 0) 10 first_0, cI cy (a0 1) 10 second_0, cI cy (a0 2) 6 alike_0_L14, cO h1 1 [.ref (a1 0), .ref (a1 1), .ref (a1 2), .ref (a1 3), .ref (a1 4), .ref (a1 5), .ref (a1 6), .ref (a1 7), .ref (a1 8), .int parties_1, .int judges_1, .int cases_1, .int next_1, .int sits_1], cI cy (a1 0) 6 kind_1, cI cy (a1 1) 6 grievance_1, cI cy (a1 2) 6 wins_1, cI cy (a1 3) 6 lean_1, cI cy (a1 4) 6 favours_1, cI cy (a1 5) 12 plaintiff_1, cI cy (a1 6) 12 defendant_1, cI cy (a1 7) 12 weight_1, cI cy (a1 8) 12 winner_1] H → va_D A [cO h0 2 [.ref (a0 0), .ref (a0 1), .ref (a0 2), .int pairs_0], cI cy (a0 0) 10 first_0, cI cy (a0 1) 10 second_0, cI cy (a0 2) 6 alike_0_L14, cO h1 1 [.ref (a1 0), .ref (a1 1), .ref (a1 2), .ref (a1 3), .ref (a1 4), .ref (a1 5), .ref (a1 6), .ref (a1 7), .ref (a1 8), .int parties_1, .int judges_1, .int cases_1, .int next_1, .int sits_1], cI cy (a1 0) 6 kind_1, cI cy (a1 1) 6 grievance_1, cI cy (a1 2) 6 wins_1, cI cy (a1 3) 6 lean_1, cI cy (a1 4) 6 favours_1, cI cy (a1 5) 12 plaintiff_1, cI cy (a1 6) 12 defendant_1, cI cy (a1 7) 12 weight_1, cI cy (a1 8) 12 winner_1] → va_S A s.heap H locs → lv_has ls 8 [(0, .ref h0), (1, .ref h1), (2, .int p2), (3, .int p3), (4, .int p4), (5, .int x5_L14), (6, .int x6_L14)] → W p l e rm_X2_greatestPart s m args below meth c H locs 0 0 Q (F0 m 14 ls []) := by
    intro n
    induction n with
    | zero =>
      intro x5_L14 x6_L14 alike_0_L14 H locs ls hf
      exact absurd (show none = some z from hf) (fun h => nomatch h)
    | succ n ihL14 =>
      intro x5_L14 x6_L14 alike_0_L14 H locs ls hf hP hD hS hl
      have hf : (f_X2_greatestPart_L14 N judges_1 lean_1 favours_1 p2 p3 p4) (pq_w (fun _ _ _ => none) (f_X2_greatestPart_L14 N judges_1 lean_1 favours_1 p2 p3 p4) n) x5_L14 x6_L14 alike_0_L14 = some z := hf
      generalize pq_w (fun _ _ _ => none) (f_X2_greatestPart_L14 N judges_1 lean_1 favours_1 p2 p3 p4) n = kL14 at hf ihL14
      unfold f_X2_greatestPart_L14 at hf
      refine lv_iload hx hb dX2_greatestPart_14 (lv_at hl 6 rfl) ?_
      refine lv_iconst (v := 5) hx hb dX2_greatestPart_16 (by decide) ?_
      refine pq_icmp_gt hx hb 72 hf dX2_greatestPart_17 (by decide) (fun _ hf => ?_) (fun _ hf => ?_)
      · refine lv_iload hx hb dX2_greatestPart_72 (lv_at hl 5 rfl) ?_
        rw [hQ]
        exact pq_iret hx hb hr hlocks hK hP hD hS hf (fun z => z.1) (fun z => [cO h0 2 [.ref (a0 0), .ref (a0 1), .ref (a0 2), .int pairs_0], cI cy (a0 0) 10 first_0, cI cy (a0 1) 10 second_0, cI cy (a0 2) 6 z.2, cO h1 1 [.ref (a1 0), .ref (a1 1), .ref (a1 2), .ref (a1 3), .ref (a1 4), .ref (a1 5), .ref (a1 6), .ref (a1 7), .ref (a1 8), .int parties_1, .int judges_1, .int cases_1, .int next_1, .int sits_1], cI cy (a1 0) 6 kind_1, cI cy (a1 1) 6 grievance_1, cI cy (a1 2) 6 wins_1, cI cy (a1 3) 6 lean_1, cI cy (a1 4) 6 favours_1, cI cy (a1 5) 12 plaintiff_1, cI cy (a1 6) 12 defendant_1, cI cy (a1 7) 12 weight_1, cI cy (a1 8) 12 winner_1]) rfl rfl dX2_greatestPart_74
      · refine lv_iload hx hb dX2_greatestPart_20 (lv_at hl 4 rfl) ?_
        refine lv_iload hx hb dX2_greatestPart_22 (lv_at hl 6 rfl) ?_
        refine lv_ishr hx hb dX2_greatestPart_24 ?_
        refine lv_iconst (v := 1) hx hb dX2_greatestPart_25 (by decide) ?_
        refine lv_iand hx hb dX2_greatestPart_26 ?_
        refine lv_iconst (v := 1) hx hb dX2_greatestPart_27 (by decide) ?_
        obtain ⟨kJ66, ekJ66, hf⟩ := pq_j_e hf
        have hJ66 : ∀ (x5_J66 : Int32) (alike_0_J66 : Nat → Int32) (H : Heap) (locs : List Loc) (ls : Array Slot), kJ66 x5_J66 alike_0_J66 = some z → va_P D vwCl [cO h0 2 [.ref (a0 0), .ref (a0 1), .ref (a0 2), .int pairs_0], cI cy (a0 0) 10 first_0, cI cy (a0 1) 10 second_0, cI cy (a0 2) 6 alike_0_J66, cO h1 1 [.ref (a1 0), .ref (a1 1), .ref (a1 2), .ref (a1 3), .ref (a1 4), .ref (a1 5), .ref (a1 6), .ref (a1 7), .ref (a1 8), .int parties_1, .int judges_1, .int cases_1, .int next_1, .int sits_1], cI cy (a1 0) 6 kind_1, cI cy (a1 1) 6 grievance_1, cI cy (a1 2) 6 wins_1, cI cy (a1 3) 6 lean_1, cI cy (a1 4) 6 favours_1, cI cy (a1 5) 12 plaintiff_1, cI cy (a1 6) 12 defendant_1, cI cy (a1 7) 12 weight_1, cI cy (a1 8) 12 winner_1] H → va_D A [cO h0 2 [.ref (a0 0), .ref (a0 1), .ref (a0 2), .int pairs_0], cI cy (a0 0) 10 first_0, cI cy (a0 1) 10 second_0, cI cy (a0 2) 6 alike_0_J66, cO h1 1 [.ref (a1 0), .ref (a1 1), .ref (a1 2), .ref (a1 3), .ref (a1 4), .ref (a1 5), .ref (a1 6), .ref (a1 7), .ref (a1 8), .int parties_1, .int judges_1, .int cases_1, .int next_1, .int sits_1], cI cy (a1 0) 6 kind_1, cI cy (a1 1) 6 grievance_1, cI cy (a1 2) 6 wins_1, cI cy (a1 3) 6 lean_1, cI cy (a1 4) 6 favours_1, cI cy (a1 5) 12 plaintiff_1, cI cy (a1 6) 12 defendant_1, cI cy (a1 7) 12 weight_1, cI cy (a1 8) 12 winner_1] → va_S A s.heap H locs → lv_has ls 8 [(0, .ref h0), (1, .ref h1), (2, .int p2), (3, .int p3), (4, .int p4), (5, .int x5_J66), (6, .int x6_L14)] → W p l e rm_X2_greatestPart s m args below meth c H locs 0 0 Q (F0 m 66 ls []) := by
          clear hf hP hD hS hl
          intro x5_J66 alike_0_J66 H locs ls hf hP hD hS hl
          rw [ekJ66] at hf
          refine pq_iinc (v := x6_L14 + 1) (lv1 := fun y => [(6, .int y), (0, .ref h0), (1, .ref h1), (2, .int p2), (3, .int p3), (4, .int p4), (5, .int x5_J66)]) hx hb hf dX2_greatestPart_66 hl (kp := 6) rfl rfl (by decide) (fun _ => rfl) (fun x6_2 ls hf hl => ?_)
          refine lv_goto (tgt := 14) hx hb dX2_greatestPart_69 (by decide) ?_
          exact ihL14 x5_J66 x6_2 alike_0_J66 _ _ _ hf hP hD hS (lv_sub hl [1, 2, 3, 4, 5, 6, 0] rfl)
        clear ekJ66
        refine pq_icmp_ne hx hb 66 hf dX2_greatestPart_28 (by decide) (fun _ hf => ?_) (fun _ hf => ?_)
        · exact hJ66 x5_L14 alike_0_L14 _ _ _ hf hP hD hS (lv_sub hl [0, 1, 2, 3, 4, 5, 6] rfl)
        · refine lv_aload_n hx hb dX2_greatestPart_31 rfl (lv_at hl 1 rfl) ?_
          refine lv_iload_n hx hb dX2_greatestPart_32 rfl (lv_at hl 2 rfl) ?_
          refine lv_iload hx hb dX2_greatestPart_33 (lv_at hl 6 rfl) ?_
          refine lv_iload_n hx hb dX2_greatestPart_35 rfl (lv_at hl 3 rfl) ?_
          refine pq_cVi (rz := fun r => r) (w1 := fun r => [cO h1 1 [.ref (a1 0), .ref (a1 1), .ref (a1 2), .ref (a1 3), .ref (a1 4), .ref (a1 5), .ref (a1 6), .ref (a1 7), .ref (a1 8), .int parties_1, .int judges_1, .int cases_1, .int next_1, .int sits_1], cI cy (a1 0) 6 kind_1, cI cy (a1 1) 6 grievance_1, cI cy (a1 2) 6 wins_1, cI cy (a1 3) 6 lean_1, cI cy (a1 4) 6 favours_1, cI cy (a1 5) 12 plaintiff_1, cI cy (a1 6) 12 defendant_1, cI cy (a1 7) 12 weight_1, cI cy (a1 8) 12 winner_1]) (ws1 := fun r => [cO h0 2 [.ref (a0 0), .ref (a0 1), .ref (a0 2), .int pairs_0], cI cy (a0 0) 10 first_0, cI cy (a0 1) 10 second_0, cI cy (a0 2) 6 alike_0_L14, cO h1 1 [.ref (a1 0), .ref (a1 1), .ref (a1 2), .ref (a1 3), .ref (a1 4), .ref (a1 5), .ref (a1 6), .ref (a1 7), .ref (a1 8), .int parties_1, .int judges_1, .int cases_1, .int next_1, .int sits_1], cI cy (a1 0) 6 kind_1, cI cy (a1 1) 6 grievance_1, cI cy (a1 2) 6 wins_1, cI cy (a1 3) 6 lean_1, cI cy (a1 4) 6 favours_1, cI cy (a1 5) 12 plaintiff_1, cI cy (a1 6) 12 defendant_1, cI cy (a1 7) 12 weight_1, cI cy (a1 8) 12 winner_1]) (wc := [cO h1 1 [.ref (a1 0), .ref (a1 1), .ref (a1 2), .ref (a1 3), .ref (a1 4), .ref (a1 5), .ref (a1 6), .ref (a1 7), .ref (a1 8), .int parties_1, .int judges_1, .int cases_1, .int next_1, .int sits_1], cI cy (a1 0) 6 kind_1, cI cy (a1 1) 6 grievance_1, cI cy (a1 2) 6 wins_1, cI cy (a1 3) 6 lean_1, cI cy (a1 4) 6 favours_1, cI cy (a1 5) 12 plaintiff_1, cI cy (a1 6) 12 defendant_1, cI cy (a1 7) 12 weight_1, cI cy (a1 8) 12 winner_1]) (wr := [cO h0 2 [.ref (a0 0), .ref (a0 1), .ref (a0 2), .int pairs_0], cI cy (a0 0) 10 first_0, cI cy (a0 1) 10 second_0, cI cy (a0 2) 6 alike_0_L14]) (As := [.int p2, .int x6_L14, .int p3]) (rest := []) (b := h1) (C := RX1) ⟨hx, hb, hml, hown, hts⟩ hf (fun r hr => c_X1_namedAs l D cy N h1 a1 parties_1 judges_1 cases_1 next_1 sits_1 kind_1 grievance_1 wins_1 lean_1 favours_1 plaintiff_1 defendant_1 weight_1 winner_1 p2 x6_L14 p3 r hr) (cwV 3 hts gX2_greatestPart_X1_namedAs rfl rfl rfl (by decide +kernel) ⟨Nat.le_of_ble_eq_true rfl, Nat.le_of_ble_eq_true rfl⟩) hK hP hD hS hA 0 1 rfl rfl [4, 5, 6, 7, 8, 9, 10, 11, 12, 13] [0, 1, 2, 3] [0, 1, 2, 3, 4, 5, 6, 7, 8, 9, 10, 11, 12, 13] rfl rfl rfl rfl (by decide) (fun _ => rfl) rfl rfl hl.1 rfl (Nat.le_of_ble_eq_true rfl) ⟨Nat.zero_le _, Nat.zero_le _⟩ dX2_greatestPart_36 (fun r_3 H locs hf hP hD hS => ?_)
          refine lv_istore (lv' := [(7, .int r_3), (0, .ref h0), (1, .ref h1), (2, .int p2), (3, .int p3), (4, .int p4), (5, .int x5_L14), (6, .int x6_L14)]) hx hb dX2_greatestPart_39 hl (by decide) rfl (fun ls hl => ?_)
          refine lv_aload_n hx hb dX2_greatestPart_41 rfl (lv_at hl 1 rfl) ?_
          refine pq_get (D := D) (ci := 2) (v := .ref (a0 2)) (C := RX2) (T := TX2) (N := 4) hx hb hts hiX2 hown hK hP 0 rfl rfl 2 (by decide) k0 rfl rfl dX2_greatestPart_42 ?_
          refine lv_iload hx hb dX2_greatestPart_45 (lv_at hl 0 rfl) ?_
          refine lv_dup2_11 hx hb dX2_greatestPart_47 rfl rfl ?_
          refine pq_iald hx hb hK hP 3 0 rfl rfl hf dX2_greatestPart_48 (fun hf => ?_)
          refine lv_iconst (v := 1) hx hb dX2_greatestPart_49 (by decide) ?_
          refine lv_iadd hx hb dX2_greatestPart_50 ?_
          refine pq_iast (ws1 := fun g => [cO h0 2 [.ref (a0 0), .ref (a0 1), .ref (a0 2), .int pairs_0], cI cy (a0 0) 10 first_0, cI cy (a0 1) 10 second_0, cI cy (a0 2) 6 g, cO h1 1 [.ref (a1 0), .ref (a1 1), .ref (a1 2), .ref (a1 3), .ref (a1 4), .ref (a1 5), .ref (a1 6), .ref (a1 7), .ref (a1 8), .int parties_1, .int judges_1, .int cases_1, .int next_1, .int sits_1], cI cy (a1 0) 6 kind_1, cI cy (a1 1) 6 grievance_1, cI cy (a1 2) 6 wins_1, cI cy (a1 3) 6 lean_1, cI cy (a1 4) 6 favours_1, cI cy (a1 5) 12 plaintiff_1, cI cy (a1 6) 12 defendant_1, cI cy (a1 7) 12 weight_1, cI cy (a1 8) 12 winner_1]) hx hb hK hP hD hS 3 0 rfl rfl (fun _ => rfl) hf dX2_greatestPart_51 (fun alike_0_4 H locs hf hP hD hS => ?_)
          refine lv_iload hx hb dX2_greatestPart_52 (lv_at hl 6 rfl) ?_
          refine lv_aload_n hx hb dX2_greatestPart_54 rfl (lv_at hl 1 rfl) ?_
          refine pq_get (D := D) (ci := 2) (v := .ref (a0 2)) (C := RX2) (T := TX2) (N := 4) hx hb hts hiX2 hown hK hP 0 rfl rfl 2 (by decide) k0 rfl rfl dX2_greatestPart_55 ?_
          refine lv_iload hx hb dX2_greatestPart_58 (lv_at hl 0 rfl) ?_
          refine pq_iald hx hb hK hP 3 0 rfl rfl hf dX2_greatestPart_60 (fun hf => ?_)
          refine va_mmax hx hb (hml.trans hl.1.symm) hown k1 k2 k3 k4 (Nat.le_of_ble_eq_true rfl) (Nat.le_of_ble_eq_true rfl) (Nat.zero_le _) (Nat.zero_le _) dX2_greatestPart_61 ?_
          refine pq_li hf (fun x5_5 hf => ?_)
          refine lv_istore (lv' := [(5, .int x5_5), (7, .int r_3), (0, .ref h0), (1, .ref h1), (2, .int p2), (3, .int p3), (4, .int p4), (6, .int x6_L14)]) hx hb dX2_greatestPart_64 hl (by decide) rfl (fun ls hl => ?_)
          exact hJ66 x5_5 alike_0_4 _ _ _ hf hP hD hS (lv_sub hl [2, 3, 4, 5, 6, 0, 7] rfl)
  exact hL14 N 0 1 r_1 _ _ _ hf hP hD hS (lv_sub hl [2, 3, 4, 5, 6, 1, 0] rfl)

abbrev rm_X2_judgeToTry : Room := { frames := 4, cells := 0, slots := 0, locals := 100 }
set_option maxHeartbeats 4000000 in
set_option maxRecDepth 100000 in
theorem c_X2_judgeToTry (l : Launch) (D : va_G) (cy : Nat → ClassId) (N : Nat) (h0 : Nat) (a0 : Nat → Nat) (h1 : Nat) (a1 : Nat → Nat) (pairs_0 : Int32) (first_0 : Nat → Int32) (second_0 : Nat → Int32) (alike_0 : Nat → Int32) (parties_1 : Int32) (judges_1 : Int32) (cases_1 : Int32) (next_1 : Int32) (sits_1 : Int32) (kind_1 : Nat → Int32) (grievance_1 : Nat → Int32) (wins_1 : Nat → Int32) (lean_1 : Nat → Int32) (favours_1 : Nat → Int32) (plaintiff_1 : Nat → Int32) (defendant_1 : Nat → Int32) (weight_1 : Nat → Int32) (winner_1 : Nat → Int32) (p2 : Int32) (p3 : Int32) (z : Int32 × (Nat → Int32)) (hf : f_X2_judgeToTry N alike_0 judges_1 lean_1 favours_1 p2 p3 = some z) : pq_MI l yX2_judgeToTry wsX2_judgeToTry rm_X2_judgeToTry D cy [.ref h0, .ref h1, .int p2, .int p3] [cO h0 2 [.ref (a0 0), .ref (a0 1), .ref (a0 2), .int pairs_0], cI cy (a0 0) 10 first_0, cI cy (a0 1) 10 second_0, cI cy (a0 2) 6 alike_0, cO h1 1 [.ref (a1 0), .ref (a1 1), .ref (a1 2), .ref (a1 3), .ref (a1 4), .ref (a1 5), .ref (a1 6), .ref (a1 7), .ref (a1 8), .int parties_1, .int judges_1, .int cases_1, .int next_1, .int sits_1], cI cy (a1 0) 6 kind_1, cI cy (a1 1) 6 grievance_1, cI cy (a1 2) 6 wins_1, cI cy (a1 3) 6 lean_1, cI cy (a1 4) 6 favours_1, cI cy (a1 5) 12 plaintiff_1, cI cy (a1 6) 12 defendant_1, cI cy (a1 7) 12 weight_1, cI cy (a1 8) 12 winner_1] [cO h0 2 [.ref (a0 0), .ref (a0 1), .ref (a0 2), .int pairs_0], cI cy (a0 0) 10 first_0, cI cy (a0 1) 10 second_0, cI cy (a0 2) 6 z.2, cO h1 1 [.ref (a1 0), .ref (a1 1), .ref (a1 2), .ref (a1 3), .ref (a1 4), .ref (a1 5), .ref (a1 6), .ref (a1 7), .ref (a1 8), .int parties_1, .int judges_1, .int cases_1, .int next_1, .int sits_1], cI cy (a1 0) 6 kind_1, cI cy (a1 1) 6 grievance_1, cI cy (a1 2) 6 wins_1, cI cy (a1 3) 6 lean_1, cI cy (a1 4) 6 favours_1, cI cy (a1 5) 12 plaintiff_1, cI cy (a1 6) 12 defendant_1, cI cy (a1 7) 12 weight_1, cI cy (a1 8) 12 winner_1] (z.1) := by
  intro sz
  refine pq_ent (Qf := fun A => pq_Qi D cy A [cO h0 2 [.ref (a0 0), .ref (a0 1), .ref (a0 2), .int pairs_0], cI cy (a0 0) 10 first_0, cI cy (a0 1) 10 second_0, cI cy (a0 2) 6 z.2, cO h1 1 [.ref (a1 0), .ref (a1 1), .ref (a1 2), .ref (a1 3), .ref (a1 4), .ref (a1 5), .ref (a1 6), .ref (a1 7), .ref (a1 8), .int parties_1, .int judges_1, .int cases_1, .int next_1, .int sits_1], cI cy (a1 0) 6 kind_1, cI cy (a1 1) 6 grievance_1, cI cy (a1 2) 6 wins_1, cI cy (a1 3) 6 lean_1, cI cy (a1 4) 6 favours_1, cI cy (a1 5) 12 plaintiff_1, cI cy (a1 6) 12 defendant_1, cI cy (a1 7) 12 weight_1, cI cy (a1 8) 12 winner_1] (z.1)) (cc := cX2_judgeToTry) (maxL := 8) (ret := (some .int)) (by decide) rfl (Nat.le_of_ble_eq_true rfl) ?_
  intro p e s m args below meth c A ls Q hQ X hK hP hD hA hS hl
  obtain ⟨hx, hb, hr, hts, hown, hlocks, hml⟩ := X
  have hl : lv_has ls 8 [(0, .ref h0), (1, .ref h1), (2, .int p2), (3, .int p3)] := hl
  unfold f_X2_judgeToTry at hf
  have hiX1 : ∀ w ∈ wsX10, w ∈ wsX2_judgeToTry := by decide +kernel
  have k0 := hts (.fieldLink RX2 58 "LoserPicks$Circuit" "judges" "I") (by decide +kernel)
  refine lv_bipush (v := (-4)) hx hb dX2_judgeToTry_0 (by decide) ?_
  refine lv_istore (lv' := [(4, .int (-4)), (0, .ref h0), (1, .ref h1), (2, .int p2), (3, .int p3)]) hx hb dX2_judgeToTry_2 hl (by decide) rfl (fun ls hl => ?_)
  refine lv_iconst (v := 0) hx hb dX2_judgeToTry_4 (by decide) ?_
  refine lv_istore (lv' := [(5, .int 0), (4, .int (-4)), (0, .ref h0), (1, .ref h1), (2, .int p2), (3, .int p3)]) hx hb dX2_judgeToTry_5 hl (by decide) rfl (fun ls hl => ?_)
  refine lv_iconst (v := 0) hx hb dX2_judgeToTry_7 (by decide) ?_
  refine lv_istore (lv' := [(6, .int 0), (5, .int 0), (4, .int (-4)), (0, .ref h0), (1, .ref h1), (2, .int p2), (3, .int p3)]) hx hb dX2_judgeToTry_8 hl (by decide) rfl (fun ls hl => ?_)
  have hL10 : ∀ (n : Nat) (x4_L10 : Int32) (x5_L10 : Int32) (x6_L10 : Int32) (alike_0_L10 : Nat → Int32) (H : Heap) (locs : List Loc) (ls : Array Slot), pq_w (fun _ _ _ _ => none) (f_X2_judgeToTry_L10 N judges_1 lean_1 favours_1 p2 p3) n x4_L10 x5_L10 x6_L10 alike_0_L10 = some z → va_P D vwCl [cO h0 2 [.ref (a0 0), .ref (a0 1), .ref (a0 2), .int pairs_0], cI cy (a0 0) 10 first_0, cI cy (a0 1) 10 second_0, cI cy (a0 2) 6 alike_0_L10, cO h1 1 [.ref (a1 0), .ref (a1 1), .ref (a1 2), .ref (a1 3), .ref (a1 4), .ref (a1 5), .ref (a1 6), .ref (a1 7), .ref (a1 8), .int parties_1, .int judges_1, .int cases_1, .int next_1, .int sits_1], cI cy (a1 0) 6 kind_1, cI cy (a1 1) 6 grievance_1, cI cy (a1 2) 6 wins_1, cI cy (a1 3) 6 lean_1, cI cy (a1 4) 6 favours_1, cI cy (a1 5) 12 plaintiff_1, cI cy (a1 6) 12 defendant_1, cI cy (a1 7) 12 weight_1, cI cy (a1 8) 12 winner_1] H → va_D A [cO h0 2 [.ref (a0 0), .ref (a0 1), .ref (a0 2), .int pairs_0], cI cy (a0 0) 10 first_0, cI cy (a0 1) 10 second_0, cI cy (a0 2) 6 alike_0_L10, cO h1 1 [.ref (a1 0), .ref (a1 1), .ref (a1 2), .ref (a1 3), .ref (a1 4), .ref (a1 5), .ref (a1 6), .ref (a1 7), .ref (a1 8), .int parties_1, .int judges_1, .int cases_1, .int next_1, .int sits_1], cI cy (a1 0) 6 kind_1, cI cy (a1 1) 6 grievance_1, cI cy (a1 2) 6 wins_1, cI cy (a1 3) 6 lean_1, cI cy (a1 4) 6 favours_1, cI cy (a1 5) 12 plaintiff_1, cI cy (a1 6) 12 defendant_1, cI cy (a1 7) 12 weight_1, cI cy (a1 8) 12 winner_1] → va_S A s.heap H locs → lv_has ls 8 [(0, .ref h0), (1, .ref h1), (2, .int p2), (3, .int p3), (4, .int x4_L10), (5, .int x5_L10), (6, .int x6_L10)] → W p l e rm_X2_judgeToTry s m args below meth c H locs 0 0 Q (F0 m 10 ls []) := by
    intro n
    induction n with
    | zero =>
      intro x4_L10 x5_L10 x6_L10 alike_0_L10 H locs ls hf
      exact absurd (show none = some z from hf) (fun h => nomatch h)
    | succ n ihL10 =>
      intro x4_L10 x5_L10 x6_L10 alike_0_L10 H locs ls hf hP hD hS hl
      have hf : (f_X2_judgeToTry_L10 N judges_1 lean_1 favours_1 p2 p3) (pq_w (fun _ _ _ _ => none) (f_X2_judgeToTry_L10 N judges_1 lean_1 favours_1 p2 p3) n) x4_L10 x5_L10 x6_L10 alike_0_L10 = some z := hf
      generalize pq_w (fun _ _ _ _ => none) (f_X2_judgeToTry_L10 N judges_1 lean_1 favours_1 p2 p3) n = kL10 at hf ihL10
      unfold f_X2_judgeToTry_L10 at hf
      refine lv_iload hx hb dX2_judgeToTry_10 (lv_at hl 6 rfl) ?_
      refine lv_aload_n hx hb dX2_judgeToTry_12 rfl (lv_at hl 1 rfl) ?_
      refine pq_get (D := D) (ci := 1) (v := .int judges_1) (C := RX1) (T := TX1) (N := 14) hx hb hts hiX1 hown hK hP 4 rfl rfl 10 (by decide) k0 rfl rfl dX2_judgeToTry_13 ?_
      refine pq_icmp_ge hx hb 62 hf dX2_judgeToTry_16 (by decide) (fun _ hf => ?_) (fun _ hf => ?_)
      · refine lv_iload hx hb dX2_judgeToTry_62 (lv_at hl 4 rfl) ?_
        rw [hQ]
        exact pq_iret hx hb hr hlocks hK hP hD hS hf (fun z => z.1) (fun z => [cO h0 2 [.ref (a0 0), .ref (a0 1), .ref (a0 2), .int pairs_0], cI cy (a0 0) 10 first_0, cI cy (a0 1) 10 second_0, cI cy (a0 2) 6 z.2, cO h1 1 [.ref (a1 0), .ref (a1 1), .ref (a1 2), .ref (a1 3), .ref (a1 4), .ref (a1 5), .ref (a1 6), .ref (a1 7), .ref (a1 8), .int parties_1, .int judges_1, .int cases_1, .int next_1, .int sits_1], cI cy (a1 0) 6 kind_1, cI cy (a1 1) 6 grievance_1, cI cy (a1 2) 6 wins_1, cI cy (a1 3) 6 lean_1, cI cy (a1 4) 6 favours_1, cI cy (a1 5) 12 plaintiff_1, cI cy (a1 6) 12 defendant_1, cI cy (a1 7) 12 weight_1, cI cy (a1 8) 12 winner_1]) rfl rfl dX2_judgeToTry_64
      · refine lv_iload_n hx hb dX2_judgeToTry_19 rfl (lv_at hl 3 rfl) ?_
        refine pq_if_eq hx hb 62 hf dX2_judgeToTry_20 (by decide) (fun _ hf => ?_) (fun _ hf => ?_)
        · refine lv_iload hx hb dX2_judgeToTry_62 (lv_at hl 4 rfl) ?_
          rw [hQ]
          exact pq_iret hx hb hr hlocks hK hP hD hS hf (fun z => z.1) (fun z => [cO h0 2 [.ref (a0 0), .ref (a0 1), .ref (a0 2), .int pairs_0], cI cy (a0 0) 10 first_0, cI cy (a0 1) 10 second_0, cI cy (a0 2) 6 z.2, cO h1 1 [.ref (a1 0), .ref (a1 1), .ref (a1 2), .ref (a1 3), .ref (a1 4), .ref (a1 5), .ref (a1 6), .ref (a1 7), .ref (a1 8), .int parties_1, .int judges_1, .int cases_1, .int next_1, .int sits_1], cI cy (a1 0) 6 kind_1, cI cy (a1 1) 6 grievance_1, cI cy (a1 2) 6 wins_1, cI cy (a1 3) 6 lean_1, cI cy (a1 4) 6 favours_1, cI cy (a1 5) 12 plaintiff_1, cI cy (a1 6) 12 defendant_1, cI cy (a1 7) 12 weight_1, cI cy (a1 8) 12 winner_1]) rfl rfl dX2_judgeToTry_64
        · refine lv_aload_n hx hb dX2_judgeToTry_23 rfl (lv_at hl 0 rfl) ?_
          refine lv_aload_n hx hb dX2_judgeToTry_24 rfl (lv_at hl 1 rfl) ?_
          refine lv_iload_n hx hb dX2_judgeToTry_25 rfl (lv_at hl 2 rfl) ?_
          refine lv_iload hx hb dX2_judgeToTry_26 (lv_at hl 6 rfl) ?_
          refine lv_iload_n hx hb dX2_judgeToTry_28 rfl (lv_at hl 3 rfl) ?_
          refine pq_cVi (rz := fun r => r.1) (w1 := fun r => [cO h0 2 [.ref (a0 0), .ref (a0 1), .ref (a0 2), .int pairs_0], cI cy (a0 0) 10 first_0, cI cy (a0 1) 10 second_0, cI cy (a0 2) 6 r.2, cO h1 1 [.ref (a1 0), .ref (a1 1), .ref (a1 2), .ref (a1 3), .ref (a1 4), .ref (a1 5), .ref (a1 6), .ref (a1 7), .ref (a1 8), .int parties_1, .int judges_1, .int cases_1, .int next_1, .int sits_1], cI cy (a1 0) 6 kind_1, cI cy (a1 1) 6 grievance_1, cI cy (a1 2) 6 wins_1, cI cy (a1 3) 6 lean_1, cI cy (a1 4) 6 favours_1, cI cy (a1 5) 12 plaintiff_1, cI cy (a1 6) 12 defendant_1, cI cy (a1 7) 12 weight_1, cI cy (a1 8) 12 winner_1]) (ws1 := fun r => [cO h0 2 [.ref (a0 0), .ref (a0 1), .ref (a0 2), .int pairs_0], cI cy (a0 0) 10 first_0, cI cy (a0 1) 10 second_0, cI cy (a0 2) 6 r.2, cO h1 1 [.ref (a1 0), .ref (a1 1), .ref (a1 2), .ref (a1 3), .ref (a1 4), .ref (a1 5), .ref (a1 6), .ref (a1 7), .ref (a1 8), .int parties_1, .int judges_1, .int cases_1, .int next_1, .int sits_1], cI cy (a1 0) 6 kind_1, cI cy (a1 1) 6 grievance_1, cI cy (a1 2) 6 wins_1, cI cy (a1 3) 6 lean_1, cI cy (a1 4) 6 favours_1, cI cy (a1 5) 12 plaintiff_1, cI cy (a1 6) 12 defendant_1, cI cy (a1 7) 12 weight_1, cI cy (a1 8) 12 winner_1]) (wc := [cO h0 2 [.ref (a0 0), .ref (a0 1), .ref (a0 2), .int pairs_0], cI cy (a0 0) 10 first_0, cI cy (a0 1) 10 second_0, cI cy (a0 2) 6 alike_0_L10, cO h1 1 [.ref (a1 0), .ref (a1 1), .ref (a1 2), .ref (a1 3), .ref (a1 4), .ref (a1 5), .ref (a1 6), .ref (a1 7), .ref (a1 8), .int parties_1, .int judges_1, .int cases_1, .int next_1, .int sits_1], cI cy (a1 0) 6 kind_1, cI cy (a1 1) 6 grievance_1, cI cy (a1 2) 6 wins_1, cI cy (a1 3) 6 lean_1, cI cy (a1 4) 6 favours_1, cI cy (a1 5) 12 plaintiff_1, cI cy (a1 6) 12 defendant_1, cI cy (a1 7) 12 weight_1, cI cy (a1 8) 12 winner_1]) (wr := []) (As := [.ref h1, .int p2, .int x6_L10, .int p3]) (rest := []) (b := h0) (C := RX2) ⟨hx, hb, hml, hown, hts⟩ hf (fun r hr => c_X2_greatestPart l D cy N h0 a0 h1 a1 pairs_0 first_0 second_0 alike_0_L10 parties_1 judges_1 cases_1 next_1 sits_1 kind_1 grievance_1 wins_1 lean_1 favours_1 plaintiff_1 defendant_1 weight_1 winner_1 p2 x6_L10 p3 r hr) (cwV 4 hts gX2_judgeToTry_X2_greatestPart rfl rfl rfl (by decide +kernel) ⟨Nat.le_of_ble_eq_true rfl, Nat.le_of_ble_eq_true rfl⟩) hK hP hD hS hA 0 2 rfl rfl [0, 1, 2, 3, 4, 5, 6, 7, 8, 9, 10, 11, 12, 13] [] [0, 1, 2, 3, 4, 5, 6, 7, 8, 9, 10, 11, 12, 13] rfl rfl rfl rfl (by decide) (fun _ => rfl) rfl rfl hl.1 rfl (Nat.le_of_ble_eq_true rfl) ⟨Nat.zero_le _, Nat.zero_le _⟩ dX2_judgeToTry_29 (fun r_1 H locs hf hP hD hS => ?_)
          refine lv_istore (lv' := [(7, .int r_1.1), (0, .ref h0), (1, .ref h1), (2, .int p2), (3, .int p3), (4, .int x4_L10), (5, .int x5_L10), (6, .int x6_L10)]) hx hb dX2_judgeToTry_32 hl (by decide) rfl (fun ls hl => ?_)
          refine lv_iload hx hb dX2_judgeToTry_34 (lv_at hl 5 rfl) ?_
          refine lv_bipush (v := (-4)) hx hb dX2_judgeToTry_36 (by decide) ?_
          obtain ⟨kJ56, ekJ56, hf⟩ := pq_j_e hf
          have hJ56 : ∀ (x4_J56 : Int32) (x5_J56 : Int32) (H : Heap) (locs : List Loc) (ls : Array Slot), kJ56 x4_J56 x5_J56 = some z → va_P D vwCl [cO h0 2 [.ref (a0 0), .ref (a0 1), .ref (a0 2), .int pairs_0], cI cy (a0 0) 10 first_0, cI cy (a0 1) 10 second_0, cI cy (a0 2) 6 r_1.2, cO h1 1 [.ref (a1 0), .ref (a1 1), .ref (a1 2), .ref (a1 3), .ref (a1 4), .ref (a1 5), .ref (a1 6), .ref (a1 7), .ref (a1 8), .int parties_1, .int judges_1, .int cases_1, .int next_1, .int sits_1], cI cy (a1 0) 6 kind_1, cI cy (a1 1) 6 grievance_1, cI cy (a1 2) 6 wins_1, cI cy (a1 3) 6 lean_1, cI cy (a1 4) 6 favours_1, cI cy (a1 5) 12 plaintiff_1, cI cy (a1 6) 12 defendant_1, cI cy (a1 7) 12 weight_1, cI cy (a1 8) 12 winner_1] H → va_D A [cO h0 2 [.ref (a0 0), .ref (a0 1), .ref (a0 2), .int pairs_0], cI cy (a0 0) 10 first_0, cI cy (a0 1) 10 second_0, cI cy (a0 2) 6 r_1.2, cO h1 1 [.ref (a1 0), .ref (a1 1), .ref (a1 2), .ref (a1 3), .ref (a1 4), .ref (a1 5), .ref (a1 6), .ref (a1 7), .ref (a1 8), .int parties_1, .int judges_1, .int cases_1, .int next_1, .int sits_1], cI cy (a1 0) 6 kind_1, cI cy (a1 1) 6 grievance_1, cI cy (a1 2) 6 wins_1, cI cy (a1 3) 6 lean_1, cI cy (a1 4) 6 favours_1, cI cy (a1 5) 12 plaintiff_1, cI cy (a1 6) 12 defendant_1, cI cy (a1 7) 12 weight_1, cI cy (a1 8) 12 winner_1] → va_S A s.heap H locs → lv_has ls 8 [(0, .ref h0), (1, .ref h1), (2, .int p2), (3, .int p3), (4, .int x4_J56), (5, .int x5_J56), (6, .int x6_L10)] → W p l e rm_X2_judgeToTry s m args below meth c H locs 0 0 Q (F0 m 56 ls []) := by
            clear hf hP hD hS hl
            intro x4_J56 x5_J56 H locs ls hf hP hD hS hl
            rw [ekJ56] at hf
            refine pq_iinc (v := x6_L10 + 1) (lv1 := fun y => [(6, .int y), (0, .ref h0), (1, .ref h1), (2, .int p2), (3, .int p3), (4, .int x4_J56), (5, .int x5_J56)]) hx hb hf dX2_judgeToTry_56 hl (kp := 6) rfl rfl (by decide) (fun _ => rfl) (fun x6_2 ls hf hl => ?_)
            refine lv_goto (tgt := 10) hx hb dX2_judgeToTry_59 (by decide) ?_
            exact ihL10 x4_J56 x5_J56 x6_2 r_1.2 _ _ _ hf hP hD hS (lv_sub hl [1, 2, 3, 4, 5, 6, 0] rfl)
          clear ekJ56
          obtain ⟨kJ48, ekJ48, hf⟩ := pq_j_e hf
          have hJ48 : ∀ (H : Heap) (locs : List Loc) (ls : Array Slot), kJ48 = some z → va_P D vwCl [cO h0 2 [.ref (a0 0), .ref (a0 1), .ref (a0 2), .int pairs_0], cI cy (a0 0) 10 first_0, cI cy (a0 1) 10 second_0, cI cy (a0 2) 6 r_1.2, cO h1 1 [.ref (a1 0), .ref (a1 1), .ref (a1 2), .ref (a1 3), .ref (a1 4), .ref (a1 5), .ref (a1 6), .ref (a1 7), .ref (a1 8), .int parties_1, .int judges_1, .int cases_1, .int next_1, .int sits_1], cI cy (a1 0) 6 kind_1, cI cy (a1 1) 6 grievance_1, cI cy (a1 2) 6 wins_1, cI cy (a1 3) 6 lean_1, cI cy (a1 4) 6 favours_1, cI cy (a1 5) 12 plaintiff_1, cI cy (a1 6) 12 defendant_1, cI cy (a1 7) 12 weight_1, cI cy (a1 8) 12 winner_1] H → va_D A [cO h0 2 [.ref (a0 0), .ref (a0 1), .ref (a0 2), .int pairs_0], cI cy (a0 0) 10 first_0, cI cy (a0 1) 10 second_0, cI cy (a0 2) 6 r_1.2, cO h1 1 [.ref (a1 0), .ref (a1 1), .ref (a1 2), .ref (a1 3), .ref (a1 4), .ref (a1 5), .ref (a1 6), .ref (a1 7), .ref (a1 8), .int parties_1, .int judges_1, .int cases_1, .int next_1, .int sits_1], cI cy (a1 0) 6 kind_1, cI cy (a1 1) 6 grievance_1, cI cy (a1 2) 6 wins_1, cI cy (a1 3) 6 lean_1, cI cy (a1 4) 6 favours_1, cI cy (a1 5) 12 plaintiff_1, cI cy (a1 6) 12 defendant_1, cI cy (a1 7) 12 weight_1, cI cy (a1 8) 12 winner_1] → va_S A s.heap H locs → lv_has ls 8 [(0, .ref h0), (1, .ref h1), (2, .int p2), (3, .int p3), (6, .int x6_L10), (7, .int r_1.1)] → W p l e rm_X2_judgeToTry s m args below meth c H locs 0 0 Q (F0 m 48 ls []) := by
            clear hf hP hD hS hl
            intro  H locs ls hf hP hD hS hl
            rw [ekJ48] at hf
            refine lv_iload hx hb dX2_judgeToTry_48 (lv_at hl 4 rfl) ?_
            refine lv_istore (lv' := [(4, .int x6_L10), (0, .ref h0), (1, .ref h1), (2, .int p2), (3, .int p3), (6, .int x6_L10), (7, .int r_1.1)]) hx hb dX2_judgeToTry_50 hl (by decide) rfl (fun ls hl => ?_)
            refine lv_iload hx hb dX2_judgeToTry_52 (lv_at hl 6 rfl) ?_
            refine lv_istore (lv' := [(5, .int r_1.1), (4, .int x6_L10), (0, .ref h0), (1, .ref h1), (2, .int p2), (3, .int p3), (6, .int x6_L10), (7, .int r_1.1)]) hx hb dX2_judgeToTry_54 hl (by decide) rfl (fun ls hl => ?_)
            exact hJ56 x6_L10 r_1.1 _ _ _ hf hP hD hS (lv_sub hl [2, 3, 4, 5, 1, 0, 6] rfl)
          clear ekJ48
          refine pq_icmp_eq hx hb 48 hf dX2_judgeToTry_38 (by decide) (fun _ hf => ?_) (fun _ hf => ?_)
          · exact hJ48 _ _ _ hf hP hD hS (lv_sub hl [1, 2, 3, 4, 7, 0] rfl)
          · refine lv_iload hx hb dX2_judgeToTry_41 (lv_at hl 0 rfl) ?_
            refine lv_iload hx hb dX2_judgeToTry_43 (lv_at hl 6 rfl) ?_
            refine pq_icmp_ge hx hb 56 hf dX2_judgeToTry_45 (by decide) (fun _ hf => ?_) (fun _ hf => ?_)
            · exact hJ56 x4_L10 x5_L10 _ _ _ hf hP hD hS (lv_sub hl [1, 2, 3, 4, 5, 6, 7] rfl)
            · exact hJ48 _ _ _ hf hP hD hS (lv_sub hl [1, 2, 3, 4, 7, 0] rfl)
  exact hL10 N (-4) 0 0 alike_0 _ _ _ hf hP hD hS (lv_sub hl [3, 4, 5, 6, 2, 1, 0] rfl)

abbrev rm_X5_lay : Room := { frames := 1, cells := 0, slots := 0, locals := 24 }
set_option maxHeartbeats 4000000 in
set_option maxRecDepth 100000 in
theorem c_X5_lay (l : Launch) (D : va_G) (cy : Nat → ClassId) (N : Nat) (h0 : Nat) (a0 : Nat → Nat) (held_0 : Int32) (lane_0 : Int32) (size_0 : Int32) (items_0 : Nat → Int64) (p1 : Int32) (p2 : Int32) (z : Int32 × Int32 × Int32 × (Nat → Int64)) (hf : f_X5_lay N held_0 lane_0 size_0 items_0 p1 p2 = some z) : pq_MV l yX5_lay wsX5_lay rm_X5_lay D cy [.ref h0, .int p1, .int p2] [cO h0 5 [.ref (a0 0), .int held_0, .int lane_0, .int size_0], cJ cy (a0 0) 24 items_0] [cO h0 5 [.ref (a0 0), .int z.1, .int z.2.1, .int z.2.2.1], cJ cy (a0 0) 24 z.2.2.2] := by
  intro sz
  refine pq_ent (Qf := fun A => pq_Qv D cy A [cO h0 5 [.ref (a0 0), .int z.1, .int z.2.1, .int z.2.2.1], cJ cy (a0 0) 24 z.2.2.2]) (cc := cX5_lay) (maxL := 3) (ret := none) (by decide) rfl (Nat.le_of_ble_eq_true rfl) ?_
  intro p e s m args below meth c A ls Q hQ X hK hP hD hA hS hl
  obtain ⟨hx, hb, hr, hts, hown, hlocks, hml⟩ := X
  have hl : lv_has ls 3 [(0, .ref h0), (1, .int p1), (2, .int p2)] := hl
  unfold f_X5_lay at hf
  have hiX5 : ∀ w ∈ wsX50, w ∈ wsX5_lay := by decide +kernel
  have k0 := hts (.fieldLink RX5 9 "LoserPicks$Sheet" "items" "[J") (by decide +kernel)
  have k1 := hts (.fieldLink RX5 15 "LoserPicks$Sheet" "held" "Z") (by decide +kernel)
  have k2 := hts (.fieldLink RX5 19 "LoserPicks$Sheet" "lane" "I") (by decide +kernel)
  have k3 := hts (.fieldLink RX5 23 "LoserPicks$Sheet" "size" "I") (by decide +kernel)
  refine lv_aload_n hx hb dX5_lay_0 rfl (lv_at hl 0 rfl) ?_
  refine pq_get (D := D) (ci := 5) (v := .ref (a0 0)) (C := RX5) (T := TX5) (N := 4) hx hb hts hiX5 hown hK hP 0 rfl rfl 0 (by decide) k0 rfl rfl dX5_lay_1 ?_
  refine lv_lconst (v := 0) hx hb dX5_lay_4 (by decide) ?_
  refine pq_cSv (w1 := fun r => [cJ cy (a0 0) 24 r]) (ws1 := fun r => [cO h0 5 [.ref (a0 0), .int held_0, .int lane_0, .int size_0], cJ cy (a0 0) 24 r]) (wc := [cJ cy (a0 0) 24 items_0]) (wr := [cO h0 5 [.ref (a0 0), .int held_0, .int lane_0, .int size_0]]) (As := [.ref (a0 0), .long 0]) (rest := []) ⟨hx, hb, hml, hown, hts⟩ hf (fun r hr => c_J7_fill_d0a16 l D cy N (a0 0) 24 items_0 0 r hr) (va_cwS 2 hts gX5_lay_J7_fill_d0a16 rfl rfl rfl (by decide +kernel) ⟨Nat.le_of_ble_eq_true rfl, Nat.le_of_ble_eq_true rfl⟩) hK hP hD hS hA [1] [0] [0, 1] rfl rfl rfl rfl (by decide) (fun _ => rfl) rfl rfl hl.1 rfl (Nat.le_of_ble_eq_true rfl) ⟨Nat.zero_le _, Nat.zero_le _⟩ dX5_lay_5 (fun r_1 H locs hf hP hD hS => ?_)
  refine lv_aload_n hx hb dX5_lay_8 rfl (lv_at hl 0 rfl) ?_
  refine lv_iconst (v := 1) hx hb dX5_lay_9 (by decide) ?_
  refine pq_put (D := D) (ci := 5) (v := .int 1) (C := RX5) (T := TX5) (N := 4) (ws1 := [cO h0 5 [.ref (a0 0), .int 1, .int lane_0, .int size_0], cJ cy (a0 0) 24 r_1]) hx hb hts hiX5 tyX5 tyX5_ok nmX5 hown hK hP hD hS 0 rfl rfl 1 (by decide) k1 rfl rfl .boolean (by decide +kernel) rfl rfl (Nat.le_of_ble_eq_true rfl) rfl dX5_lay_10 (fun H locs hP hD hS => ?_)
  refine lv_aload_n hx hb dX5_lay_13 rfl (lv_at hl 0 rfl) ?_
  refine lv_iload_n hx hb dX5_lay_14 rfl (lv_at hl 1 rfl) ?_
  refine pq_put (D := D) (ci := 5) (v := .int p1) (C := RX5) (T := TX5) (N := 4) (ws1 := [cO h0 5 [.ref (a0 0), .int 1, .int p1, .int size_0], cJ cy (a0 0) 24 r_1]) hx hb hts hiX5 tyX5 tyX5_ok nmX5 hown hK hP hD hS 0 rfl rfl 2 (by decide) k2 rfl rfl .int (by decide +kernel) rfl rfl (Nat.le_of_ble_eq_true rfl) rfl dX5_lay_15 (fun H locs hP hD hS => ?_)
  refine lv_aload_n hx hb dX5_lay_18 rfl (lv_at hl 0 rfl) ?_
  refine lv_iload_n hx hb dX5_lay_19 rfl (lv_at hl 2 rfl) ?_
  refine pq_put (D := D) (ci := 5) (v := .int p2) (C := RX5) (T := TX5) (N := 4) (ws1 := [cO h0 5 [.ref (a0 0), .int 1, .int p1, .int p2], cJ cy (a0 0) 24 r_1]) hx hb hts hiX5 tyX5 tyX5_ok nmX5 hown hK hP hD hS 0 rfl rfl 3 (by decide) k3 rfl rfl .int (by decide +kernel) rfl rfl (Nat.le_of_ble_eq_true rfl) rfl dX5_lay_20 (fun H locs hP hD hS => ?_)
  rw [hQ]
  exact pq_vret hx hb hr hlocks hK hP hD hS hf (fun z => [cO h0 5 [.ref (a0 0), .int z.1, .int z.2.1, .int z.2.2.1], cJ cy (a0 0) 24 z.2.2.2]) rfl dX5_lay_23

abbrev rm_X5_reaches : Room := { frames := 0, cells := 0, slots := 0, locals := 0 }
set_option maxHeartbeats 4000000 in
set_option maxRecDepth 100000 in
theorem c_X5_reaches (l : Launch) (D : va_G) (cy : Nat → ClassId) (N : Nat) (h0 : Nat) (a0 : Nat → Nat) (held_0 : Int32) (lane_0 : Int32) (size_0 : Int32) (items_0 : Nat → Int64) (p1 : Int32) (p2 : Int32) (z : Int32) (hf : f_X5_reaches N size_0 p1 p2 = some z) : pq_MI l yX5_reaches wsX5_reaches rm_X5_reaches D cy [.ref h0, .int p1, .int p2] [cO h0 5 [.ref (a0 0), .int held_0, .int lane_0, .int size_0], cJ cy (a0 0) 24 items_0] [cO h0 5 [.ref (a0 0), .int held_0, .int lane_0, .int size_0], cJ cy (a0 0) 24 items_0] (z) := by
  intro sz
  refine pq_ent (Qf := fun A => pq_Qi D cy A [cO h0 5 [.ref (a0 0), .int held_0, .int lane_0, .int size_0], cJ cy (a0 0) 24 items_0] (z)) (cc := cX5_reaches) (maxL := 3) (ret := (some .boolean)) (by decide) rfl (Nat.le_of_ble_eq_true rfl) ?_
  intro p e s m args below meth c A ls Q hQ X hK hP hD hA hS hl
  obtain ⟨hx, hb, hr, hts, hown, hlocks, hml⟩ := X
  have hl : lv_has ls 3 [(0, .ref h0), (1, .int p1), (2, .int p2)] := hl
  unfold f_X5_reaches at hf
  have hiX5 : ∀ w ∈ wsX50, w ∈ wsX5_reaches := by decide +kernel
  have k0 := hts (.fieldLink RX5 23 "LoserPicks$Sheet" "size" "I") (by decide +kernel)
  refine lv_iload_n hx hb dX5_reaches_0 rfl (lv_at hl 1 rfl) ?_
  refine pq_if_lt hx hb 22 hf dX5_reaches_1 (by decide) (fun _ hf => ?_) (fun _ hf => ?_)
  · refine lv_iconst (v := 0) hx hb dX5_reaches_22 (by decide) ?_
    rw [hQ]
    exact pq_zret hx hb hr hlocks hK hP hD hS hf (fun z => z) (fun z => [cO h0 5 [.ref (a0 0), .int held_0, .int lane_0, .int size_0], cJ cy (a0 0) 24 items_0]) rfl rfl dX5_reaches_23
  · refine lv_iload_n hx hb dX5_reaches_4 rfl (lv_at hl 2 rfl) ?_
    refine pq_if_lt hx hb 22 hf dX5_reaches_5 (by decide) (fun _ hf => ?_) (fun _ hf => ?_)
    · refine lv_iconst (v := 0) hx hb dX5_reaches_22 (by decide) ?_
      rw [hQ]
      exact pq_zret hx hb hr hlocks hK hP hD hS hf (fun z => z) (fun z => [cO h0 5 [.ref (a0 0), .int held_0, .int lane_0, .int size_0], cJ cy (a0 0) 24 items_0]) rfl rfl dX5_reaches_23
    · refine lv_iload_n hx hb dX5_reaches_8 rfl (lv_at hl 1 rfl) ?_
      refine lv_aload_n hx hb dX5_reaches_9 rfl (lv_at hl 0 rfl) ?_
      refine pq_get (D := D) (ci := 5) (v := .int size_0) (C := RX5) (T := TX5) (N := 4) hx hb hts hiX5 hown hK hP 0 rfl rfl 3 (by decide) k0 rfl rfl dX5_reaches_10 ?_
      refine lv_iload_n hx hb dX5_reaches_13 rfl (lv_at hl 2 rfl) ?_
      refine lv_isub hx hb dX5_reaches_14 ?_
      refine pq_icmp_gt hx hb 22 hf dX5_reaches_15 (by decide) (fun _ hf => ?_) (fun _ hf => ?_)
      · refine lv_iconst (v := 0) hx hb dX5_reaches_22 (by decide) ?_
        rw [hQ]
        exact pq_zret hx hb hr hlocks hK hP hD hS hf (fun z => z) (fun z => [cO h0 5 [.ref (a0 0), .int held_0, .int lane_0, .int size_0], cJ cy (a0 0) 24 items_0]) rfl rfl dX5_reaches_23
      · refine lv_iconst (v := 1) hx hb dX5_reaches_18 (by decide) ?_
        refine lv_goto (tgt := 23) hx hb dX5_reaches_19 (by decide) ?_
        rw [hQ]
        exact pq_zret hx hb hr hlocks hK hP hD hS hf (fun z => z) (fun z => [cO h0 5 [.ref (a0 0), .int held_0, .int lane_0, .int size_0], cJ cy (a0 0) 24 items_0]) rfl rfl dX5_reaches_23

abbrev rm_X5_refusal : Room := { frames := 1, cells := 0, slots := 0, locals := 22 }
set_option maxHeartbeats 4000000 in
set_option maxRecDepth 100000 in
theorem c_X5_refusal (l : Launch) (D : va_G) (cy : Nat → ClassId) (N : Nat) (h0 : Nat) (a0 : Nat → Nat) (held_0 : Int32) (lane_0 : Int32) (size_0 : Int32) (items_0 : Nat → Int64) (p1 : Int32) (p2 : Int32) (p3 : Int32) (z : Int32) (hf : f_X5_refusal N held_0 lane_0 size_0 p1 p2 p3 = some z) : pq_MI l yX5_refusal wsX5_refusal rm_X5_refusal D cy [.ref h0, .int p1, .int p2, .int p3] [cO h0 5 [.ref (a0 0), .int held_0, .int lane_0, .int size_0], cJ cy (a0 0) 24 items_0] [cO h0 5 [.ref (a0 0), .int held_0, .int lane_0, .int size_0], cJ cy (a0 0) 24 items_0] (z) := by
  intro sz
  refine pq_ent (Qf := fun A => pq_Qi D cy A [cO h0 5 [.ref (a0 0), .int held_0, .int lane_0, .int size_0], cJ cy (a0 0) 24 items_0] (z)) (cc := cX5_refusal) (maxL := 4) (ret := (some .int)) (by decide) rfl (Nat.le_of_ble_eq_true rfl) ?_
  intro p e s m args below meth c A ls Q hQ X hK hP hD hA hS hl
  obtain ⟨hx, hb, hr, hts, hown, hlocks, hml⟩ := X
  have hl : lv_has ls 4 [(0, .ref h0), (1, .int p1), (2, .int p2), (3, .int p3)] := hl
  unfold f_X5_refusal at hf
  have hiX5 : ∀ w ∈ wsX50, w ∈ wsX5_refusal := by decide +kernel
  have k0 := hts (.fieldLink RX5 15 "LoserPicks$Sheet" "held" "Z") (by decide +kernel)
  have k1 := hts (.fieldLink RX5 19 "LoserPicks$Sheet" "lane" "I") (by decide +kernel)
  refine lv_aload_n hx hb dX5_refusal_0 rfl (lv_at hl 0 rfl) ?_
  refine pq_get (D := D) (ci := 5) (v := .int held_0) (C := RX5) (T := TX5) (N := 4) hx hb hts hiX5 hown hK hP 0 rfl rfl 1 (by decide) k0 rfl rfl dX5_refusal_1 ?_
  refine pq_if_ne hx hb 10 hf dX5_refusal_4 (by decide) (fun _ hf => ?_) (fun _ hf => ?_)
  · refine lv_aload_n hx hb dX5_refusal_10 rfl (lv_at hl 0 rfl) ?_
    refine pq_get (D := D) (ci := 5) (v := .int lane_0) (C := RX5) (T := TX5) (N := 4) hx hb hts hiX5 hown hK hP 0 rfl rfl 2 (by decide) k1 rfl rfl dX5_refusal_11 ?_
    refine lv_iload_n hx hb dX5_refusal_14 rfl (lv_at hl 1 rfl) ?_
    refine pq_icmp_eq hx hb 21 hf dX5_refusal_15 (by decide) (fun _ hf => ?_) (fun _ hf => ?_)
    · refine lv_aload_n hx hb dX5_refusal_21 rfl (lv_at hl 0 rfl) ?_
      refine lv_iload_n hx hb dX5_refusal_22 rfl (lv_at hl 2 rfl) ?_
      refine lv_iload_n hx hb dX5_refusal_23 rfl (lv_at hl 3 rfl) ?_
      refine pq_cVi (rz := fun r => r) (w1 := fun r => [cO h0 5 [.ref (a0 0), .int held_0, .int lane_0, .int size_0], cJ cy (a0 0) 24 items_0]) (ws1 := fun r => [cO h0 5 [.ref (a0 0), .int held_0, .int lane_0, .int size_0], cJ cy (a0 0) 24 items_0]) (wc := [cO h0 5 [.ref (a0 0), .int held_0, .int lane_0, .int size_0], cJ cy (a0 0) 24 items_0]) (wr := []) (As := [.int p2, .int p3]) (rest := []) (b := h0) (C := RX5) ⟨hx, hb, hml, hown, hts⟩ hf (fun r hr => c_X5_reaches l D cy N h0 a0 held_0 lane_0 size_0 items_0 p2 p3 r hr) (cwV 2 hts gX5_refusal_X5_reaches rfl rfl rfl (by decide +kernel) ⟨Nat.le_of_ble_eq_true rfl, Nat.le_of_ble_eq_true rfl⟩) hK hP hD hS hA 0 5 rfl rfl [0, 1] [] [0, 1] rfl rfl rfl rfl (by decide) (fun _ => rfl) rfl rfl hl.1 rfl (Nat.le_of_ble_eq_true rfl) ⟨Nat.zero_le _, Nat.zero_le _⟩ dX5_refusal_24 (fun r_1 H locs hf hP hD hS => ?_)
      refine pq_if_eq hx hb 34 hf dX5_refusal_27 (by decide) (fun _ hf => ?_) (fun _ hf => ?_)
      · refine lv_bipush (v := (-13)) hx hb dX5_refusal_34 (by decide) ?_
        rw [hQ]
        exact pq_iret hx hb hr hlocks hK hP hD hS hf (fun z => z) (fun z => [cO h0 5 [.ref (a0 0), .int held_0, .int lane_0, .int size_0], cJ cy (a0 0) 24 items_0]) rfl rfl dX5_refusal_36
      · refine lv_iconst (v := 0) hx hb dX5_refusal_30 (by decide) ?_
        refine lv_goto (tgt := 36) hx hb dX5_refusal_31 (by decide) ?_
        rw [hQ]
        exact pq_iret hx hb hr hlocks hK hP hD hS hf (fun z => z) (fun z => [cO h0 5 [.ref (a0 0), .int held_0, .int lane_0, .int size_0], cJ cy (a0 0) 24 items_0]) rfl rfl dX5_refusal_36
    · refine lv_bipush (v := (-12)) hx hb dX5_refusal_18 (by decide) ?_
      rw [hQ]
      exact pq_iret hx hb hr hlocks hK hP hD hS hf (fun z => z) (fun z => [cO h0 5 [.ref (a0 0), .int held_0, .int lane_0, .int size_0], cJ cy (a0 0) 24 items_0]) rfl rfl dX5_refusal_20
  · refine lv_bipush (v := (-11)) hx hb dX5_refusal_7 (by decide) ?_
    rw [hQ]
    exact pq_iret hx hb hr hlocks hK hP hD hS hf (fun z => z) (fun z => [cO h0 5 [.ref (a0 0), .int held_0, .int lane_0, .int size_0], cJ cy (a0 0) 24 items_0]) rfl rfl dX5_refusal_9

abbrev rm_X5_cut : Room := { frames := 0, cells := 0, slots := 0, locals := 0 }
set_option maxHeartbeats 4000000 in
set_option maxRecDepth 100000 in
theorem c_X5_cut (l : Launch) (D : va_G) (cy : Nat → ClassId) (N : Nat) (h0 : Nat) (a0 : Nat → Nat) (held_0 : Int32) (lane_0 : Int32) (size_0 : Int32) (items_0 : Nat → Int64) (p1 : Int64) (z : Int64) (hf : f_X5_cut N lane_0 p1 = some z) : pq_ML l yX5_cut wsX5_cut rm_X5_cut D cy [.ref h0, .long p1] [cO h0 5 [.ref (a0 0), .int held_0, .int lane_0, .int size_0], cJ cy (a0 0) 24 items_0] [cO h0 5 [.ref (a0 0), .int held_0, .int lane_0, .int size_0], cJ cy (a0 0) 24 items_0] (z) := by
  intro sz
  refine pq_ent (Qf := fun A => pq_Ql D cy A [cO h0 5 [.ref (a0 0), .int held_0, .int lane_0, .int size_0], cJ cy (a0 0) 24 items_0] (z)) (cc := cX5_cut) (maxL := 3) (ret := (some .long)) (by decide) rfl (Nat.le_of_ble_eq_true rfl) ?_
  intro p e s m args below meth c A ls Q hQ X hK hP hD hA hS hl
  obtain ⟨hx, hb, hr, hts, hown, hlocks, hml⟩ := X
  have hl : lv_has ls 3 [(0, .ref h0), (1, .long p1)] := hl
  unfold f_X5_cut at hf
  have hiX5 : ∀ w ∈ wsX50, w ∈ wsX5_cut := by decide +kernel
  have k0 := hts (.fieldLink RX5 19 "LoserPicks$Sheet" "lane" "I") (by decide +kernel)
  refine lv_aload_n hx hb dX5_cut_0 rfl (lv_at hl 0 rfl) ?_
  refine pq_get (D := D) (ci := 5) (v := .int lane_0) (C := RX5) (T := TX5) (N := 4) hx hb hts hiX5 hown hK hP 0 rfl rfl 2 (by decide) k0 rfl rfl dX5_cut_1 ?_
  rcases Classical.em (lane_0 = 0) with c0 | c0
  · have hf := pq_it hf c0
    rw [c0]
    refine lv_tableIn (tgt := 32) hx hb dX5_cut_4 (by decide) (by decide) rfl (by decide) ?_
    refine lv_lload_n hx hb dX5_cut_32 rfl (lv_at hl 1 rfl) ?_
    refine lv_l2i (v := (p1 : Int64).toInt32) hx hb dX5_cut_33 rfl ?_
    refine lv_i2b (v := (((p1 : Int64).toInt32) : Int32).toInt8.toInt32) hx hb dX5_cut_34 rfl ?_
    refine lv_i2l (v := (((((p1 : Int64).toInt32) : Int32).toInt8.toInt32) : Int32).toInt64) hx hb dX5_cut_35 rfl ?_
    rw [hQ]
    exact pq_lret hx hb hr hlocks hK hP hD hS hf (fun z => z) (fun z => [cO h0 5 [.ref (a0 0), .int held_0, .int lane_0, .int size_0], cJ cy (a0 0) 24 items_0]) rfl rfl dX5_cut_36
  · have hf := pq_if hf c0
    rcases Classical.em (lane_0 = 1) with c1 | c1
    · have hf := pq_it hf c1
      rw [c1]
      refine lv_tableIn (tgt := 37) hx hb dX5_cut_4 (by decide) (by decide) rfl (by decide) ?_
      refine lv_lload_n hx hb dX5_cut_37 rfl (lv_at hl 1 rfl) ?_
      refine lv_l2i (v := (p1 : Int64).toInt32) hx hb dX5_cut_38 rfl ?_
      refine lv_i2s (v := (((p1 : Int64).toInt32) : Int32).toInt16.toInt32) hx hb dX5_cut_39 rfl ?_
      refine lv_i2l (v := (((((p1 : Int64).toInt32) : Int32).toInt16.toInt32) : Int32).toInt64) hx hb dX5_cut_40 rfl ?_
      rw [hQ]
      exact pq_lret hx hb hr hlocks hK hP hD hS hf (fun z => z) (fun z => [cO h0 5 [.ref (a0 0), .int held_0, .int lane_0, .int size_0], cJ cy (a0 0) 24 items_0]) rfl rfl dX5_cut_41
    · have hf := pq_if hf c1
      rcases Classical.em (lane_0 = 2) with c2 | c2
      · have hf := pq_it hf c2
        rw [c2]
        refine lv_tableIn (tgt := 42) hx hb dX5_cut_4 (by decide) (by decide) rfl (by decide) ?_
        refine lv_lload_n hx hb dX5_cut_42 rfl (lv_at hl 1 rfl) ?_
        refine lv_l2i (v := (p1 : Int64).toInt32) hx hb dX5_cut_43 rfl ?_
        refine lv_i2l (v := (((p1 : Int64).toInt32) : Int32).toInt64) hx hb dX5_cut_44 rfl ?_
        rw [hQ]
        exact pq_lret hx hb hr hlocks hK hP hD hS hf (fun z => z) (fun z => [cO h0 5 [.ref (a0 0), .int held_0, .int lane_0, .int size_0], cJ cy (a0 0) 24 items_0]) rfl rfl dX5_cut_45
      · have hf := pq_if hf c2
        refine lv_tableOut (tgt := 46) hx hb dX5_cut_4 (by have e0 := pq_ne c0 (show (0 : Int32).toInt = 0 from rfl); have e1 := pq_ne c1 (show (1 : Int32).toInt = 1 from rfl); have e2 := pq_ne c2 (show (2 : Int32).toInt = 2 from rfl); omega) (by decide) ?_
        refine lv_lload_n hx hb dX5_cut_46 rfl (lv_at hl 1 rfl) ?_
        rw [hQ]
        exact pq_lret hx hb hr hlocks hK hP hD hS hf (fun z => z) (fun z => [cO h0 5 [.ref (a0 0), .int held_0, .int lane_0, .int size_0], cJ cy (a0 0) 24 items_0]) rfl rfl dX5_cut_47

abbrev rm_X5_put : Room := { frames := 1, cells := 0, slots := 0, locals := 22 }
set_option maxHeartbeats 4000000 in
set_option maxRecDepth 100000 in
theorem c_X5_put (l : Launch) (D : va_G) (cy : Nat → ClassId) (N : Nat) (h0 : Nat) (a0 : Nat → Nat) (held_0 : Int32) (lane_0 : Int32) (size_0 : Int32) (items_0 : Nat → Int64) (p1 : Int32) (p2 : Int64) (z : Int64 × (Nat → Int64)) (hf : f_X5_put N lane_0 items_0 p1 p2 = some z) : pq_ML l yX5_put wsX5_put rm_X5_put D cy [.ref h0, .int p1, .long p2] [cO h0 5 [.ref (a0 0), .int held_0, .int lane_0, .int size_0], cJ cy (a0 0) 24 items_0] [cO h0 5 [.ref (a0 0), .int held_0, .int lane_0, .int size_0], cJ cy (a0 0) 24 z.2] (z.1) := by
  intro sz
  refine pq_ent (Qf := fun A => pq_Ql D cy A [cO h0 5 [.ref (a0 0), .int held_0, .int lane_0, .int size_0], cJ cy (a0 0) 24 z.2] (z.1)) (cc := cX5_put) (maxL := 4) (ret := (some .long)) (by decide) rfl (Nat.le_of_ble_eq_true rfl) ?_
  intro p e s m args below meth c A ls Q hQ X hK hP hD hA hS hl
  obtain ⟨hx, hb, hr, hts, hown, hlocks, hml⟩ := X
  have hl : lv_has ls 4 [(0, .ref h0), (1, .int p1), (2, .long p2)] := hl
  unfold f_X5_put at hf
  have hiX5 : ∀ w ∈ wsX50, w ∈ wsX5_put := by decide +kernel
  have k0 := hts (.fieldLink RX5 9 "LoserPicks$Sheet" "items" "[J") (by decide +kernel)
  refine lv_aload_n hx hb dX5_put_0 rfl (lv_at hl 0 rfl) ?_
  refine pq_get (D := D) (ci := 5) (v := .ref (a0 0)) (C := RX5) (T := TX5) (N := 4) hx hb hts hiX5 hown hK hP 0 rfl rfl 0 (by decide) k0 rfl rfl dX5_put_1 ?_
  refine lv_iload_n hx hb dX5_put_4 rfl (lv_at hl 1 rfl) ?_
  refine lv_aload_n hx hb dX5_put_5 rfl (lv_at hl 0 rfl) ?_
  refine lv_lload_n hx hb dX5_put_6 rfl (lv_at hl 2 rfl) ?_
  refine pq_cVl (rz := fun r => r) (w1 := fun r => [cO h0 5 [.ref (a0 0), .int held_0, .int lane_0, .int size_0], cJ cy (a0 0) 24 items_0]) (ws1 := fun r => [cO h0 5 [.ref (a0 0), .int held_0, .int lane_0, .int size_0], cJ cy (a0 0) 24 items_0]) (wc := [cO h0 5 [.ref (a0 0), .int held_0, .int lane_0, .int size_0], cJ cy (a0 0) 24 items_0]) (wr := []) (As := [.long p2]) (rest := [.int p1, .ref (a0 0)]) (b := h0) (C := RX5) ⟨hx, hb, hml, hown, hts⟩ hf (fun r hr => c_X5_cut l D cy N h0 a0 held_0 lane_0 size_0 items_0 p2 r hr) (cwV 1 hts gX5_put_X5_cut rfl rfl rfl (by decide +kernel) ⟨Nat.le_of_ble_eq_true rfl, Nat.le_of_ble_eq_true rfl⟩) hK hP hD hS hA 0 5 rfl rfl [0, 1] [] [0, 1] rfl rfl rfl rfl (by decide) (fun _ => rfl) rfl rfl hl.1 rfl (Nat.le_of_ble_eq_true rfl) ⟨Nat.zero_le _, Nat.zero_le _⟩ dX5_put_7 (fun r_1 H locs hf hP hD hS => ?_)
  refine pq_last (ws1 := fun g => [cO h0 5 [.ref (a0 0), .int held_0, .int lane_0, .int size_0], cJ cy (a0 0) 24 g]) hx hb hK hP hD hS 1 1 rfl rfl (fun _ => rfl) hf dX5_put_10 (fun items_0_2 H locs hf hP hD hS => ?_)
  refine lv_aload_n hx hb dX5_put_11 rfl (lv_at hl 0 rfl) ?_
  refine pq_get (D := D) (ci := 5) (v := .ref (a0 0)) (C := RX5) (T := TX5) (N := 4) hx hb hts hiX5 hown hK hP 0 rfl rfl 0 (by decide) k0 rfl rfl dX5_put_12 ?_
  refine lv_iload_n hx hb dX5_put_15 rfl (lv_at hl 1 rfl) ?_
  refine pq_lald hx hb hK hP 1 1 rfl rfl hf dX5_put_16 (fun hf => ?_)
  rw [hQ]
  exact pq_lret hx hb hr hlocks hK hP hD hS hf (fun z => z.1) (fun z => [cO h0 5 [.ref (a0 0), .int held_0, .int lane_0, .int size_0], cJ cy (a0 0) 24 z.2]) rfl rfl dX5_put_17
