theorem pq_aI {args : Array Value} {s : State} {ty : FieldType} (h : (Cond.arrayClass ty).before args s = true) : ∃ cA : ClassId, ArrOfT s cA ty ∧ s.vm.findClass ("[" ++ ty.toString) = some cA := by
  obtain ⟨c, k, comp, h1, h2, h3⟩ := Cond.arrayClass_spec h
  exact ⟨c, fun n z => ⟨fun k h => (by cases h), k, h2, comp, h3⟩, h1⟩
theorem pq_aO {args : Array Value} {s : State} {C : String} (h : (Cond.arrayOver (.object C)).before args s = true) : ∃ cA : ClassId, ArrOfT s cA (.object C) ∧ va_RA s cA (.object C) := by
  obtain ⟨comp, c, k, h1, h2, h3, h4, h5⟩ := Cond.arrayOver_spec h
  exact ⟨c, fun n z => ⟨fun k h => (by cases h), k, h3, comp, h4⟩, k, comp, h3, h4, h1, h5⟩
/-- the start: nothing is held -/
abbrev pq_xI0 : Nat → Int32 := fun k => if k = 4 ∨ k = 9 ∨ k = 14 ∨ k = 19 then -4 else 0
abbrev pq_mA0 : Nat → Nat → Int32 := fun k => if k = 0 then upd (upd (upd (upd (fun _ => 0) 0 (-1)) 1 (-1)) 2 (-1)) 3 (-1) else if k = 6 then upd (fun _ => 0) 1 (-4) else fun _ => 0
theorem pq_R0 : pq_R pq_xI0 (fun _ _ => 0) (fun _ _ => 0) (fun _ _ => 0) (fun _ => 0) pq_mA0 (fun _ => 0) := by
  refine ⟨⟨rfl, ⟨by decide, by decide⟩, fun i h => rfl⟩, ⟨⟨rfl, rfl, rfl, rfl, rfl, fun i h => ?_, fun i h => ?_, fun i h => ?_⟩, Or.inl ⟨rfl, rfl, rfl, rfl, rfl⟩⟩, fun k hk => Or.inl ?_, ⟨rfl, ⟨by decide, by decide⟩, ⟨by decide, by decide⟩, fun j h => ?_⟩, fun k hk => Or.inl ?_⟩
  · exact absurd h (by show ¬ (i : Int) < 0; omega)
  · exact absurd h (by show ¬ (i : Int) < 0; omega)
  · exact absurd h (by show ¬ (i : Int) < 0; omega)
  · rcases (show k = 0 ∨ k = 1 by omega) with rfl | rfl <;> exact ⟨rfl, rfl⟩
  · exact absurd h (by show ¬ (j : Int) < 0; omega)
  · rcases (show k = 0 ∨ k = 1 ∨ k = 2 ∨ k = 3 by omega) with rfl | rfl | rfl | rfl <;> exact ⟨rfl, rfl⟩

set_option maxHeartbeats 8000000 in
set_option maxRecDepth 100000 in
theorem whole_start {p : Program} {e : Env} {s : State} {m : MethodId} {below : List Frame} {meth : Method} {c : Code} (l : Launch) {b L : Nat} {xs : Nat → Int32} (hL : L ≤ 3584) (C0 : lw_At p s m meth c b L xs) : W p l e room_1 s m #[Value.ref b] below meth c s.heap [] 0 0 (lw_Z below #[Value.ref b] s) (entryFrame m ([Value.ref b] : List Value).toArray 4) := by
  have C1 := C0
  obtain ⟨hx, hb, hr, hml, hown0, hts0, hX, hbl, hlocks, hgv⟩ := C1
  have hts := fun w h => hts0 w (wsL_law_in w h)
  have hown : s.vm.findClass RL = some m.cls := hown0
  have hb : c.code = cL_law := hb
  have hA : ∀ q : Nat, s.heap.size ≤ q → (fun q : Nat => s.heap.size ≤ q) q := fun _ h => h
  have hnA : ∀ q : Nat, q < s.heap.size → ¬ (fun q : Nat => s.heap.size ≤ q) q := fun _ h => Nat.not_le.mpr h
  obtain ⟨c0, i0, hKn0⟩ := u_known (C := RX0) (T := TX0) (N := 6) (n := 6) hts inlX0 (hts (.instantiable RX0 6) (by decide +kernel))
  obtain ⟨c1, i1, hKn1⟩ := u_known (C := RX1) (T := TX1) (N := 14) (n := 14) hts inlX1 (hts (.instantiable RX1 14) (by decide +kernel))
  obtain ⟨c2, i2, hKn2⟩ := u_known (C := RX2) (T := TX2) (N := 4) (n := 4) hts inlX2 (hts (.instantiable RX2 4) (by decide +kernel))
  obtain ⟨c3, i3, hKn3⟩ := u_known (C := RX3) (T := TX3) (N := 8) (n := 8) hts inlX3 (hts (.instantiable RX3 8) (by decide +kernel))
  obtain ⟨c4, i4, hKn4⟩ := u_known (C := RX4) (T := TX4) (N := 3) (n := 3) hts inlX4 (hts (.instantiable RX4 3) (by decide +kernel))
  obtain ⟨c5, i5, hKn5⟩ := u_known (C := RX5) (T := TX5) (N := 4) (n := 4) hts inlX5 (hts (.instantiable RX5 4) (by decide +kernel))
  obtain ⟨c6, i6, hKn6⟩ := u_known (C := RX6) (T := TX6) (N := 3) (n := 3) hts inlX6 (hts (.instantiable RX6 3) (by decide +kernel))
  obtain ⟨c7, i7, hKn7⟩ := u_known (C := RX7) (T := TX7) (N := 8) (n := 8) hts inlX7 (hts (.instantiable RX7 8) (by decide +kernel))
  obtain ⟨c8, i8, hKn8⟩ := u_known (C := RX8) (T := TX8) (N := 22) (n := 22) hts inlX8 (hts (.instantiable RX8 22) (by decide +kernel))
  obtain ⟨dC, dI, hKc⟩ : ∃ (dC : Nat → ClassId) (dI : Nat → Nat → Nat), ∀ (k : Nat) (q : vw_C), vwCl[k]? = some q → u_Kn s q.1 q.2.1 q.2.2 (dC k) (dI k) := by
    refine ⟨fun k => if k = 0 then c0 else if k = 1 then c1 else if k = 2 then c2 else if k = 3 then c3 else if k = 4 then c4 else if k = 5 then c5 else if k = 6 then c6 else if k = 7 then c7 else c8, fun k => if k = 0 then i0 else if k = 1 then i1 else if k = 2 then i2 else if k = 3 then i3 else if k = 4 then i4 else if k = 5 then i5 else if k = 6 then i6 else if k = 7 then i7 else i8, ?_⟩
    intro k q hq
    match k, hq with
    | 0, hq => cases hq; exact hKn0
    | 1, hq => cases hq; exact hKn1
    | 2, hq => cases hq; exact hKn2
    | 3, hq => cases hq; exact hKn3
    | 4, hq => cases hq; exact hKn4
    | 5, hq => cases hq; exact hKn5
    | 6, hq => cases hq; exact hKn6
    | 7, hq => cases hq; exact hKn7
    | 8, hq => cases hq; exact hKn8
    | k + 9, hq => simp [vwCl] at hq
  obtain ⟨y0, hy0, hz0⟩ := pq_aI (hts (.arrayClass .int) (by decide +kernel))
  obtain ⟨y1, hy1, hz1⟩ := pq_aI (hts (.arrayClass .long) (by decide +kernel))
  obtain ⟨y2, hy2, hz2⟩ := pq_aI (hts (.arrayClass .boolean) (by decide +kernel))
  have ho3 : (Cond.arrayOver (.object "LoserPicks$Act")).before #[Value.ref b] s = true := hts0 _ (by decide +kernel)
  obtain ⟨y3, hy3, hz3⟩ := pq_aO ho3
  have ho4 : (Cond.arrayOver (.object "LoserPicks$Circuit")).before #[Value.ref b] s = true := hts0 _ (by decide +kernel)
  obtain ⟨y4, hy4, hz4⟩ := pq_aO ho4
  have ho5 : (Cond.arrayOver (.object "LoserPicks$Sheet")).before #[Value.ref b] s = true := hts0 _ (by decide +kernel)
  obtain ⟨y5, hy5, hz5⟩ := pq_aO ho5
  obtain ⟨cy, hcy⟩ : ∃ cy : Nat → ClassId, cy = fun k => if k = 0 then y0 else if k = 1 then y1 else if k = 2 then y2 else if k = 3 then y3 else if k = 4 then y4 else y5 := ⟨_, rfl⟩
  have hK : va_K (dC, dI) vwCl (pq_tys cy) s := by
    refine ⟨hKc, fun k q h => ?_⟩
    rw [hcy] at h
    match k, h with
    | 0, h => cases h; exact ⟨hy0, hz0⟩
    | 1, h => cases h; exact ⟨hy1, hz1⟩
    | 2, h => cases h; exact ⟨hy2, hz2⟩
    | 3, h => cases h; exact ⟨hy3, hz3⟩
    | 4, h => cases h; exact ⟨hy4, hz4⟩
    | 5, h => cases h; exact ⟨hy5, hz5⟩
    | k + 6, h => simp [pq_tys] at h
  have hO : pq_O s := ⟨ho3, ho4, ho5, va_Nw.of rfl (hts0 (.methodLinkNest RX7 11 yX6_init RX7) (by decide +kernel)), va_Nw.of rfl (hts0 (.methodLinkNest RX7 25 yX3_init RX7) (by decide +kernel)), va_Nw.of rfl (hts0 (.methodLinkNest RX7 32 yX2_init RX7) (by decide +kernel)), va_Nw.of rfl (hts0 (.methodLinkNest RX7 43 yX1_init RX7) (by decide +kernel)), va_Nw.of rfl (hts0 (.methodLinkNest RX7 50 yX5_init RX7) (by decide +kernel)), va_Nw.of rfl (hts0 (.methodLinkNest RX4 24 yX0_init RX7) (by decide +kernel))⟩
  have hs := flat_of_before _ hgv
  obtain ⟨tS, htS, hTT⟩ := va_Tof (tm := (.static "LoserPicks" "KIND_ABOVE" "[I")) (ty := .int) (N := 6) (f := fun j => .int (pq_ka j)) (A := (fun q : Nat => s.heap.size ≤ q)) (by decide) (hs (Cond.arrayOf (.static "LoserPicks" "KIND_ABOVE" "[I") .int) (by decide +kernel)) (va_eqt (hs (Cond.eq (.length (.static "LoserPicks" "KIND_ABOVE" "[I")) (.int 6)) (by decide +kernel))) (fun j hj => by
    rcases (show j = 0 ∨ j = 1 ∨ j = 2 ∨ j = 3 ∨ j = 4 ∨ j = 5 by omega) with rfl | rfl | rfl | rfl | rfl | rfl
    · exact va_eqt (hs (Cond.eq (.elem (.static "LoserPicks" "KIND_ABOVE" "[I") (.int 0)) (.int (-1))) (by decide +kernel))
    · exact va_eqt (hs (Cond.eq (.elem (.static "LoserPicks" "KIND_ABOVE" "[I") (.int 1)) (.int (0))) (by decide +kernel))
    · exact va_eqt (hs (Cond.eq (.elem (.static "LoserPicks" "KIND_ABOVE" "[I") (.int 2)) (.int (1))) (by decide +kernel))
    · exact va_eqt (hs (Cond.eq (.elem (.static "LoserPicks" "KIND_ABOVE" "[I") (.int 3)) (.int (1))) (by decide +kernel))
    · exact va_eqt (hs (Cond.eq (.elem (.static "LoserPicks" "KIND_ABOVE" "[I") (.int 4)) (.int (0))) (by decide +kernel))
    · exact va_eqt (hs (Cond.eq (.elem (.static "LoserPicks" "KIND_ABOVE" "[I") (.int 5)) (.int (2))) (by decide +kernel))) hnA
  have hT : pq_St s.heap.size tS s s.heap := ⟨va_Zref (hts0 (.laysStatic "LoserPicks" "KIND_ABOVE" "[I") (by decide +kernel)) (hts (.initialized RX7) (by decide +kernel)) htS hnA, hTT⟩
  have hS : va_S (fun q : Nat => s.heap.size ≤ q) s.heap s.heap [] := va_S.rf
  have hP : va_P (dC, dI) vwCl [] s.heap := fun k q h => by simp at h
  have hD : va_D (fun q : Nat => s.heap.size ≤ q) [] := ⟨fun i j p q h => by simp at h, fun k q h => by simp at h⟩
  have hl := lv_entry ([.ref b]) (n := 4) (Nat.le_of_ble_eq_true rfl)
  rw [lg_entry_eq]
  generalize (lg_sl ([.ref b]) ++ List.replicate (4 - (lg_sl ([.ref b])).length) Slot.unset).toArray = ls at hl ⊢
  have hl : lv_has ls 4 [(0, .ref b)] := hl
  generalize hDD : (dC, dI) = D at hK hP
  refine va_new (ci := 7) (fs := [.null, .null, .null, .null, .null, .null, .null, .null]) (C := RX7) (T := TX7) (N := 8) hx hb hts inlX7 tyX7 tyX7_ok hown (hts (.classLink RL 7 RX7) (by decide +kernel)) (hts (.instantiable RX7 8) (by decide +kernel)) (hts (.initialized RX7) (by decide +kernel)) hK hP hD hS hA rfl (fun j hj => by rcases (show j = 0 ∨ j = 1 ∨ j = 2 ∨ j = 3 ∨ j = 4 ∨ j = 5 ∨ j = 6 ∨ j = 7 by omega) with rfl | rfl | rfl | rfl | rfl | rfl | rfl | rfl <;> rfl) (Nat.le_of_ble_eq_true rfl) (Nat.le_of_ble_eq_true rfl) dL_law_0 (fun h0 H hP hD hS => ?_)
  have hP : va_P D vwCl [cO h0 7 [.null, .null, .null, .null, .null, .null, .null, .null]] H := hP
  have hD : va_D (fun q : Nat => s.heap.size ≤ q) [cO h0 7 [.null, .null, .null, .null, .null, .null, .null, .null]] := hD
  refine W.widen (k := 1) (n := 8) (by decide) (by decide) ?_
  refine lv_dup hx hb dL_law_3 rfl ?_
  refine pq_cI (wc := [cO h0 7 [.null, .null, .null, .null, .null, .null, .null, .null]]) (wr := []) (b := h0) (rest := [.ref h0]) ⟨hx, hb, hml, hown, hts⟩ (c_X7_init l D cy h0) (cwI 0 hts gL_law_X7_init rfl rfl rfl (hts (.initialized RX7) (by decide +kernel)) (hts (.methodLink RL 9 yX7_init) (by decide +kernel)) (hts (.instanceMethod yX7_init) (by decide +kernel)) rfl (by decide +kernel) ⟨Nat.le_of_ble_eq_true rfl, Nat.le_of_ble_eq_true rfl⟩) hK hO hP hD hS hA [0] [] rfl rfl rfl rfl (by decide) hl.1 rfl (Nat.le_of_ble_eq_true rfl) ⟨Nat.le_of_ble_eq_true rfl, Nat.le_of_ble_eq_true rfl⟩ dL_law_4 (fun u H locs hP hD hS => ?_)
  have hP : va_P D vwCl ([cO h0 7 [.ref (u 0 0), .ref (u 0 1), .ref (u 0 2), .ref (u 0 3), .ref (u 0 4), .ref (u 0 5), .ref (u 0 6), .ref (u 0 7)], cO (u 0 0) 6 [.ref (u 1 0), .int 0, .int 0], cI cy (u 1 0) 130 (fun _ => 0), cO (u 0 1) 4 [.ref (u 2 0), .int 0, .int 0], cR cy 3 (u 2 0) 24 (fun j => some (u 3 j))] ++ (pq_acts (u 3) (fun _ _ => 0) ++ [cO (u 0 2) 3 [.ref (u 4 0), .ref (u 4 1), .ref (u 4 2), .ref (u 4 3), .ref (u 4 4), .ref (u 4 5), .ref (u 4 6), .ref (u 4 7)], cI cy (u 4 0) 6 (fun _ => 0), cI cy (u 4 1) 6 (fun _ => 0), cI cy (u 4 2) 36 (fun _ => 0), cI cy (u 4 3) 36 (fun _ => 0), cI cy (u 4 4) 384 (fun _ => 0), cI cy (u 4 5) 6 (fun _ => 0), cI cy (u 4 6) 6 (fun _ => 0), cI cy (u 4 7) 6 (fun _ => 0), cO (u 0 3) 2 [.ref (u 5 0), .ref (u 5 1), .ref (u 5 2), .int 0], cI cy (u 5 0) 10 (fun _ => 0), cI cy (u 5 1) 10 (fun _ => 0), cI cy (u 5 2) 6 (fun _ => 0), cR cy 4 (u 0 4) 2 (fun j => some (u 6 j)), cO (u 6 0) 1 [.ref (u 7 0), .ref (u 7 1), .ref (u 7 2), .ref (u 7 3), .ref (u 7 4), .ref (u 7 5), .ref (u 7 6), .ref (u 7 7), .ref (u 7 8), .int 0, .int 0, .int 0, .int 0, .int (-4)], cI cy (u 7 0) 6 (fun _ => 0), cI cy (u 7 1) 6 (fun _ => 0), cI cy (u 7 2) 6 (fun _ => 0), cI cy (u 7 3) 6 (fun _ => 0), cI cy (u 7 4) 6 (fun _ => 0), cI cy (u 7 5) 12 (fun _ => 0), cI cy (u 7 6) 12 (fun _ => 0), cI cy (u 7 7) 12 (fun _ => 0), cI cy (u 7 8) 12 (fun _ => 0), cO (u 6 1) 1 [.ref (u 8 0), .ref (u 8 1), .ref (u 8 2), .ref (u 8 3), .ref (u 8 4), .ref (u 8 5), .ref (u 8 6), .ref (u 8 7), .ref (u 8 8), .int 0, .int 0, .int 0, .int 0, .int (-4)], cI cy (u 8 0) 6 (fun _ => 0), cI cy (u 8 1) 6 (fun _ => 0), cI cy (u 8 2) 6 (fun _ => 0), cI cy (u 8 3) 6 (fun _ => 0), cI cy (u 8 4) 6 (fun _ => 0), cI cy (u 8 5) 12 (fun _ => 0), cI cy (u 8 6) 12 (fun _ => 0), cI cy (u 8 7) 12 (fun _ => 0), cI cy (u 8 8) 12 (fun _ => 0), cR cy 5 (u 0 5) 4 (fun j => some (u 9 j)), cO (u 9 0) 5 [.ref (u 10 0), .int 0, .int 0, .int 0], cJ cy (u 10 0) 24 (fun _ => 0), cO (u 9 1) 5 [.ref (u 11 0), .int 0, .int 0, .int 0], cJ cy (u 11 0) 24 (fun _ => 0), cO (u 9 2) 5 [.ref (u 12 0), .int 0, .int 0, .int 0], cJ cy (u 12 0) 24 (fun _ => 0), cO (u 9 3) 5 [.ref (u 13 0), .int 0, .int 0, .int 0], cJ cy (u 13 0) 24 (fun _ => 0), cO (u 0 6) 1 [.ref (u 14 0), .ref (u 14 1), .ref (u 14 2), .ref (u 14 3), .ref (u 14 4), .ref (u 14 5), .ref (u 14 6), .ref (u 14 7), .ref (u 14 8), .int 0, .int 0, .int 0, .int 0, .int (-4)], cI cy (u 14 0) 6 (fun _ => 0), cI cy (u 14 1) 6 (fun _ => 0), cI cy (u 14 2) 6 (fun _ => 0), cI cy (u 14 3) 6 (fun _ => 0), cI cy (u 14 4) 6 (fun _ => 0), cI cy (u 14 5) 12 (fun _ => 0), cI cy (u 14 6) 12 (fun _ => 0), cI cy (u 14 7) 12 (fun _ => 0), cI cy (u 14 8) 12 (fun _ => 0), cO (u 0 7) 1 [.ref (u 15 0), .ref (u 15 1), .ref (u 15 2), .ref (u 15 3), .ref (u 15 4), .ref (u 15 5), .ref (u 15 6), .ref (u 15 7), .ref (u 15 8), .int 0, .int 0, .int 0, .int 0, .int (-4)], cI cy (u 15 0) 6 (fun _ => 0), cI cy (u 15 1) 6 (fun _ => 0), cI cy (u 15 2) 6 (fun _ => 0), cI cy (u 15 3) 6 (fun _ => 0), cI cy (u 15 4) 6 (fun _ => 0), cI cy (u 15 5) 12 (fun _ => 0), cI cy (u 15 6) 12 (fun _ => 0), cI cy (u 15 7) 12 (fun _ => 0), cI cy (u 15 8) 12 (fun _ => 0)])) H := hP
  have hD : va_D (fun q : Nat => s.heap.size ≤ q) ([cO h0 7 [.ref (u 0 0), .ref (u 0 1), .ref (u 0 2), .ref (u 0 3), .ref (u 0 4), .ref (u 0 5), .ref (u 0 6), .ref (u 0 7)], cO (u 0 0) 6 [.ref (u 1 0), .int 0, .int 0], cI cy (u 1 0) 130 (fun _ => 0), cO (u 0 1) 4 [.ref (u 2 0), .int 0, .int 0], cR cy 3 (u 2 0) 24 (fun j => some (u 3 j))] ++ (pq_acts (u 3) (fun _ _ => 0) ++ [cO (u 0 2) 3 [.ref (u 4 0), .ref (u 4 1), .ref (u 4 2), .ref (u 4 3), .ref (u 4 4), .ref (u 4 5), .ref (u 4 6), .ref (u 4 7)], cI cy (u 4 0) 6 (fun _ => 0), cI cy (u 4 1) 6 (fun _ => 0), cI cy (u 4 2) 36 (fun _ => 0), cI cy (u 4 3) 36 (fun _ => 0), cI cy (u 4 4) 384 (fun _ => 0), cI cy (u 4 5) 6 (fun _ => 0), cI cy (u 4 6) 6 (fun _ => 0), cI cy (u 4 7) 6 (fun _ => 0), cO (u 0 3) 2 [.ref (u 5 0), .ref (u 5 1), .ref (u 5 2), .int 0], cI cy (u 5 0) 10 (fun _ => 0), cI cy (u 5 1) 10 (fun _ => 0), cI cy (u 5 2) 6 (fun _ => 0), cR cy 4 (u 0 4) 2 (fun j => some (u 6 j)), cO (u 6 0) 1 [.ref (u 7 0), .ref (u 7 1), .ref (u 7 2), .ref (u 7 3), .ref (u 7 4), .ref (u 7 5), .ref (u 7 6), .ref (u 7 7), .ref (u 7 8), .int 0, .int 0, .int 0, .int 0, .int (-4)], cI cy (u 7 0) 6 (fun _ => 0), cI cy (u 7 1) 6 (fun _ => 0), cI cy (u 7 2) 6 (fun _ => 0), cI cy (u 7 3) 6 (fun _ => 0), cI cy (u 7 4) 6 (fun _ => 0), cI cy (u 7 5) 12 (fun _ => 0), cI cy (u 7 6) 12 (fun _ => 0), cI cy (u 7 7) 12 (fun _ => 0), cI cy (u 7 8) 12 (fun _ => 0), cO (u 6 1) 1 [.ref (u 8 0), .ref (u 8 1), .ref (u 8 2), .ref (u 8 3), .ref (u 8 4), .ref (u 8 5), .ref (u 8 6), .ref (u 8 7), .ref (u 8 8), .int 0, .int 0, .int 0, .int 0, .int (-4)], cI cy (u 8 0) 6 (fun _ => 0), cI cy (u 8 1) 6 (fun _ => 0), cI cy (u 8 2) 6 (fun _ => 0), cI cy (u 8 3) 6 (fun _ => 0), cI cy (u 8 4) 6 (fun _ => 0), cI cy (u 8 5) 12 (fun _ => 0), cI cy (u 8 6) 12 (fun _ => 0), cI cy (u 8 7) 12 (fun _ => 0), cI cy (u 8 8) 12 (fun _ => 0), cR cy 5 (u 0 5) 4 (fun j => some (u 9 j)), cO (u 9 0) 5 [.ref (u 10 0), .int 0, .int 0, .int 0], cJ cy (u 10 0) 24 (fun _ => 0), cO (u 9 1) 5 [.ref (u 11 0), .int 0, .int 0, .int 0], cJ cy (u 11 0) 24 (fun _ => 0), cO (u 9 2) 5 [.ref (u 12 0), .int 0, .int 0, .int 0], cJ cy (u 12 0) 24 (fun _ => 0), cO (u 9 3) 5 [.ref (u 13 0), .int 0, .int 0, .int 0], cJ cy (u 13 0) 24 (fun _ => 0), cO (u 0 6) 1 [.ref (u 14 0), .ref (u 14 1), .ref (u 14 2), .ref (u 14 3), .ref (u 14 4), .ref (u 14 5), .ref (u 14 6), .ref (u 14 7), .ref (u 14 8), .int 0, .int 0, .int 0, .int 0, .int (-4)], cI cy (u 14 0) 6 (fun _ => 0), cI cy (u 14 1) 6 (fun _ => 0), cI cy (u 14 2) 6 (fun _ => 0), cI cy (u 14 3) 6 (fun _ => 0), cI cy (u 14 4) 6 (fun _ => 0), cI cy (u 14 5) 12 (fun _ => 0), cI cy (u 14 6) 12 (fun _ => 0), cI cy (u 14 7) 12 (fun _ => 0), cI cy (u 14 8) 12 (fun _ => 0), cO (u 0 7) 1 [.ref (u 15 0), .ref (u 15 1), .ref (u 15 2), .ref (u 15 3), .ref (u 15 4), .ref (u 15 5), .ref (u 15 6), .ref (u 15 7), .ref (u 15 8), .int 0, .int 0, .int 0, .int 0, .int (-4)], cI cy (u 15 0) 6 (fun _ => 0), cI cy (u 15 1) 6 (fun _ => 0), cI cy (u 15 2) 6 (fun _ => 0), cI cy (u 15 3) 6 (fun _ => 0), cI cy (u 15 4) 6 (fun _ => 0), cI cy (u 15 5) 12 (fun _ => 0), cI cy (u 15 6) 12 (fun _ => 0), cI cy (u 15 7) 12 (fun _ => 0), cI cy (u 15 8) 12 (fun _ => 0)])) := hD
  refine W.widen (k := 92) (n := 1322) (by decide) (by decide) ?_
  refine lv_astore_n (lv' := [(1, .ref h0), (0, .ref b)]) hx hb dL_law_7 rfl hl (by decide) rfl (fun ls hl => ?_)
  refine va_new (ci := 8) (fs := [.null, .null, .null, .int 0, .null, .int 0, .null, .null, .null, .null, .null, .null, .int 0, .null, .null, .null, .int 0, .null, .int 0, .int 0, .null, .null]) (C := RX8) (T := TX8) (N := 22) hx hb hts inlX8 tyX8 tyX8_ok hown (hts (.classLink RL 10 RX8) (by decide +kernel)) (hts (.instantiable RX8 22) (by decide +kernel)) (hts (.initialized RX8) (by decide +kernel)) hK hP hD hS hA rfl (fun j hj => by rcases (show j = 0 ∨ j = 1 ∨ j = 2 ∨ j = 3 ∨ j = 4 ∨ j = 5 ∨ j = 6 ∨ j = 7 ∨ j = 8 ∨ j = 9 ∨ j = 10 ∨ j = 11 ∨ j = 12 ∨ j = 13 ∨ j = 14 ∨ j = 15 ∨ j = 16 ∨ j = 17 ∨ j = 18 ∨ j = 19 ∨ j = 20 ∨ j = 21 by omega) with rfl | rfl | rfl | rfl | rfl | rfl | rfl | rfl | rfl | rfl | rfl | rfl | rfl | rfl | rfl | rfl | rfl | rfl | rfl | rfl | rfl | rfl <;> rfl) (Nat.le_of_ble_eq_true rfl) (Nat.le_of_ble_eq_true rfl) dL_law_8 (fun m0 H hP hD hS => ?_)
  refine W.widen (k := 93) (n := 1344) (by decide) (by decide) ?_
  refine lv_dup hx hb dL_law_11 rfl ?_
  refine pq_cI (ws := ([cO h0 7 [.ref (u 0 0), .ref (u 0 1), .ref (u 0 2), .ref (u 0 3), .ref (u 0 4), .ref (u 0 5), .ref (u 0 6), .ref (u 0 7)], cO (u 0 0) 6 [.ref (u 1 0), .int 0, .int 0], cI cy (u 1 0) 130 (fun _ => 0), cO (u 0 1) 4 [.ref (u 2 0), .int 0, .int 0], cR cy 3 (u 2 0) 24 (fun j => some (u 3 j))] ++ (pq_acts (u 3) (fun _ _ => 0) ++ [cO (u 0 2) 3 [.ref (u 4 0), .ref (u 4 1), .ref (u 4 2), .ref (u 4 3), .ref (u 4 4), .ref (u 4 5), .ref (u 4 6), .ref (u 4 7)], cI cy (u 4 0) 6 (fun _ => 0), cI cy (u 4 1) 6 (fun _ => 0), cI cy (u 4 2) 36 (fun _ => 0), cI cy (u 4 3) 36 (fun _ => 0), cI cy (u 4 4) 384 (fun _ => 0), cI cy (u 4 5) 6 (fun _ => 0), cI cy (u 4 6) 6 (fun _ => 0), cI cy (u 4 7) 6 (fun _ => 0), cO (u 0 3) 2 [.ref (u 5 0), .ref (u 5 1), .ref (u 5 2), .int 0], cI cy (u 5 0) 10 (fun _ => 0), cI cy (u 5 1) 10 (fun _ => 0), cI cy (u 5 2) 6 (fun _ => 0), cR cy 4 (u 0 4) 2 (fun j => some (u 6 j)), cO (u 6 0) 1 [.ref (u 7 0), .ref (u 7 1), .ref (u 7 2), .ref (u 7 3), .ref (u 7 4), .ref (u 7 5), .ref (u 7 6), .ref (u 7 7), .ref (u 7 8), .int 0, .int 0, .int 0, .int 0, .int (-4)], cI cy (u 7 0) 6 (fun _ => 0), cI cy (u 7 1) 6 (fun _ => 0), cI cy (u 7 2) 6 (fun _ => 0), cI cy (u 7 3) 6 (fun _ => 0), cI cy (u 7 4) 6 (fun _ => 0), cI cy (u 7 5) 12 (fun _ => 0), cI cy (u 7 6) 12 (fun _ => 0), cI cy (u 7 7) 12 (fun _ => 0), cI cy (u 7 8) 12 (fun _ => 0), cO (u 6 1) 1 [.ref (u 8 0), .ref (u 8 1), .ref (u 8 2), .ref (u 8 3), .ref (u 8 4), .ref (u 8 5), .ref (u 8 6), .ref (u 8 7), .ref (u 8 8), .int 0, .int 0, .int 0, .int 0, .int (-4)], cI cy (u 8 0) 6 (fun _ => 0), cI cy (u 8 1) 6 (fun _ => 0), cI cy (u 8 2) 6 (fun _ => 0), cI cy (u 8 3) 6 (fun _ => 0), cI cy (u 8 4) 6 (fun _ => 0), cI cy (u 8 5) 12 (fun _ => 0), cI cy (u 8 6) 12 (fun _ => 0), cI cy (u 8 7) 12 (fun _ => 0), cI cy (u 8 8) 12 (fun _ => 0), cR cy 5 (u 0 5) 4 (fun j => some (u 9 j)), cO (u 9 0) 5 [.ref (u 10 0), .int 0, .int 0, .int 0], cJ cy (u 10 0) 24 (fun _ => 0), cO (u 9 1) 5 [.ref (u 11 0), .int 0, .int 0, .int 0], cJ cy (u 11 0) 24 (fun _ => 0), cO (u 9 2) 5 [.ref (u 12 0), .int 0, .int 0, .int 0], cJ cy (u 12 0) 24 (fun _ => 0), cO (u 9 3) 5 [.ref (u 13 0), .int 0, .int 0, .int 0], cJ cy (u 13 0) 24 (fun _ => 0), cO (u 0 6) 1 [.ref (u 14 0), .ref (u 14 1), .ref (u 14 2), .ref (u 14 3), .ref (u 14 4), .ref (u 14 5), .ref (u 14 6), .ref (u 14 7), .ref (u 14 8), .int 0, .int 0, .int 0, .int 0, .int (-4)], cI cy (u 14 0) 6 (fun _ => 0), cI cy (u 14 1) 6 (fun _ => 0), cI cy (u 14 2) 6 (fun _ => 0), cI cy (u 14 3) 6 (fun _ => 0), cI cy (u 14 4) 6 (fun _ => 0), cI cy (u 14 5) 12 (fun _ => 0), cI cy (u 14 6) 12 (fun _ => 0), cI cy (u 14 7) 12 (fun _ => 0), cI cy (u 14 8) 12 (fun _ => 0), cO (u 0 7) 1 [.ref (u 15 0), .ref (u 15 1), .ref (u 15 2), .ref (u 15 3), .ref (u 15 4), .ref (u 15 5), .ref (u 15 6), .ref (u 15 7), .ref (u 15 8), .int 0, .int 0, .int 0, .int 0, .int (-4)], cI cy (u 15 0) 6 (fun _ => 0), cI cy (u 15 1) 6 (fun _ => 0), cI cy (u 15 2) 6 (fun _ => 0), cI cy (u 15 3) 6 (fun _ => 0), cI cy (u 15 4) 6 (fun _ => 0), cI cy (u 15 5) 12 (fun _ => 0), cI cy (u 15 6) 12 (fun _ => 0), cI cy (u 15 7) 12 (fun _ => 0), cI cy (u 15 8) 12 (fun _ => 0)])) ++ [cO m0 8 [.null, .null, .null, .int 0, .null, .int 0, .null, .null, .null, .null, .null, .null, .int 0, .null, .null, .null, .int 0, .null, .int 0, .int 0, .null, .null]]) (wc := [cO m0 8 [.null, .null, .null, .int 0, .null, .int 0, .null, .null, .null, .null, .null, .null, .int 0, .null, .null, .null, .int 0, .null, .int 0, .int 0, .null, .null]]) (wr := ([cO h0 7 [.ref (u 0 0), .ref (u 0 1), .ref (u 0 2), .ref (u 0 3), .ref (u 0 4), .ref (u 0 5), .ref (u 0 6), .ref (u 0 7)], cO (u 0 0) 6 [.ref (u 1 0), .int 0, .int 0], cI cy (u 1 0) 130 (fun _ => 0), cO (u 0 1) 4 [.ref (u 2 0), .int 0, .int 0], cR cy 3 (u 2 0) 24 (fun j => some (u 3 j))] ++ (pq_acts (u 3) (fun _ _ => 0) ++ [cO (u 0 2) 3 [.ref (u 4 0), .ref (u 4 1), .ref (u 4 2), .ref (u 4 3), .ref (u 4 4), .ref (u 4 5), .ref (u 4 6), .ref (u 4 7)], cI cy (u 4 0) 6 (fun _ => 0), cI cy (u 4 1) 6 (fun _ => 0), cI cy (u 4 2) 36 (fun _ => 0), cI cy (u 4 3) 36 (fun _ => 0), cI cy (u 4 4) 384 (fun _ => 0), cI cy (u 4 5) 6 (fun _ => 0), cI cy (u 4 6) 6 (fun _ => 0), cI cy (u 4 7) 6 (fun _ => 0), cO (u 0 3) 2 [.ref (u 5 0), .ref (u 5 1), .ref (u 5 2), .int 0], cI cy (u 5 0) 10 (fun _ => 0), cI cy (u 5 1) 10 (fun _ => 0), cI cy (u 5 2) 6 (fun _ => 0), cR cy 4 (u 0 4) 2 (fun j => some (u 6 j)), cO (u 6 0) 1 [.ref (u 7 0), .ref (u 7 1), .ref (u 7 2), .ref (u 7 3), .ref (u 7 4), .ref (u 7 5), .ref (u 7 6), .ref (u 7 7), .ref (u 7 8), .int 0, .int 0, .int 0, .int 0, .int (-4)], cI cy (u 7 0) 6 (fun _ => 0), cI cy (u 7 1) 6 (fun _ => 0), cI cy (u 7 2) 6 (fun _ => 0), cI cy (u 7 3) 6 (fun _ => 0), cI cy (u 7 4) 6 (fun _ => 0), cI cy (u 7 5) 12 (fun _ => 0), cI cy (u 7 6) 12 (fun _ => 0), cI cy (u 7 7) 12 (fun _ => 0), cI cy (u 7 8) 12 (fun _ => 0), cO (u 6 1) 1 [.ref (u 8 0), .ref (u 8 1), .ref (u 8 2), .ref (u 8 3), .ref (u 8 4), .ref (u 8 5), .ref (u 8 6), .ref (u 8 7), .ref (u 8 8), .int 0, .int 0, .int 0, .int 0, .int (-4)], cI cy (u 8 0) 6 (fun _ => 0), cI cy (u 8 1) 6 (fun _ => 0), cI cy (u 8 2) 6 (fun _ => 0), cI cy (u 8 3) 6 (fun _ => 0), cI cy (u 8 4) 6 (fun _ => 0), cI cy (u 8 5) 12 (fun _ => 0), cI cy (u 8 6) 12 (fun _ => 0), cI cy (u 8 7) 12 (fun _ => 0), cI cy (u 8 8) 12 (fun _ => 0), cR cy 5 (u 0 5) 4 (fun j => some (u 9 j)), cO (u 9 0) 5 [.ref (u 10 0), .int 0, .int 0, .int 0], cJ cy (u 10 0) 24 (fun _ => 0), cO (u 9 1) 5 [.ref (u 11 0), .int 0, .int 0, .int 0], cJ cy (u 11 0) 24 (fun _ => 0), cO (u 9 2) 5 [.ref (u 12 0), .int 0, .int 0, .int 0], cJ cy (u 12 0) 24 (fun _ => 0), cO (u 9 3) 5 [.ref (u 13 0), .int 0, .int 0, .int 0], cJ cy (u 13 0) 24 (fun _ => 0), cO (u 0 6) 1 [.ref (u 14 0), .ref (u 14 1), .ref (u 14 2), .ref (u 14 3), .ref (u 14 4), .ref (u 14 5), .ref (u 14 6), .ref (u 14 7), .ref (u 14 8), .int 0, .int 0, .int 0, .int 0, .int (-4)], cI cy (u 14 0) 6 (fun _ => 0), cI cy (u 14 1) 6 (fun _ => 0), cI cy (u 14 2) 6 (fun _ => 0), cI cy (u 14 3) 6 (fun _ => 0), cI cy (u 14 4) 6 (fun _ => 0), cI cy (u 14 5) 12 (fun _ => 0), cI cy (u 14 6) 12 (fun _ => 0), cI cy (u 14 7) 12 (fun _ => 0), cI cy (u 14 8) 12 (fun _ => 0), cO (u 0 7) 1 [.ref (u 15 0), .ref (u 15 1), .ref (u 15 2), .ref (u 15 3), .ref (u 15 4), .ref (u 15 5), .ref (u 15 6), .ref (u 15 7), .ref (u 15 8), .int 0, .int 0, .int 0, .int 0, .int (-4)], cI cy (u 15 0) 6 (fun _ => 0), cI cy (u 15 1) 6 (fun _ => 0), cI cy (u 15 2) 6 (fun _ => 0), cI cy (u 15 3) 6 (fun _ => 0), cI cy (u 15 4) 6 (fun _ => 0), cI cy (u 15 5) 12 (fun _ => 0), cI cy (u 15 6) 12 (fun _ => 0), cI cy (u 15 7) 12 (fun _ => 0), cI cy (u 15 8) 12 (fun _ => 0)]))) (b := m0) (rest := [.ref m0]) ⟨hx, hb, hml, hown, hts⟩ (c_X8_init l D cy m0) (cwI 0 hts gL_law_X8_init rfl rfl rfl (hts (.initialized RX8) (by decide +kernel)) (hts (.methodLink RL 12 yX8_init) (by decide +kernel)) (hts (.instanceMethod yX8_init) (by decide +kernel)) rfl (by decide +kernel) ⟨Nat.le_of_ble_eq_true rfl, Nat.le_of_ble_eq_true rfl⟩) hK hO hP hD hS hA [92] [0, 1, 2, 3, 4, 5, 6, 7, 8, 9, 10, 11, 12, 13, 14, 15, 16, 17, 18, 19, 20, 21, 22, 23, 24, 25, 26, 27, 28, 29, 30, 31, 32, 33, 34, 35, 36, 37, 38, 39, 40, 41, 42, 43, 44, 45, 46, 47, 48, 49, 50, 51, 52, 53, 54, 55, 56, 57, 58, 59, 60, 61, 62, 63, 64, 65, 66, 67, 68, 69, 70, 71, 72, 73, 74, 75, 76, 77, 78, 79, 80, 81, 82, 83, 84, 85, 86, 87, 88, 89, 90, 91] rfl rfl rfl rfl (by decide) hl.1 rfl (Nat.le_of_ble_eq_true rfl) ⟨Nat.le_of_ble_eq_true rfl, Nat.le_of_ble_eq_true rfl⟩ dL_law_12 (fun v H locs hP hD hS => ?_)
  have hP := hP.sub (ws' := pq_wl cy h0 u m0 v pq_xI0 (fun _ _ => 0) (fun _ _ => 0) (fun _ _ => 0) (fun _ => 0) pq_mA0 (fun _ => 0)) [0, 1, 2, 3, 4, 29, 30, 31, 32, 33, 34, 35, 36, 37, 38, 39, 40, 41, 42, 43, 44, 45, 46, 47, 48, 49, 50, 51, 52, 53, 54, 55, 56, 57, 58, 59, 60, 61, 62, 63, 64, 65, 66, 67, 68, 69, 70, 71, 72, 73, 74, 75, 76, 77, 78, 79, 80, 81, 82, 83, 84, 85, 86, 87, 88, 89, 90, 91, 92, 93, 94, 95, 96, 97, 98, 99, 100, 101, 102, 103, 104, 105, 106, 107, 108, 5, 6, 7, 8, 9, 10, 11, 12, 13, 14, 15, 16, 17, 18, 19, 20, 21, 22, 23, 24, 25, 26, 27, 28] rfl
  have hD := hD.sub (ws' := pq_wl cy h0 u m0 v pq_xI0 (fun _ _ => 0) (fun _ _ => 0) (fun _ _ => 0) (fun _ => 0) pq_mA0 (fun _ => 0)) [0, 1, 2, 3, 4, 29, 30, 31, 32, 33, 34, 35, 36, 37, 38, 39, 40, 41, 42, 43, 44, 45, 46, 47, 48, 49, 50, 51, 52, 53, 54, 55, 56, 57, 58, 59, 60, 61, 62, 63, 64, 65, 66, 67, 68, 69, 70, 71, 72, 73, 74, 75, 76, 77, 78, 79, 80, 81, 82, 83, 84, 85, 86, 87, 88, 89, 90, 91, 92, 93, 94, 95, 96, 97, 98, 99, 100, 101, 102, 103, 104, 105, 106, 107, 108, 5, 6, 7, 8, 9, 10, 11, 12, 13, 14, 15, 16, 17, 18, 19, 20, 21, 22, 23, 24, 25, 26, 27, 28] (by decide) rfl
  refine W.widen (k := 109) (n := 13218) (by decide) (by decide) ?_
  refine lv_astore_n (lv' := [(2, .ref m0), (1, .ref h0), (0, .ref b)]) hx hb dL_law_15 rfl hl (by decide) rfl (fun ls hl => ?_)
  refine lv_iconst (v := 0) hx hb dL_law_16 (by decide) ?_
  refine lv_istore_n (lv' := [(3, .int 0), (2, .ref m0), (1, .ref h0), (0, .ref b)]) hx hb dL_law_17 rfl hl (by decide) rfl (fun ls hl => ?_)
  exact pq_law_loop hL C0 hK hT (L + 1) 0 0 (Nat.zero_le L) nI_0.symm (by omega) u pq_xI0 (fun _ _ => 0) (fun _ _ => 0) (fun _ _ => 0) (fun _ => 0) pq_mA0 (fun _ => 0) pq_R0 _ _ _ hP hD hS (lv_sub hl [3, 2, 1, 0] rfl)
-- ===== YOUR PART ENDS =====
set_option maxHeartbeats 4000000 in
theorem lw_walk (l : Launch) (b : Addr) (xs : List Int32) : MetFree l x (headSpec (Jvm.Cond.code x code maxLocals ret :: tables_1) room_1) (lw_P b xs) (fun _ _ _ _ _ => True) lw_Q := by
  refine MetFree.of_bodyS (code := code) (maxLocals := maxLocals) (ret := ret) (by decide) ?_ ?_
  · intro args s m h hn
    obtain ⟨meth, c, h1, h2, h3, h4, h5, h6, -, -⟩ := Cond.code_spec hn (atoms_spec (ws := Jvm.Cond.code x code maxLocals ret :: tables_1) h _ List.mem_cons_self)
    exact ⟨meth, c, h1, h2, h3, h4, h5, h6⟩
  · intro p e s m args below meth c s₁ B hml0 hP _
    obtain ⟨rfl, hx, hbd, hgv⟩ := hP
    obtain ⟨scr, harrAt, hlist, hof, hsmall⟩ := hx
    obtain ⟨hcb, hkn, -, -⟩ := State.arrayAt?_spec harrAt
    have hown : s.vm.findClass R_law = some m.cls := findClass_of_methodNamed B.named
    have hts0 : ∀ c ∈ (Jvm.Cond.code x code maxLocals ret :: tables_1), c.before #[Value.ref b] s = true := atoms_spec (ws := Jvm.Cond.code x code maxLocals ret :: tables_1) B.pre
    have hts : ∀ w ∈ lw_tbl, w.before #[Value.ref b] s = true := k2_hts_sels lw_privs (fun w hw => hts0 w (List.mem_cons_of_mem _ hw)) lw_privs_ok
    have hml : c.maxLocals = 4 := B.maxLocals_eq (hts0 _ List.mem_cons_self)
    have X₀ : Stand p l e room_1 s m #[Value.ref b] below meth c s₁ [] 0 0 := Stand.of_body B
    have hh0 : s₁.heap = s.heap := by rw [B.state]; rfl
    have hsz : scr.slots.size = xs.length := by rw [← Array.length_toList, hlist, List.length_map]
    have hval : ∀ j : Nat, j < xs.length → scr.slots[j]? = some (.int (xs.getD j 0)) := fun j hj => by
      rw [← Array.getElem?_toList, hlist]
      simp [hj]
    have hbl : b < s.heap.size := (Array.getElem?_eq_some_iff.mp hcb).1
    have hX : va_X b xs.length (fun j => xs.getD j 0) s s.heap := ⟨scr, hcb, hof, hkn, hsz, hval⟩
    have K : W p l e room_1 s m #[Value.ref b] below meth c s₁.heap [] 0 0 (lw_Z below #[Value.ref b] s) (entryFrame m ([Value.ref b] : List Value).toArray 4) := by
      rw [hh0]
      exact whole_start l hbd ⟨B.exec, B.bytes, B.returns, hml, hown, hts, hX, hbl, B.notSynchronized, hgv⟩
    obtain ⟨t, a1, o, b1, b2, b3⟩ := K s₁ rfl X₀
    exact ⟨t, o, a1, b1, b2, b3⟩
theorem lw_pre_spec {args : Array Value} {s : State} (h : (Jvm.Cond.and given_1 narrow_1).before args s = true) (hr : rest_1_c.before args s = true) : ∃ (b : Addr) (xs : List Int32), lw_P b xs args s := by
  have hs := flat_of_before _ h
  have hq := flat_of_before _ hr
  have hc : (Cond.count 1).before args s = true := hs _ (by decide +kernel)
  have harr : (Cond.arrayOf (.arg 0) .int).before args s = true := hs _ (by decide +kernel)
  have hle : (Cond.le (.length (.arg 0)) (.int 3584)).before args s = true := hs _ (by decide +kernel)
  have hlen : (Cond.isInt (.length (.arg 0))).before args s = true := hq _ (by decide +kernel)
  have hall : (Cond.all (.arg 0) (.isInt (.elem (.arg 0) (.index 0)))).before args s = true := hq _ (by decide +kernel)
  obtain ⟨b, xs, hb, hx⟩ := State.ints_of_pre rfl harr hlen hall
  have hsm : xs.length < 2 ^ 31 := hx.choose_spec.2.2.2
  have hev : (Term.length (.arg 0)).eval args s none [] s = some (.int xs.length.toInt32) := hx.length_eval hb
  have hv := Cond.le_ints hev (show (Term.int 3584).eval args s none [] s = some (.int 3584) from rfl)
  have hd : xs.length.toInt32 ≤ 3584 := by
    simpa [Cond.before, Cond.holds, hv] using hle
  have hN : xs.length ≤ 3584 := (Int32.ofNat_le_ofNat hsm (by decide)).mp (show Int32.ofNat xs.length ≤ Int32.ofNat 3584 from hd)
  exact ⟨b, xs, Cond.one_arg hc (show args[0]? = some (.ref b) from hb), hx, hN, h⟩
theorem lw_comes (l : Launch) : Comes l x (Jvm.Cond.code x code maxLocals ret :: tables_1) room_1 (fun tb e args s => Calls_1 tb e args s ∧ rest_1 tb e args s ∧ Pre_1 tb e args s)
    (fun _ _ args s o t => lw_Q args s o t) := by
  intro p e ha hc hk s m args below hf hfit hheap happ hpre
  obtain ⟨b, xs, hP⟩ := lw_pre_spec hpre.2.2 hpre.2.1
  obtain ⟨k, o, h1, h2, h3, hQ⟩ := lw_walk l b xs p e ha hc hk s m args below hf ((Spec.applies_iff_loose hf).mp happ).1 hP trivial
  exact ⟨k, o, h1, h2, h3, hQ⟩
theorem lw_frame {s t : State} {o : Outcome} {args : Array Value} (h : Framed s o t [] 600000 7302250) :
    Framed s o t (fieldLocs frame_1_writes args s ++ arrayLocs frame_1_arrays args s ++ staticLocs frame_1_statics s) 600000 7302250 := h
theorem lw_limb (L : Cond) (hL : ∀ (args : Array Value) (s t : State), L.after args s (.returned (some (.int 1))) t = true) :
    ArmFor flags0 classFile x code maxLocals ret World_1 tables_1 room_1 Calls_1 rest_1 Pre_1
      (fun tb e a s o t => postC L tb e a s o t ∧ Framed s o t (fieldLocs frame_1_writes a s ++ arrayLocs frame_1_arrays a s ++ staticLocs frame_1_statics s) 600000 7302250) := by
  intro l _ _ _ p e ha hc hk s m args below hf hfit hheap happ hpre
  obtain ⟨k, o, h1, h2, h3, rfl, hF⟩ := lw_comes l p e ha hc hk s m args below hf hfit hheap happ hpre
  exact ⟨k, _, h1, h2, h3, hL args s _, lw_frame hF⟩
theorem i_vc : Claimed_1_1 ∧ Claimed_1_2 := ⟨lw_limb limb_1_1 (fun args s t => by simp [limb_1_1, Cond.after, Cond.holds, Cond.value]), lw_limb limb_1_2 (fun args s t => Cond.after_iff.mpr (by
  first | (rw [show limb_1_2 = Cond.eq .result (.int 1) from rfl, Cond.eq_ints (x := 1) (y := 1) rfl rfl]; simp; done) | (simp [limb_1_2, Cond.value, Term.eval]; done)))⟩
