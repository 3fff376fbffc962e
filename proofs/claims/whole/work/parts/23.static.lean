/-! ===== the static row KIND_ABOVE: contracts that read it ===== -/
def pq_St (base tS : Nat) (U : State) (H : Heap) : Prop := va_Z "LoserPicks" "KIND_ABOVE" "[I" (.ref tS) (fun q => base ≤ q) U H ∧ va_T .int tS 6 (fun j => .int (pq_ka j)) (fun q => base ≤ q) U H
theorem pq_St.moved {base tS : Nat} {u U : State} {H : Heap} (hvm : u.vm.Alike U.vm) (h : pq_St base tS u H) : pq_St base tS U H := ⟨h.1.moved hvm, h.2.moved hvm⟩
theorem pq_St.kept {base tS : Nat} {U : State} {H H1 : Heap} (h : pq_St base tS U H) (hq : ∀ a : Nat, a < H.size → ¬ base ≤ a → H1[a]? = H[a]?) : pq_St base tS U H1 := ⟨h.1.kept hq, h.2.kept hq⟩
abbrev pq_PcS (D : va_G) (cy : Nat → ClassId) (base tS : Nat) (as : List Value) (ws : va_W) (sz : Nat) : Array Value → State → Prop := va_Pc as (fun U => U.heap.size = sz ∧ va_P D vwCl ws U.heap ∧ (va_K D vwCl (pq_tys cy) U ∧ pq_St base tS U U.heap) ∧ va_D (fun q => base ≤ q) ws)
theorem pq_blindS {D : va_G} {cy : Nat → ClassId} {base tS : Nat} {as : List Value} {ws : va_W} {sz : Nat} : FrameBlind (pq_PcS D cy base tS as ws sz) := fun a U g mk q => by
  obtain ⟨q0, q1, qP, ⟨qK, qO⟩, qD⟩ := q
  exact ⟨q0, q1, qP, ⟨va_K.moved (u := U) (U := U.calling g mk a) (Vm.Alike.refl U.vm) qK, pq_St.moved (u := U) (U := U.calling g mk a) (Vm.Alike.refl U.vm) qO⟩, qD⟩
def pq_MIs (l : Launch) (y : MethodName) (w : List Cond) (rm : Room) (D : va_G) (cy : Nat → ClassId) (base tS : Nat) (as : List Value) (ws ws1 : va_W) (r : Int32) : Prop := ∀ sz : Nat, base ≤ sz → Met l y w rm (pq_PcS D cy base tS as ws sz) (pq_Qi D cy (va_A ws sz) ws1 r) 0 0 (va_A ws sz)
theorem pq_entS {l : Launch} {y : MethodName} {w w' : List Cond} {rm : Room} {D : va_G} {cy : Nat → ClassId} {base tS : Nat} {as : List Value} {ws ws1 : va_W} {r : Int32} {cc : ByteArray} {maxL : Nat} {ret : Option FieldType}
    (hy : plainName y.cls = true) (hw : w = Cond.code y cc maxL ret :: w') (hn : (lg_sl as).length ≤ maxL)
    (body : ∀ (p : Program) (e : Env) (s : State) (m : MethodId) (args : Array Value) (below : List Frame) (meth : Method) (c : Code) (A : Nat → Prop) (ls : Array Slot) (Q : State → Prop), Q = MQ below (pq_Qi D cy A ws1 r) args s 0 0 A → pq_X p s m meth c w args cc maxL ret y.cls → va_K D vwCl (pq_tys cy) s → pq_St base tS s s.heap → (∀ q, A q → base ≤ q) → base ≤ s.heap.size → va_P D vwCl ws s.heap → va_D A ws → (∀ q : Nat, s.heap.size ≤ q → A q) → va_S A s.heap s.heap [] → lv_has ls maxL (lv_args 0 as) →
      W p l e rm s m args below meth c s.heap [] 0 0 Q (F0 m 0 ls [])) :
    pq_MIs l y w rm D cy base tS as ws ws1 r := by
  intro sz hbz
  refine Met.ofW (cc := cc) (maxL := maxL) (ret := ret) hy hw ?_
  intro p e s m args below meth c s₁ B hml hv
  obtain ⟨rfl, hsz, hP, ⟨hK, hO⟩, hD0⟩ := hv
  subst hsz
  rw [lg_entry_eq]
  refine body p e s m as.toArray below meth c (va_A ws s.heap.size) _ _ rfl ⟨B.exec, B.bytes, B.returns, atoms_spec (ws := w) B.pre, findClass_of_methodNamed B.named, B.notSynchronized, hml⟩ hK hO (fun q h => ?_) hbz hP hD0.self (fun q h => Or.inr h) va_S.rf (lv_entry as hn)
  rcases h with ⟨k, ee, hk⟩ | h
  · exact hD0.2 k (q, ee) hk
  · exact Nat.le_trans hbz h
section PQS
variable {p : Program} {l : Launch} {e : Env} {R : Room} {s : State} {m : MethodId} {args : Array Value} {below : List Frame} {meth : Method} {c : Code} {H : Heap} {locs : List Loc} {cells slots : Nat} {Q : State → Prop} {pc : Nat} {ls : Array Slot} {rest : List Value} {cc : ByteArray} {α : Type} {z : α} {D : va_G} {cy : Nat → ClassId} {ws : va_W} {A : Nat → Prop} {base tS : Nat}
  {own C : String} {Ts wy : List Cond} {y : MethodName} {bytes : ByteArray} {index maxL nL n : Nat} {ret : Option FieldType} {rm : Room} {β : Type} {o : Option β} {k : β → Option α} {wc wr : va_W} {w1 ws1 : β → va_W} {As : List Value} {b : Nat} {st0 : List Value}
theorem pq_cSis {rz : β → Int32} (hT : pq_St base tS s s.heap) (hAb : ∀ q, A q → base ≤ q) (S : CallFix p m c cc nL s args Ts own) (hf : pq_c o k = some z) (hM : ∀ r : β, o = some r → pq_MIs l y wy rm D cy base tS As wc (w1 r) (rz r)) (cw : CallB R s args own index y bytes maxL ret wy rm 0 0 n ∧ (Cond.static y).before args s = true) (hbs : base ≤ s.heap.size)
    (hK : va_K D vwCl (pq_tys cy) s) (hP : va_P D vwCl ws H) (hD : va_D A ws) (hS : va_S A s.heap H locs) (hA : ∀ q : Nat, s.heap.size ≤ q → A q)
    (isC isR isB : List Nat) (hC1 : isC.map (fun i => ws[i]?) = wc.map some) (hR1 : isR.map (fun i => ws[i]?) = wr.map some) (hn0 : va_nd isC = true) (hn1 : va_nd isR = true) (hd1 : ∀ i ∈ isR, i ∉ isC)
    (hB1 : ∀ r, isB.map (fun i => (wr ++ w1 r)[i]?) = (ws1 r).map some) (hB2 : va_nd isB = true)
    (hlen : As.length = n) (hsz : ls.size = nL) (hst : st0 = As.reverse ++ rest) (hW : (rest.map fun v => v.category).sum ≤ 8) (hcs : cells ≤ R.cells ∧ slots ≤ R.slots) (hdg : decode cc pc = .ok (.invokestatic index, 3))
    (kk : ∀ (r : β) (H1 : Heap) (locs1 : List Loc), k r = some z → va_P D vwCl (ws1 r) H1 → va_D A (ws1 r) → va_S A s.heap H1 locs1 → W p l e R s m args below meth c H1 locs1 cells slots Q (F0 m (pc + 3) ls (.int (rz r) :: rest))) :
    W p l e R s m args below meth c H locs cells slots Q (F0 m pc ls st0) := by
  obtain ⟨r, hr, hf⟩ := pq_c_e hf
  have hPc := hP.sub isC (pq_fm hC1)
  have hDc := (hD.sub isC hn0 hC1).weaken (B := fun q => base ≤ q) (fun _ _ _ h => hAb _ h)
  have hFc := va_free (wc := wc) hD hS hA isC hC1
  have hTH : pq_St base tS s H := hT.kept (fun a h1 h2 => hS.2.1 a h1 (fun h => h2 (hAb a h)))
  refine va_calli (va_runS (As := As) (rest := rest) S (hM r hr H.size (Nat.le_trans hbs hS.1)) cw ⟨pq_blindS, fun U hU hW => ⟨rfl, by rw [hU], by rw [hU]; exact hPc, ⟨va_K.moved hW.alike hK, by rw [hU]; exact hTH.moved hW.alike⟩, hDc⟩⟩ rfl hlen hsz hst (lv_room hW) hdg ⟨hcs.1, hcs.2⟩) hS (fun q _ h => hFc q h) hFc (fun x u t H1 locs1 ht hvm hw hB hz1 hk1 hS1 => ?_)
  obtain ⟨hP1, hK1, hD1⟩ := hB
  rw [ht] at hP1
  obtain ⟨hP2, hD2⟩ := va_join (wr := wr) (w1 := w1 r) hP hD isC isR hC1 hR1 hn1 hd1 hk1 hFc hP1 hD1
  cases hw
  exact kk r H1 locs1 hf (hP2.sub isB (pq_fm (hB1 r))) (hD2.sub isB hB2 (hB1 r)) hS1
theorem pq_cVis {rz : β → Int32} (hT : pq_St base tS s s.heap) (hAb : ∀ q, A q → base ≤ q) (S : CallFix p m c cc nL s args Ts own) (hf : pq_c o k = some z) (hM : ∀ r : β, o = some r → pq_MIs l y wy rm D cy base tS (.ref b :: As) wc (w1 r) (rz r)) (cw : CallW R s args own C index y bytes maxL ret wy rm 0 0 n) (hbs : base ≤ s.heap.size)
    (hK : va_K D vwCl (pq_tys cy) s) (hP : va_P D vwCl ws H) (hD : va_D A ws) (hS : va_S A s.heap H locs) (hA : ∀ q : Nat, s.heap.size ≤ q → A q)
    (qr ci : Nat) {fs : List Value} {T : u_T} {NN : Nat} (hrv : wc[qr]? = some (b, .inr (ci, fs))) (hci : vwCl[ci]? = some (C, T, NN))
    (isC isR isB : List Nat) (hC1 : isC.map (fun i => ws[i]?) = wc.map some) (hR1 : isR.map (fun i => ws[i]?) = wr.map some) (hn0 : va_nd isC = true) (hn1 : va_nd isR = true) (hd1 : ∀ i ∈ isR, i ∉ isC)
    (hB1 : ∀ r, isB.map (fun i => (wr ++ w1 r)[i]?) = (ws1 r).map some) (hB2 : va_nd isB = true)
    (hlen : As.length = n) (hsz : ls.size = nL) (hst : st0 = As.reverse ++ .ref b :: rest) (hW : (rest.map fun v => v.category).sum ≤ 8) (hcs : cells ≤ R.cells ∧ slots ≤ R.slots) (hdg : decode cc pc = .ok (.invokevirtual index, 3))
    (kk : ∀ (r : β) (H1 : Heap) (locs1 : List Loc), k r = some z → va_P D vwCl (ws1 r) H1 → va_D A (ws1 r) → va_S A s.heap H1 locs1 → W p l e R s m args below meth c H1 locs1 cells slots Q (F0 m (pc + 3) ls (.int (rz r) :: rest))) :
    W p l e R s m args below meth c H locs cells slots Q (F0 m pc ls st0) := by
  obtain ⟨r, hr, hf⟩ := pq_c_e hf
  have hPc := hP.sub isC (pq_fm hC1)
  have hDc := (hD.sub isC hn0 hC1).weaken (B := fun q => base ≤ q) (fun _ _ _ h => hAb _ h)
  have hFc := va_free (wc := wc) hD hS hA isC hC1
  have hTH : pq_St base tS s H := hT.kept (fun a h1 h2 => hS.2.1 a h1 (fun h => h2 (hAb a h)))
  refine va_calli (va_runV (As := As) (rest := rest) S (hM r hr H.size (Nat.le_trans hbs hS.1)) cw ⟨pq_blindS, va_recv hK hPc hci hrv, fun U hU hW => ⟨rfl, by rw [hU], by rw [hU]; exact hPc, ⟨va_K.moved hW.alike hK, by rw [hU]; exact hTH.moved hW.alike⟩, hDc⟩⟩ rfl hlen hsz hst (lv_room hW) hdg ⟨hcs.1, hcs.2⟩) hS (fun q _ h => hFc q h) hFc (fun x u t H1 locs1 ht hvm hw hB hz1 hk1 hS1 => ?_)
  obtain ⟨hP1, hK1, hD1⟩ := hB
  rw [ht] at hP1
  obtain ⟨hP2, hD2⟩ := va_join (wr := wr) (w1 := w1 r) hP hD isC isR hC1 hR1 hn1 hd1 hk1 hFc hP1 hD1
  cases hw
  exact kk r H1 locs1 hf (hP2.sub isB (pq_fm (hB1 r))) (hD2.sub isB hB2 (hB1 r)) hS1
end PQS
abbrev rm_X7_isUnder : Room := { frames := 0, cells := 0, slots := 0, locals := 0 }
set_option maxHeartbeats 4000000 in
set_option maxRecDepth 100000 in
theorem c_X7_isUnder (l : Launch) (D : va_G) (cy : Nat → ClassId) (N : Nat) (base tS : Nat) (p0 : Int32) (p1 : Int32) (z : Int32) (hf : f_X7_isUnder N p0 p1 = some z) : pq_MIs l yX7_isUnder wsX7_isUnder rm_X7_isUnder D cy base tS [.int p0, .int p1] [] [] (z) := by
  refine pq_entS (cc := cX7_isUnder) (maxL := 4) (ret := (some .boolean)) (by decide) rfl (Nat.le_of_ble_eq_true rfl) ?_
  intro p e s m args below meth c A ls Q hQ X hK hT hAb hbs hP hD hA hS hl
  obtain ⟨hx, hb, hr, hts, hown, hlocks, hml⟩ := X
  have hl : lv_has ls 4 [(0, .int p0), (1, .int p1)] := hl
  unfold f_X7_isUnder at hf
  have k0 := hts (.fieldLink RX7 307 "LoserPicks" "KIND_ABOVE" "[I") (by decide +kernel)
  refine lv_iload_n hx hb dX7_isUnder_0 rfl (lv_at hl 0 rfl) ?_
  refine lv_istore_n (lv' := [(2, .int p0), (0, .int p0), (1, .int p1)]) hx hb dX7_isUnder_1 rfl hl (by decide) rfl (fun ls hl => ?_)
  refine lv_iconst (v := 0) hx hb dX7_isUnder_2 (by decide) ?_
  refine lv_istore_n (lv' := [(3, .int 0), (2, .int p0), (0, .int p0), (1, .int p1)]) hx hb dX7_isUnder_3 rfl hl (by decide) rfl (fun ls hl => ?_)
  have hL4 : ∀ (n : Nat) (x2_L4 : Int32) (x3_L4 : Int32) (H : Heap) (locs : List Loc) (ls : Array Slot), pq_w (fun _ _ => none) (f_X7_isUnder_L4 N p1) n x2_L4 x3_L4 = some z → va_P D vwCl [] H → va_D A [] → va_S A s.heap H locs → lv_has ls 4 [(1, .int p1), (2, .int x2_L4), (3, .int x3_L4)] → W p l e rm_X7_isUnder s m args below meth c H locs 0 0 Q (F0 m 4 ls []) := by
    intro n
    induction n with
    | zero =>
      intro x2_L4 x3_L4 H locs ls hf
      exact absurd (show none = some z from hf) (fun h => nomatch h)
    | succ n ihL4 =>
      intro x2_L4 x3_L4 H locs ls hf hP hD hS hl
      have hf : (f_X7_isUnder_L4 N p1) (pq_w (fun _ _ => none) (f_X7_isUnder_L4 N p1) n) x2_L4 x3_L4 = some z := hf
      generalize pq_w (fun _ _ => none) (f_X7_isUnder_L4 N p1) n = kL4 at hf ihL4
      unfold f_X7_isUnder_L4 at hf
      refine lv_iload_n hx hb dX7_isUnder_4 rfl (lv_at hl 2 rfl) ?_
      refine lv_iconst (v := 5) hx hb dX7_isUnder_5 (by decide) ?_
      refine pq_icmp_gt hx hb 37 hf dX7_isUnder_6 (by decide) (fun _ hf => ?_) (fun _ hf => ?_)
      · refine lv_iconst (v := 0) hx hb dX7_isUnder_37 (by decide) ?_
        rw [hQ]
        exact pq_zret hx hb hr hlocks hK hP hD hS hf (fun z => z) (fun z => []) rfl rfl dX7_isUnder_38
      · refine lv_iload_n hx hb dX7_isUnder_9 rfl (lv_at hl 1 rfl) ?_
        refine pq_if_lt hx hb 37 hf dX7_isUnder_10 (by decide) (fun _ hf => ?_) (fun _ hf => ?_)
        · refine lv_iconst (v := 0) hx hb dX7_isUnder_37 (by decide) ?_
          rw [hQ]
          exact pq_zret hx hb hr hlocks hK hP hD hS hf (fun z => z) (fun z => []) rfl rfl dX7_isUnder_38
        · refine lv_iload_n hx hb dX7_isUnder_13 rfl (lv_at hl 1 rfl) ?_
          refine lv_iconst (v := 5) hx hb dX7_isUnder_14 (by decide) ?_
          refine pq_icmp_gt hx hb 37 hf dX7_isUnder_15 (by decide) (fun _ hf => ?_) (fun _ hf => ?_)
          · refine lv_iconst (v := 0) hx hb dX7_isUnder_37 (by decide) ?_
            rw [hQ]
            exact pq_zret hx hb hr hlocks hK hP hD hS hf (fun z => z) (fun z => []) rfl rfl dX7_isUnder_38
          · refine lv_iload_n hx hb dX7_isUnder_18 rfl (lv_at hl 1 rfl) ?_
            refine lv_iload_n hx hb dX7_isUnder_19 rfl (lv_at hl 0 rfl) ?_
            refine pq_icmp_ne hx hb 25 hf dX7_isUnder_20 (by decide) (fun _ hf => ?_) (fun _ hf => ?_)
            · refine va_gets hx hb (hT.1.narrow hAb) hS hown k0 (fun _ h9 => h9) dX7_isUnder_25 ?_
              refine lv_iload_n hx hb dX7_isUnder_28 rfl (lv_at hl 1 rfl) ?_
              obtain ⟨hv, hf⟩ := pq_gd_e hf
              refine va_ti (v := .int (pq_ka (x2_L4 : Int32).toNatClampNeg)) hx hb (hT.2.narrow hAb) hS hv rfl dX7_isUnder_29 ?_
              refine pq_li hf (fun x2_1 hf => ?_)
              refine lv_istore_n (lv' := [(2, .int x2_1), (1, .int p1), (3, .int x3_L4)]) hx hb dX7_isUnder_30 rfl hl (by decide) rfl (fun ls hl => ?_)
              refine pq_iinc (v := x3_L4 + 1) (lv1 := fun y => [(3, .int y), (2, .int x2_1), (1, .int p1)]) hx hb hf dX7_isUnder_31 hl (kp := 2) rfl rfl (by decide) (fun _ => rfl) (fun x3_2 ls hf hl => ?_)
              refine lv_goto (tgt := 4) hx hb dX7_isUnder_34 (by decide) ?_
              exact ihL4 x2_1 x3_2 _ _ _ hf hP hD hS (lv_sub hl [2, 1, 0] rfl)
            · refine lv_iconst (v := 1) hx hb dX7_isUnder_23 (by decide) ?_
              rw [hQ]
              exact pq_zret hx hb hr hlocks hK hP hD hS hf (fun z => z) (fun z => []) rfl rfl dX7_isUnder_24
  exact hL4 N p0 0 _ _ _ hf hP hD hS (lv_sub hl [3, 1, 0] rfl)

abbrev rm_X7_as : Room := { frames := 1, cells := 0, slots := 0, locals := 23 }
set_option maxHeartbeats 4000000 in
set_option maxRecDepth 100000 in
theorem c_X7_as (l : Launch) (D : va_G) (cy : Nat → ClassId) (N : Nat) (base tS : Nat) (h0 : Nat) (a0 : Nat → Nat) (b0_now : Nat → Nat) (now_parties_0 : Int32) (now_judges_0 : Int32) (now_cases_0 : Int32) (now_next_0 : Int32) (now_sits_0 : Int32) (now_kind_0 : Nat → Int32) (now_grievance_0 : Nat → Int32) (now_wins_0 : Nat → Int32) (now_lean_0 : Nat → Int32) (now_favours_0 : Nat → Int32) (now_plaintiff_0 : Nat → Int32) (now_defendant_0 : Nat → Int32) (now_weight_0 : Nat → Int32) (now_winner_0 : Nat → Int32) (p1 : Int32) (p2 : Int32) (z : Int32) (hf : f_X7_as N now_parties_0 now_kind_0 p1 p2 = some z) : pq_MIs l yX7_as wsX7_as rm_X7_as D cy base tS [.ref h0, .int p1, .int p2] [cO h0 7 [.ref (a0 0), .ref (a0 1), .ref (a0 2), .ref (a0 3), .ref (a0 4), .ref (a0 5), .ref (a0 6), .ref (a0 7)], cO (a0 6) 1 [.ref (b0_now 0), .ref (b0_now 1), .ref (b0_now 2), .ref (b0_now 3), .ref (b0_now 4), .ref (b0_now 5), .ref (b0_now 6), .ref (b0_now 7), .ref (b0_now 8), .int now_parties_0, .int now_judges_0, .int now_cases_0, .int now_next_0, .int now_sits_0], cI cy (b0_now 0) 6 now_kind_0, cI cy (b0_now 1) 6 now_grievance_0, cI cy (b0_now 2) 6 now_wins_0, cI cy (b0_now 3) 6 now_lean_0, cI cy (b0_now 4) 6 now_favours_0, cI cy (b0_now 5) 12 now_plaintiff_0, cI cy (b0_now 6) 12 now_defendant_0, cI cy (b0_now 7) 12 now_weight_0, cI cy (b0_now 8) 12 now_winner_0] [cO h0 7 [.ref (a0 0), .ref (a0 1), .ref (a0 2), .ref (a0 3), .ref (a0 4), .ref (a0 5), .ref (a0 6), .ref (a0 7)], cO (a0 6) 1 [.ref (b0_now 0), .ref (b0_now 1), .ref (b0_now 2), .ref (b0_now 3), .ref (b0_now 4), .ref (b0_now 5), .ref (b0_now 6), .ref (b0_now 7), .ref (b0_now 8), .int now_parties_0, .int now_judges_0, .int now_cases_0, .int now_next_0, .int now_sits_0], cI cy (b0_now 0) 6 now_kind_0, cI cy (b0_now 1) 6 now_grievance_0, cI cy (b0_now 2) 6 now_wins_0, cI cy (b0_now 3) 6 now_lean_0, cI cy (b0_now 4) 6 now_favours_0, cI cy (b0_now 5) 12 now_plaintiff_0, cI cy (b0_now 6) 12 now_defendant_0, cI cy (b0_now 7) 12 now_weight_0, cI cy (b0_now 8) 12 now_winner_0] (z) := by
  refine pq_entS (cc := cX7_as) (maxL := 3) (ret := (some .int)) (by decide) rfl (Nat.le_of_ble_eq_true rfl) ?_
  intro p e s m args below meth c A ls Q hQ X hK hT hAb hbs hP hD hA hS hl
  obtain ⟨hx, hb, hr, hts, hown, hlocks, hml⟩ := X
  have hl : lv_has ls 3 [(0, .ref h0), (1, .int p1), (2, .int p2)] := hl
  unfold f_X7_as at hf
  have hiX1 : ∀ w ∈ wsX10, w ∈ wsX7_as := by decide +kernel
  have hiX7 : ∀ w ∈ wsX70, w ∈ wsX7_as := by decide +kernel
  have k0 := hts (.fieldLink RX7 51 "LoserPicks" "now" "LLoserPicks$Circuit;") (by decide +kernel)
  have k1 := hts (.fieldLink RX7 80 "LoserPicks$Circuit" "kind" "[I") (by decide +kernel)
  refine lv_aload_n hx hb dX7_as_0 rfl (lv_at hl 0 rfl) ?_
  refine pq_get (D := D) (ci := 7) (v := .ref (a0 6)) (C := RX7) (T := TX7) (N := 8) hx hb hts hiX7 hown hK hP 0 rfl rfl 6 (by decide) k0 rfl rfl dX7_as_1 ?_
  refine lv_iload_n hx hb dX7_as_4 rfl (lv_at hl 1 rfl) ?_
  refine pq_cVi (rz := fun r => r) (w1 := fun r => [cO (a0 6) 1 [.ref (b0_now 0), .ref (b0_now 1), .ref (b0_now 2), .ref (b0_now 3), .ref (b0_now 4), .ref (b0_now 5), .ref (b0_now 6), .ref (b0_now 7), .ref (b0_now 8), .int now_parties_0, .int now_judges_0, .int now_cases_0, .int now_next_0, .int now_sits_0], cI cy (b0_now 0) 6 now_kind_0, cI cy (b0_now 1) 6 now_grievance_0, cI cy (b0_now 2) 6 now_wins_0, cI cy (b0_now 3) 6 now_lean_0, cI cy (b0_now 4) 6 now_favours_0, cI cy (b0_now 5) 12 now_plaintiff_0, cI cy (b0_now 6) 12 now_defendant_0, cI cy (b0_now 7) 12 now_weight_0, cI cy (b0_now 8) 12 now_winner_0]) (ws1 := fun r => [cO h0 7 [.ref (a0 0), .ref (a0 1), .ref (a0 2), .ref (a0 3), .ref (a0 4), .ref (a0 5), .ref (a0 6), .ref (a0 7)], cO (a0 6) 1 [.ref (b0_now 0), .ref (b0_now 1), .ref (b0_now 2), .ref (b0_now 3), .ref (b0_now 4), .ref (b0_now 5), .ref (b0_now 6), .ref (b0_now 7), .ref (b0_now 8), .int now_parties_0, .int now_judges_0, .int now_cases_0, .int now_next_0, .int now_sits_0], cI cy (b0_now 0) 6 now_kind_0, cI cy (b0_now 1) 6 now_grievance_0, cI cy (b0_now 2) 6 now_wins_0, cI cy (b0_now 3) 6 now_lean_0, cI cy (b0_now 4) 6 now_favours_0, cI cy (b0_now 5) 12 now_plaintiff_0, cI cy (b0_now 6) 12 now_defendant_0, cI cy (b0_now 7) 12 now_weight_0, cI cy (b0_now 8) 12 now_winner_0]) (wc := [cO (a0 6) 1 [.ref (b0_now 0), .ref (b0_now 1), .ref (b0_now 2), .ref (b0_now 3), .ref (b0_now 4), .ref (b0_now 5), .ref (b0_now 6), .ref (b0_now 7), .ref (b0_now 8), .int now_parties_0, .int now_judges_0, .int now_cases_0, .int now_next_0, .int now_sits_0], cI cy (b0_now 0) 6 now_kind_0, cI cy (b0_now 1) 6 now_grievance_0, cI cy (b0_now 2) 6 now_wins_0, cI cy (b0_now 3) 6 now_lean_0, cI cy (b0_now 4) 6 now_favours_0, cI cy (b0_now 5) 12 now_plaintiff_0, cI cy (b0_now 6) 12 now_defendant_0, cI cy (b0_now 7) 12 now_weight_0, cI cy (b0_now 8) 12 now_winner_0]) (wr := [cO h0 7 [.ref (a0 0), .ref (a0 1), .ref (a0 2), .ref (a0 3), .ref (a0 4), .ref (a0 5), .ref (a0 6), .ref (a0 7)]]) (As := [.int p1]) (rest := []) (b := a0 6) (C := RX1) ⟨hx, hb, hml, hown, hts⟩ hf (fun r hr => c_X1_hasParty l D cy N (a0 6) b0_now now_parties_0 now_judges_0 now_cases_0 now_next_0 now_sits_0 now_kind_0 now_grievance_0 now_wins_0 now_lean_0 now_favours_0 now_plaintiff_0 now_defendant_0 now_weight_0 now_winner_0 p1 r hr) (cwV 1 hts gX7_as_X1_hasParty rfl rfl rfl (by decide +kernel) ⟨Nat.le_of_ble_eq_true rfl, Nat.le_of_ble_eq_true rfl⟩) hK hP hD hS hA 0 1 rfl rfl [1, 2, 3, 4, 5, 6, 7, 8, 9, 10] [0] [0, 1, 2, 3, 4, 5, 6, 7, 8, 9, 10] rfl rfl rfl rfl (by decide) (fun _ => rfl) rfl rfl hl.1 rfl (Nat.le_of_ble_eq_true rfl) ⟨Nat.zero_le _, Nat.zero_le _⟩ dX7_as_5 (fun r_1 H locs hf hP hD hS => ?_)
  refine pq_if_eq hx hb 20 hf dX7_as_8 (by decide) (fun _ hf => ?_) (fun _ hf => ?_)
  · refine lv_iconst (v := (-1)) hx hb dX7_as_20 (by decide) ?_
    rw [hQ]
    exact pq_iret hx hb hr hlocks hK hP hD hS hf (fun z => z) (fun z => [cO h0 7 [.ref (a0 0), .ref (a0 1), .ref (a0 2), .ref (a0 3), .ref (a0 4), .ref (a0 5), .ref (a0 6), .ref (a0 7)], cO (a0 6) 1 [.ref (b0_now 0), .ref (b0_now 1), .ref (b0_now 2), .ref (b0_now 3), .ref (b0_now 4), .ref (b0_now 5), .ref (b0_now 6), .ref (b0_now 7), .ref (b0_now 8), .int now_parties_0, .int now_judges_0, .int now_cases_0, .int now_next_0, .int now_sits_0], cI cy (b0_now 0) 6 now_kind_0, cI cy (b0_now 1) 6 now_grievance_0, cI cy (b0_now 2) 6 now_wins_0, cI cy (b0_now 3) 6 now_lean_0, cI cy (b0_now 4) 6 now_favours_0, cI cy (b0_now 5) 12 now_plaintiff_0, cI cy (b0_now 6) 12 now_defendant_0, cI cy (b0_now 7) 12 now_weight_0, cI cy (b0_now 8) 12 now_winner_0]) rfl rfl dX7_as_21
  · refine lv_iload_n hx hb dX7_as_11 rfl (lv_at hl 2 rfl) ?_
    refine pq_if_lt hx hb 20 hf dX7_as_12 (by decide) (fun _ hf => ?_) (fun _ hf => ?_)
    · refine lv_iconst (v := (-1)) hx hb dX7_as_20 (by decide) ?_
      rw [hQ]
      exact pq_iret hx hb hr hlocks hK hP hD hS hf (fun z => z) (fun z => [cO h0 7 [.ref (a0 0), .ref (a0 1), .ref (a0 2), .ref (a0 3), .ref (a0 4), .ref (a0 5), .ref (a0 6), .ref (a0 7)], cO (a0 6) 1 [.ref (b0_now 0), .ref (b0_now 1), .ref (b0_now 2), .ref (b0_now 3), .ref (b0_now 4), .ref (b0_now 5), .ref (b0_now 6), .ref (b0_now 7), .ref (b0_now 8), .int now_parties_0, .int now_judges_0, .int now_cases_0, .int now_next_0, .int now_sits_0], cI cy (b0_now 0) 6 now_kind_0, cI cy (b0_now 1) 6 now_grievance_0, cI cy (b0_now 2) 6 now_wins_0, cI cy (b0_now 3) 6 now_lean_0, cI cy (b0_now 4) 6 now_favours_0, cI cy (b0_now 5) 12 now_plaintiff_0, cI cy (b0_now 6) 12 now_defendant_0, cI cy (b0_now 7) 12 now_weight_0, cI cy (b0_now 8) 12 now_winner_0]) rfl rfl dX7_as_21
    · refine lv_iload_n hx hb dX7_as_15 rfl (lv_at hl 2 rfl) ?_
      refine lv_iconst (v := 5) hx hb dX7_as_16 (by decide) ?_
      refine pq_icmp_le hx hb 22 hf dX7_as_17 (by decide) (fun _ hf => ?_) (fun _ hf => ?_)
      · refine lv_aload_n hx hb dX7_as_22 rfl (lv_at hl 0 rfl) ?_
        refine pq_get (D := D) (ci := 7) (v := .ref (a0 6)) (C := RX7) (T := TX7) (N := 8) hx hb hts hiX7 hown hK hP 0 rfl rfl 6 (by decide) k0 rfl rfl dX7_as_23 ?_
        refine pq_get (D := D) (ci := 1) (v := .ref (b0_now 0)) (C := RX1) (T := TX1) (N := 14) hx hb hts hiX1 hown hK hP 1 rfl rfl 0 (by decide) k1 rfl rfl dX7_as_26 ?_
        refine lv_iload_n hx hb dX7_as_29 rfl (lv_at hl 1 rfl) ?_
        refine pq_iald hx hb hK hP 2 0 rfl rfl hf dX7_as_30 (fun hf => ?_)
        refine lv_iload_n hx hb dX7_as_31 rfl (lv_at hl 2 rfl) ?_
        refine pq_cSis (rz := fun r => r) (w1 := fun r => []) (ws1 := fun r => [cO h0 7 [.ref (a0 0), .ref (a0 1), .ref (a0 2), .ref (a0 3), .ref (a0 4), .ref (a0 5), .ref (a0 6), .ref (a0 7)], cO (a0 6) 1 [.ref (b0_now 0), .ref (b0_now 1), .ref (b0_now 2), .ref (b0_now 3), .ref (b0_now 4), .ref (b0_now 5), .ref (b0_now 6), .ref (b0_now 7), .ref (b0_now 8), .int now_parties_0, .int now_judges_0, .int now_cases_0, .int now_next_0, .int now_sits_0], cI cy (b0_now 0) 6 now_kind_0, cI cy (b0_now 1) 6 now_grievance_0, cI cy (b0_now 2) 6 now_wins_0, cI cy (b0_now 3) 6 now_lean_0, cI cy (b0_now 4) 6 now_favours_0, cI cy (b0_now 5) 12 now_plaintiff_0, cI cy (b0_now 6) 12 now_defendant_0, cI cy (b0_now 7) 12 now_weight_0, cI cy (b0_now 8) 12 now_winner_0]) (wc := []) (wr := [cO h0 7 [.ref (a0 0), .ref (a0 1), .ref (a0 2), .ref (a0 3), .ref (a0 4), .ref (a0 5), .ref (a0 6), .ref (a0 7)], cO (a0 6) 1 [.ref (b0_now 0), .ref (b0_now 1), .ref (b0_now 2), .ref (b0_now 3), .ref (b0_now 4), .ref (b0_now 5), .ref (b0_now 6), .ref (b0_now 7), .ref (b0_now 8), .int now_parties_0, .int now_judges_0, .int now_cases_0, .int now_next_0, .int now_sits_0], cI cy (b0_now 0) 6 now_kind_0, cI cy (b0_now 1) 6 now_grievance_0, cI cy (b0_now 2) 6 now_wins_0, cI cy (b0_now 3) 6 now_lean_0, cI cy (b0_now 4) 6 now_favours_0, cI cy (b0_now 5) 12 now_plaintiff_0, cI cy (b0_now 6) 12 now_defendant_0, cI cy (b0_now 7) 12 now_weight_0, cI cy (b0_now 8) 12 now_winner_0]) (As := [.int (now_kind_0 (p1 : Int32).toNatClampNeg), .int p2]) (rest := []) hT hAb ⟨hx, hb, hml, hown, hts⟩ hf (fun r hr => c_X7_isUnder l D cy N base tS (now_kind_0 (p1 : Int32).toNatClampNeg) p2 r hr) (va_cwS 2 hts gX7_as_X7_isUnder rfl rfl rfl (by decide +kernel) ⟨Nat.le_of_ble_eq_true rfl, Nat.le_of_ble_eq_true rfl⟩) hbs hK hP hD hS hA [] [0, 1, 2, 3, 4, 5, 6, 7, 8, 9, 10] [0, 1, 2, 3, 4, 5, 6, 7, 8, 9, 10] rfl rfl rfl rfl (by decide) (fun _ => rfl) rfl rfl hl.1 rfl (Nat.le_of_ble_eq_true rfl) ⟨Nat.zero_le _, Nat.zero_le _⟩ dX7_as_32 (fun r_2 H locs hf hP hD hS => ?_)
        refine pq_if_eq hx hb 42 hf dX7_as_35 (by decide) (fun _ hf => ?_) (fun _ hf => ?_)
        · refine lv_bipush (v := (-12)) hx hb dX7_as_42 (by decide) ?_
          rw [hQ]
          exact pq_iret hx hb hr hlocks hK hP hD hS hf (fun z => z) (fun z => [cO h0 7 [.ref (a0 0), .ref (a0 1), .ref (a0 2), .ref (a0 3), .ref (a0 4), .ref (a0 5), .ref (a0 6), .ref (a0 7)], cO (a0 6) 1 [.ref (b0_now 0), .ref (b0_now 1), .ref (b0_now 2), .ref (b0_now 3), .ref (b0_now 4), .ref (b0_now 5), .ref (b0_now 6), .ref (b0_now 7), .ref (b0_now 8), .int now_parties_0, .int now_judges_0, .int now_cases_0, .int now_next_0, .int now_sits_0], cI cy (b0_now 0) 6 now_kind_0, cI cy (b0_now 1) 6 now_grievance_0, cI cy (b0_now 2) 6 now_wins_0, cI cy (b0_now 3) 6 now_lean_0, cI cy (b0_now 4) 6 now_favours_0, cI cy (b0_now 5) 12 now_plaintiff_0, cI cy (b0_now 6) 12 now_defendant_0, cI cy (b0_now 7) 12 now_weight_0, cI cy (b0_now 8) 12 now_winner_0]) rfl rfl dX7_as_44
        · refine lv_iload_n hx hb dX7_as_38 rfl (lv_at hl 1 rfl) ?_
          refine lv_goto (tgt := 44) hx hb dX7_as_39 (by decide) ?_
          rw [hQ]
          exact pq_iret hx hb hr hlocks hK hP hD hS hf (fun z => z) (fun z => [cO h0 7 [.ref (a0 0), .ref (a0 1), .ref (a0 2), .ref (a0 3), .ref (a0 4), .ref (a0 5), .ref (a0 6), .ref (a0 7)], cO (a0 6) 1 [.ref (b0_now 0), .ref (b0_now 1), .ref (b0_now 2), .ref (b0_now 3), .ref (b0_now 4), .ref (b0_now 5), .ref (b0_now 6), .ref (b0_now 7), .ref (b0_now 8), .int now_parties_0, .int now_judges_0, .int now_cases_0, .int now_next_0, .int now_sits_0], cI cy (b0_now 0) 6 now_kind_0, cI cy (b0_now 1) 6 now_grievance_0, cI cy (b0_now 2) 6 now_wins_0, cI cy (b0_now 3) 6 now_lean_0, cI cy (b0_now 4) 6 now_favours_0, cI cy (b0_now 5) 12 now_plaintiff_0, cI cy (b0_now 6) 12 now_defendant_0, cI cy (b0_now 7) 12 now_weight_0, cI cy (b0_now 8) 12 now_winner_0]) rfl rfl dX7_as_44
      · refine lv_iconst (v := (-1)) hx hb dX7_as_20 (by decide) ?_
        rw [hQ]
        exact pq_iret hx hb hr hlocks hK hP hD hS hf (fun z => z) (fun z => [cO h0 7 [.ref (a0 0), .ref (a0 1), .ref (a0 2), .ref (a0 3), .ref (a0 4), .ref (a0 5), .ref (a0 6), .ref (a0 7)], cO (a0 6) 1 [.ref (b0_now 0), .ref (b0_now 1), .ref (b0_now 2), .ref (b0_now 3), .ref (b0_now 4), .ref (b0_now 5), .ref (b0_now 6), .ref (b0_now 7), .ref (b0_now 8), .int now_parties_0, .int now_judges_0, .int now_cases_0, .int now_next_0, .int now_sits_0], cI cy (b0_now 0) 6 now_kind_0, cI cy (b0_now 1) 6 now_grievance_0, cI cy (b0_now 2) 6 now_wins_0, cI cy (b0_now 3) 6 now_lean_0, cI cy (b0_now 4) 6 now_favours_0, cI cy (b0_now 5) 12 now_plaintiff_0, cI cy (b0_now 6) 12 now_defendant_0, cI cy (b0_now 7) 12 now_weight_0, cI cy (b0_now 8) 12 now_winner_0]) rfl rfl dX7_as_21
