/-! ===== rows of the walk: calls and returns ===== -/
section PQC
variable {p : Program} {l : Launch} {e : Env} {R : Room} {s : State} {m : MethodId} {args : Array Value} {below : List Frame} {meth : Method} {c : Code} {H : Heap} {locs : List Loc} {cells slots : Nat} {Q : State → Prop} {pc : Nat} {ls : Array Slot} {rest : List Value} {cc : ByteArray} {α : Type} {z : α} {D : va_G} {cy : Nat → ClassId} {ws : va_W} {A : Nat → Prop}
  {own C : String} {Ts wy : List Cond} {y : MethodName} {bytes : ByteArray} {index maxL nL n : Nat} {ret : Option FieldType} {rm : Room} {β : Type} {o : Option β} {k : β → Option α} {wc wr : va_W} {w1 ws1 : β → va_W} {As : List Value} {b : Nat} {st0 : List Value}
theorem pq_cVi {rz : β → Int32} (S : CallFix p m c cc nL s args Ts own) (hf : pq_c o k = some z) (hM : ∀ r : β, o = some r → pq_MI l y wy rm D cy (.ref b :: As) wc (w1 r) (rz r)) (cw : CallW R s args own C index y bytes maxL ret wy rm 0 0 n)
    (hK : va_K D vwCl (pq_tys cy) s) (hP : va_P D vwCl ws H) (hD : va_D A ws) (hS : va_S A s.heap H locs) (hA : ∀ q : Nat, s.heap.size ≤ q → A q)
    (qr ci : Nat) {fs : List Value} {T : u_T} {NN : Nat} (hrv : wc[qr]? = some (b, .inr (ci, fs))) (hci : vwCl[ci]? = some (C, T, NN))
    (isC isR isB : List Nat) (hC1 : isC.map (fun i => ws[i]?) = wc.map some) (hR1 : isR.map (fun i => ws[i]?) = wr.map some) (hn0 : va_nd isC = true) (hn1 : va_nd isR = true) (hd1 : ∀ i ∈ isR, i ∉ isC)
    (hB1 : ∀ r, isB.map (fun i => (wr ++ w1 r)[i]?) = (ws1 r).map some) (hB2 : va_nd isB = true)
    (hlen : As.length = n) (hsz : ls.size = nL) (hst : st0 = As.reverse ++ .ref b :: rest) (hW : (rest.map fun v => v.category).sum ≤ 8) (hcs : cells ≤ R.cells ∧ slots ≤ R.slots) (hdg : decode cc pc = .ok (.invokevirtual index, 3))
    (kk : ∀ (r : β) (H1 : Heap) (locs1 : List Loc), k r = some z → va_P D vwCl (ws1 r) H1 → va_D A (ws1 r) → va_S A s.heap H1 locs1 → W p l e R s m args below meth c H1 locs1 cells slots Q (F0 m (pc + 3) ls (.int (rz r) :: rest))) :
    W p l e R s m args below meth c H locs cells slots Q (F0 m pc ls st0) := by
  obtain ⟨r, hr, hf⟩ := pq_c_e hf
  have hPc := hP.sub isC (pq_fm hC1)
  have hDc := (hD.sub isC hn0 hC1).weaken (B := fun _ => True) (fun _ _ _ _ => trivial)
  have hFc := va_free (wc := wc) hD hS hA isC hC1
  refine va_calli (va_runV (As := As) (rest := rest) S (hM r hr H.size) cw ⟨pq_blind, va_recv hK hPc hci hrv, fun U hU hW => ⟨rfl, by rw [hU], by rw [hU]; exact hPc, va_K.moved hW.alike hK, hDc⟩⟩ rfl hlen hsz hst (lv_room hW) hdg ⟨hcs.1, hcs.2⟩) hS (fun q _ h => hFc q h) hFc (fun x u t H1 locs1 ht hvm hw hB hz1 hk1 hS1 => ?_)
  obtain ⟨hP1, hK1, hD1⟩ := hB
  rw [ht] at hP1
  obtain ⟨hP2, hD2⟩ := va_join (wr := wr) (w1 := w1 r) hP hD isC isR hC1 hR1 hn1 hd1 hk1 hFc hP1 hD1
  cases hw
  exact kk r H1 locs1 hf (hP2.sub isB (pq_fm (hB1 r))) (hD2.sub isB hB2 (hB1 r)) hS1
theorem pq_cVl {rz : β → Int64} (S : CallFix p m c cc nL s args Ts own) (hf : pq_c o k = some z) (hM : ∀ r : β, o = some r → pq_ML l y wy rm D cy (.ref b :: As) wc (w1 r) (rz r)) (cw : CallW R s args own C index y bytes maxL ret wy rm 0 0 n)
    (hK : va_K D vwCl (pq_tys cy) s) (hP : va_P D vwCl ws H) (hD : va_D A ws) (hS : va_S A s.heap H locs) (hA : ∀ q : Nat, s.heap.size ≤ q → A q)
    (qr ci : Nat) {fs : List Value} {T : u_T} {NN : Nat} (hrv : wc[qr]? = some (b, .inr (ci, fs))) (hci : vwCl[ci]? = some (C, T, NN))
    (isC isR isB : List Nat) (hC1 : isC.map (fun i => ws[i]?) = wc.map some) (hR1 : isR.map (fun i => ws[i]?) = wr.map some) (hn0 : va_nd isC = true) (hn1 : va_nd isR = true) (hd1 : ∀ i ∈ isR, i ∉ isC)
    (hB1 : ∀ r, isB.map (fun i => (wr ++ w1 r)[i]?) = (ws1 r).map some) (hB2 : va_nd isB = true)
    (hlen : As.length = n) (hsz : ls.size = nL) (hst : st0 = As.reverse ++ .ref b :: rest) (hW : (rest.map fun v => v.category).sum ≤ 8) (hcs : cells ≤ R.cells ∧ slots ≤ R.slots) (hdg : decode cc pc = .ok (.invokevirtual index, 3))
    (kk : ∀ (r : β) (H1 : Heap) (locs1 : List Loc), k r = some z → va_P D vwCl (ws1 r) H1 → va_D A (ws1 r) → va_S A s.heap H1 locs1 → W p l e R s m args below meth c H1 locs1 cells slots Q (F0 m (pc + 3) ls (.long (rz r) :: rest))) :
    W p l e R s m args below meth c H locs cells slots Q (F0 m pc ls st0) := by
  obtain ⟨r, hr, hf⟩ := pq_c_e hf
  have hPc := hP.sub isC (pq_fm hC1)
  have hDc := (hD.sub isC hn0 hC1).weaken (B := fun _ => True) (fun _ _ _ _ => trivial)
  have hFc := va_free (wc := wc) hD hS hA isC hC1
  refine va_calll (va_runV (As := As) (rest := rest) S (hM r hr H.size) cw ⟨pq_blind, va_recv hK hPc hci hrv, fun U hU hW => ⟨rfl, by rw [hU], by rw [hU]; exact hPc, va_K.moved hW.alike hK, hDc⟩⟩ rfl hlen hsz hst (lv_room hW) hdg ⟨hcs.1, hcs.2⟩) hS (fun q _ h => hFc q h) hFc (fun x u t H1 locs1 ht hvm hw hB hz1 hk1 hS1 => ?_)
  obtain ⟨hP1, hK1, hD1⟩ := hB
  rw [ht] at hP1
  obtain ⟨hP2, hD2⟩ := va_join (wr := wr) (w1 := w1 r) hP hD isC isR hC1 hR1 hn1 hd1 hk1 hFc hP1 hD1
  cases hw
  exact kk r H1 locs1 hf (hP2.sub isB (pq_fm (hB1 r))) (hD2.sub isB hB2 (hB1 r)) hS1
theorem pq_cVv (S : CallFix p m c cc nL s args Ts own) (hf : pq_c o k = some z) (hM : ∀ r : β, o = some r → pq_MV l y wy rm D cy (.ref b :: As) wc (w1 r)) (cw : CallW R s args own C index y bytes maxL ret wy rm 0 0 n)
    (hK : va_K D vwCl (pq_tys cy) s) (hP : va_P D vwCl ws H) (hD : va_D A ws) (hS : va_S A s.heap H locs) (hA : ∀ q : Nat, s.heap.size ≤ q → A q)
    (qr ci : Nat) {fs : List Value} {T : u_T} {NN : Nat} (hrv : wc[qr]? = some (b, .inr (ci, fs))) (hci : vwCl[ci]? = some (C, T, NN))
    (isC isR isB : List Nat) (hC1 : isC.map (fun i => ws[i]?) = wc.map some) (hR1 : isR.map (fun i => ws[i]?) = wr.map some) (hn0 : va_nd isC = true) (hn1 : va_nd isR = true) (hd1 : ∀ i ∈ isR, i ∉ isC)
    (hB1 : ∀ r, isB.map (fun i => (wr ++ w1 r)[i]?) = (ws1 r).map some) (hB2 : va_nd isB = true)
    (hlen : As.length = n) (hsz : ls.size = nL) (hst : st0 = As.reverse ++ .ref b :: rest) (hW : (rest.map fun v => v.category).sum ≤ 8) (hcs : cells ≤ R.cells ∧ slots ≤ R.slots) (hdg : decode cc pc = .ok (.invokevirtual index, 3))
    (kk : ∀ (r : β) (H1 : Heap) (locs1 : List Loc), k r = some z → va_P D vwCl (ws1 r) H1 → va_D A (ws1 r) → va_S A s.heap H1 locs1 → W p l e R s m args below meth c H1 locs1 cells slots Q (F0 m (pc + 3) ls rest)) :
    W p l e R s m args below meth c H locs cells slots Q (F0 m pc ls st0) := by
  obtain ⟨r, hr, hf⟩ := pq_c_e hf
  have hPc := hP.sub isC (pq_fm hC1)
  have hDc := (hD.sub isC hn0 hC1).weaken (B := fun _ => True) (fun _ _ _ _ => trivial)
  have hFc := va_free (wc := wc) hD hS hA isC hC1
  refine va_callv (va_runV (As := As) (rest := rest) S (hM r hr H.size) cw ⟨pq_blind, va_recv hK hPc hci hrv, fun U hU hW => ⟨rfl, by rw [hU], by rw [hU]; exact hPc, va_K.moved hW.alike hK, hDc⟩⟩ rfl hlen hsz hst (lv_room hW) hdg ⟨hcs.1, hcs.2⟩) hS (fun q _ h => hFc q h) hFc (fun u t H1 locs1 ht hvm hw hB hz1 hk1 hS1 => ?_)
  obtain ⟨hP1, hK1, hD1⟩ := hB
  rw [ht] at hP1
  obtain ⟨hP2, hD2⟩ := va_join (wr := wr) (w1 := w1 r) hP hD isC isR hC1 hR1 hn1 hd1 hk1 hFc hP1 hD1
  exact kk r H1 locs1 hf (hP2.sub isB (pq_fm (hB1 r))) (hD2.sub isB hB2 (hB1 r)) hS1
theorem pq_cVr {rz : β → Nat} (S : CallFix p m c cc nL s args Ts own) (hf : pq_c o k = some z) (hM : ∀ r : β, o = some r → pq_MR l y wy rm D cy (.ref b :: As) wc (w1 r) (rz r)) (cw : CallW R s args own C index y bytes maxL ret wy rm 0 0 n)
    (hK : va_K D vwCl (pq_tys cy) s) (hP : va_P D vwCl ws H) (hD : va_D A ws) (hS : va_S A s.heap H locs) (hA : ∀ q : Nat, s.heap.size ≤ q → A q)
    (qr ci : Nat) {fs : List Value} {T : u_T} {NN : Nat} (hrv : wc[qr]? = some (b, .inr (ci, fs))) (hci : vwCl[ci]? = some (C, T, NN))
    (isC isR isB : List Nat) (hC1 : isC.map (fun i => ws[i]?) = wc.map some) (hR1 : isR.map (fun i => ws[i]?) = wr.map some) (hn0 : va_nd isC = true) (hn1 : va_nd isR = true) (hd1 : ∀ i ∈ isR, i ∉ isC)
    (hB1 : ∀ r, isB.map (fun i => (wr ++ w1 r)[i]?) = (ws1 r).map some) (hB2 : va_nd isB = true)
    (hlen : As.length = n) (hsz : ls.size = nL) (hst : st0 = As.reverse ++ .ref b :: rest) (hW : (rest.map fun v => v.category).sum ≤ 8) (hcs : cells ≤ R.cells ∧ slots ≤ R.slots) (hdg : decode cc pc = .ok (.invokevirtual index, 3))
    (kk : ∀ (r : β) (H1 : Heap) (locs1 : List Loc), k r = some z → va_P D vwCl (ws1 r) H1 → va_D A (ws1 r) → va_S A s.heap H1 locs1 → W p l e R s m args below meth c H1 locs1 cells slots Q (F0 m (pc + 3) ls (.ref (rz r) :: rest))) :
    W p l e R s m args below meth c H locs cells slots Q (F0 m pc ls st0) := by
  obtain ⟨r, hr, hf⟩ := pq_c_e hf
  have hPc := hP.sub isC (pq_fm hC1)
  have hDc := (hD.sub isC hn0 hC1).weaken (B := fun _ => True) (fun _ _ _ _ => trivial)
  have hFc := va_free (wc := wc) hD hS hA isC hC1
  refine va_callr (va_runV (As := As) (rest := rest) S (hM r hr H.size) cw ⟨pq_blind, va_recv hK hPc hci hrv, fun U hU hW => ⟨rfl, by rw [hU], by rw [hU]; exact hPc, va_K.moved hW.alike hK, hDc⟩⟩ rfl hlen hsz hst (lv_room hW) hdg ⟨hcs.1, hcs.2⟩) hS (fun q _ h => hFc q h) hFc (fun u ra t H1 locs1 ht hvm hw hB hz1 hk1 hS1 => ?_)
  obtain ⟨hra, hP1, hK1, hD1⟩ := hB
  rw [ht] at hP1
  obtain ⟨hP2, hD2⟩ := va_join (wr := wr) (w1 := w1 r) hP hD isC isR hC1 hR1 hn1 hd1 hk1 hFc hP1 hD1
  cases hra
  exact kk r H1 locs1 hf (hP2.sub isB (pq_fm (hB1 r))) (hD2.sub isB hB2 (hB1 r)) hS1
theorem pq_cSi {rz : β → Int32} (S : CallFix p m c cc nL s args Ts own) (hf : pq_c o k = some z) (hM : ∀ r : β, o = some r → pq_MI l y wy rm D cy As wc (w1 r) (rz r)) (cw : CallB R s args own index y bytes maxL ret wy rm 0 0 n ∧ (Cond.static y).before args s = true)
    (hK : va_K D vwCl (pq_tys cy) s) (hP : va_P D vwCl ws H) (hD : va_D A ws) (hS : va_S A s.heap H locs) (hA : ∀ q : Nat, s.heap.size ≤ q → A q)
    (isC isR isB : List Nat) (hC1 : isC.map (fun i => ws[i]?) = wc.map some) (hR1 : isR.map (fun i => ws[i]?) = wr.map some) (hn0 : va_nd isC = true) (hn1 : va_nd isR = true) (hd1 : ∀ i ∈ isR, i ∉ isC)
    (hB1 : ∀ r, isB.map (fun i => (wr ++ w1 r)[i]?) = (ws1 r).map some) (hB2 : va_nd isB = true)
    (hlen : As.length = n) (hsz : ls.size = nL) (hst : st0 = As.reverse ++ rest) (hW : (rest.map fun v => v.category).sum ≤ 8) (hcs : cells ≤ R.cells ∧ slots ≤ R.slots) (hdg : decode cc pc = .ok (.invokestatic index, 3))
    (kk : ∀ (r : β) (H1 : Heap) (locs1 : List Loc), k r = some z → va_P D vwCl (ws1 r) H1 → va_D A (ws1 r) → va_S A s.heap H1 locs1 → W p l e R s m args below meth c H1 locs1 cells slots Q (F0 m (pc + 3) ls (.int (rz r) :: rest))) :
    W p l e R s m args below meth c H locs cells slots Q (F0 m pc ls st0) := by
  obtain ⟨r, hr, hf⟩ := pq_c_e hf
  have hPc := hP.sub isC (pq_fm hC1)
  have hDc := (hD.sub isC hn0 hC1).weaken (B := fun _ => True) (fun _ _ _ _ => trivial)
  have hFc := va_free (wc := wc) hD hS hA isC hC1
  refine va_calli (va_runS (As := As) (rest := rest) S (hM r hr H.size) cw ⟨pq_blind, fun U hU hW => ⟨rfl, by rw [hU], by rw [hU]; exact hPc, va_K.moved hW.alike hK, hDc⟩⟩ rfl hlen hsz hst (lv_room hW) hdg ⟨hcs.1, hcs.2⟩) hS (fun q _ h => hFc q h) hFc (fun x u t H1 locs1 ht hvm hw hB hz1 hk1 hS1 => ?_)
  obtain ⟨hP1, hK1, hD1⟩ := hB
  rw [ht] at hP1
  obtain ⟨hP2, hD2⟩ := va_join (wr := wr) (w1 := w1 r) hP hD isC isR hC1 hR1 hn1 hd1 hk1 hFc hP1 hD1
  cases hw
  exact kk r H1 locs1 hf (hP2.sub isB (pq_fm (hB1 r))) (hD2.sub isB hB2 (hB1 r)) hS1
theorem pq_cSl {rz : β → Int64} (S : CallFix p m c cc nL s args Ts own) (hf : pq_c o k = some z) (hM : ∀ r : β, o = some r → pq_ML l y wy rm D cy As wc (w1 r) (rz r)) (cw : CallB R s args own index y bytes maxL ret wy rm 0 0 n ∧ (Cond.static y).before args s = true)
    (hK : va_K D vwCl (pq_tys cy) s) (hP : va_P D vwCl ws H) (hD : va_D A ws) (hS : va_S A s.heap H locs) (hA : ∀ q : Nat, s.heap.size ≤ q → A q)
    (isC isR isB : List Nat) (hC1 : isC.map (fun i => ws[i]?) = wc.map some) (hR1 : isR.map (fun i => ws[i]?) = wr.map some) (hn0 : va_nd isC = true) (hn1 : va_nd isR = true) (hd1 : ∀ i ∈ isR, i ∉ isC)
    (hB1 : ∀ r, isB.map (fun i => (wr ++ w1 r)[i]?) = (ws1 r).map some) (hB2 : va_nd isB = true)
    (hlen : As.length = n) (hsz : ls.size = nL) (hst : st0 = As.reverse ++ rest) (hW : (rest.map fun v => v.category).sum ≤ 8) (hcs : cells ≤ R.cells ∧ slots ≤ R.slots) (hdg : decode cc pc = .ok (.invokestatic index, 3))
    (kk : ∀ (r : β) (H1 : Heap) (locs1 : List Loc), k r = some z → va_P D vwCl (ws1 r) H1 → va_D A (ws1 r) → va_S A s.heap H1 locs1 → W p l e R s m args below meth c H1 locs1 cells slots Q (F0 m (pc + 3) ls (.long (rz r) :: rest))) :
    W p l e R s m args below meth c H locs cells slots Q (F0 m pc ls st0) := by
  obtain ⟨r, hr, hf⟩ := pq_c_e hf
  have hPc := hP.sub isC (pq_fm hC1)
  have hDc := (hD.sub isC hn0 hC1).weaken (B := fun _ => True) (fun _ _ _ _ => trivial)
  have hFc := va_free (wc := wc) hD hS hA isC hC1
  refine va_calll (va_runS (As := As) (rest := rest) S (hM r hr H.size) cw ⟨pq_blind, fun U hU hW => ⟨rfl, by rw [hU], by rw [hU]; exact hPc, va_K.moved hW.alike hK, hDc⟩⟩ rfl hlen hsz hst (lv_room hW) hdg ⟨hcs.1, hcs.2⟩) hS (fun q _ h => hFc q h) hFc (fun x u t H1 locs1 ht hvm hw hB hz1 hk1 hS1 => ?_)
  obtain ⟨hP1, hK1, hD1⟩ := hB
  rw [ht] at hP1
  obtain ⟨hP2, hD2⟩ := va_join (wr := wr) (w1 := w1 r) hP hD isC isR hC1 hR1 hn1 hd1 hk1 hFc hP1 hD1
  cases hw
  exact kk r H1 locs1 hf (hP2.sub isB (pq_fm (hB1 r))) (hD2.sub isB hB2 (hB1 r)) hS1
theorem pq_cSv (S : CallFix p m c cc nL s args Ts own) (hf : pq_c o k = some z) (hM : ∀ r : β, o = some r → pq_MV l y wy rm D cy As wc (w1 r)) (cw : CallB R s args own index y bytes maxL ret wy rm 0 0 n ∧ (Cond.static y).before args s = true)
    (hK : va_K D vwCl (pq_tys cy) s) (hP : va_P D vwCl ws H) (hD : va_D A ws) (hS : va_S A s.heap H locs) (hA : ∀ q : Nat, s.heap.size ≤ q → A q)
    (isC isR isB : List Nat) (hC1 : isC.map (fun i => ws[i]?) = wc.map some) (hR1 : isR.map (fun i => ws[i]?) = wr.map some) (hn0 : va_nd isC = true) (hn1 : va_nd isR = true) (hd1 : ∀ i ∈ isR, i ∉ isC)
    (hB1 : ∀ r, isB.map (fun i => (wr ++ w1 r)[i]?) = (ws1 r).map some) (hB2 : va_nd isB = true)
    (hlen : As.length = n) (hsz : ls.size = nL) (hst : st0 = As.reverse ++ rest) (hW : (rest.map fun v => v.category).sum ≤ 8) (hcs : cells ≤ R.cells ∧ slots ≤ R.slots) (hdg : decode cc pc = .ok (.invokestatic index, 3))
    (kk : ∀ (r : β) (H1 : Heap) (locs1 : List Loc), k r = some z → va_P D vwCl (ws1 r) H1 → va_D A (ws1 r) → va_S A s.heap H1 locs1 → W p l e R s m args below meth c H1 locs1 cells slots Q (F0 m (pc + 3) ls rest)) :
    W p l e R s m args below meth c H locs cells slots Q (F0 m pc ls st0) := by
  obtain ⟨r, hr, hf⟩ := pq_c_e hf
  have hPc := hP.sub isC (pq_fm hC1)
  have hDc := (hD.sub isC hn0 hC1).weaken (B := fun _ => True) (fun _ _ _ _ => trivial)
  have hFc := va_free (wc := wc) hD hS hA isC hC1
  refine va_callv (va_runS (As := As) (rest := rest) S (hM r hr H.size) cw ⟨pq_blind, fun U hU hW => ⟨rfl, by rw [hU], by rw [hU]; exact hPc, va_K.moved hW.alike hK, hDc⟩⟩ rfl hlen hsz hst (lv_room hW) hdg ⟨hcs.1, hcs.2⟩) hS (fun q _ h => hFc q h) hFc (fun u t H1 locs1 ht hvm hw hB hz1 hk1 hS1 => ?_)
  obtain ⟨hP1, hK1, hD1⟩ := hB
  rw [ht] at hP1
  obtain ⟨hP2, hD2⟩ := va_join (wr := wr) (w1 := w1 r) hP hD isC isR hC1 hR1 hn1 hd1 hk1 hFc hP1 hD1
  exact kk r H1 locs1 hf (hP2.sub isB (pq_fm (hB1 r))) (hD2.sub isB hB2 (hB1 r)) hS1
/-! returns -/
theorem pq_iret {v : Int32} {t : α} {ws : va_W} (hx : p.tables.exec = Jvm.exec) (hb : c.code = cc) (hr : meth.sig.returnType = some .int) (hlocks : meth.locks = false) (hK : va_K D vwCl (pq_tys cy) s) (hP : va_P D vwCl ws H) (hD : va_D A ws) (hS : va_S A s.heap H locs) (hf : some t = some z) (rz : α → Int32) (wz : α → va_W) (h1 : v = rz t) (h2 : ws = wz t) (hdg : decode cc pc = .ok (.ireturn, 1)) :
    W p l e R s m args below meth c H locs cells slots (MQ below (pq_Qi D cy A (wz z) (rz z)) args s cells slots A) (F0 m pc ls [.int v]) := by
  cases hf
  subst h1 h2
  exact W.iret hx hb hr (fun t' ht hW => ⟨⟨_, (), rfl, rfl, by rw [ht]; exact hP, va_K.moved hW.alike hK, hD⟩, hS.F ht⟩) hS.2.2 hdg hlocks
theorem pq_zret {v : Int32} {t : α} {ws : va_W} (hx : p.tables.exec = Jvm.exec) (hb : c.code = cc) (hr : meth.sig.returnType = some .boolean) (hlocks : meth.locks = false) (hK : va_K D vwCl (pq_tys cy) s) (hP : va_P D vwCl ws H) (hD : va_D A ws) (hS : va_S A s.heap H locs) (hf : pq_b v (some t) = some z) (rz : α → Int32) (wz : α → va_W) (h1 : v = rz t) (h2 : ws = wz t) (hdg : decode cc pc = .ok (.ireturn, 1)) :
    W p l e R s m args below meth c H locs cells slots (MQ below (pq_Qi D cy A (wz z) (rz z)) args s cells slots A) (F0 m pc ls [.int v]) := by
  obtain ⟨hv, hf⟩ := pq_b_e hf
  have hn : narrow .boolean (.int v) = .int v := by
    rcases hv with h | h <;> rw [h] <;> rfl
  cases hf
  subst h1 h2
  exact W.zret hx hb hr hn (fun t' ht hW => ⟨⟨_, (), rfl, rfl, by rw [ht]; exact hP, va_K.moved hW.alike hK, hD⟩, hS.F ht⟩) hS.2.2 hdg hlocks
theorem pq_lret {v : Int64} {t : α} {ws : va_W} (hx : p.tables.exec = Jvm.exec) (hb : c.code = cc) (hr : meth.sig.returnType = some .long) (hlocks : meth.locks = false) (hK : va_K D vwCl (pq_tys cy) s) (hP : va_P D vwCl ws H) (hD : va_D A ws) (hS : va_S A s.heap H locs) (hf : some t = some z) (rz : α → Int64) (wz : α → va_W) (h1 : v = rz t) (h2 : ws = wz t) (hdg : decode cc pc = .ok (.lreturn, 1)) :
    W p l e R s m args below meth c H locs cells slots (MQ below (pq_Ql D cy A (wz z) (rz z)) args s cells slots A) (F0 m pc ls [.long v]) := by
  cases hf
  subst h1 h2
  exact W.lret hx hb hr (fun t' ht hW => ⟨⟨_, (), rfl, rfl, by rw [ht]; exact hP, va_K.moved hW.alike hK, hD⟩, hS.F ht⟩) hS.2.2 hdg hlocks
theorem pq_vret {t : α} {ws : va_W} (hx : p.tables.exec = Jvm.exec) (hb : c.code = cc) (hr : meth.sig.returnType = none) (hlocks : meth.locks = false) (hK : va_K D vwCl (pq_tys cy) s) (hP : va_P D vwCl ws H) (hD : va_D A ws) (hS : va_S A s.heap H locs) (hf : some t = some z) (wz : α → va_W) (h2 : ws = wz t) (hdg : decode cc pc = .ok (.return_, 1)) :
    W p l e R s m args below meth c H locs cells slots (MQ below (pq_Qv D cy A (wz z)) args s cells slots A) (F0 m pc ls []) := by
  cases hf
  subst h2
  exact W.vret hx hb hr (fun t' ht hW => ⟨⟨(), rfl, trivial, by rw [ht]; exact hP, va_K.moved hW.alike hK, hD⟩, hS.F ht⟩) hS.2.2 hdg hlocks
theorem pq_aret {v : Nat} {t : α} {ws : va_W} {C0 : String} (hx : p.tables.exec = Jvm.exec) (hb : c.code = cc) (hr : meth.sig.returnType = some (.object C0)) (hlocks : meth.locks = false) (hK : va_K D vwCl (pq_tys cy) s) (hP : va_P D vwCl ws H) (hD : va_D A ws) (hS : va_S A s.heap H locs) (hf : some t = some z) (rz : α → Nat) (wz : α → va_W) (h1 : v = rz t) (h2 : ws = wz t) (hdg : decode cc pc = .ok (.areturn, 1)) :
    W p l e R s m args below meth c H locs cells slots (MQ below (pq_Qr D cy A (wz z) (rz z)) args s cells slots A) (F0 m pc ls [.ref v]) := by
  cases hf
  subst h1 h2
  exact W.aret hx hb hr (Or.inl ⟨_, rfl⟩) (Or.inr ⟨_, rfl⟩) (fun t' ht hW => ⟨⟨(), _, rfl, trivial, rfl, by rw [ht]; exact hP, va_K.moved hW.alike hK, hD⟩, hS.F ht⟩) hS.2.2 hdg hlocks
end PQC
/-! ===== the acts: a family of objects of one kind; arrays of objects at a known place ===== -/
abbrev pq_act (ac : Nat → Nat) (w : Nat → Nat → Int32) (j : Nat) : Nat × va_E := (ac j, .inr (0, [.int (w 0 j), .int (w 1 j), .int (w 2 j), .int (w 3 j), .int (w 4 j), .int (w 5 j)]))
abbrev pq_acts (ac : Nat → Nat) (w : Nat → Nat → Int32) : va_W := (List.range 24).map (pq_act ac w)
theorem pq_fg {X : va_W} {n k : Nat} {g : Nat → Nat × va_E} (hk : k < n) : (X ++ (List.range n).map g)[X.length + k]? = some (g k) := by
  rw [List.getElem?_append_right (Nat.le_add_right _ _), Nat.add_sub_cancel_left, List.getElem?_map, List.getElem?_range hk]
  rfl
theorem pq_fs {X : va_W} {n k : Nat} {g g' : Nat → Nat × va_E} {q : Nat × va_E} (hk : k < n) (h : ∀ j, g' j = if j = k then q else g j) : (X ++ (List.range n).map g).set (X.length + k) q = X ++ (List.range n).map g' := by
  rw [List.set_append_right _ _ (Nat.le_add_right _ _), Nat.add_sub_cancel_left]
  congr 1
  apply List.ext_getElem?
  intro i
  rw [List.getElem?_set, List.getElem?_map, List.getElem?_map]
  by_cases e : k = i
  · subst e
    simp [hk, h]
  · rw [if_neg e]
    rcases Nat.lt_or_ge i n with q1 | q1
    · rw [List.getElem?_range q1]
      simp [h, Ne.symm e]
    · have : (List.range n)[i]? = none := List.getElem?_eq_none (by simpa using q1)
      rw [this]
      rfl
theorem pq_aset (ac : Nat → Nat) (w : Nat → Nat → Int32) (k : Nat) (v : Int32) (f : Nat) (hf : f < 6) (j : Nat) : pq_act ac (pq_aw w f k v) j = if j = k then (ac k, .inr (0, ([.int (w 0 k), .int (w 1 k), .int (w 2 k), .int (w 3 k), .int (w 4 k), .int (w 5 k)] : List Value).set f (.int v))) else pq_act ac w j := by
  rcases (show f = 0 ∨ f = 1 ∨ f = 2 ∨ f = 3 ∨ f = 4 ∨ f = 5 by omega) with h | h | h | h | h | h <;> subst h <;> (by_cases e : j = k <;> simp [pq_act, pq_aw, e])
section PQA
variable {p : Program} {l : Launch} {e : Env} {R : Room} {s : State} {m : MethodId} {args : Array Value} {below : List Frame} {meth : Method} {c : Code} {H : Heap} {locs : List Loc} {cells slots : Nat} {Q : State → Prop} {pc : Nat} {ls : Array Slot} {rest : List Value} {cc : ByteArray} {α : Type} {z : α} {D : va_G} {tys : List (ClassId × FieldType)} {X : va_W} {A : Nat → Prop} {H0 : Heap} {ac : Nat → Nat} {w : Nat → Nat → Int32} {k : Nat}
theorem pq_getA (hx : p.tables.exec = Jvm.exec) (hb : c.code = cc) {own ref : String} {index : Nat} {Ts : List Cond} (hts : ∀ w ∈ Ts, w.before args s = true) (hin : ∀ w ∈ wsX00, w ∈ Ts) (hown : s.vm.findClass own = some m.cls) (hK : va_K D vwCl tys s) (hP : va_P D vwCl (X ++ pq_acts ac w) H) {kk : Option α} (hf : pq_gn k 24 kk = some z) (f : Nat) (hk : f < 6) (hlink : (Cond.fieldLink own index ref (TX0 f).2.1 (TX0 f).2.2.1).before args s = true) (hsame : (TX0 f).1 = ref) {v : Int32} (hv : ([.int (w 0 k), .int (w 1 k), .int (w 2 k), .int (w 3 k), .int (w 4 k), .int (w 5 k)] : List Value)[f]? = some (.int v)) (hdg : decode cc pc = .ok (.getfield index, 3))
    (kn : kk = some z → W p l e R s m args below meth c H locs cells slots Q (F0 m (pc + 3) ls (.int v :: rest))) : W p l e R s m args below meth c H locs cells slots Q (F0 m pc ls (.ref (ac k) :: rest)) :=
  pq_get (D := D) (ci := 0) (C := RX0) (T := TX0) (N := 6) hx hb hts hin hown hK hP (X.length + k) (pq_fg (pq_gn_e hf).1) rfl f hk hlink hsame hv hdg (kn (pq_gn_e hf).2)
theorem pq_putA (hx : p.tables.exec = Jvm.exec) (hb : c.code = cc) {own ref : String} {index : Nat} {Ts : List Cond} (hts : ∀ w ∈ Ts, w.before args s = true) (hin : ∀ w ∈ wsX00, w ∈ Ts) (hown : s.vm.findClass own = some m.cls) (hK : va_K D vwCl tys s) (hP : va_P D vwCl (X ++ pq_acts ac w) H) (hD : va_D A (X ++ pq_acts ac w)) (hS : va_S A H0 H locs) {v : Int32} {f : Nat} {kk : (Nat → Nat → Int32) → Option α} (hf : pq_gn k 24 (pq_l (pq_aw w f k v) kk) = some z) (f' : Nat) (hk : f' < 6) (hlink : (Cond.fieldLink own index ref (TX0 f').2.1 (TX0 f').2.2.1).before args s = true) (hsame : (TX0 f').1 = ref) (hff : f' = f) (hdg : decode cc pc = .ok (.putfield index, 3))
    (kn : ∀ (w' : Nat → Nat → Int32) (H1 : Heap) (locs1 : List Loc), kk w' = some z → va_P D vwCl (X ++ pq_acts ac w') H1 → va_D A (X ++ pq_acts ac w') → va_S A H0 H1 locs1 → W p l e R s m args below meth c H1 locs1 cells slots Q (F0 m (pc + 3) ls rest)) : W p l e R s m args below meth c H locs cells slots Q (F0 m pc ls (.int v :: .ref (ac k) :: rest)) := by
  subst hff
  have hfin : (TX0 f').2.2.2 = false := by
    rcases (show f' = 0 ∨ f' = 1 ∨ f' = 2 ∨ f' = 3 ∨ f' = 4 ∨ f' = 5 by omega) with h | h | h | h | h | h <;> subst h <;> rfl
  have hd : parseFieldDescriptor (TX0 f').2.2.1 = some .int := by
    rcases (show f' = 0 ∨ f' = 1 ∨ f' = 2 ∨ f' = 3 ∨ f' = 4 ∨ f' = 5 by omega) with h | h | h | h | h | h <;> subst h <;> decide +kernel
  exact pq_put (D := D) (ci := 0) (C := RX0) (T := TX0) (N := 6) hx hb hts hin tyX0 tyX0_ok nmX0 hown hK hP hD hS (X.length + k) (pq_fg (pq_gn_e hf).1) rfl f' hk hlink hsame hfin .int hd rfl rfl hk (pq_fs (pq_gn_e hf).1 (pq_aset ac w k v f' hk)) hdg (fun H1 locs1 h1 h2 h3 => kn _ H1 locs1 (pq_gn_e hf).2 h1 h2 h3)
theorem pq_aalk (j : Nat) {cl : List vw_C} {ws : va_W} {a : Nat} (hx : p.tables.exec = Jvm.exec) (hb : c.code = cc) (hK : va_K D cl tys s) (hP : va_P D cl ws H) (q0 t0 : Nat) {cA : ClassId} {C : String} {n : Nat} {f : Nat → Nat} (ha : ws[q0]? = some (a, .inl (cA, n, .inr (.inr (.inr (.inr (fun j => some (f j)))))))) (ht : tys[t0]? = some (cA, .object C)) {i ji : Int32} (hin : vp_in i n) (hi : i = ji) (hj : ji.toNatClampNeg = j) (hdg : decode cc pc = .ok (.aaload, 1))
    (kk : W p l e R s m args below meth c H locs cells slots Q (F0 m (pc + 1) ls (.ref (f j) :: rest))) : W p l e R s m args below meth c H locs cells slots Q (F0 m pc ls (.int i :: .ref a :: rest)) := by
  refine va_aldq hx hb hK hP q0 t0 ha ht hin hdg ?_
  rw [hi, hj]
  exact kk
end PQA
