/-! ===== constructors: what a start gives beside the words; contracts that make cells ===== -/
def pq_O (U : State) : Prop := va_AO "LoserPicks$Act" U ∧ va_AO "LoserPicks$Circuit" U ∧ va_AO "LoserPicks$Sheet" U ∧ va_Nw (.methodLinkNest RX7 11 yX6_init RX7) U ∧ va_Nw (.methodLinkNest RX7 25 yX3_init RX7) U ∧ va_Nw (.methodLinkNest RX7 32 yX2_init RX7) U ∧ va_Nw (.methodLinkNest RX7 43 yX1_init RX7) U ∧ va_Nw (.methodLinkNest RX7 50 yX5_init RX7) U ∧ va_Nw (.methodLinkNest RX4 24 yX0_init RX7) U
theorem pq_O.moved {s U : State} (hW : s.WarmedH U.vm) (h : pq_O s) : pq_O U := by
  obtain ⟨h1, h2, h3, h4, h5, h6, h7, h8, h9⟩ := h
  exact ⟨h1.moved hW.alike, h2.moved hW.alike, h3.moved hW.alike, h4.warmM hW, h5.warmM hW, h6.warmM hW, h7.warmM hW, h8.warmM hW, h9.warmM hW⟩
theorem pq_O.same {u U : State} (h : u.vm = U.vm) (hO : pq_O u) : pq_O U := by
  obtain ⟨h1, h2, h3, h4, h5, h6, h7, h8, h9⟩ := hO
  exact ⟨h1.moved (h ▸ Vm.Alike.refl _), h2.moved (h ▸ Vm.Alike.refl _), h3.moved (h ▸ Vm.Alike.refl _), h4.same rfl h, h5.same rfl h, h6.same rfl h, h7.same rfl h, h8.same rfl h, h9.same rfl h⟩
abbrev pq_PcN (D : va_G) (cy : Nat → ClassId) (as : List Value) (ws : va_W) (sz : Nat) : Array Value → State → Prop := va_Pc as (fun U => U.heap.size = sz ∧ va_P D vwCl ws U.heap ∧ (va_K D vwCl (pq_tys cy) U ∧ pq_O U) ∧ va_D (fun _ => True) ws)
theorem pq_blindN {D : va_G} {cy : Nat → ClassId} {as : List Value} {ws : va_W} {sz : Nat} : FrameBlind (pq_PcN D cy as ws sz) := fun a U g mk q => by
  obtain ⟨q0, q1, qP, ⟨qK, qO⟩, qD⟩ := q
  exact ⟨q0, q1, qP, ⟨va_K.moved (u := U) (U := U.calling g mk a) (Vm.Alike.refl U.vm) qK, pq_O.same (u := U) (U := U.calling g mk a) rfl qO⟩, qD⟩
abbrev pq_Qn {S : Type} (D : va_G) (cy : Nat → ClassId) (A : Nat → Prop) (Wp : S → va_W) : Array Value → State → Outcome → State → Prop := va_Qv (fun (_ : S) => True) (fun u t => pq_B D cy A (Wp u) t) A
def pq_MN (l : Launch) (y : MethodName) (w : List Cond) (rm : Room) (D : va_G) (cy : Nat → ClassId) (as : List Value) (ws : va_W) {S : Type} (Wp : S → va_W) (mc ms : Nat) : Prop := ∀ sz : Nat, Met l y w rm (pq_PcN D cy as ws sz) (pq_Qn D cy (va_A ws sz) Wp) mc ms (va_A ws sz)
theorem pq_entN {l : Launch} {y : MethodName} {w w' : List Cond} {rm : Room} {D : va_G} {cy : Nat → ClassId} {as : List Value} {ws : va_W} {cc : ByteArray} {maxL mc ms : Nat} {S : Type} {Wp : S → va_W}
    (hy : plainName y.cls = true) (hw : w = Cond.code y cc maxL none :: w') (hn : (lg_sl as).length ≤ maxL) (hnm : y.name = "<init>")
    (body : ∀ (p : Program) (e : Env) (s : State) (m : MethodId) (args : Array Value) (below : List Frame) (meth : Method) (c : Code) (A : Nat → Prop) (ls : Array Slot) (Q : State → Prop), Q = MQ below (pq_Qn D cy A Wp) args s mc ms A → pq_X p s m meth c w args cc maxL none y.cls → meth.name = "<init>" → va_K D vwCl (pq_tys cy) s → pq_O s → va_P D vwCl ws s.heap → va_D A ws → (∀ q : Nat, s.heap.size ≤ q → A q) → va_S A s.heap s.heap [] → lv_has ls maxL (lv_args 0 as) →
      W p l e rm s m args below meth c s.heap [] 0 0 Q (F0 m 0 ls [])) :
    pq_MN l y w rm D cy as ws Wp mc ms := by
  intro sz
  refine Met.ofW (cc := cc) (maxL := maxL) (ret := none) hy hw ?_
  intro p e s m args below meth c s₁ B hml hv
  obtain ⟨rfl, hsz, hP, ⟨hK, hO⟩, hD0⟩ := hv
  subst hsz
  rw [lg_entry_eq]
  exact body p e s m as.toArray below meth c (va_A ws s.heap.size) _ _ rfl ⟨B.exec, B.bytes, B.returns, atoms_spec (ws := w) B.pre, findClass_of_methodNamed B.named, B.notSynchronized, hml⟩ ((name_of_methodNamed B.named B.method).1.trans hnm) hK hO hP hD0.self (fun q h => Or.inr h) va_S.rf (lv_entry as hn)
section PQN
variable {p : Program} {l : Launch} {e : Env} {R : Room} {s : State} {m : MethodId} {args : Array Value} {below : List Frame} {meth : Method} {c : Code} {H : Heap} {locs : List Loc} {cells slots : Nat} {Q : State → Prop} {pc : Nat} {ls : Array Slot} {rest : List Value} {cc : ByteArray} {D : va_G} {cy : Nat → ClassId} {ws : va_W} {A : Nat → Prop} {H0 : Heap}
theorem pq_nI (hx : p.tables.exec = Jvm.exec) (hb : c.code = cc) (harr : (Cond.arrayClass .int).before args s = true) (hK : va_K D vwCl (pq_tys cy) s) (hP : va_P D vwCl ws H) (hD : va_D A ws) (hS : va_S A H0 H locs) (hA : ∀ q, H0.size ≤ q → A q) {n : Int32} (N' : Nat) (hn : ¬ n < 0) (hN : n.toNatClampNeg = N') (hbytes : N' * componentBytes .int ≤ 536870912) (hcells : cells + 1 ≤ R.cells) (hslots : slots + N' ≤ R.slots) (hdg : decode cc pc = .ok (.newarray .int, 2))
    (kk : ∀ (q : Nat) (H1 : Heap), va_P D vwCl (ws ++ [cI cy q N' (fun _ => 0)]) H1 → va_D A (ws ++ [cI cy q N' (fun _ => 0)]) → va_S A H0 H1 locs → W p l e R s m args below meth c H1 locs (cells + 1) (slots + N') Q (F0 m (pc + 2) ls (.ref q :: rest))) : W p l e R s m args below meth c H locs cells slots Q (F0 m pc ls (.int n :: rest)) := by
  refine va_newa (atype := .int) (a0 := (N', .inl (fun _ => 0))) hx hb harr rfl hK hP hD hS hA (fun _ => rfl) hn hN hbytes hcells hslots hdg (fun q cA H1 hK1 hP1 hD1 hS1 => ?_)
  have e1 : s.vm.findClass ("[" ++ FieldType.int.toString) = some cA := (hK1.2 6 (cA, .int) rfl).2
  have e2 : s.vm.findClass ("[" ++ FieldType.int.toString) = some (cy 0) := (hK.2 0 (cy 0, .int) rfl).2
  cases e2.symm.trans e1
  exact kk q H1 hP1 hD1 hS1
theorem pq_nJ (hx : p.tables.exec = Jvm.exec) (hb : c.code = cc) (harr : (Cond.arrayClass .long).before args s = true) (hK : va_K D vwCl (pq_tys cy) s) (hP : va_P D vwCl ws H) (hD : va_D A ws) (hS : va_S A H0 H locs) (hA : ∀ q, H0.size ≤ q → A q) {n : Int32} (N' : Nat) (hn : ¬ n < 0) (hN : n.toNatClampNeg = N') (hbytes : N' * componentBytes .long ≤ 536870912) (hcells : cells + 1 ≤ R.cells) (hslots : slots + N' ≤ R.slots) (hdg : decode cc pc = .ok (.newarray .long, 2))
    (kk : ∀ (q : Nat) (H1 : Heap), va_P D vwCl (ws ++ [cJ cy q N' (fun _ => 0)]) H1 → va_D A (ws ++ [cJ cy q N' (fun _ => 0)]) → va_S A H0 H1 locs → W p l e R s m args below meth c H1 locs (cells + 1) (slots + N') Q (F0 m (pc + 2) ls (.ref q :: rest))) : W p l e R s m args below meth c H locs cells slots Q (F0 m pc ls (.int n :: rest)) := by
  refine va_newa (atype := .long) (a0 := (N', .inr (.inl (fun _ => 0)))) hx hb harr rfl hK hP hD hS hA (fun _ => rfl) hn hN hbytes hcells hslots hdg (fun q cA H1 hK1 hP1 hD1 hS1 => ?_)
  have e1 : s.vm.findClass ("[" ++ FieldType.long.toString) = some cA := (hK1.2 6 (cA, .long) rfl).2
  have e2 : s.vm.findClass ("[" ++ FieldType.long.toString) = some (cy 1) := (hK.2 1 (cy 1, .long) rfl).2
  cases e2.symm.trans e1
  exact kk q H1 hP1 hD1 hS1
theorem pq_nZ (hx : p.tables.exec = Jvm.exec) (hb : c.code = cc) (harr : (Cond.arrayClass .boolean).before args s = true) (hK : va_K D vwCl (pq_tys cy) s) (hP : va_P D vwCl ws H) (hD : va_D A ws) (hS : va_S A H0 H locs) (hA : ∀ q, H0.size ≤ q → A q) {n : Int32} (N' : Nat) (hn : ¬ n < 0) (hN : n.toNatClampNeg = N') (hbytes : N' * componentBytes .boolean ≤ 536870912) (hcells : cells + 1 ≤ R.cells) (hslots : slots + N' ≤ R.slots) (hdg : decode cc pc = .ok (.newarray .boolean, 2))
    (kk : ∀ (q : Nat) (H1 : Heap), va_P D vwCl (ws ++ [cZ cy q N' (fun _ => 0)]) H1 → va_D A (ws ++ [cZ cy q N' (fun _ => 0)]) → va_S A H0 H1 locs → W p l e R s m args below meth c H1 locs (cells + 1) (slots + N') Q (F0 m (pc + 2) ls (.ref q :: rest))) : W p l e R s m args below meth c H locs cells slots Q (F0 m pc ls (.int n :: rest)) := by
  refine va_newa (atype := .boolean) (a0 := (N', .inl (fun _ => 0))) hx hb harr rfl hK hP hD hS hA (fun _ => rfl) hn hN hbytes hcells hslots hdg (fun q cA H1 hK1 hP1 hD1 hS1 => ?_)
  have e1 : s.vm.findClass ("[" ++ FieldType.boolean.toString) = some cA := (hK1.2 6 (cA, .boolean) rfl).2
  have e2 : s.vm.findClass ("[" ++ FieldType.boolean.toString) = some (cy 2) := (hK.2 2 (cy 2, .boolean) rfl).2
  cases e2.symm.trans e1
  exact kk q H1 hP1 hD1 hS1
theorem pq_nR (hx : p.tables.exec = Jvm.exec) (hb : c.code = cc) {own C : String} {index : Nat} (k : Nat) (hk : (pq_tys cy)[k]? = some (cy k, .object C)) (hown : s.vm.findClass own = some m.cls) (hclink : (Cond.classLink own index C).before args s = true) (hover : va_AO C s) (hK : va_K D vwCl (pq_tys cy) s) (hP : va_P D vwCl ws H) (hD : va_D A ws) (hS : va_S A H0 H locs) (hA : ∀ q, H0.size ≤ q → A q)
    {n : Int32} (N' : Nat) (hn : ¬ n < 0) (hN : n.toNatClampNeg = N') (hbytes : N' * 4 ≤ 536870912) (hcells : cells + 1 ≤ R.cells) (hslots : slots + N' ≤ R.slots) (hdg : decode cc pc = .ok (.anewarray index, 3))
    (kk : ∀ (q : Nat) (H1 : Heap), va_P D vwCl (ws ++ [cR cy k q N' (fun _ => none)]) H1 → va_D A (ws ++ [cR cy k q N' (fun _ => none)]) → va_S A H0 H1 locs → W p l e R s m args below meth c H1 locs (cells + 1) (slots + N') Q (F0 m (pc + 3) ls (.ref q :: rest))) : W p l e R s m args below meth c H locs cells slots Q (F0 m pc ls (.int n :: rest)) := by
  refine va_newq hx hb hown hclink hover hK hP hD hS hA hn hN hbytes hcells hslots hdg (fun q cA H1 hK1 hP1 hD1 hS1 => ?_)
  have e1 : va_RA s cA (.object C) := (hK1.2 6 (cA, .object C) rfl).2
  have e2 : va_RA s (cy k) (.object C) := (hK.2 k (cy k, .object C) hk).2
  obtain ⟨_, _, _, _, _, f1⟩ := e1
  obtain ⟨_, _, _, _, _, f2⟩ := e2
  cases f2.symm.trans f1
  exact kk q H1 hP1 hD1 hS1
theorem pq_putF (hx : p.tables.exec = Jvm.exec) (hb : c.code = cc) {own ref C : String} {T : u_T} {N ci index a : Nat} {Ts : List Cond} (hts : ∀ w ∈ Ts, w.before args s = true) (hin : ∀ w ∈ u_ws C T N, w ∈ Ts) (ty0 : Nat → FieldType) (hty : ∀ k, k < N → parseFieldDescriptor (T k).2.2.1 = some (ty0 k)) (hnm : ∀ a, a < N → ∀ b, b < N → a ≠ b → (T a).2.1 ≠ (T b).2.1) (hown : s.vm.findClass own = some m.cls) (hK : va_K D vwCl (pq_tys cy) s) (hP : va_P D vwCl ws H) (hD : va_D A ws) (hS0 : va_S A H0 H locs) (q0 : Nat) {fs : List Value} (he : ws[q0]? = some (a, .inr (ci, fs))) (hc : vwCl[ci]? = some (C, T, N)) (k : Nat) (hk : k < N) (hlink : (Cond.fieldLink own index ref (T k).2.1 (T k).2.2.1).before args s = true) (hsame : (T k).1 = ref) (hfin : (T k).2.2.2 = true) (hin2 : meth.name = "<init>") (hdecl : (T k).1 = own) (ty : FieldType) {v : Value} (hd : parseFieldDescriptor (T k).2.2.1 = some ty) (hn : narrow ty v = v) (hfit : fits ty v = true) (hl : k < fs.length) {ws1 : va_W} (hw : ws.set q0 (a, .inr (ci, fs.set k v)) = ws1)
    (hdg : decode cc pc = .ok (.putfield index, 3)) (kk : ∀ (H1 : Heap) (locs1 : List Loc), va_P D vwCl ws1 H1 → va_D A ws1 → va_S A H0 H1 locs1 → W p l e R s m args below meth c H1 locs1 cells slots Q (F0 m (pc + 3) ls rest)) : W p l e R s m args below meth c H locs cells slots Q (F0 m pc ls (v :: .ref a :: rest)) :=
  va_putF hx hb hts hin ty0 hty hnm hown hK hP hD hS0 q0 he hc k hk hlink (fun _ h9 => hsame ▸ h9) hfin hin2 hdecl hd hn hfit hl hdg (fun H1 locs1 h1 h2 h3 => kk H1 locs1 (hw ▸ h1) (hw ▸ h2) h3)
theorem pq_cI {own : String} {Ts wy : List Cond} {y : MethodName} {bytes : ByteArray} {index maxL nL mc ms b : Nat} {rm : Room} {S : Type} {Wp : S → va_W} {wc wr : va_W} {st0 : List Value} (S0 : CallFix p m c cc nL s args Ts own) (hM : pq_MN l y wy rm D cy [.ref b] wc Wp mc ms) (cw : CallB R s args own index y bytes maxL none wy rm mc ms 0 ∧ y.name = "<init>" ∧ (Cond.instanceMethod y).before args s = true)
    (hK : va_K D vwCl (pq_tys cy) s) (hO : pq_O s) (hP : va_P D vwCl ws H) (hD : va_D A ws) (hS : va_S A s.heap H locs) (hA : ∀ q : Nat, s.heap.size ≤ q → A q)
    (isC isR : List Nat) (hC1 : isC.map (fun i => ws[i]?) = wc.map some) (hR1 : isR.map (fun i => ws[i]?) = wr.map some) (hn0 : va_nd isC = true) (hn1 : va_nd isR = true) (hd1 : ∀ i ∈ isR, i ∉ isC)
    (hsz : ls.size = nL) (hst : st0 = .ref b :: rest) (hW : (rest.map fun v => v.category).sum ≤ 8) (hcs : cells + mc ≤ R.cells ∧ slots + ms ≤ R.slots) (hdg : decode cc pc = .ok (.invokespecial index, 3))
    (kk : ∀ (u : S) (H1 : Heap) (locs1 : List Loc), va_P D vwCl (wr ++ Wp u) H1 → va_D A (wr ++ Wp u) → va_S A s.heap H1 locs1 → W p l e R s m args below meth c H1 locs1 (cells + mc) (slots + ms) Q (F0 m (pc + 3) ls rest)) :
    W p l e R s m args below meth c H locs cells slots Q (F0 m pc ls st0) := by
  have hPc := hP.sub isC (pq_fm hC1)
  have hDc := (hD.sub isC hn0 hC1).weaken (B := fun _ => True) (fun _ _ _ _ => trivial)
  have hFc := va_free (wc := wc) hD hS hA isC hC1
  refine va_callv (va_runI (As := []) (rest := rest) S0 (hM H.size) cw ⟨pq_blindN, fun U hU hW => ⟨rfl, by rw [hU], by rw [hU]; exact hPc, ⟨va_K.moved hW.alike hK, hO.moved hW⟩, hDc⟩⟩ rfl rfl hsz hst (lv_room hW) hdg hcs) hS (fun q _ h => hFc q h) hFc (fun u t H1 locs1 ht hvm hw hB hz1 hk1 hS1 => ?_)
  obtain ⟨hP1, hK1, hD1⟩ := hB
  rw [ht] at hP1
  obtain ⟨hP2, hD2⟩ := va_join (wr := wr) (w1 := Wp u) hP hD isC isR hC1 hR1 hn1 hd1 hk1 hFc hP1 hD1
  exact kk u H1 locs1 hP2 hD2 hS1
theorem pq_cIN {own host : String} {Ts wy : List Cond} {y : MethodName} {bytes : ByteArray} {index maxL nL mc ms b : Nat} {rm : Room} {S : Type} {Wp : S → va_W} {wc wr : va_W} {st0 : List Value} (S0 : CallFix p m c cc nL s args Ts own) (hM : pq_MN l y wy rm D cy [.ref b] wc Wp mc ms) (cw : va_CN R s args own index y host bytes maxL none wy rm mc ms 0 ∧ y.name = "<init>" ∧ (Cond.instanceMethod y).before args s = true)
    (hK : va_K D vwCl (pq_tys cy) s) (hO : pq_O s) (hP : va_P D vwCl ws H) (hD : va_D A ws) (hS : va_S A s.heap H locs) (hA : ∀ q : Nat, s.heap.size ≤ q → A q)
    (isC isR : List Nat) (hC1 : isC.map (fun i => ws[i]?) = wc.map some) (hR1 : isR.map (fun i => ws[i]?) = wr.map some) (hn0 : va_nd isC = true) (hn1 : va_nd isR = true) (hd1 : ∀ i ∈ isR, i ∉ isC)
    (hsz : ls.size = nL) (hst : st0 = .ref b :: rest) (hW : (rest.map fun v => v.category).sum ≤ 8) (hcs : cells + mc ≤ R.cells ∧ slots + ms ≤ R.slots) (hdg : decode cc pc = .ok (.invokespecial index, 3))
    (kk : ∀ (u : S) (H1 : Heap) (locs1 : List Loc), va_P D vwCl (wr ++ Wp u) H1 → va_D A (wr ++ Wp u) → va_S A s.heap H1 locs1 → W p l e R s m args below meth c H1 locs1 (cells + mc) (slots + ms) Q (F0 m (pc + 3) ls rest)) :
    W p l e R s m args below meth c H locs cells slots Q (F0 m pc ls st0) := by
  have hPc := hP.sub isC (pq_fm hC1)
  have hDc := (hD.sub isC hn0 hC1).weaken (B := fun _ => True) (fun _ _ _ _ => trivial)
  have hFc := va_free (wc := wc) hD hS hA isC hC1
  refine va_callv (va_runIN (As := []) (rest := rest) S0 (hM H.size) cw ⟨pq_blindN, fun U hU hW => ⟨rfl, by rw [hU], by rw [hU]; exact hPc, ⟨va_K.moved hW.alike hK, hO.moved hW⟩, hDc⟩⟩ rfl rfl hsz hst (lv_room hW) hdg hcs) hS (fun q _ h => hFc q h) hFc (fun u t H1 locs1 ht hvm hw hB hz1 hk1 hS1 => ?_)
  obtain ⟨hP1, hK1, hD1⟩ := hB
  rw [ht] at hP1
  obtain ⟨hP2, hD2⟩ := va_join (wr := wr) (w1 := Wp u) hP hD isC isR hC1 hR1 hn1 hd1 hk1 hFc hP1 hD1
  exact kk u H1 locs1 hP2 hD2 hS1
theorem pq_nret {S : Type} {Wp : S → va_W} {ws : va_W} (u : S) (hx : p.tables.exec = Jvm.exec) (hb : c.code = cc) (hr : meth.sig.returnType = none) (hlocks : meth.locks = false) (hK : va_K D vwCl (pq_tys cy) s) (hP : va_P D vwCl ws H) (hD : va_D A ws) (hS : va_S A s.heap H locs) (h2 : ws = Wp u) (hdg : decode cc pc = .ok (.return_, 1)) :
    W p l e R s m args below meth c H locs cells slots (MQ below (pq_Qn D cy A Wp) args s cells slots A) (F0 m pc ls []) := by
  subst h2
  exact W.vret hx hb hr (fun t' ht hW => ⟨⟨u, rfl, trivial, by rw [ht]; exact hP, va_K.moved hW.alike hK, hD⟩, hS.F ht⟩) hS.2.2 hdg hlocks
end PQN
/-- a cell of references by what its places hold -/
theorem pq_cR {D : va_G} {X Y : va_W} {H : Heap} {cy : Nat → ClassId} {k a n : Nat} {f g : Nat → Option Nat} (h : ∀ j, j < n → f j = g j) (hP : va_P D vwCl (X ++ cR cy k a n f :: Y) H) : va_P D vwCl (X ++ cR cy k a n g :: Y) H := by
  have hcell : vp_cell (cy k) (n, .inr (.inr (.inr (.inr f)))) = vp_cell (cy k) (n, .inr (.inr (.inr (.inr g)))) := by
    show arrV (cy k) n (fun j => va_rf (f j)) = arrV (cy k) n (fun j => va_rf (g j))
    unfold arrV
    congr 1
    apply congrArg Array.ofFn
    funext j
    show va_rf (f j.val) = va_rf (g j.val)
    rw [h j.val j.isLt]
  intro i q hq
  rcases Nat.lt_trichotomy i X.length with q1 | q1 | q1
  · exact hP i q (by rw [List.getElem?_append_left q1] at hq ⊢; exact hq)
  · subst q1
    rw [List.getElem?_append_right (Nat.le_refl _), Nat.sub_self] at hq
    cases hq
    have := hP X.length (cR cy k a n f) (by rw [List.getElem?_append_right (Nat.le_refl _), Nat.sub_self]; rfl)
    show H[a]? = some (vp_cell (cy k) (n, .inr (.inr (.inr (.inr g)))))
    rw [← hcell]
    exact this
  · refine hP i q ?_
    rw [List.getElem?_append_right (Nat.le_of_lt q1)] at hq ⊢
    obtain ⟨d, hd⟩ : ∃ d, i - X.length = d + 1 := ⟨i - X.length - 1, by omega⟩
    rw [hd] at hq ⊢
    exact hq
theorem pq_cRD {A : Nat → Prop} {X Y : va_W} {cy : Nat → ClassId} {k a n : Nat} {f g : Nat → Option Nat} (hD : va_D A (X ++ cR cy k a n f :: Y)) : va_D A (X ++ cR cy k a n g :: Y) := by
  have key : ∀ (i : Nat) (q : Nat × va_E), (X ++ cR cy k a n g :: Y)[i]? = some q → ∃ e, (X ++ cR cy k a n f :: Y)[i]? = some (q.1, e) := by
    intro i q hq
    rcases Nat.lt_trichotomy i X.length with q1 | q1 | q1
    · exact ⟨q.2, by rw [List.getElem?_append_left q1] at hq ⊢; exact hq⟩
    · subst q1
      rw [List.getElem?_append_right (Nat.le_refl _), Nat.sub_self] at hq ⊢
      cases hq
      exact ⟨_, rfl⟩
    · rw [List.getElem?_append_right (Nat.le_of_lt q1)] at hq ⊢
      obtain ⟨d, hd⟩ : ∃ d, i - X.length = d + 1 := ⟨i - X.length - 1, by omega⟩
      rw [hd] at hq ⊢
      exact ⟨q.2, hq⟩
  refine ⟨fun i j pi qj hi hj he => ?_, fun i q hq => ?_⟩
  · obtain ⟨e1, h1⟩ := key i pi hi
    obtain ⟨e2, h2⟩ := key j qj hj
    exact hD.1 i j _ _ h1 h2 he
  · obtain ⟨e1, h1⟩ := key i q hq
    exact hD.2 i (q.1, e1) h1
