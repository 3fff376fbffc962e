/-! ===== pure side: guards, names, joins, loops, calls ===== -/
def pq_gd {α : Type} (i : Int32) (n : Nat) (k : Option α) : Option α := if 0 ≤ i.toInt ∧ i.toInt < (n : Int) then k else none
def pq_l {α β : Type} (a : α) (k : α → Option β) : Option β := k a
def pq_z {α : Type} (y : Int32) (k : Option α) : Option α := if y = 0 then none else k
def pq_zl {α : Type} (y : Int64) (k : Option α) : Option α := if y = 0 then none else k
def pq_b {α : Type} (v : Int32) (k : Option α) : Option α := if v = 0 ∨ v = 1 then k else none
def pq_w {κ : Type} (d : κ) (f : κ → κ) : Nat → κ
  | 0 => d
  | n + 1 => f (pq_w d f n)
def pq_j {κ α : Type} (k : κ) (b : κ → Option α) : Option α := b k
def pq_c {α β : Type} (o : Option α) (k : α → Option β) : Option β := o.bind k
def pq_cp {α : Type} (sp dp n : Int32) (n0 n1 : Nat) (k : Option α) : Option α := if 0 ≤ sp.toInt ∧ 0 ≤ dp.toInt ∧ 0 ≤ n.toInt ∧ sp.toInt + n.toInt ≤ (n0 : Int) ∧ dp.toInt + n.toInt ≤ (n1 : Int) then k else none
theorem pq_gd_e {α : Type} {i : Int32} {n : Nat} {k : Option α} {z : α} (h : pq_gd i n k = some z) : vp_in i n ∧ k = some z := by
  unfold pq_gd at h
  by_cases c : 0 ≤ i.toInt ∧ i.toInt < (n : Int)
  · rw [if_pos c] at h
    exact ⟨vp_in_iff.mpr c, h⟩
  · rw [if_neg c] at h
    cases h
theorem pq_gd_i {α : Type} {i : Int32} {n : Nat} {k : Option α} (h : 0 ≤ i.toInt ∧ i.toInt < (n : Int)) : pq_gd i n k = k := if_pos h
theorem pq_z_e {α : Type} {y : Int32} {k : Option α} {z : α} (h : pq_z y k = some z) : ¬ y = 0 ∧ k = some z := by
  unfold pq_z at h
  by_cases c : y = 0
  · rw [if_pos c] at h
    cases h
  · rw [if_neg c] at h
    exact ⟨c, h⟩
theorem pq_zl_e {α : Type} {y : Int64} {k : Option α} {z : α} (h : pq_zl y k = some z) : ¬ y = 0 ∧ k = some z := by
  unfold pq_zl at h
  by_cases c : y = 0
  · rw [if_pos c] at h
    cases h
  · rw [if_neg c] at h
    exact ⟨c, h⟩
theorem pq_b_e {α : Type} {v : Int32} {k : Option α} {z : α} (h : pq_b v k = some z) : (v = 0 ∨ v = 1) ∧ k = some z := by
  unfold pq_b at h
  by_cases c : v = 0 ∨ v = 1
  · rw [if_pos c] at h
    exact ⟨c, h⟩
  · rw [if_neg c] at h
    cases h
theorem pq_c_e {α β : Type} {o : Option α} {k : α → Option β} {z : β} (h : pq_c o k = some z) : ∃ r, o = some r ∧ k r = some z := by
  unfold pq_c at h
  cases o with
  | none => cases h
  | some r => exact ⟨r, rfl, h⟩
theorem pq_j_e {κ α : Type} {k : κ} {b : κ → Option α} {z : α} (h : pq_j k b = some z) : ∃ k', k' = k ∧ b k' = some z := ⟨k, rfl, h⟩
theorem pq_it {α : Type} {p : Prop} [Decidable p] {a b : Option α} {z : α} (h : (if p then a else b) = some z) (c : p) : a = some z := by rw [if_pos c] at h; exact h
theorem pq_if {α : Type} {p : Prop} [Decidable p] {a b : Option α} {z : α} (h : (if p then a else b) = some z) (c : ¬ p) : b = some z := by rw [if_neg c] at h; exact h
theorem pq_ne {x k : Int32} {j : Int} (h : ¬ x = k) (hk : k.toInt = j) : x.toInt ≠ j := fun e => h (Int32.toInt_inj.mp (e.trans hk.symm))
theorem pq_fm {α : Type} {is : List Nat} {g : Nat → Option α} {ws : List α} (h : is.map g = ws.map some) : is.filterMap g = ws := by
  have h1 : is.filterMap g = (is.map g).filterMap id := by rw [List.filterMap_map]; rfl
  rw [h1, h, List.filterMap_map]
  have : (id ∘ some : α → Option α) = some := rfl
  rw [this, List.filterMap_some]
/-! ===== the worlds' cells ===== -/
abbrev pq_tys (cy : Nat → ClassId) : List (ClassId × FieldType) := [(cy 0, .int), (cy 1, .long), (cy 2, .boolean), (cy 3, .object "LoserPicks$Act"), (cy 4, .object "LoserPicks$Circuit"), (cy 5, .object "LoserPicks$Sheet")]
abbrev cI (cy : Nat → ClassId) (a n : Nat) (f : Nat → Int32) : Nat × va_E := (a, .inl (cy 0, n, .inl f))
abbrev cJ (cy : Nat → ClassId) (a n : Nat) (f : Nat → Int64) : Nat × va_E := (a, .inl (cy 1, n, .inr (.inl f)))
abbrev cZ (cy : Nat → ClassId) (a n : Nat) (f : Nat → Int32) : Nat × va_E := (a, .inl (cy 2, n, .inl f))
abbrev cR (cy : Nat → ClassId) (k a n : Nat) (f : Nat → Option Nat) : Nat × va_E := (a, .inl (cy k, n, .inr (.inr (.inr (.inr f)))))
abbrev cO (h ci : Nat) (fs : List Value) : Nat × va_E := (h, .inr (ci, fs))
/-! ===== contracts ===== -/
abbrev pq_B (D : va_G) (cy : Nat → ClassId) (A : Nat → Prop) (ws1 : va_W) (t : State) : Prop := va_P D vwCl ws1 t.heap ∧ va_K D vwCl (pq_tys cy) t ∧ va_D A ws1
abbrev pq_Pc (D : va_G) (cy : Nat → ClassId) (as : List Value) (ws : va_W) (sz : Nat) : Array Value → State → Prop := va_Pc as (fun U => U.heap.size = sz ∧ va_P D vwCl ws U.heap ∧ va_K D vwCl (pq_tys cy) U ∧ va_D (fun _ => True) ws)
abbrev pq_Qi (D : va_G) (cy : Nat → ClassId) (A : Nat → Prop) (ws1 : va_W) (r : Int32) : Array Value → State → Outcome → State → Prop := va_Qi (fun x (_ : Unit) => x = r) (fun _ t => pq_B D cy A ws1 t) A
abbrev pq_Ql (D : va_G) (cy : Nat → ClassId) (A : Nat → Prop) (ws1 : va_W) (r : Int64) : Array Value → State → Outcome → State → Prop := va_Ql (fun x (_ : Unit) => x = r) (fun _ t => pq_B D cy A ws1 t) A
abbrev pq_Qv (D : va_G) (cy : Nat → ClassId) (A : Nat → Prop) (ws1 : va_W) : Array Value → State → Outcome → State → Prop := va_Qv (fun (_ : Unit) => True) (fun _ t => pq_B D cy A ws1 t) A
abbrev pq_Qr (D : va_G) (cy : Nat → ClassId) (A : Nat → Prop) (ws1 : va_W) (r : Nat) : Array Value → State → Outcome → State → Prop := va_Qr (fun (_ : Unit) => True) (fun _ a t => a = r ∧ pq_B D cy A ws1 t) A
def pq_MI (l : Launch) (y : MethodName) (w : List Cond) (rm : Room) (D : va_G) (cy : Nat → ClassId) (as : List Value) (ws ws1 : va_W) (r : Int32) : Prop := ∀ sz : Nat, Met l y w rm (pq_Pc D cy as ws sz) (pq_Qi D cy (va_A ws sz) ws1 r) 0 0 (va_A ws sz)
def pq_ML (l : Launch) (y : MethodName) (w : List Cond) (rm : Room) (D : va_G) (cy : Nat → ClassId) (as : List Value) (ws ws1 : va_W) (r : Int64) : Prop := ∀ sz : Nat, Met l y w rm (pq_Pc D cy as ws sz) (pq_Ql D cy (va_A ws sz) ws1 r) 0 0 (va_A ws sz)
def pq_MV (l : Launch) (y : MethodName) (w : List Cond) (rm : Room) (D : va_G) (cy : Nat → ClassId) (as : List Value) (ws ws1 : va_W) : Prop := ∀ sz : Nat, Met l y w rm (pq_Pc D cy as ws sz) (pq_Qv D cy (va_A ws sz) ws1) 0 0 (va_A ws sz)
def pq_MR (l : Launch) (y : MethodName) (w : List Cond) (rm : Room) (D : va_G) (cy : Nat → ClassId) (as : List Value) (ws ws1 : va_W) (r : Nat) : Prop := ∀ sz : Nat, Met l y w rm (pq_Pc D cy as ws sz) (pq_Qr D cy (va_A ws sz) ws1 r) 0 0 (va_A ws sz)
def pq_X (p : Program) (s : State) (m : MethodId) (meth : Method) (c : Code) (w : List Cond) (args : Array Value) (cc : ByteArray) (maxL : Nat) (ret : Option FieldType) (own : String) : Prop :=
  p.tables.exec = Jvm.exec ∧ c.code = cc ∧ meth.sig.returnType = ret ∧ (∀ x ∈ w, x.before args s = true) ∧ s.vm.findClass own = some m.cls ∧ meth.locks = false ∧ c.maxLocals = maxL
theorem pq_blind {D : va_G} {cy : Nat → ClassId} {as : List Value} {ws : va_W} {sz : Nat} : FrameBlind (pq_Pc D cy as ws sz) := fun a U g mk q => by
  obtain ⟨q0, q1, qP, qK, qD⟩ := q
  exact ⟨q0, q1, qP, va_K.moved (u := U) (U := U.calling g mk a) (Vm.Alike.refl U.vm) qK, qD⟩
theorem pq_ent {l : Launch} {y : MethodName} {w w' : List Cond} {rm : Room} {D : va_G} {cy : Nat → ClassId} {as : List Value} {ws : va_W} {cc : ByteArray} {maxL : Nat} {ret : Option FieldType} {Qf : (Nat → Prop) → Array Value → State → Outcome → State → Prop} {sz : Nat}
    (hy : plainName y.cls = true) (hw : w = Cond.code y cc maxL ret :: w') (hn : (lg_sl as).length ≤ maxL)
    (body : ∀ (p : Program) (e : Env) (s : State) (m : MethodId) (args : Array Value) (below : List Frame) (meth : Method) (c : Code) (A : Nat → Prop) (ls : Array Slot) (Q : State → Prop), Q = MQ below (Qf A) args s 0 0 A → pq_X p s m meth c w args cc maxL ret y.cls → va_K D vwCl (pq_tys cy) s → va_P D vwCl ws s.heap → va_D A ws → (∀ q : Nat, s.heap.size ≤ q → A q) → va_S A s.heap s.heap [] → lv_has ls maxL (lv_args 0 as) →
      W p l e rm s m args below meth c s.heap [] 0 0 Q (F0 m 0 ls [])) :
    Met l y w rm (pq_Pc D cy as ws sz) (Qf (va_A ws sz)) 0 0 (va_A ws sz) := by
  refine Met.ofW (cc := cc) (maxL := maxL) (ret := ret) hy hw ?_
  intro p e s m args below meth c s₁ B hml hv
  obtain ⟨rfl, hsz, hP, hK, hD0⟩ := hv
  subst hsz
  rw [lg_entry_eq]
  exact body p e s m as.toArray below meth c (va_A ws s.heap.size) _ _ rfl ⟨B.exec, B.bytes, B.returns, atoms_spec (ws := w) B.pre, findClass_of_methodNamed B.named, B.notSynchronized, hml⟩ hK hP hD0.self (fun q h => Or.inr h) va_S.rf (lv_entry as hn)
/-! ===== rows of the walk: the kit's rows, with the pure side carried along ===== -/
section PQ
variable {p : Program} {l : Launch} {e : Env} {R : Room} {s : State} {m : MethodId} {args : Array Value} {below : List Frame} {meth : Method} {c : Code} {H : Heap} {locs : List Loc} {cells slots : Nat} {Q : State → Prop} {pc : Nat} {ls : Array Slot} {rest : List Value} {cc : ByteArray} {α : Type} {z : α} {D : va_G} {cy : Nat → ClassId} {cl : List vw_C} {tys : List (ClassId × FieldType)} {ws : va_W} {A : Nat → Prop} {H0 : Heap} {a : Nat}
theorem pq_li {x : Int32} {k : Int32 → Option α} (hf : pq_l x k = some z) (kk : ∀ y : Int32, k y = some z → W p l e R s m args below meth c H locs cells slots Q (F0 m pc ls (.int y :: rest))) : W p l e R s m args below meth c H locs cells slots Q (F0 m pc ls (.int x :: rest)) := kk x hf
theorem pq_ll {x : Int64} {k : Int64 → Option α} (hf : pq_l x k = some z) (kk : ∀ y : Int64, k y = some z → W p l e R s m args below meth c H locs cells slots Q (F0 m pc ls (.long y :: rest))) : W p l e R s m args below meth c H locs cells slots Q (F0 m pc ls (.long x :: rest)) := kk x hf
theorem pq_iald (hx : p.tables.exec = Jvm.exec) (hb : c.code = cc) (hK : va_K D cl tys s) (hP : va_P D cl ws H) (q0 t0 : Nat) {cA : ClassId} {n : Nat} {f : Nat → Int32} (ha : ws[q0]? = some (a, .inl (cA, n, .inl f))) (ht : tys[t0]? = some (cA, .int)) {i : Int32} {k : Option α} (hf : pq_gd i n k = some z) (hdg : decode cc pc = .ok (.iaload, 1))
    (kk : k = some z → W p l e R s m args below meth c H locs cells slots Q (F0 m (pc + 1) ls (.int (f i.toNatClampNeg) :: rest))) : W p l e R s m args below meth c H locs cells slots Q (F0 m pc ls (.int i :: .ref a :: rest)) := va_iald hx hb hK hP q0 t0 ha ht (pq_gd_e hf).1 hdg (kk (pq_gd_e hf).2)
theorem pq_lald (hx : p.tables.exec = Jvm.exec) (hb : c.code = cc) (hK : va_K D cl tys s) (hP : va_P D cl ws H) (q0 t0 : Nat) {cA : ClassId} {n : Nat} {f : Nat → Int64} (ha : ws[q0]? = some (a, .inl (cA, n, .inr (.inl f)))) (ht : tys[t0]? = some (cA, .long)) {i : Int32} {k : Option α} (hf : pq_gd i n k = some z) (hdg : decode cc pc = .ok (.laload, 1))
    (kk : k = some z → W p l e R s m args below meth c H locs cells slots Q (F0 m (pc + 1) ls (.long (f i.toNatClampNeg) :: rest))) : W p l e R s m args below meth c H locs cells slots Q (F0 m pc ls (.int i :: .ref a :: rest)) := va_lald hx hb hK hP q0 t0 ha ht (pq_gd_e hf).1 hdg (kk (pq_gd_e hf).2)
theorem pq_zald (hx : p.tables.exec = Jvm.exec) (hb : c.code = cc) (hK : va_K D cl tys s) (hP : va_P D cl ws H) (q0 t0 : Nat) {cA : ClassId} {n : Nat} {f : Nat → Int32} (ha : ws[q0]? = some (a, .inl (cA, n, .inl f))) (ht : tys[t0]? = some (cA, .boolean)) {i : Int32} {k : Option α} (hf : pq_gd i n k = some z) (hdg : decode cc pc = .ok (.baload, 1))
    (kk : k = some z → W p l e R s m args below meth c H locs cells slots Q (F0 m (pc + 1) ls (.int (f i.toNatClampNeg) :: rest))) : W p l e R s m args below meth c H locs cells slots Q (F0 m pc ls (.int i :: .ref a :: rest)) := va_zald hx hb hK hP q0 t0 ha ht (pq_gd_e hf).1 hdg (kk (pq_gd_e hf).2)
theorem pq_aald (hx : p.tables.exec = Jvm.exec) (hb : c.code = cc) (hK : va_K D cl tys s) (hP : va_P D cl ws H) (q0 t0 : Nat) {cA : ClassId} {C : String} {n : Nat} {f : Nat → Nat} (ha : ws[q0]? = some (a, .inl (cA, n, .inr (.inr (.inr (.inr (fun j => some (f j)))))))) (ht : tys[t0]? = some (cA, .object C)) {i : Int32} {k : Option α} (hf : pq_gd i n k = some z) (hdg : decode cc pc = .ok (.aaload, 1))
    (kk : vp_in i n → k = some z → W p l e R s m args below meth c H locs cells slots Q (F0 m (pc + 1) ls (.ref (f i.toNatClampNeg) :: rest))) : W p l e R s m args below meth c H locs cells slots Q (F0 m pc ls (.int i :: .ref a :: rest)) := va_aldq hx hb hK hP q0 t0 ha ht (pq_gd_e hf).1 hdg (kk (pq_gd_e hf).1 (pq_gd_e hf).2)
theorem pq_iast (hx : p.tables.exec = Jvm.exec) (hb : c.code = cc) (hK : va_K D cl tys s) (hP : va_P D cl ws H) (hD : va_D A ws) (hS : va_S A H0 H locs) (q0 t0 : Nat) {cA : ClassId} {n : Nat} {f : Nat → Int32} (ha : ws[q0]? = some (a, .inl (cA, n, .inl f))) (ht : tys[t0]? = some (cA, .int)) {ws1 : (Nat → Int32) → va_W} (hw : ∀ g, ws.set q0 (a, .inl (cA, n, .inl g)) = ws1 g) {i : Int32} {x : Int32} {k : (Nat → Int32) → Option α} (hf : pq_gd i n (pq_l (upd f i.toNatClampNeg x) k) = some z) (hdg : decode cc pc = .ok (.iastore, 1))
    (kk : ∀ (g : Nat → Int32) (H1 : Heap) (locs1 : List Loc), k g = some z → va_P D cl (ws1 g) H1 → va_D A (ws1 g) → va_S A H0 H1 locs1 → W p l e R s m args below meth c H1 locs1 cells slots Q (F0 m (pc + 1) ls rest)) : W p l e R s m args below meth c H locs cells slots Q (F0 m pc ls (.int x :: .int i :: .ref a :: rest)) :=
  va_iast hx hb hK hP hD hS q0 t0 ha ht (pq_gd_e hf).1 hdg (fun H1 locs1 h1 h2 h3 => kk _ H1 locs1 (pq_gd_e hf).2 (hw _ ▸ h1) (hw _ ▸ h2) h3)
theorem pq_last (hx : p.tables.exec = Jvm.exec) (hb : c.code = cc) (hK : va_K D cl tys s) (hP : va_P D cl ws H) (hD : va_D A ws) (hS : va_S A H0 H locs) (q0 t0 : Nat) {cA : ClassId} {n : Nat} {f : Nat → Int64} (ha : ws[q0]? = some (a, .inl (cA, n, .inr (.inl f)))) (ht : tys[t0]? = some (cA, .long)) {ws1 : (Nat → Int64) → va_W} (hw : ∀ g, ws.set q0 (a, .inl (cA, n, .inr (.inl g))) = ws1 g) {i : Int32} {x : Int64} {k : (Nat → Int64) → Option α} (hf : pq_gd i n (pq_l (vp_updL f i.toNatClampNeg x) k) = some z) (hdg : decode cc pc = .ok (.lastore, 1))
    (kk : ∀ (g : Nat → Int64) (H1 : Heap) (locs1 : List Loc), k g = some z → va_P D cl (ws1 g) H1 → va_D A (ws1 g) → va_S A H0 H1 locs1 → W p l e R s m args below meth c H1 locs1 cells slots Q (F0 m (pc + 1) ls rest)) : W p l e R s m args below meth c H locs cells slots Q (F0 m pc ls (.long x :: .int i :: .ref a :: rest)) :=
  va_last hx hb hK hP hD hS q0 t0 ha ht (pq_gd_e hf).1 hdg (fun H1 locs1 h1 h2 h3 => kk _ H1 locs1 (pq_gd_e hf).2 (hw _ ▸ h1) (hw _ ▸ h2) h3)
theorem pq_zast (hx : p.tables.exec = Jvm.exec) (hb : c.code = cc) (hK : va_K D cl tys s) (hP : va_P D cl ws H) (hD : va_D A ws) (hS : va_S A H0 H locs) (q0 t0 : Nat) {cA : ClassId} {n : Nat} {f : Nat → Int32} (ha : ws[q0]? = some (a, .inl (cA, n, .inl f))) (ht : tys[t0]? = some (cA, .boolean)) {ws1 : (Nat → Int32) → va_W} (hw : ∀ g, ws.set q0 (a, .inl (cA, n, .inl g)) = ws1 g) {i : Int32} {x : Int32} {k : (Nat → Int32) → Option α} (hf : pq_gd i n (pq_l (upd f i.toNatClampNeg (vp_nar .boolean x)) k) = some z) (hdg : decode cc pc = .ok (.bastore, 1))
    (kk : ∀ (g : Nat → Int32) (H1 : Heap) (locs1 : List Loc), k g = some z → va_P D cl (ws1 g) H1 → va_D A (ws1 g) → va_S A H0 H1 locs1 → W p l e R s m args below meth c H1 locs1 cells slots Q (F0 m (pc + 1) ls rest)) : W p l e R s m args below meth c H locs cells slots Q (F0 m pc ls (.int x :: .int i :: .ref a :: rest)) :=
  va_zast hx hb hK hP hD hS q0 t0 ha ht (pq_gd_e hf).1 hdg (fun H1 locs1 h1 h2 h3 => kk _ H1 locs1 (pq_gd_e hf).2 (hw _ ▸ h1) (hw _ ▸ h2) h3)
theorem pq_idiv (hx : p.tables.exec = Jvm.exec) (hb : c.code = cc) {x y : Int32} {k : Option α} (hf : pq_z y k = some z) (hdg : decode cc pc = .ok (.idiv, 1))
    (kk : k = some z → W p l e R s m args below meth c H locs cells slots Q (F0 m (pc + 1) ls (.int (x / y) :: rest))) : W p l e R s m args below meth c H locs cells slots Q (F0 m pc ls (.int y :: .int x :: rest)) := lv_idiv hx hb hdg (pq_z_e hf).1 (kk (pq_z_e hf).2)
theorem pq_irem (hx : p.tables.exec = Jvm.exec) (hb : c.code = cc) {x y : Int32} {k : Option α} (hf : pq_z y k = some z) (hdg : decode cc pc = .ok (.irem, 1))
    (kk : k = some z → W p l e R s m args below meth c H locs cells slots Q (F0 m (pc + 1) ls (.int (x - x / y * y) :: rest))) : W p l e R s m args below meth c H locs cells slots Q (F0 m pc ls (.int y :: .int x :: rest)) := lv_irem hx hb hdg (pq_z_e hf).1 (kk (pq_z_e hf).2)
theorem pq_iinc (hx : p.tables.exec = Jvm.exec) (hb : c.code = cc) {i nL kp : Nat} {n : Int} {x v : Int32} {lv : List (Nat × Value)} {lv1 : Int32 → List (Nat × Value)} {k : Int32 → Option α} (hf : pq_l v k = some z) (hdg : decode cc pc = .ok (.iinc i n, 3)) (h : lv_has ls nL lv) (hk : lv[kp]? = some (i, .int x)) (hv : x + Int32.ofInt n = v) (hn : i < nL) (hl : ∀ y : Int32, (i, Value.int y) :: lv.filter (fun q => !(q.1 == i) && !(q.1 + 1 == i && q.2.category == 2)) = lv1 y)
    (kk : ∀ (y : Int32) (ls' : Array Slot), k y = some z → lv_has ls' nL (lv1 y) → W p l e R s m args below meth c H locs cells slots Q (F0 m (pc + 3) ls' rest)) : W p l e R s m args below meth c H locs cells slots Q (F0 m pc ls rest) := lv_iinc hx hb hdg h hk hv hn (hl v) (fun ls' h' => kk v ls' hf h')
theorem pq_put (hx : p.tables.exec = Jvm.exec) (hb : c.code = cc) {own ref C : String} {T : u_T} {N ci index : Nat} {Ts : List Cond} (hts : ∀ w ∈ Ts, w.before args s = true) (hin : ∀ w ∈ u_ws C T N, w ∈ Ts) (ty0 : Nat → FieldType) (hty : ∀ k, k < N → parseFieldDescriptor (T k).2.2.1 = some (ty0 k)) (hnm : ∀ a, a < N → ∀ b, b < N → a ≠ b → (T a).2.1 ≠ (T b).2.1) (hown : s.vm.findClass own = some m.cls) (hK : va_K D cl tys s) (hP : va_P D cl ws H) (hD : va_D A ws) (hS0 : va_S A H0 H locs) (q0 : Nat) {fs : List Value} (he : ws[q0]? = some (a, .inr (ci, fs))) (hc : cl[ci]? = some (C, T, N)) (k : Nat) (hk : k < N) (hlink : (Cond.fieldLink own index ref (T k).2.1 (T k).2.2.1).before args s = true) (hsame : (T k).1 = ref) (hfin : (T k).2.2.2 = false) (ty : FieldType) {v : Value} (hd : parseFieldDescriptor (T k).2.2.1 = some ty) (hn : narrow ty v = v) (hfit : fits ty v = true) (hl : k < fs.length) {ws1 : va_W} (hw : ws.set q0 (a, .inr (ci, fs.set k v)) = ws1)
    (hdg : decode cc pc = .ok (.putfield index, 3)) (kk : ∀ (H1 : Heap) (locs1 : List Loc), va_P D cl ws1 H1 → va_D A ws1 → va_S A H0 H1 locs1 → W p l e R s m args below meth c H1 locs1 cells slots Q (F0 m (pc + 3) ls rest)) : W p l e R s m args below meth c H locs cells slots Q (F0 m pc ls (v :: .ref a :: rest)) :=
  va_put hx hb hts hin ty0 hty hnm hown hK hP hD hS0 q0 he hc k hk hlink (fun _ h9 => hsame ▸ h9) hfin hd hn hfit hl hdg (fun H1 locs1 h1 h2 h3 => kk H1 locs1 (hw ▸ h1) (hw ▸ h2) h3)
theorem pq_get (hx : p.tables.exec = Jvm.exec) (hb : c.code = cc) {own ref C : String} {T : u_T} {N ci index : Nat} {Ts : List Cond} (hts : ∀ w ∈ Ts, w.before args s = true) (hin : ∀ w ∈ u_ws C T N, w ∈ Ts) (hown : s.vm.findClass own = some m.cls) (hK : va_K D cl tys s) (hP : va_P D cl ws H) (q0 : Nat) {fs : List Value} (he : ws[q0]? = some (a, .inr (ci, fs))) (hc : cl[ci]? = some (C, T, N)) (k : Nat) (hk : k < N) (hlink : (Cond.fieldLink own index ref (T k).2.1 (T k).2.2.1).before args s = true) (hsame : (T k).1 = ref) {v : Value} (hv : fs[k]? = some v) (hdg : decode cc pc = .ok (.getfield index, 3))
    (kk : W p l e R s m args below meth c H locs cells slots Q (F0 m (pc + 3) ls (v :: rest))) : W p l e R s m args below meth c H locs cells slots Q (F0 m pc ls (.ref a :: rest)) := va_get hx hb hts hin hown hK hP q0 he hc k hk hlink (fun _ h9 => hsame ▸ h9) hv hdg kk
theorem pq_cp_e {sp dp n : Int32} {n0 n1 : Nat} {k : Option α} (h : pq_cp sp dp n n0 n1 k = some z) : (¬ sp < 0 ∧ ¬ dp < 0 ∧ ¬ n < 0 ∧ sp.toNatClampNeg + n.toNatClampNeg ≤ n0 ∧ dp.toNatClampNeg + n.toNatClampNeg ≤ n1) ∧ k = some z := by
  unfold pq_cp at h
  by_cases q : 0 ≤ sp.toInt ∧ 0 ≤ dp.toInt ∧ 0 ≤ n.toInt ∧ sp.toInt + n.toInt ≤ (n0 : Int) ∧ dp.toInt + n.toInt ≤ (n1 : Int)
  · rw [if_pos q] at h
    obtain ⟨q1, q2, q3, q4, q5⟩ := q
    have z0 : (0 : Int32).toInt = 0 := rfl
    refine ⟨⟨fun g => ?_, fun g => ?_, fun g => ?_, ?_, ?_⟩, h⟩
    · rw [Int32.lt_iff_toInt_lt, z0] at g; omega
    · rw [Int32.lt_iff_toInt_lt, z0] at g; omega
    · rw [Int32.lt_iff_toInt_lt, z0] at g; omega
    · show sp.toInt.toNat + n.toInt.toNat ≤ n0
      omega
    · show dp.toInt.toNat + n.toInt.toNat ≤ n1
      omega
  · rw [if_neg q] at h
    cases h
theorem pq_copyi (hx : p.tables.exec = Jvm.exec) (hb : c.code = cc) (hml : c.maxLocals = ls.size) {own : String} {index : Nat} (hown : s.vm.findClass own = some m.cls) (hlink : (Cond.methodLink own index arraycopyName).before args s = true) (hnat : (Cond.native arraycopyName).before args s = true) (hstat : (Cond.static arraycopyName).before args s = true) (hini : (Cond.initialized "java/lang/System").before args s = true)
    (hK : va_K D cl tys s) (hP : va_P D cl ws H) (hD : va_D A ws) (hS : va_S A H0 H locs) (q0 q1 t0 t1 : Nat) {a0 : Nat} {c0 c1 : ClassId} {n0 n1 : Nat} {f g : Nat → Int32} (ha0 : ws[q0]? = some (a0, .inl (c0, n0, .inl f))) (ha1 : ws[q1]? = some (a, .inl (c1, n1, .inl g))) (ht0 : tys[t0]? = some (c0, .int)) (ht1 : tys[t1]? = some (c1, .int)) {ws1 : (Nat → Int32) → va_W} (hw : ∀ g', ws.set q1 (a, .inl (c1, n1, .inl g')) = ws1 g')
    {sp dp n : Int32} {k : (Nat → Int32) → Option α} (hf : pq_cp sp dp n n0 n1 (pq_l (va_cpy f g sp.toNatClampNeg dp.toNatClampNeg n.toNatClampNeg) k) = some z)
    (hframes : 1 ≤ R.frames) (hlocals : (rest.map fun v => v.category).sum + (nativeFrameWords "java/lang/System" "arraycopy" 5 + 11) ≤ R.locals) (hdg : decode cc pc = .ok (.invokestatic index, 3))
    (kk : ∀ (g' : Nat → Int32) (H1 : Heap) (locs1 : List Loc), k g' = some z → va_P D cl (ws1 g') H1 → va_D A (ws1 g') → va_S A H0 H1 locs1 → W p l e R s m args below meth c H1 locs1 cells slots Q (F0 m (pc + 3) ls rest)) : W p l e R s m args below meth c H locs cells slots Q (F0 m pc ls (.int n :: .int dp :: .ref a :: .int sp :: .ref a0 :: rest)) := by
  obtain ⟨⟨h1, h2, h3, h4, h5⟩, hf⟩ := pq_cp_e hf
  exact va_copyi hx hb hml hown hlink hnat hstat hini hK hP hD hS q0 q1 t0 t1 ha0 ha1 ht0 ht1 rfl h1 h2 h3 h4 h5 (fun _ _ => rfl) hframes hlocals hdg (fun H1 locs1 e1 e2 e3 => kk _ H1 locs1 hf (hw _ ▸ e1) (hw _ ▸ e2) e3)
theorem pq_copyl (hx : p.tables.exec = Jvm.exec) (hb : c.code = cc) (hml : c.maxLocals = ls.size) {own : String} {index : Nat} (hown : s.vm.findClass own = some m.cls) (hlink : (Cond.methodLink own index arraycopyName).before args s = true) (hnat : (Cond.native arraycopyName).before args s = true) (hstat : (Cond.static arraycopyName).before args s = true) (hini : (Cond.initialized "java/lang/System").before args s = true)
    (hK : va_K D cl tys s) (hP : va_P D cl ws H) (hD : va_D A ws) (hS : va_S A H0 H locs) (q0 q1 t0 t1 : Nat) {a0 : Nat} {c0 c1 : ClassId} {n0 n1 : Nat} {f g : Nat → Int64} (ha0 : ws[q0]? = some (a0, .inl (c0, n0, .inr (.inl f)))) (ha1 : ws[q1]? = some (a, .inl (c1, n1, .inr (.inl g)))) (ht0 : tys[t0]? = some (c0, .long)) (ht1 : tys[t1]? = some (c1, .long)) {ws1 : (Nat → Int64) → va_W} (hw : ∀ g', ws.set q1 (a, .inl (c1, n1, .inr (.inl g'))) = ws1 g')
    {sp dp n : Int32} {k : (Nat → Int64) → Option α} (hf : pq_cp sp dp n n0 n1 (pq_l (va_cpy f g sp.toNatClampNeg dp.toNatClampNeg n.toNatClampNeg) k) = some z)
    (hframes : 1 ≤ R.frames) (hlocals : (rest.map fun v => v.category).sum + (nativeFrameWords "java/lang/System" "arraycopy" 5 + 11) ≤ R.locals) (hdg : decode cc pc = .ok (.invokestatic index, 3))
    (kk : ∀ (g' : Nat → Int64) (H1 : Heap) (locs1 : List Loc), k g' = some z → va_P D cl (ws1 g') H1 → va_D A (ws1 g') → va_S A H0 H1 locs1 → W p l e R s m args below meth c H1 locs1 cells slots Q (F0 m (pc + 3) ls rest)) : W p l e R s m args below meth c H locs cells slots Q (F0 m pc ls (.int n :: .int dp :: .ref a :: .int sp :: .ref a0 :: rest)) := by
  obtain ⟨⟨h1, h2, h3, h4, h5⟩, hf⟩ := pq_cp_e hf
  exact va_copyl hx hb hml hown hlink hnat hstat hini hK hP hD hS q0 q1 t0 t1 ha0 ha1 ht0 ht1 rfl h1 h2 h3 h4 h5 (fun _ _ => rfl) hframes hlocals hdg (fun H1 locs1 e1 e2 e3 => kk _ H1 locs1 hf (hw _ ▸ e1) (hw _ ▸ e2) e3)
/-! branches: 'A' is taken where the condition that is written holds -/
theorem pq_if_eq (hx : p.tables.exec = Jvm.exec) (hb : c.code = cc) {x : Int32} {off : Int} {a b : Option α} (tgt : Nat) (hf : (if x = 0 then a else b) = some z) (hdg : decode cc pc = .ok (.ifCond .eq off, 3)) (ht : (pc : Int) + off = (tgt : Int)) (kt : x = 0 → a = some z → W p l e R s m args below meth c H locs cells slots Q (F0 m tgt ls rest)) (kf : ¬ x = 0 → b = some z → W p l e R s m args below meth c H locs cells slots Q (F0 m (pc + 3) ls rest)) : W p l e R s m args below meth c H locs cells slots Q (F0 m pc ls (.int x :: rest)) := lv_if_eq hx hb hdg ht (fun h => kt h (pq_it hf h)) (fun h => kf h (pq_if hf h))
theorem pq_if_ne (hx : p.tables.exec = Jvm.exec) (hb : c.code = cc) {x : Int32} {off : Int} {a b : Option α} (tgt : Nat) (hf : (if x = 0 then b else a) = some z) (hdg : decode cc pc = .ok (.ifCond .ne off, 3)) (ht : (pc : Int) + off = (tgt : Int)) (kt : ¬ x = 0 → a = some z → W p l e R s m args below meth c H locs cells slots Q (F0 m tgt ls rest)) (kf : x = 0 → b = some z → W p l e R s m args below meth c H locs cells slots Q (F0 m (pc + 3) ls rest)) : W p l e R s m args below meth c H locs cells slots Q (F0 m pc ls (.int x :: rest)) := lv_if_ne hx hb hdg ht (fun h => kt h (pq_if hf h)) (fun h => kf h (pq_it hf h))
theorem pq_if_lt (hx : p.tables.exec = Jvm.exec) (hb : c.code = cc) {x : Int32} {off : Int} {a b : Option α} (tgt : Nat) (hf : (if x < 0 then a else b) = some z) (hdg : decode cc pc = .ok (.ifCond .lt off, 3)) (ht : (pc : Int) + off = (tgt : Int)) (kt : x < 0 → a = some z → W p l e R s m args below meth c H locs cells slots Q (F0 m tgt ls rest)) (kf : ¬ x < 0 → b = some z → W p l e R s m args below meth c H locs cells slots Q (F0 m (pc + 3) ls rest)) : W p l e R s m args below meth c H locs cells slots Q (F0 m pc ls (.int x :: rest)) := lv_if_lt hx hb hdg ht (fun h => kt h (pq_it hf h)) (fun h => kf h (pq_if hf h))
theorem pq_if_ge (hx : p.tables.exec = Jvm.exec) (hb : c.code = cc) {x : Int32} {off : Int} {a b : Option α} (tgt : Nat) (hf : (if 0 ≤ x then a else b) = some z) (hdg : decode cc pc = .ok (.ifCond .ge off, 3)) (ht : (pc : Int) + off = (tgt : Int)) (kt : 0 ≤ x → a = some z → W p l e R s m args below meth c H locs cells slots Q (F0 m tgt ls rest)) (kf : ¬ 0 ≤ x → b = some z → W p l e R s m args below meth c H locs cells slots Q (F0 m (pc + 3) ls rest)) : W p l e R s m args below meth c H locs cells slots Q (F0 m pc ls (.int x :: rest)) := lv_if_ge hx hb hdg ht (fun h => kt h (pq_it hf h)) (fun h => kf h (pq_if hf h))
theorem pq_if_gt (hx : p.tables.exec = Jvm.exec) (hb : c.code = cc) {x : Int32} {off : Int} {a b : Option α} (tgt : Nat) (hf : (if 0 < x then a else b) = some z) (hdg : decode cc pc = .ok (.ifCond .gt off, 3)) (ht : (pc : Int) + off = (tgt : Int)) (kt : 0 < x → a = some z → W p l e R s m args below meth c H locs cells slots Q (F0 m tgt ls rest)) (kf : ¬ 0 < x → b = some z → W p l e R s m args below meth c H locs cells slots Q (F0 m (pc + 3) ls rest)) : W p l e R s m args below meth c H locs cells slots Q (F0 m pc ls (.int x :: rest)) := lv_if_gt hx hb hdg ht (fun h => kt h (pq_it hf h)) (fun h => kf h (pq_if hf h))
theorem pq_if_le (hx : p.tables.exec = Jvm.exec) (hb : c.code = cc) {x : Int32} {off : Int} {a b : Option α} (tgt : Nat) (hf : (if x ≤ 0 then a else b) = some z) (hdg : decode cc pc = .ok (.ifCond .le off, 3)) (ht : (pc : Int) + off = (tgt : Int)) (kt : x ≤ 0 → a = some z → W p l e R s m args below meth c H locs cells slots Q (F0 m tgt ls rest)) (kf : ¬ x ≤ 0 → b = some z → W p l e R s m args below meth c H locs cells slots Q (F0 m (pc + 3) ls rest)) : W p l e R s m args below meth c H locs cells slots Q (F0 m pc ls (.int x :: rest)) := lv_if_le hx hb hdg ht (fun h => kt h (pq_it hf h)) (fun h => kf h (pq_if hf h))
theorem pq_icmp_eq (hx : p.tables.exec = Jvm.exec) (hb : c.code = cc) {x y : Int32} {off : Int} {a b : Option α} (tgt : Nat) (hf : (if x = y then a else b) = some z) (hdg : decode cc pc = .ok (.if_icmp .eq off, 3)) (ht : (pc : Int) + off = (tgt : Int)) (kt : x = y → a = some z → W p l e R s m args below meth c H locs cells slots Q (F0 m tgt ls rest)) (kf : ¬ x = y → b = some z → W p l e R s m args below meth c H locs cells slots Q (F0 m (pc + 3) ls rest)) : W p l e R s m args below meth c H locs cells slots Q (F0 m pc ls (.int y :: .int x :: rest)) := lv_icmp_eq hx hb hdg ht (fun h => kt h (pq_it hf h)) (fun h => kf h (pq_if hf h))
theorem pq_icmp_ne (hx : p.tables.exec = Jvm.exec) (hb : c.code = cc) {x y : Int32} {off : Int} {a b : Option α} (tgt : Nat) (hf : (if x = y then b else a) = some z) (hdg : decode cc pc = .ok (.if_icmp .ne off, 3)) (ht : (pc : Int) + off = (tgt : Int)) (kt : ¬ x = y → a = some z → W p l e R s m args below meth c H locs cells slots Q (F0 m tgt ls rest)) (kf : x = y → b = some z → W p l e R s m args below meth c H locs cells slots Q (F0 m (pc + 3) ls rest)) : W p l e R s m args below meth c H locs cells slots Q (F0 m pc ls (.int y :: .int x :: rest)) := lv_icmp_ne hx hb hdg ht (fun h => kt h (pq_if hf h)) (fun h => kf h (pq_it hf h))
theorem pq_icmp_lt (hx : p.tables.exec = Jvm.exec) (hb : c.code = cc) {x y : Int32} {off : Int} {a b : Option α} (tgt : Nat) (hf : (if x < y then a else b) = some z) (hdg : decode cc pc = .ok (.if_icmp .lt off, 3)) (ht : (pc : Int) + off = (tgt : Int)) (kt : x < y → a = some z → W p l e R s m args below meth c H locs cells slots Q (F0 m tgt ls rest)) (kf : ¬ x < y → b = some z → W p l e R s m args below meth c H locs cells slots Q (F0 m (pc + 3) ls rest)) : W p l e R s m args below meth c H locs cells slots Q (F0 m pc ls (.int y :: .int x :: rest)) := lv_icmp_lt hx hb hdg ht (fun h => kt h (pq_it hf h)) (fun h => kf h (pq_if hf h))
theorem pq_icmp_ge (hx : p.tables.exec = Jvm.exec) (hb : c.code = cc) {x y : Int32} {off : Int} {a b : Option α} (tgt : Nat) (hf : (if y ≤ x then a else b) = some z) (hdg : decode cc pc = .ok (.if_icmp .ge off, 3)) (ht : (pc : Int) + off = (tgt : Int)) (kt : y ≤ x → a = some z → W p l e R s m args below meth c H locs cells slots Q (F0 m tgt ls rest)) (kf : ¬ y ≤ x → b = some z → W p l e R s m args below meth c H locs cells slots Q (F0 m (pc + 3) ls rest)) : W p l e R s m args below meth c H locs cells slots Q (F0 m pc ls (.int y :: .int x :: rest)) := lv_icmp_ge hx hb hdg ht (fun h => kt h (pq_it hf h)) (fun h => kf h (pq_if hf h))
theorem pq_icmp_gt (hx : p.tables.exec = Jvm.exec) (hb : c.code = cc) {x y : Int32} {off : Int} {a b : Option α} (tgt : Nat) (hf : (if y < x then a else b) = some z) (hdg : decode cc pc = .ok (.if_icmp .gt off, 3)) (ht : (pc : Int) + off = (tgt : Int)) (kt : y < x → a = some z → W p l e R s m args below meth c H locs cells slots Q (F0 m tgt ls rest)) (kf : ¬ y < x → b = some z → W p l e R s m args below meth c H locs cells slots Q (F0 m (pc + 3) ls rest)) : W p l e R s m args below meth c H locs cells slots Q (F0 m pc ls (.int y :: .int x :: rest)) := lv_icmp_gt hx hb hdg ht (fun h => kt h (pq_it hf h)) (fun h => kf h (pq_if hf h))
theorem pq_icmp_le (hx : p.tables.exec = Jvm.exec) (hb : c.code = cc) {x y : Int32} {off : Int} {a b : Option α} (tgt : Nat) (hf : (if x ≤ y then a else b) = some z) (hdg : decode cc pc = .ok (.if_icmp .le off, 3)) (ht : (pc : Int) + off = (tgt : Int)) (kt : x ≤ y → a = some z → W p l e R s m args below meth c H locs cells slots Q (F0 m tgt ls rest)) (kf : ¬ x ≤ y → b = some z → W p l e R s m args below meth c H locs cells slots Q (F0 m (pc + 3) ls rest)) : W p l e R s m args below meth c H locs cells slots Q (F0 m pc ls (.int y :: .int x :: rest)) := lv_icmp_le hx hb hdg ht (fun h => kt h (pq_it hf h)) (fun h => kf h (pq_if hf h))
end PQ
