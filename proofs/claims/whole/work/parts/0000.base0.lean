/-! ===== pure side: guards, names, joins, loops, calls ===== -/
def pq_gd {α : Type} (i : Int32) (n : Nat) (k : Option α) : Option α := if 0 ≤ i.toInt ∧ i.toInt < (n : Int) then k else none
def pq_l {α β : Type} (a : α) (k : α → Option β) : Option β := k a
def pq_z {α : Type} (y : Int32) (k : Option α) : Option α := if y = 0 then none else k
def pq_zl {α : Type} (y : Int64) (k : Option α) : Option α := if y = 0 then none else k
def pq_b {α : Type} (v : Int32) (k : Option α) : Option α := if v = 0 ∨ v = 1 then k else none
def pq_w {κ : Type} (d : κ) (f : κ → κ) : Nat → κ
  | 0 => d
  | n + 1 => f (pq_w d f n)
def pq_j {κ α : Type} (k : κ) (b : κ → Option α) : Option α := b k
def pq_c {α β : Type} (o : Option α) (k : α → Option β) : Option β := o.bind k
def pq_cp {α : Type} (sp dp n : Int32) (n0 n1 : Nat) (k : Option α) : Option α := if 0 ≤ sp.toInt ∧ 0 ≤ dp.toInt ∧ 0 ≤ n.toInt ∧ sp.toInt + n.toInt ≤ (n0 : Int) ∧ dp.toInt + n.toInt ≤ (n1 : Int) then k else none
theorem pq_gd_e {α : Type} {i : Int32} {n : Nat} {k : Option α} {z : α} (h : pq_gd i n k = some z) : vp_in i n ∧ k = some z := by
  unfold pq_gd at h
  by_cases c : 0 ≤ i.toInt ∧ i.toInt < (n : Int)
  · rw [if_pos c] at h
    exact ⟨vp_in_iff.mpr c, h⟩
  · rw [if_neg c] at h
    cases h
theorem pq_gd_i {α : Type} {i : Int32} {n : Nat} {k : Option α} (h : 0 ≤ i.toInt ∧ i.toInt < (n : Int)) : pq_gd i n k = k := if_pos h
theorem pq_z_e {α : Type} {y : Int32} {k : Option α} {z : α} (h : pq_z y k = some z) : ¬ y = 0 ∧ k = some z := by
  unfold pq_z at h
  by_cases c : y = 0
  · rw [if_pos c] at h
    cases h
  · rw [if_neg c] at h
    exact ⟨c, h⟩
theorem pq_zl_e {α : Type} {y : Int64} {k : Option α} {z : α} (h : pq_zl y k = some z) : ¬ y = 0 ∧ k = some z := by
  unfold pq_zl at h
  by_cases c : y = 0
  · rw [if_pos c] at h
    cases h
  · rw [if_neg c] at h
    exact ⟨c, h⟩
theorem pq_b_e {α : Type} {v : Int32} {k : Option α} {z : α} (h : pq_b v k = some z) : (v = 0 ∨ v = 1) ∧ k = some z := by
  unfold pq_b at h
  by_cases c : v = 0 ∨ v = 1
  · rw [if_pos c] at h
    exact ⟨c, h⟩
  · rw [if_neg c] at h
    cases h
theorem pq_c_e {α β : Type} {o : Option α} {k : α → Option β} {z : β} (h : pq_c o k = some z) : ∃ r, o = some r ∧ k r = some z := by
  unfold pq_c at h
  cases o with
  | none => cases h
  | some r => exact ⟨r, rfl, h⟩
theorem pq_j_e {κ α : Type} {k : κ} {b : κ → Option α} {z : α} (h : pq_j k b = some z) : ∃ k', k' = k ∧ b k' = some z := ⟨k, rfl, h⟩
theorem pq_it {α : Type} {p : Prop} [Decidable p] {a b : Option α} {z : α} (h : (if p then a else b) = some z) (c : p) : a = some z := by rw [if_pos c] at h; exact h
theorem pq_if {α : Type} {p : Prop} [Decidable p] {a b : Option α} {z : α} (h : (if p then a else b) = some z) (c : ¬ p) : b = some z := by rw [if_neg c] at h; exact h
theorem pq_ne {x k : Int32} {j : Int} (h : ¬ x = k) (hk : k.toInt = j) : x.toInt ≠ j := fun e => h (Int32.toInt_inj.mp (e.trans hk.symm))
theorem pq_fm {α : Type} {is : List Nat} {g : Nat → Option α} {ws : List α} (h : is.map g = ws.map some) : is.filterMap g = ws := by
  have h1 : is.filterMap g = (is.map g).filterMap id := by rw [List.filterMap_map]; rfl
  rw [h1, h, List.filterMap_map]
  have : (id ∘ some : α → Option α) = some := rfl
  rw [this, List.filterMap_some]
def pq_gn {α : Type} (i n : Nat) (k : Option α) : Option α := if i < n then k else none
theorem pq_gn_e {α : Type} {i n : Nat} {k : Option α} {z : α} (h : pq_gn i n k = some z) : i < n ∧ k = some z := by
  unfold pq_gn at h
  by_cases q : i < n
  · rw [if_pos q] at h
    exact ⟨q, h⟩
  · rw [if_neg q] at h
    cases h
def pq_aw (w : Nat → Nat → Int32) (f k : Nat) (v : Int32) : Nat → Nat → Int32 := fun f' j => if f' = f ∧ j = k then v else w f' j
def pq_ka : Nat → Int32 := fun j => ([-1, 0, 1, 1, 0, 2] : List Int32).getD j 0
def pq_N : Nat := 100000
def pq_swI (x : Nat → Int32) : Nat → Int32 := fun k => if 10 ≤ k ∧ k < 15 then x (k + 5) else if 15 ≤ k ∧ k < 20 then x (k - 5) else x k
def pq_swA (x : Nat → Nat → Int32) : Nat → Nat → Int32 := fun k => if 18 ≤ k ∧ k < 27 then x (k + 9) else if 27 ≤ k ∧ k < 36 then x (k - 9) else x k
