/-! ===== pure: numbers, guards, and the small functions of both sides ===== -/
theorem pu_lit (n : Nat) : (OfNat.ofNat n : Int32) = nI n := rfl
theorem pu_n {x : Int32} (h : 0 ≤ x.toInt) : x = nI x.toNatClampNeg := by
  apply Int32.toInt_inj.mp
  have h1 : x.toInt < 2147483648 := Int32.toInt_lt x
  have h2 : x.toNatClampNeg = x.toInt.toNat := rfl
  rw [nI_toInt (by rw [h2]; omega), h2]
  omega
theorem pu_of {x : Int32} {n : Nat} (h : 0 ≤ x.toInt) (h2 : x.toInt < (n : Int)) : ∃ j : Nat, j < n ∧ x = nI j := by
  refine ⟨x.toNatClampNeg, ?_, pu_n h⟩
  have : x.toNatClampNeg = x.toInt.toNat := rfl
  omega
theorem pu_le {x : Int32} {n : Nat} (h : 0 ≤ x.toInt) (h2 : x.toInt ≤ (n : Int)) : ∃ j : Nat, j ≤ n ∧ x = nI j := by
  obtain ⟨j, h3, h4⟩ := pu_of (n := n + 1) h (by omega)
  exact ⟨j, by omega, h4⟩
theorem pu_gd {α : Type} {i n : Nat} {k : Option α} (h : i < n) (hn : n < 2 ^ 31) : pq_gd (nI i) n k = k := by
  apply pq_gd_i
  rw [nI_toInt (by omega)]
  omega
theorem pu_cs {α β : Type} {x : α} {k : α → Option β} : pq_c (some x) k = k x := rfl
theorem pu_l {α β : Type} {a : α} {k : α → Option β} : pq_l a k = k a := rfl
theorem pu_j {κ α : Type} {k : κ} {b : κ → Option α} : pq_j k b = b k := rfl
theorem pu_b0 {α : Type} {k : Option α} : pq_b 0 k = k := if_pos (Or.inl rfl)
theorem pu_b1 {α : Type} {k : Option α} : pq_b 1 k = k := if_pos (Or.inr rfl)
theorem pu_bi {α : Type} {c : Prop} [Decidable c] {k : Option α} : pq_b (if c then 1 else 0) k = k := by
  by_cases h : c
  · rw [if_pos h]; exact pu_b1
  · rw [if_neg h]; exact pu_b0
theorem pu_w {κ : Type} {d : κ} {f : κ → κ} {n : Nat} : pq_w d f (n + 1) = f (pq_w d f n) := rfl
theorem pu_z {α : Type} {y : Int32} {k : Option α} (h : ¬ y = 0) : pq_z y k = k := if_neg h
theorem pu_lt {x y : Int32} : x < y ↔ x.toInt < y.toInt := Int32.lt_iff_toInt_lt
theorem pu_lei {x y : Int32} : x ≤ y ↔ x.toInt ≤ y.toInt := Int32.le_iff_toInt_le
theorem pu_eqi {x y : Int32} : x = y ↔ x.toInt = y.toInt := Int32.toInt_inj.symm
theorem pu_m {n k : Nat} (hn : n < 2 ^ 30) (hk : k < 2 ^ 30) : (nI n + -nI k).toInt = (n : Int) - k := by
  have h : nI n + -nI k = nI n - nI k := (Int32.sub_eq_add_neg _ _).symm
  rw [h]
  exact pk_sub_toInt hn hk
theorem pu_neg {k : Nat} (hk : k < 2 ^ 30) : (-nI k).toInt = -(k : Int) := by
  have h := pu_m (n := 0) (k := k) (by omega) hk
  rw [nI_0, Int32.zero_add] at h
  rw [h]
  omega
theorem pu_ne4 {j : Nat} (h : j < 2 ^ 30) : ¬ nI j = (-4 : Int32) := by
  intro e
  have h1 := congrArg Int32.toInt e
  rw [nI_toInt (by omega)] at h1
  have h2 : (-4 : Int32).toInt = -4 := rfl
  omega
/-! who is asked for -/
theorem pu_in {N : Nat} {v a b : Int32} : f_X8_in N v a b = some (if a.toInt ≤ v.toInt ∧ v.toInt ≤ b.toInt then 1 else 0) := by
  unfold f_X8_in
  by_cases h1 : v < a
  · rw [if_pos h1, pu_b0, if_neg (by rw [pu_lt] at h1; omega)]
  · rw [if_neg h1]
    rw [pu_lt] at h1
    by_cases h2 : b < v
    · rw [if_pos h2, pu_b0, if_neg (by rw [pu_lt] at h2; omega)]
    · rw [if_neg h2, pu_b1, if_pos (by rw [pu_lt] at h2; omega)]
theorem pu_has {N : Nat} {n v : Int32} : (if v < 0 then pq_b 0 (some (0 : Int32)) else (if n ≤ v then pq_b 0 (some 0) else pq_b 1 (some 1))) = some (if 0 ≤ v.toInt ∧ v.toInt < n.toInt then 1 else 0) := by
  have z0 : (0 : Int32).toInt = 0 := rfl
  by_cases h1 : v < 0
  · rw [if_pos h1, pu_b0, if_neg (by rw [pu_lt, z0] at h1; omega)]
  · rw [if_neg h1]
    rw [pu_lt, z0] at h1
    by_cases h2 : n ≤ v
    · rw [if_pos h2, pu_b0, if_neg (by rw [pu_lei] at h2; omega)]
    · rw [if_neg h2, pu_b1, if_pos (by rw [pu_lei] at h2; omega)]
theorem pu_hasParty {N : Nat} {n v : Int32} : f_X1_hasParty N n v = some (if 0 ≤ v.toInt ∧ v.toInt < n.toInt then 1 else 0) := pu_has (N := N)
theorem pu_hasJudge {N : Nat} {n v : Int32} : f_X1_hasJudge N n v = some (if 0 ≤ v.toInt ∧ v.toInt < n.toInt then 1 else 0) := pu_has (N := N)
theorem pu_hasCase {N : Nat} {n v : Int32} : f_X1_hasCase N n v = some (if 0 ≤ v.toInt ∧ v.toInt < n.toInt then 1 else 0) := pu_has (N := N)
theorem pu_pred {x : Int32} (h : 0 ≤ x.toInt) : (x - 1).toInt = x.toInt - 1 := by
  obtain ⟨n, hn⟩ : ∃ n : Nat, x.toInt = n := ⟨x.toInt.toNat, by omega⟩
  have h1 : x.toInt < 2147483648 := Int32.toInt_lt x
  rw [Int32.toInt_sub]
  have : (1 : Int32).toInt = 1 := rfl
  rw [this, Int.bmod_eq_of_le (by omega) (by omega)]
theorem pu_is {N : Nat} {s : Nat → Int32} {k v : Int32} (hk : 0 ≤ k.toInt) : pq_c (f_X8_in N v 0 (k - 1)) (fun r_1 => pq_b r_1 (some r_1)) = some (if 0 ≤ v.toInt ∧ v.toInt < k.toInt then 1 else 0) := by
  rw [pu_in, pu_cs, pu_bi, pu_pred hk]
  have z0 : (0 : Int32).toInt = 0 := rfl
  rw [z0]
  by_cases h : 0 ≤ v.toInt ∧ v.toInt < k.toInt
  · rw [if_pos h, if_pos (by omega)]
  · rw [if_neg h, if_neg (by omega)]
theorem pu_isParty {N : Nat} {s : Nat → Int32} {v : Int32} (hk : 0 ≤ (s 2).toInt) : f_X8_isParty N s v = some (if 0 ≤ v.toInt ∧ v.toInt < (s 2).toInt then 1 else 0) := by
  unfold f_X8_isParty
  rw [show (2 : Int32) = nI 2 from rfl, pu_gd (by decide) (by decide), nI_clamp (by decide)]
  exact pu_is (s := s) hk
theorem pu_isJudge {N : Nat} {s : Nat → Int32} {v : Int32} (hk : 0 ≤ (s 3).toInt) : f_X8_isJudge N s v = some (if 0 ≤ v.toInt ∧ v.toInt < (s 3).toInt then 1 else 0) := by
  unfold f_X8_isJudge
  rw [show (3 : Int32) = nI 3 from rfl, pu_gd (by decide) (by decide), nI_clamp (by decide)]
  exact pu_is (s := s) hk
theorem pu_isCase {N : Nat} {s : Nat → Int32} {v : Int32} (hk : 0 ≤ (s 4).toInt) : f_X8_isCase N s v = some (if 0 ≤ v.toInt ∧ v.toInt < (s 4).toInt then 1 else 0) := by
  unfold f_X8_isCase
  rw [show (4 : Int32) = nI 4 from rfl, pu_gd (by decide) (by decide), nI_clamp (by decide)]
  exact pu_is (s := s) hk
/-! the parts of the relation -/
theorem pq_R.tape {xI : Nat → Int32} {xA : Nat → Nat → Int32} {xL : Nat → Nat → Int64} {aw : Nat → Nat → Int32} {mI : Nat → Int32} {mA : Nat → Nat → Int32} {mL : Nat → Int64} (h : pq_R xI xA xL aw mI mA mL) : xI 20 = mI 3 ∧ (0 ≤ (mI 3).toInt ∧ (mI 3).toInt ≤ 130) ∧ ∀ i : Nat, (i : Int) < (mI 3).toInt → xA 36 i = mA 4 i := h.1
theorem pq_R.now {xI : Nat → Int32} {xA : Nat → Nat → Int32} {xL : Nat → Nat → Int64} {aw : Nat → Nat → Int32} {mI : Nat → Int32} {mA : Nat → Nat → Int32} {mL : Nat → Int64} (h : pq_R xI xA xL aw mI mA mL) : pq_rc (fun f => xI (10 + f)) (fun f => xA (18 + f)) (mA 6) ∧ (pq_no (mA 6) ∨ pq_wf (mA 6)) := h.2.1
theorem pq_R.ims {xI : Nat → Int32} {xA : Nat → Nat → Int32} {xL : Nat → Nat → Int64} {aw : Nat → Nat → Int32} {mI : Nat → Int32} {mA : Nat → Nat → Int32} {mL : Nat → Int64} (h : pq_R xI xA xL aw mI mA mL) : ∀ k, k < 2 → (mA 10 k = 0 ∧ xI (5 * k + 2) = 0) ∨ (mA 10 k = 1 ∧ pq_rc (fun f => xI (5 * k + f)) (fun f => xA (9 * k + f)) (fun i => mA 9 (83 * k + i)) ∧ pq_wf (fun i => mA 9 (83 * k + i))) := h.2.2.1
theorem pq_R.hist {xI : Nat → Int32} {xA : Nat → Nat → Int32} {xL : Nat → Nat → Int64} {aw : Nat → Nat → Int32} {mI : Nat → Int32} {mA : Nat → Nat → Int32} {mL : Nat → Int64} (h : pq_R xI xA xL aw mI mA mL) : xI 22 = mI 12 ∧ pq_hi (xI 22) (xI 23) aw (mA 6) (mA 11) := h.2.2.2.1
theorem pq_R.shs {xI : Nat → Int32} {xA : Nat → Nat → Int32} {xL : Nat → Nat → Int64} {aw : Nat → Nat → Int32} {mI : Nat → Int32} {mA : Nat → Nat → Int32} {mL : Nat → Int64} (h : pq_R xI xA xL aw mI mA mL) : ∀ k, k < 4 → pq_sh (xI (25 + 3 * k)) (xI (26 + 3 * k)) (xI (27 + 3 * k)) (xL k) (mA 0 k) (mA 1 k) (fun i => mL (24 * k + i)) := h.2.2.2.2
theorem pu_nn {s : Nat → Int32} (h : pq_no s ∨ pq_wf s) : (0 ≤ (s 2).toInt ∧ (s 2).toInt ≤ 6) ∧ (0 ≤ (s 3).toInt ∧ (s 3).toInt ≤ 6) ∧ (0 ≤ (s 4).toInt ∧ (s 4).toInt ≤ 12) ∧ (0 ≤ (s 0).toInt ∧ (s 0).toInt ≤ (s 4).toInt) := by
  rcases h with ⟨h0, h1, h2, h3, h4⟩ | ⟨h1, h2, h3, h4, h5, -⟩
  · rw [h0, h2, h3, h4]
    decide
  · omega
theorem pu_wfOf {s : Nat → Int32} (h : pq_no s ∨ pq_wf s) {v : Int32} {k : Nat} (hk : k = 2 ∨ k = 3 ∨ k = 4) (hv : 0 ≤ v.toInt ∧ v.toInt < (s k).toInt) : pq_wf s := by
  rcases h with ⟨h0, h1, h2, h3, h4⟩ | h
  · exfalso
    rcases hk with rfl | rfl | rfl
    · rw [h2] at hv; have z0 : (0 : Int32).toInt = 0 := rfl; omega
    · rw [h3] at hv; have z0 : (0 : Int32).toInt = 0 := rfl; omega
    · rw [h4] at hv; have z0 : (0 : Int32).toInt = 0 := rfl; omega
  · exact h
