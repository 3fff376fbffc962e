/-! ===== bits, sets and counts ===== -/
theorem pu_sm : ∀ k : Fin 31, ((nI k.val &&& 31).toBitVec.smod 32).toNat = k.val := by decide +kernel
theorem pu_shr {m k : Nat} (hm : m < 2 ^ 31) (hk : k < 31) : nI m >>> (nI k &&& 31) = nI (m / 2 ^ k) := pk_shrN hm _ k (pu_sm ⟨k, hk⟩)
theorem pu_and1 {m : Nat} (hm : m < 2 ^ 31) : nI m &&& 1 = nI (m % 2) := pk_andN (n := m) (m := 1) (by omega) 1 rfl
theorem pu_bitN {m k : Nat} (hm : m < 2 ^ 31) (hk : k < 31) : (nI m >>> (nI k &&& 31)) &&& 1 = nI (m / 2 ^ k % 2) := by
  rw [pu_shr hm hk, pu_and1 (Nat.lt_of_le_of_lt (Nat.div_le_self _ _) hm)]
theorem pu_shl1 : ∀ k : Fin 31, (1 : Int32) <<< (nI k.val &&& 31) = nI (2 ^ k.val) := by decide +kernel
theorem pu_or {a b : Nat} (ha : a < 2 ^ 31) (hb : b < 2 ^ 31) : nI a ||| nI b = nI (a ||| b) := by
  apply Int32.toBitVec_inj.mp
  rw [Int32.toBitVec_or]
  apply BitVec.eq_of_toNat_eq
  rw [BitVec.toNat_or, pk_tn (by omega), pk_tn (by omega), pk_tn (Nat.or_lt_two_pow (by omega) (by omega))]
/-- the set of those below n for which q says yes, as a number -/
def pn_bm (q : Nat → Bool) : Nat → Nat
  | 0 => 0
  | n + 1 => pn_bm q n + (if q n then 2 ^ n else 0)
theorem pn_bm_lt (q : Nat → Bool) : ∀ n, pn_bm q n < 2 ^ n
  | 0 => Nat.one_pos
  | n + 1 => by
    have := pn_bm_lt q n
    show pn_bm q n + (if q n then 2 ^ n else 0) < _
    rw [Nat.pow_succ]
    split <;> omega
theorem pn_bm_cg {q q' : Nat → Bool} : ∀ {n : Nat}, (∀ i, i < n → q i = q' i) → pn_bm q n = pn_bm q' n
  | 0, _ => rfl
  | n + 1, h => by
    show pn_bm q n + (if q n then 2 ^ n else 0) = pn_bm q' n + (if q' n then 2 ^ n else 0)
    rw [pn_bm_cg (fun i hi => h i (by omega)), h n (by omega)]
theorem pn_bm_or {q : Nat → Bool} {n : Nat} (hn : n < 31) : nI (pn_bm q (n + 1)) = if q n then nI (pn_bm q n) ||| ((1 : Int32) <<< (nI n &&& 31)) else nI (pn_bm q n) := by
  have hl := pn_bm_lt q n
  have h31 : 2 ^ n ≤ 2 ^ 30 := Nat.pow_le_pow_right (by omega) (by omega)
  show nI (pn_bm q n + (if q n then 2 ^ n else 0)) = _
  by_cases h : q n = true
  · have e := Nat.two_pow_add_eq_or_of_lt hl 1
    rw [Nat.mul_one] at e
    have e1 : (1 : Int32) <<< (nI n &&& 31) = nI (2 ^ n) := pu_shl1 ⟨n, hn⟩
    rw [if_pos h, if_pos h, e1, pu_or (by omega) (by omega), Nat.or_comm, ← e, Nat.add_comm]
  · rw [if_neg h, if_neg h, Nat.add_zero]
theorem pn_bm_bit (q : Nat → Bool) : ∀ n k, k < n → pn_bm q n / 2 ^ k % 2 = if q k then 1 else 0
  | 0, k, h => absurd h (by omega)
  | n + 1, k, h => by
    have hl := pn_bm_lt q n
    have tb : ∀ m : Nat, m / 2 ^ k % 2 = if m.testBit k then 1 else 0 := by
      intro m
      rw [Nat.testBit_eq_decide_div_mod_eq]
      by_cases g : m / 2 ^ k % 2 = 1
      · simp [g]
      · have : m / 2 ^ k % 2 = 0 := by omega
        simp [this]
    rw [tb]
    show (if (pn_bm q n + (if q n then 2 ^ n else 0)).testBit k = true then 1 else 0) = _
    by_cases e : k = n
    · subst e
      by_cases g : q k = true
      · rw [if_pos g, if_pos g, Nat.add_comm, Nat.testBit_two_pow_add_eq, Nat.testBit_lt_two_pow hl]
        rfl
      · rw [if_neg g, if_neg g, Nat.add_zero, Nat.testBit_lt_two_pow hl]
        rfl
    · have ih := pn_bm_bit q n k (by omega)
      rw [tb] at ih
      by_cases g : q n = true
      · rw [if_pos g, Nat.add_comm, Nat.testBit_two_pow_add_gt (by omega)]
        exact ih
      · rw [if_neg g, Nat.add_zero]
        exact ih
theorem pn_bm_0 (q : Nat → Bool) : ∀ n, pn_bm q n = 0 ↔ ∀ i, i < n → q i = false
  | 0 => ⟨fun _ i h => absurd h (by omega), fun _ => rfl⟩
  | n + 1 => by
    have ih := pn_bm_0 q n
    have hp := Nat.two_pow_pos n
    show pn_bm q n + (if q n then 2 ^ n else 0) = 0 ↔ _
    constructor
    · intro h i hi
      by_cases g : q n = true
      · rw [if_pos g] at h; omega
      · by_cases e : i = n
        · subst e; exact Bool.eq_false_iff.mpr g
        · exact ih.mp (by omega) i (by omega)
    · intro h
      rw [ih.mpr (fun i hi => h i (by omega)), h n (by omega)]
      rfl
/-- how many below n -/
def pn_cn (q : Nat → Bool) : Nat → Nat
  | 0 => 0
  | n + 1 => pn_cn q n + (if q n then 1 else 0)
theorem pn_cn_le (q : Nat → Bool) : ∀ n, pn_cn q n ≤ n
  | 0 => Nat.le_refl _
  | n + 1 => by
    have := pn_cn_le q n
    show pn_cn q n + (if q n then 1 else 0) ≤ n + 1
    split <;> omega
theorem pn_cn_cg {q q' : Nat → Bool} : ∀ {n : Nat}, (∀ i, i < n → q i = q' i) → pn_cn q n = pn_cn q' n
  | 0, _ => rfl
  | n + 1, h => by
    show pn_cn q n + (if q n then 1 else 0) = pn_cn q' n + (if q' n then 1 else 0)
    rw [pn_cn_cg (fun i hi => h i (by omega)), h n (by omega)]
theorem pn_cn_s (q : Nat → Bool) (n : Nat) : pn_cn q (n + 1) = pn_cn q n + (if q n then 1 else 0) := rfl
theorem pn_cn_end {q : Nat → Bool} {i : Nat} : ∀ {n : Nat}, i ≤ n → (∀ k, i ≤ k → k < n → q k = false) → pn_cn q n = pn_cn q i
  | 0, h, _ => by rw [show i = 0 by omega]
  | n + 1, h, hq => by
    by_cases e : i = n + 1
    · rw [e]
    · rw [pn_cn_s, hq n (by omega) (by omega), pn_cn_end (n := n) (by omega) (fun k h1 h2 => hq k h1 (by omega))]
      rfl
theorem pn_cn_mono {q p : Nat → Bool} : ∀ {n : Nat}, (∀ k, k < n → p k = true → q k = true) → pn_cn p n ≤ pn_cn q n
  | 0, _ => Nat.le_refl _
  | n + 1, h => by
    have := pn_cn_mono (n := n) (fun k hk => h k (by omega))
    rw [pn_cn_s, pn_cn_s]
    by_cases g : p n = true
    · rw [if_pos g, if_pos (h n (by omega) g)]; omega
    · rw [if_neg g]; split <;> omega
/-- all below n -/
def pn_al (q : Nat → Bool) : Nat → Bool
  | 0 => true
  | n + 1 => pn_al q n && q n
theorem pn_al_s (q : Nat → Bool) (n : Nat) : pn_al q (n + 1) = (pn_al q n && q n) := rfl
theorem pn_al_cg {q q' : Nat → Bool} : ∀ {n : Nat}, (∀ i, i < n → q i = q' i) → pn_al q n = pn_al q' n
  | 0, _ => rfl
  | n + 1, h => by rw [pn_al_s, pn_al_s, pn_al_cg (fun i hi => h i (by omega)), h n (by omega)]
theorem pn_al_iff (q : Nat → Bool) : ∀ n, pn_al q n = true ↔ ∀ i, i < n → q i = true
  | 0 => ⟨fun _ i h => absurd h (by omega), fun _ => rfl⟩
  | n + 1 => by
    rw [pn_al_s, Bool.and_eq_true, pn_al_iff q n]
    constructor
    · intro h i hi
      by_cases e : i = n
      · rw [e]; exact h.2
      · exact h.1 i (by omega)
    · intro h
      exact ⟨fun i hi => h i (by omega), h n (by omega)⟩
def pn_i (b : Bool) : Int32 := if b then 1 else 0
theorem pn_i_t : pn_i true = 1 := rfl
theorem pn_i_f : pn_i false = 0 := rfl
theorem pu_bits_loop {N m : Nat} (hm : m < 2 ^ 31) {q : Nat → Bool} (hq : ∀ k, k < 12 → m / 2 ^ k % 2 = if q k then 1 else 0) : ∀ (d i n : Nat), i + d = 12 → d < n → pq_w (fun _ _ => none) (f_X8_bits_L4 N (nI m)) n (nI (pn_cn q i)) (nI i) = some (nI (pn_cn q 12))
  | 0, i, n, h1, h2 => by
    obtain ⟨n, rfl⟩ : ∃ t, n = t + 1 := ⟨n - 1, by omega⟩
    rw [pu_w]
    unfold f_X8_bits_L4
    rw [if_pos (by rw [pu_lit 12, nI_leI (by omega) (by omega)]; omega), show i = 12 by omega]
  | d + 1, i, n, h1, h2 => by
    obtain ⟨n, rfl⟩ : ∃ t, n = t + 1 := ⟨n - 1, by omega⟩
    have ih := pu_bits_loop (N := N) hm hq d (i + 1) n (by omega) (by omega)
    rw [pu_w]
    generalize pq_w (fun _ _ => none) (f_X8_bits_L4 N (nI m)) n = kk at ih ⊢
    unfold f_X8_bits_L4
    rw [if_neg (by rw [pu_lit 12, nI_leI (by omega) (by omega)]; omega), pu_l, pu_l, pu_bitN hm (by omega), hq i (by omega), nI_add, nI_1, ← pn_cn_s]
    exact ih
theorem pu_bits {N m : Nat} (hN : 20 < N) (hm : m < 2 ^ 31) {q : Nat → Bool} (hq : ∀ k, k < 12 → m / 2 ^ k % 2 = if q k then 1 else 0) : f_X8_bits N (nI m) = some (nI (pn_cn q 12)) := pu_bits_loop hm hq 12 0 N (by omega) (by omega)
theorem pu_hasN {N m k : Nat} (hm : m < 2 ^ 31) (hk : k < 31) : f_X8_has N (nI m) (nI k) = some (if m / 2 ^ k % 2 = 1 then 1 else 0) := by
  unfold f_X8_has
  rw [pu_bitN hm hk, pu_b1, pu_b0]
  by_cases h : m / 2 ^ k % 2 = 1
  · rw [if_pos h, if_pos (by rw [h]; rfl)]
  · rw [if_neg h, if_neg (by rw [pu_lit 1, nI_eq (by omega) (by omega)]; exact h)]
def pn_jb (p0 : Int32) : Int32 :=
  let a := p0 - (((p0.toUInt32 >>> ((1 : Int32).toUInt32 &&& Int32.toUInt32 31)).toInt32) &&& (1431655765 : Int32))
  let b := (a &&& (858993459 : Int32)) + (((a.toUInt32 >>> ((2 : Int32).toUInt32 &&& Int32.toUInt32 31)).toInt32) &&& (858993459 : Int32))
  let c := (b + ((b.toUInt32 >>> ((4 : Int32).toUInt32 &&& Int32.toUInt32 31)).toInt32)) &&& (252645135 : Int32)
  let d := c + ((c.toUInt32 >>> ((8 : Int32).toUInt32 &&& Int32.toUInt32 31)).toInt32)
  let e := d + ((d.toUInt32 >>> ((16 : Int32).toUInt32 &&& Int32.toUInt32 31)).toInt32)
  e &&& (63 : Int32)
theorem pu_jb {N : Nat} {p : Int32} : f_J6_bitCount_0f7a4 N p = some (pn_jb p) := rfl
theorem pn_jb_1024 : ∀ m : Fin 1024, pn_jb (nI m.val) = nI (pn_cn (fun k => decide (m.val / 2 ^ k % 2 = 1)) 10) := by decide +kernel
