/-! ===== the bench ===== -/
theorem pn_cn_ins {q : Nat → Bool} {b : Nat} (hq : q b = false) : ∀ n, pn_cn (fun j => q j || decide (j = b)) n = pn_cn q n + (if b < n then 1 else 0)
  | 0 => by rw [if_neg (Nat.not_lt_zero b)]; rfl
  | n + 1 => by
    have ih := pn_cn_ins hq n
    show pn_cn (fun j => q j || decide (j = b)) n + (if (q n || decide (n = b)) = true then 1 else 0) = pn_cn q n + (if q n = true then 1 else 0) + (if b < n + 1 then 1 else 0)
    rw [ih]
    by_cases e : n = b
    · rw [e, hq, if_neg (Nat.lt_irrefl b), if_pos (Nat.lt_succ_self b)]
      simp
    · have e2 : (q n || decide (n = b)) = q n := by simp [e]
      rw [e2]
      by_cases l : b < n
      · rw [if_pos l, if_pos (show b < n + 1 by omega)]; omega
      · rw [if_neg l, if_neg (show ¬ b < n + 1 by omega)]; omega
theorem pn_cn_ex {q : Nat → Bool} : ∀ n, pn_cn q n < n → ∃ i, i < n ∧ q i = false
  | 0, h => absurd h (Nat.not_lt_zero _)
  | n + 1, h => by
    cases g : q n with
    | false => exact ⟨n, Nat.lt_succ_self n, g⟩
    | true =>
      rw [pn_cn_s, g, if_pos rfl] at h
      obtain ⟨i, h1, h2⟩ := pn_cn_ex (q := q) n (by omega)
      exact ⟨i, by omega, h2⟩
theorem pn_cn_full {q : Nat → Bool} : ∀ n, pn_cn q n = n → ∀ i, i < n → q i = true
  | 0, _, i, hi => absurd hi (Nat.not_lt_zero _)
  | n + 1, h, i, hi => by
    have hle := pn_cn_le q n
    rw [pn_cn_s] at h
    cases g : q n with
    | false => rw [g, if_neg (by decide)] at h; omega
    | true =>
      rw [g, if_pos rfl] at h
      by_cases e : i = n
      · rw [e, g]
      · exact pn_cn_full n (by omega) i (by omega)
/-- whom a party (g: its likings) has asked when it has asked i times -/
def pb_Q (g : Nat → Int32) (J : Nat) : Nat → (Nat → Bool)
  | 0 => fun _ => false
  | i + 1 => match pn_b g (fun j => !pb_Q g J i j) J with
    | none => pb_Q g J i
    | some b => fun j => pb_Q g J i j || decide (j = b)
def pb_a (g : Nat → Int32) (J i : Nat) : Nat := match pn_b g (fun j => !pb_Q g J i j) J with
  | none => 0
  | some b => b
theorem pb_Q_s (g : Nat → Int32) (J i : Nat) : pb_Q g J (i + 1) = match pn_b g (fun j => !pb_Q g J i j) J with
    | none => pb_Q g J i
    | some b => fun j => pb_Q g J i j || decide (j = b) := rfl
theorem pb_at1 {g : Nat → Int32} {J i : Nat} (hc : pn_cn (pb_Q g J i) J = i) (hi : i < J) : pn_b g (fun j => !pb_Q g J i j) J = some (pb_a g J i) ∧ pb_a g J i < J ∧ pb_Q g J i (pb_a g J i) = false ∧ ∀ j, pb_Q g J (i + 1) j = (pb_Q g J i j || decide (j = pb_a g J i)) := by
  obtain ⟨k, hk, ek⟩ := pn_cn_ex (q := pb_Q g J i) J (by omega)
  obtain ⟨b, hb⟩ := pn_b_some g (fun j => !pb_Q g J i j) J k hk (by simp [ek])
  have ea : pb_a g J i = b := by unfold pb_a; rw [hb]
  obtain ⟨h1, h2⟩ := pn_b_lt _ _ _ _ hb
  rw [ea]
  refine ⟨hb, h1, ?_, fun j => ?_⟩
  · cases h : pb_Q g J i b with
    | false => rfl
    | true => simp [h] at h2
  · rw [pb_Q_s, hb]
theorem pb_cn (g : Nat → Int32) (J : Nat) : ∀ i, i ≤ J → pn_cn (pb_Q g J i) J = i
  | 0, _ => pn_cn_end (i := 0) (Nat.zero_le J) (fun k _ _ => rfl)
  | i + 1, h => by
    have ih := pb_cn g J i (by omega)
    obtain ⟨-, h1, h2, h3⟩ := pb_at1 ih (by omega)
    rw [pn_cn_cg (fun j _ => h3 j), pn_cn_ins h2, if_pos h1, ih]
theorem pb_at {g : Nat → Int32} {J i : Nat} (hi : i < J) : pn_b g (fun j => !pb_Q g J i j) J = some (pb_a g J i) ∧ pb_a g J i < J ∧ pb_Q g J i (pb_a g J i) = false ∧ ∀ j, pb_Q g J (i + 1) j = (pb_Q g J i j || decide (j = pb_a g J i)) := pb_at1 (pb_cn g J i (by omega)) hi
theorem pb_no (g : Nat → Int32) (J : Nat) : pn_b g (fun j => !pb_Q g J J j) J = none := by
  cases h : pn_b g (fun j => !pb_Q g J J j) J with
  | none => rfl
  | some b =>
    obtain ⟨h1, h2⟩ := pn_b_lt _ _ _ _ h
    have := pn_cn_full J (pb_cn g J J (Nat.le_refl J)) b h1
    simp [this] at h2
theorem pb_mono {g : Nat → Int32} {J j : Nat} : ∀ d i, i + d ≤ J → pb_Q g J i j = true → pb_Q g J (i + d) j = true
  | 0, i, _, h => h
  | d + 1, i, hd, h => by
    have ih := pb_mono d i (by omega) h
    obtain ⟨-, -, -, h3⟩ := pb_at (g := g) (J := J) (i := i + d) (by omega)
    show pb_Q g J (i + d + 1) j = true
    rw [h3 j, ih]
    rfl
/-- who has asked (k: how often), who is held (h): those held asked last where they are held, and are liked better than all others who asked there -/
def pb_I (g : Nat → Nat → Int32) (bf : Nat → Nat → Bool) (P J : Nat) (k : Nat → Nat) (h : Nat → Option Nat) : Prop :=
  (∀ p, p < P → k p ≤ J) ∧ (∀ j, j < J → h j = none → ∀ p, p < P → pb_Q (g p) J (k p) j = false) ∧
  (∀ j r, j < J → h j = some r → r < P ∧ 1 ≤ k r ∧ pb_a (g r) J (k r - 1) = j ∧ ∀ q, q < P → q ≠ r → pb_Q (g q) J (k q) j = true → bf r q = true)
/-- each one is held, or has asked all -/
def pb_Z (P J : Nat) (k : Nat → Nat) (h : Nat → Option Nat) : Prop := ∀ p, p < P → k p = J ∨ ∃ j, j < J ∧ h j = some p
/-- no more was asked than in any end -/
def pb_B (g : Nat → Nat → Int32) (bf : Nat → Nat → Bool) (P J : Nat) (k : Nat → Nat) : Prop := ∀ F e, pb_I g bf P J F e → pb_Z P J F e → ∀ p, p < P → k p ≤ F p
def pb_k (k : Nat → Nat) (p : Nat) : Nat → Nat := fun q => if q = p then k q + 1 else k q
def pb_h (bf : Nat → Nat → Bool) (h : Nat → Option Nat) (p j : Nat) : Nat → Option Nat := fun i => if i = j then (match h j with
  | none => some p
  | some r => if bf p r = true then some p else some r) else h i
theorem pb_kp {k : Nat → Nat} {p : Nat} : pb_k k p p = k p + 1 := if_pos rfl
theorem pb_ko {k : Nat → Nat} {p q : Nat} (h : q ≠ p) : pb_k k p q = k q := if_neg h
theorem pb_ho {bf : Nat → Nat → Bool} {h : Nat → Option Nat} {p j i : Nat} (e : i ≠ j) : pb_h bf h p j i = h i := if_neg e
theorem pb_h0 {bf : Nat → Nat → Bool} {h : Nat → Option Nat} {p j : Nat} (e : h j = none) : pb_h bf h p j j = some p := by
  unfold pb_h
  rw [if_pos rfl, e]
theorem pb_h1 {bf : Nat → Nat → Bool} {h : Nat → Option Nat} {p j r : Nat} (e : h j = some r) (hb : bf p r = true) : pb_h bf h p j j = some p := by
  unfold pb_h
  rw [if_pos rfl, e]
  dsimp only
  rw [if_pos hb]
theorem pb_h2 {bf : Nat → Nat → Bool} {h : Nat → Option Nat} {p j r : Nat} (e : h j = some r) (hb : ¬ bf p r = true) : pb_h bf h p j j = some r := by
  unfold pb_h
  rw [if_pos rfl, e]
  dsimp only
  rw [if_neg hb]
section PB
variable {g : Nat → Nat → Int32} {bf : Nat → Nat → Bool} {P J : Nat} {k k' : Nat → Nat} {h h' : Nat → Option Nat} {p : Nat}
theorem pb_held (hI : pb_I g bf P J k h) {j r : Nat} (hj : j < J) (e : h j = some r) : pb_Q (g r) J (k r) j = true := by
  obtain ⟨h1, h2, h3, -⟩ := hI.2.2 j r hj e
  have h4 := hI.1 r h1
  obtain ⟨-, -, -, h5⟩ := pb_at (g := g r) (J := J) (i := k r - 1) (by omega)
  have h6 := h5 j
  rw [show k r - 1 + 1 = k r by omega, h3] at h6
  rw [h6]
  simp
theorem pb_uq (hI : pb_I g bf P J k h) {i j r : Nat} (hi : i < J) (hj : j < J) (e : h i = some r) (e' : h j = some r) : i = j := by
  obtain ⟨-, -, h3, -⟩ := hI.2.2 i r hi e
  obtain ⟨-, -, h4, -⟩ := hI.2.2 j r hj e'
  rw [← h3, ← h4]
theorem pb_step (htot : ∀ a b, a ≠ b → bf a b = true ∨ bf b a = true) (htr : ∀ a b c, bf a b = true → bf b c = true → bf a c = true) (hI : pb_I g bf P J k h) (hp : p < P) (hf : ∀ j, j < J → h j ≠ some p) (hk : k p < J) : pb_I g bf P J (pb_k k p) (pb_h bf h p (pb_a (g p) J (k p))) := by
  obtain ⟨i1, i2, i3⟩ := id hI
  obtain ⟨-, a1, a2, a3⟩ := pb_at (g := g p) (J := J) (i := k p) hk
  obtain ⟨b, eb⟩ : ∃ b, pb_a (g p) J (k p) = b := ⟨_, rfl⟩
  rw [eb] at a1 a2 ⊢
  have qp : ∀ j, pb_Q (g p) J (pb_k k p p) j = (pb_Q (g p) J (k p) j || decide (j = b)) := fun j => by rw [pb_kp, a3 j, eb]
  refine ⟨fun q hq => ?_, fun j hj e q hq => ?_, fun j r hj e => ?_⟩
  · by_cases c : q = p
    · rw [c, pb_kp]; omega
    · rw [pb_ko c]; exact i1 q hq
  · have hjb : j ≠ b := by
      intro c
      rw [c] at e
      cases hh : h b with
      | none => rw [pb_h0 hh] at e; cases e
      | some r =>
        by_cases hb : bf p r = true
        · rw [pb_h1 hh hb] at e; cases e
        · rw [pb_h2 hh hb] at e; cases e
    rw [pb_ho hjb] at e
    by_cases c : q = p
    · rw [c, qp j, i2 j hj e p hp]; simp [hjb]
    · rw [pb_ko c]; exact i2 j hj e q hq
  · by_cases c : j = b
    · rw [c] at e ⊢
      have hjb : b < J := a1
      have won : (∀ q, q < P → q ≠ p → pb_Q (g q) J (k q) b = true → bf p q = true) → p < P ∧ 1 ≤ pb_k k p p ∧ pb_a (g p) J (pb_k k p p - 1) = b ∧ ∀ q, q < P → q ≠ p → pb_Q (g q) J (pb_k k p q) b = true → bf p q = true := by
        intro hw
        refine ⟨hp, by rw [pb_kp]; omega, by rw [pb_kp, Nat.add_sub_cancel]; exact eb, fun q hq hqp hQ => hw q hq hqp ?_⟩
        rw [pb_ko hqp] at hQ
        exact hQ
      cases hh : h b with
      | none =>
        rw [pb_h0 hh] at e
        have e2 : p = r := Option.some.inj e
        rw [← e2]
        exact won (fun q hq _ hQ => by rw [i2 b hjb hh q hq] at hQ; cases hQ)
      | some r0 =>
        obtain ⟨j1, j2, j3, j4⟩ := i3 b r0 hjb hh
        have hrp : r0 ≠ p := fun c => hf b hjb (by rw [hh, c])
        by_cases hb : bf p r0 = true
        · rw [pb_h1 hh hb] at e
          have e2 : p = r := Option.some.inj e
          rw [← e2]
          refine won (fun q hq hqp hQ => ?_)
          by_cases c2 : q = r0
          · rw [c2]; exact hb
          · exact htr _ _ _ hb (j4 q hq c2 hQ)
        · rw [pb_h2 hh hb] at e
          have e2 : r0 = r := Option.some.inj e
          rw [← e2]
          refine ⟨j1, by rw [pb_ko hrp]; exact j2, by rw [pb_ko hrp]; exact j3, fun q hq hqr hQ => ?_⟩
          by_cases c2 : q = p
          · rw [c2]
            rcases htot p r0 hrp.symm with h9 | h9
            · exact absurd h9 hb
            · exact h9
          · rw [pb_ko c2] at hQ
            exact j4 q hq hqr hQ
    · rw [pb_ho c] at e
      obtain ⟨j1, j2, j3, j4⟩ := i3 j r hj e
      have hrp : r ≠ p := fun c => hf j hj (by rw [e, c])
      refine ⟨j1, by rw [pb_ko hrp]; exact j2, by rw [pb_ko hrp]; exact j3, fun q hq hqr hQ => ?_⟩
      by_cases d : q = p
      · rw [d, qp j] at hQ
        have hQ2 : pb_Q (g p) J (k p) j = true := by simpa [c] using hQ
        rw [d]
        exact j4 p hp hrp.symm hQ2
      · rw [pb_ko d] at hQ
        exact j4 q hq hqr hQ
theorem pb_below (has : ∀ a b, bf a b = true → bf b a = true → False) (hI : pb_I g bf P J k h) (hB : pb_B g bf P J k) (hp : p < P) (hf : ∀ j, j < J → h j ≠ some p) (hk : k p < J) : pb_B g bf P J (pb_k k p) := by
  intro F e hF hZ q hq
  have hle := hB F e hF hZ
  by_cases c : q = p
  · rw [c, pb_kp]
    have h1 := hle p hp
    apply Classical.byContradiction
    intro hn
    have eF : F p = k p := by omega
    rcases hZ p hp with h2 | ⟨j, hj, ej⟩
    · omega
    · obtain ⟨-, g2, g3, g4⟩ := hF.2.2 j p hj ej
      have hQ := pb_held hF hj ej
      rw [eF] at hQ
      cases hh : h j with
      | none => rw [hI.2.1 j hj hh p hp] at hQ; cases hQ
      | some r =>
        have hrp : r ≠ p := fun c => hf j hj (by rw [hh, c])
        obtain ⟨r1, -, -, r4⟩ := hI.2.2 j r hj hh
        have b1 := r4 p hp hrp.symm hQ
        have hr := pb_held hI hj hh
        have l1 := hle r r1
        have l2 := hF.1 r r1
        have hr2 := pb_mono (g := g r) (J := J) (j := j) (F r - k r) (k r) (by omega) hr
        rw [show k r + (F r - k r) = F r by omega] at hr2
        exact has _ _ b1 (g4 r r1 hrp hr2)
  · rw [pb_ko c]
    exact hle q hq
theorem pb_same (has : ∀ a b, bf a b = true → bf b a = true → False) (hI : pb_I g bf P J k h) (hI' : pb_I g bf P J k' h') (ek : ∀ p, p < P → k p = k' p) : ∀ j, j < J → h j = h' j := by
  intro j hj
  cases e : h j with
  | none =>
    cases e' : h' j with
    | none => rfl
    | some r =>
      have h1 := pb_held hI' hj e'
      have hr := (hI'.2.2 j r hj e').1
      rw [← ek r hr, hI.2.1 j hj e r hr] at h1
      cases h1
  | some r =>
    have hr := (hI.2.2 j r hj e).1
    have h1 := pb_held hI hj e
    cases e' : h' j with
    | none =>
      rw [ek r hr, hI'.2.1 j hj e' r hr] at h1
      cases h1
    | some r' =>
      have hr' := (hI'.2.2 j r' hj e').1
      have h1' := pb_held hI' hj e'
      by_cases c : r = r'
      · rw [c]
      · exfalso
        rw [ek r hr] at h1
        rw [← ek r' hr'] at h1'
        exact has _ _ ((hI.2.2 j r hj e).2.2.2 r' hr' (fun x => c x.symm) h1') ((hI'.2.2 j r' hj e').2.2.2 r hr c h1)
end PB
def pb_S (k : Nat → Nat) : Nat → Nat
  | 0 => 0
  | n + 1 => pb_S k n + k n
theorem pb_S_up {k : Nat → Nat} {p : Nat} : ∀ n, pb_S (pb_k k p) n = pb_S k n + (if p < n then 1 else 0)
  | 0 => by rw [if_neg (Nat.not_lt_zero p)]; rfl
  | n + 1 => by
    have ih := pb_S_up (k := k) (p := p) n
    show pb_S (pb_k k p) n + pb_k k p n = pb_S k n + k n + (if p < n + 1 then 1 else 0)
    rw [ih]
    by_cases e : n = p
    · rw [e, pb_kp, if_neg (Nat.lt_irrefl p), if_pos (Nat.lt_succ_self p)]; omega
    · rw [pb_ko e]
      by_cases l : p < n
      · rw [if_pos l, if_pos (show p < n + 1 by omega)]; omega
      · rw [if_neg l, if_neg (show ¬ p < n + 1 by omega)]; omega
theorem pb_S_le {k : Nat → Nat} {J : Nat} : ∀ n, (∀ p, p < n → k p ≤ J) → pb_S k n ≤ n * J
  | 0, _ => Nat.zero_le _
  | n + 1, h => by
    have ih := pb_S_le n (fun p hp => h p (by omega))
    have h1 := h n (by omega)
    show pb_S k n + k n ≤ (n + 1) * J
    rw [Nat.succ_mul]
    omega
theorem pb_S_lt {k : Nat → Nat} {J p : Nat} : ∀ n, (∀ q, q < n → k q ≤ J) → p < n → k p < J → pb_S k n < n * J
  | 0, _, h, _ => absurd h (Nat.not_lt_zero p)
  | n + 1, h, hp, hk => by
    have hl := pb_S_le (k := k) (J := J) n (fun q hq => h q (by omega))
    have h1 := h n (by omega)
    show pb_S k n + k n < (n + 1) * J
    rw [Nat.succ_mul]
    by_cases e : p = n
    · rw [e] at hk; omega
    · have := pb_S_lt n (fun q hq => h q (by omega)) (show p < n by omega) hk
      omega
theorem pb_S_0 : ∀ n, pb_S (fun _ => 0) n = 0
  | 0 => rfl
  | n + 1 => by
    show pb_S (fun _ => 0) n + 0 = 0
    rw [pb_S_0 n]
/-! the sets as bits -/
theorem pb_mask {q q' : Nat → Bool} {b n : Nat} (hb : b < n) (hn : n ≤ 6) (h : ∀ j, q' j = (q j || decide (j = b))) : nI (pn_bm q' n) = nI (pn_bm q n) ||| ((1 : Int32) <<< (nI b &&& 31)) := by
  have l1 := pn_bm_lt q n
  have l3 := pn_bm_lt q' n
  have p1 : 2 ^ n ≤ 2 ^ 6 := Nat.pow_le_pow_right (by omega) hn
  have p2 : 2 ^ b ≤ 2 ^ 6 := Nat.pow_le_pow_right (by omega) (by omega)
  have e1 : (1 : Int32) <<< (nI b &&& 31) = nI (2 ^ b) := pu_shl1 ⟨b, by omega⟩
  rw [e1, pu_or (by omega) (by omega)]
  congr 1
  apply Nat.eq_of_testBit_eq
  intro i
  rw [Nat.testBit_or, Nat.testBit_two_pow]
  by_cases hi : i < n
  · rw [pn_bm_tb _ hi, pn_bm_tb _ hi, h i]
    by_cases e : i = b
    · simp [e]
    · have e2 : ¬ b = i := fun x => e x.symm
      simp [e, e2]
  · have g1 : pn_bm q' n < 2 ^ i := Nat.lt_of_lt_of_le l3 (Nat.pow_le_pow_right (by omega) (by omega))
    have g2 : pn_bm q n < 2 ^ i := Nat.lt_of_lt_of_le l1 (Nat.pow_le_pow_right (by omega) (by omega))
    rw [Nat.testBit_lt_two_pow g1, Nat.testBit_lt_two_pow g2]
    have : ¬ b = i := by omega
    simp [this]
theorem pb_bit {q : Nat → Bool} {J j : Nat} (hJ : J ≤ 6) (hj : j < J) : (nI (pn_bm q J) >>> (nI j &&& 31)) &&& 1 = if q j = true then 1 else 0 := by
  have l1 := pn_bm_lt q J
  have p1 : 2 ^ J ≤ 2 ^ 6 := Nat.pow_le_pow_right (by omega) hJ
  rw [pu_bitN (by omega) (by omega), pn_bm_bit q J j hj]
  cases q j <;> rfl
theorem pb_ok {q : Nat → Bool} {J j : Nat} (hJ : J ≤ 6) (hj : j < J) : decide (((nI (pn_bm q J) >>> (nI j &&& 31)) &&& 1) = 0) = !q j := by
  rw [pb_bit hJ hj]
  cases q j <;> rfl
theorem pb_ones : ∀ n, pn_bm (fun _ => true) n + 1 = 2 ^ n
  | 0 => rfl
  | n + 1 => by
    have ih := pb_ones n
    show pn_bm (fun _ => true) n + (if true = true then 2 ^ n else 0) + 1 = 2 ^ (n + 1)
    rw [if_pos rfl, Nat.pow_succ]
    omega
theorem pb_full {g : Nat → Int32} {J i : Nat} (hi : i ≤ J) : pn_bm (pb_Q g J i) J + 1 = 2 ^ J ↔ i = J := by
  constructor
  · intro h
    apply Classical.byContradiction
    intro hn
    obtain ⟨-, a1, a2, -⟩ := pb_at (g := g) (J := J) (i := i) (by omega)
    have e : pn_bm (pb_Q g J i) J = pn_bm (fun _ => true) J := by have := pb_ones J; omega
    have b1 := pn_bm_bit (pb_Q g J i) J _ a1
    have b2 := pn_bm_bit (fun _ => true) J _ a1
    rw [e, b2, a2] at b1
    simp at b1
  · intro h
    rw [h, pn_bm_cg (q' := fun _ => true) (fun j hj => pn_cn_full J (pb_cn g J J (Nat.le_refl J)) j hj)]
    exact pb_ones J
/-! who is liked better -/
def pb_g (s : Nat → Int32) (p : Nat) : Nat → Int32 := pn_lk s (nI p) (s (5 + p))
def pb_bf (s : Nat → Int32) (p q : Nat) : Bool := decide ((s (11 + p)).toInt < (s (11 + q)).toInt ∨ ((s (11 + p)).toInt = (s (11 + q)).toInt ∧ p < q))
theorem pb_tot (s : Nat → Int32) : ∀ a b, a ≠ b → pb_bf s a b = true ∨ pb_bf s b a = true := by
  intro a b h
  unfold pb_bf
  rw [decide_eq_true_eq, decide_eq_true_eq]
  omega
theorem pb_tr (s : Nat → Int32) : ∀ a b c, pb_bf s a b = true → pb_bf s b c = true → pb_bf s a c = true := by
  intro a b c
  unfold pb_bf
  rw [decide_eq_true_eq, decide_eq_true_eq, decide_eq_true_eq]
  omega
theorem pb_as (s : Nat → Int32) : ∀ a b, pb_bf s a b = true → pb_bf s b a = true → False := by
  intro a b
  unfold pb_bf
  rw [decide_eq_true_eq, decide_eq_true_eq]
  omega
theorem pb_more {N : Nat} {x : Nat → Int32} {a : Nat → Nat → Int32} {s : Nat → Int32} {P J C X S p r : Nat} (hV : pn_V s P J C X S) (hC : pn_C x a s P J C) (hp : p < P) (hr : r < P) : f_X3_isLikedMore N (a 1) (nI p) (nI r) = some (if pb_bf s p r = true then 1 else 0) := by
  obtain ⟨⟨p1, p2⟩, -, -, -, -, -, -, hg, -⟩ := hV
  obtain ⟨-, h0, h1, -⟩ := hC
  obtain ⟨gp, hgp, egp⟩ := hg p hp
  obtain ⟨gr, hgr, egr⟩ := hg r hr
  unfold f_X3_isLikedMore pb_bf
  rw [pu_gd (by omega) (by omega), pu_gd (by omega) (by omega), pu_l, nI_clamp (by omega), nI_clamp (by omega), h1 p hp, h1 r hr, egp, egr, pu_j, pu_b1, pu_b0, nI_toInt (by omega), nI_toInt (by omega)]
  have e := pk_sub_toInt (a := gr) (b := gp) (by omega) (by omega)
  have z0 : (0 : Int32).toInt = 0 := rfl
  by_cases c1 : gp < gr
  · rw [if_pos (show (0 : Int32) < nI gr - nI gp by rw [pu_lt, z0, e]; omega), if_pos (by rw [decide_eq_true_eq]; omega)]
  · rw [if_neg (show ¬ (0 : Int32) < nI gr - nI gp by rw [pu_lt, z0, e]; omega)]
    by_cases c2 : gp = gr
    · rw [if_pos (show nI gr - nI gp = 0 by rw [pu_eqi, z0, e]; omega)]
      by_cases c3 : r ≤ p
      · rw [if_pos ((nI_leI (by omega) (by omega)).mpr c3), if_neg (by rw [decide_eq_true_eq]; omega)]
      · rw [if_neg (fun h => c3 ((nI_leI (by omega) (by omega)).mp h)), if_pos (by rw [decide_eq_true_eq]; omega)]
    · rw [if_neg (show ¬ nI gr - nI gp = 0 by rw [pu_eqi, z0, e]; omega), if_neg (by rw [decide_eq_true_eq]; omega)]
theorem pb_isBefore {N : Nat} {s : Nat → Int32} {P J C X S p r : Nat} (hV : pn_V s P J C X S) (hp : p < P) (hr : r < P) : f_X8_isBefore N s (nI p) (nI r) = some (if pb_bf s p r = true then 1 else 0) := by
  obtain ⟨⟨p1, p2⟩, -, -, -, -, -, -, hg, -⟩ := hV
  obtain ⟨gp, hgp, egp⟩ := hg p hp
  obtain ⟨gr, hgr, egr⟩ := hg r hr
  unfold f_X8_isBefore pb_bf
  simp (disch := omega) only [pu_lit 11, nI_add, pu_gd, pu_j, nI_clamp, egp, egr, pu_b1, pu_b0, nI_toInt]
  by_cases c1 : gp < gr
  · rw [if_pos (show nI gp < nI gr from (nI_ltI (by omega) (by omega)).mpr c1), if_pos (by rw [decide_eq_true_eq]; omega)]
  · rw [if_neg (show ¬ nI gp < nI gr from fun h => c1 ((nI_ltI (by omega) (by omega)).mp h))]
    by_cases c2 : gp = gr
    · rw [if_pos (show nI gp = nI gr by rw [c2])]
      by_cases c3 : r ≤ p
      · rw [if_pos ((nI_leI (by omega) (by omega)).mpr c3), if_neg (by rw [decide_eq_true_eq]; omega)]
      · rw [if_neg (fun h => c3 ((nI_leI (by omega) (by omega)).mp h)), if_pos (by rw [decide_eq_true_eq]; omega)]
    · rw [if_neg (show ¬ nI gp = nI gr from fun h => c2 ((nI_eq (by omega) (by omega)).mp h)), if_neg (by rw [decide_eq_true_eq]; omega)]
