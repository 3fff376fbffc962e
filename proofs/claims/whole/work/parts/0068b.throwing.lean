/-! ===== throwing ===== -/
theorem pm_opop {s : Nat → Int32} {P J C X S c : Nat} {p : Int32} (hV : pn_V s P J C X S) (hc : c < C) (ho : pm_ow s c p = true) : pn_op s c (pn_op s c p) = p := by
  obtain ⟨⟨p1, p2⟩, -, -, -, -, -, hk, hg, hl, hf, hab, hw⟩ := hV
  obtain ⟨a, b, ha, hb, hne, ea, eb⟩ := hab c hc
  have hab' : s (35 + c) ≠ s (47 + c) := by
    rw [ea, eb]
    exact fun e => hne ((nI_eq (by omega) (by omega)).mp e)
  unfold pm_ow at ho
  rw [decide_eq_true_eq] at ho
  unfold pn_op
  rcases ho with h | h
  · rw [if_pos h.symm, if_neg (fun e => hab' e.symm), h]
  · by_cases e : p = s (35 + c)
    · rw [if_pos e, if_neg (fun e => hab' e.symm), e]
    · rw [if_neg e, if_pos rfl, h]
theorem pm_ow_op {s : Nat → Int32} {c : Nat} {p : Int32} : pm_ow s c (pn_op s c p) = true := by
  unfold pm_ow
  rw [decide_eq_true_eq]
  rcases pm_op_or s c p with h | h
  · exact Or.inl h.symm
  · exact Or.inr h.symm
theorem pm_ow_f {s : Nat → Int32} {c j : Nat} {l : Int32} : pm_ow s c (pn_f s j l c) = true := by
  unfold pm_ow
  rw [decide_eq_true_eq]
  rcases pm_f_or s c j l with h | h
  · exact Or.inl h.symm
  · exact Or.inr h.symm
/-- whom a party of the case names, having lost it -/
theorem pm_nby {N : Nat} {x : Nat → Int32} {a : Nat → Nat → Int32} {s : Nat → Int32} {P J C X S j c : Nat} {p : Int32} (hN : 10 < N) (hV : pn_V s P J C X S) (hC : pn_C x a s P J C) (hj : j < J) (hc : c < C) (ho : pm_ow s c p = true) : f_X1_namedBy N (nI J) (a 0) (a 3) (a 4) p (nI j) = some (nI (pm_n s j c (pn_op s c p))) := by
  obtain ⟨lo, hlo, elo, e1, -⟩ := pm_n_at hV hj hc (pn_op s c p)
  rw [pm_opop hV hc ho] at elo
  unfold f_X1_namedBy
  rw [elo]
  rw [elo] at e1
  obtain ⟨⟨p1, p2⟩, ⟨j1, j2⟩, ⟨c1, c2⟩, x2, s2, ⟨eP, eJ, eC, eX, eS⟩, -⟩ := hV
  obtain ⟨-, h0, h1, h2, h3, h4, h5, h6, h7, h8⟩ := hC
  rw [pu_gd (by omega) (by omega), nI_clamp (by omega), h0 lo hlo, pu_named1 hN eJ j1 j2 hj h3 h4, pu_cs, e1]
theorem pm_D_e (s : Nat → Int32) (p : Int32) (q : Nat → Bool) : ∀ (d c j : Nat), pm_D s p q (d + 1) c j = pm_n s (pm_D s p q d c j) (c + d) (pn_wn s (c + d) (pm_D s p q d c j) (pm_th p q (c + d)))
  | 0, c, j => rfl
  | d + 1, c, j => by
    rw [pm_D_s, pm_D_e s p q d (c + 1), ← pm_D_s, show c + 1 + d = c + (d + 1) by omega]
theorem pm_D_lt {s : Nat → Int32} {P J C X S : Nat} {p : Int32} {q : Nat → Bool} (hV : pn_V s P J C X S) : ∀ (d c j : Nat), c + d ≤ C → j < J → pm_D s p q d c j < J
  | 0, c, j, _, hj => hj
  | d + 1, c, j, h, hj => by
    rw [pm_D_s]
    exact pm_D_lt hV d (c + 1) _ (by omega) (pm_n_lt hV hj (by omega) _)
theorem pm_bm_up {q : Nat → Bool} {c : Nat} (h : q c = false) : ∀ n, pn_bm (fun k => if k = c then true else q k) n = pn_bm q n + (if c < n then 2 ^ c else 0)
  | 0 => by rw [if_neg (Nat.not_lt_zero c)]; rfl
  | n + 1 => by
    have ih := pm_bm_up h n
    show pn_bm (fun k => if k = c then true else q k) n + (if (if n = c then true else q n) = true then 2 ^ n else 0) = pn_bm q n + (if q n = true then 2 ^ n else 0) + (if c < n + 1 then 2 ^ c else 0)
    rw [ih]
    by_cases e : n = c
    · subst e
      rw [if_neg (Nat.lt_irrefl n), if_pos (rfl : n = n), if_pos rfl, h, if_neg (by decide), if_pos (Nat.lt_succ_self n)]
    · rw [if_neg e]
      by_cases l : c < n
      · rw [if_pos l, if_pos (show c < n + 1 by omega)]
        omega
      · rw [if_neg l, if_neg (show ¬ c < n + 1 by omega)]
        omega
theorem pm_cn_up {q : Nat → Bool} {c : Nat} (h : q c = false) : ∀ n, pn_cn (fun k => if k = c then true else q k) n = pn_cn q n + (if c < n then 1 else 0)
  | 0 => by rw [if_neg (Nat.not_lt_zero c)]; rfl
  | n + 1 => by
    have ih := pm_cn_up h n
    show pn_cn (fun k => if k = c then true else q k) n + (if (if n = c then true else q n) = true then 1 else 0) = pn_cn q n + (if q n = true then 1 else 0) + (if c < n + 1 then 1 else 0)
    rw [ih]
    by_cases e : n = c
    · subst e
      rw [if_neg (Nat.lt_irrefl n), if_pos (rfl : n = n), if_pos rfl, h, if_neg (by decide), if_pos (Nat.lt_succ_self n)]
    · rw [if_neg e]
      by_cases l : c < n
      · rw [if_pos l, if_pos (show c < n + 1 by omega)]
        omega
      · rw [if_neg l, if_neg (show ¬ c < n + 1 by omega)]
        omega
theorem pm_bm_of (m : Nat) : ∀ n, pn_bm (fun k => m.testBit k) n = m % 2 ^ n
  | 0 => by
    rw [Nat.pow_zero, Nat.mod_one]
    rfl
  | n + 1 => by
    show pn_bm (fun k => m.testBit k) n + (if m.testBit n = true then 2 ^ n else 0) = _
    rw [pm_bm_of m n, Nat.mod_pow_succ]
    have h2 : m / 2 ^ n % 2 < 2 := Nat.mod_lt _ (by omega)
    by_cases h : m.testBit n = true
    · rw [if_pos h, (pu_tbN m n).mp h, Nat.mul_one]
    · have : m / 2 ^ n % 2 = 0 := by
        have hx : ¬ m / 2 ^ n % 2 = 1 := fun e => h ((pu_tbN m n).mpr e)
        omega
      rw [if_neg h, this, Nat.mul_zero]
/-- a set of throws with its number of throws above it -/
def pm_en (q : Nat → Bool) : Nat := 4096 * pn_cn q 12 + pn_bm q 12
/-- throws that may be: its own cases from X on, ahead of c -/
def pm_va (s : Nat → Int32) (p : Int32) (X c : Nat) (q : Nat → Bool) : Prop := ∀ k, q k = true → (X ≤ k ∧ k < c) ∧ pm_ow s k p = true
theorem pm_en_lt {q : Nat → Bool} : pm_en q < 1048576 ∧ pm_en q % 4096 = pn_bm q 12 := by
  have h1 := pn_bm_lt q 12
  have h2 := pn_cn_le q 12
  unfold pm_en
  omega
/-- what the class' row of judges holds when the cases ahead of c were gone through -/
def pm_H (s : Nat → Int32) (p : Int32) (J X S c : Nat) (H : Nat → Nat) : Prop :=
  (∀ j, j < J → H j ≤ 1048576) ∧ (∀ q, pm_va s p X c q → H (pm_D s p q (c - X) X S) ≤ pm_en q) ∧ (∀ j, j < J → H j < 1048576 → ∃ q, pm_va s p X c q ∧ pm_D s p q (c - X) X S = j ∧ H j = pm_en q)
/-- the row while the judges ahead of j are gone through -/
def pm_T (s : Nat → Int32) (p : Int32) (J c : Nat) (H T : Nat → Nat) (j : Nat) : Prop :=
  (∀ i, i < J → T i ≤ 1048576) ∧
  (∀ i, i < j → H i < 1048576 → T (pm_n s i c (pn_f s i (s (23 + i)) c)) ≤ H i ∧ (pm_ow s c p = true → T (pm_n s i c (pn_op s c p)) ≤ H i + 4096 + 2 ^ c)) ∧
  (∀ i, i < J → T i < 1048576 → ∃ k, k < j ∧ H k < 1048576 ∧ ((i = pm_n s k c (pn_f s k (s (23 + k)) c) ∧ T i = H k) ∨ (pm_ow s c p = true ∧ i = pm_n s k c (pn_op s c p) ∧ T i = H k + 4096 + 2 ^ c)))
theorem pm_T_H {s : Nat → Int32} {P J C X S c : Nat} {p : Int32} {H T : Nat → Nat} (hV : pn_V s P J C X S) (hX : X ≤ c) (hc : c < C) (hH : pm_H s p J X S c H) (hT : pm_T s p J c H T J) : pm_H s p J X S (c + 1) T := by
  obtain ⟨a1, a2, a3⟩ := hH
  obtain ⟨b1, b2, b3⟩ := hT
  have hS := hV.2.2.2.2.1
  have hC12 := hV.2.2.1.2
  have hcd : X + (c - X) = c := by omega
  refine ⟨b1, fun q hq => ?_, fun j hj hlt => ?_⟩
  · have hD : ∀ q', (∀ k, X ≤ k → k < c → q' k = q k) → pm_D s p q (c - X) X S = pm_D s p q' (c - X) X S := fun q' h => pm_D_cg _ _ _ (fun k h1 h2 => (h k h1 (by omega)).symm)
    rw [show c + 1 - X = c - X + 1 by omega, pm_D_e, hcd]
    cases hqc : q c with
    | false =>
      have hv : pm_va s p X c q := fun k hk => by
        have := hq k hk
        refine ⟨⟨this.1.1, ?_⟩, this.2⟩
        have : k ≠ c := fun e => by rw [e, hqc] at hk; cases hk
        omega
      have h1 := a2 q hv
      have hl := pm_D_lt (p := p) (q := q) hV (c - X) X S (by omega) hS
      have e : pm_th p q c = -4 := by unfold pm_th; rw [hqc]; rfl
      rw [e, pm_wn_none hV hc]
      have h2 := (b2 _ hl (by have := (pm_en_lt (q := q)).1; omega)).1
      omega
    | true =>
      have ho := (hq c hqc).2
      obtain ⟨q0, e0⟩ : ∃ q0 : Nat → Bool, ∀ k, q0 k = if k = c then false else q k := ⟨_, fun _ => rfl⟩
      have hq0 : q0 c = false := by rw [e0 c, if_pos rfl]
      have hup : (fun k => if k = c then true else q0 k) = q := by
        funext k
        by_cases e : k = c
        · rw [if_pos e, e, hqc]
        · rw [if_neg e, e0 k, if_neg e]
      have hv : pm_va s p X c q0 := fun k hk => by
        by_cases e : k = c
        · rw [e, hq0] at hk; cases hk
        · rw [e0 k, if_neg e] at hk
          have := hq k hk
          exact ⟨⟨this.1.1, by omega⟩, this.2⟩
      have h1 := a2 _ hv
      have hDe := hD q0 (fun k _ h2 => by rw [e0 k, if_neg (by omega)])
      rw [← hDe] at h1
      have hl := pm_D_lt (p := p) (q := q) hV (c - X) X S (by omega) hS
      have e : pm_th p q c = p := by unfold pm_th; rw [hqc]; rfl
      rw [e, pm_wn_own ho]
      have h2 := (b2 _ hl (by have := (pm_en_lt (q := q0)).1; omega)).2 ho
      have u1 := pm_bm_up hq0 12
      have u2 := pm_cn_up hq0 12
      rw [hup, if_pos (show c < 12 by omega)] at u1 u2
      unfold pm_en at h1 ⊢
      omega
  · obtain ⟨k, hk, hHk, hor⟩ := b3 j hj hlt
    obtain ⟨q, hq, eD, eH⟩ := a3 k hk hHk
    have hqc : q c = false := by
      cases h : q c with
      | false => rfl
      | true => have := (hq c h).1; omega
    rcases hor with ⟨e1, e2⟩ | ⟨ho, e1, e2⟩
    · refine ⟨q, fun i hi => ?_, ?_, by rw [e2, eH]⟩
      · have := hq i hi
        exact ⟨by omega, this.2⟩
      · have e : pm_th p q c = -4 := by unfold pm_th; rw [hqc]; rfl
        rw [show c + 1 - X = c - X + 1 by omega, pm_D_e, hcd, e, pm_wn_none hV hc, eD, e1]
    · refine ⟨fun i => if i = c then true else q i, fun i hi => ?_, ?_, ?_⟩
      · by_cases e : i = c
        · subst e
          exact ⟨by omega, ho⟩
        · simp only [e, if_false] at hi
          have := hq i hi
          exact ⟨by omega, this.2⟩
      · have e : pm_th p (fun i => if i = c then true else q i) c = p := by unfold pm_th; simp only [if_true]
        have eD2 : pm_D s p (fun i => if i = c then true else q i) (c - X) X S = pm_D s p q (c - X) X S := pm_D_cg _ _ _ (fun i h1 h2 => by simp only [show ¬ i = c by omega, if_false])
        rw [show c + 1 - X = c - X + 1 by omega, pm_D_e, hcd, e, pm_wn_own ho, eD2, eD, e1]
      · have u1 := pm_bm_up hqc 12
        have u2 := pm_cn_up hqc 12
        rw [if_pos (show c < 12 by omega)] at u1 u2
        unfold pm_en at eH ⊢
        rw [u1, u2, e2, eH]
        omega
theorem pm_min {a b : Nat} (ha : a < 2 ^ 31) (hb : b < 2 ^ 31) : (if nI a < nI b then nI a else nI b) = nI (if a < b then a else b) := by
  by_cases h : a < b
  · rw [if_pos h, if_pos ((nI_ltI ha hb).mpr h)]
  · rw [if_neg h, if_neg (fun e => h ((nI_ltI ha hb).mp e))]
/-- one judge's part -/
theorem pm_T_step {s : Nat → Int32} {P J C X S c j : Nat} {p : Int32} {H T : Nat → Nat} (hV : pn_V s P J C X S) (hc : c < C) (hj : j < J) (hT : pm_T s p J c H T j) (hlt : H j < 1048576) {T1 T2 : Nat → Nat} (e1 : ∀ i, T1 i = if i = pm_n s j c (pn_f s j (s (23 + j)) c) then (if H j < T i then H j else T i) else T i) (e2 : ∀ i, T2 i = if pm_ow s c p = true ∧ i = pm_n s j c (pn_op s c p) then (if H j + 4096 + 2 ^ c < T1 i then H j + 4096 + 2 ^ c else T1 i) else T1 i) : pm_T s p J c H T2 (j + 1) := by
  obtain ⟨b1, b2, b3⟩ := hT
  have t1 : ∀ i, T1 i ≤ T i := by
    intro i
    rw [e1 i]
    split
    · split <;> omega
    · omega
  have t2 : ∀ i, T2 i ≤ T1 i := by
    intro i
    rw [e2 i]
    split
    · split <;> omega
    · omega
  refine ⟨fun i hi => by have := b1 i hi; have := t1 i; have := t2 i; omega, fun i hi hl => ?_, fun i hi hl => ?_⟩
  · by_cases e : i = j
    · subst e
      constructor
      · have h1 := e1 (pm_n s i c (pn_f s i (s (23 + i)) c))
        rw [if_pos rfl] at h1
        have h2 := t2 (pm_n s i c (pn_f s i (s (23 + i)) c))
        have : T1 (pm_n s i c (pn_f s i (s (23 + i)) c)) ≤ H i := by rw [h1]; split <;> omega
        omega
      · intro ho
        have h1 := e2 (pm_n s i c (pn_op s c p))
        rw [if_pos ⟨ho, rfl⟩] at h1
        rw [h1]
        split <;> omega
    · have h := b2 i (by omega) hl
      refine ⟨?_, fun ho => ?_⟩
      · have := t1 (pm_n s i c (pn_f s i (s (23 + i)) c))
        have := t2 (pm_n s i c (pn_f s i (s (23 + i)) c))
        omega
      · have := t1 (pm_n s i c (pn_op s c p))
        have := t2 (pm_n s i c (pn_op s c p))
        have := h.2 ho
        omega
  · have old : T i < 1048576 → T2 i = T i → ∃ k, k < j + 1 ∧ H k < 1048576 ∧ ((i = pm_n s k c (pn_f s k (s (23 + k)) c) ∧ T2 i = H k) ∨ (pm_ow s c p = true ∧ i = pm_n s k c (pn_op s c p) ∧ T2 i = H k + 4096 + 2 ^ c)) := by
      intro h1 h2
      obtain ⟨k, hk, hHk, hor⟩ := b3 i hi h1
      rw [← h2] at hor
      exact ⟨k, by omega, hHk, hor⟩
    have one : T2 i = T1 i → ∃ k, k < j + 1 ∧ H k < 1048576 ∧ ((i = pm_n s k c (pn_f s k (s (23 + k)) c) ∧ T2 i = H k) ∨ (pm_ow s c p = true ∧ i = pm_n s k c (pn_op s c p) ∧ T2 i = H k + 4096 + 2 ^ c)) := by
      intro h2
      have h1 := e1 i
      by_cases ei : i = pm_n s j c (pn_f s j (s (23 + j)) c)
      · rw [if_pos ei] at h1
        by_cases hh : H j < T i
        · rw [if_pos hh] at h1
          exact ⟨j, by omega, hlt, Or.inl ⟨ei, by rw [h2, h1]⟩⟩
        · rw [if_neg hh] at h1
          exact old (by omega) (by omega)
      · rw [if_neg ei] at h1
        exact old (by omega) (by omega)
    have h2 := e2 i
    by_cases ei : pm_ow s c p = true ∧ i = pm_n s j c (pn_op s c p)
    · rw [if_pos ei] at h2
      by_cases hh : H j + 4096 + 2 ^ c < T1 i
      · rw [if_pos hh] at h2
        exact ⟨j, by omega, hlt, Or.inr ⟨ei.1, ei.2, h2⟩⟩
      · rw [if_neg hh] at h2
        exact one h2
    · rw [if_neg ei] at h2
      exact one h2
theorem pm_spread {N : Nat} {x : Nat → Int32} {a : Nat → Nat → Int32} {s here th : Nat → Int32} {P J C X S c j : Nat} {p : Int32} {H T : Nat → Nat} (hN : 10 < N) (hV : pn_V s P J C X S) (hC : pn_C x a s P J C) (hc : c < C) (hj : j < J) (hT : pm_T s p J c H T j) (hh : ∀ i, i < J → here i = nI (H i) ∧ H i ≤ 1048576) (ht : ∀ i, i < J → th i = nI (T i)) : ∃ th' T', f_X3_spreadThrows N here th (nI J) (a 0) (a 3) (a 4) (a 5) (a 6) (a 7) p (nI c) (nI j) = some th' ∧ (∀ i, i < J → th' i = nI (T' i)) ∧ pm_T s p J c H T' (j + 1) := by
  have hJ6 := hV.2.1.2
  have hC12 := hV.2.2.1.2
  have hp : 2 ^ c ≤ 2 ^ 12 := Nat.pow_le_pow_right (by omega) (by omega)
  obtain ⟨eh, hle⟩ := hh j hj
  unfold f_X3_spreadThrows
  rw [pu_gd (by omega) (by omega), nI_clamp (by omega), eh]
  by_cases hlt : H j < 1048576
  · rw [if_pos (show nI (H j) < 1048576 by rw [pu_lit 1048576, nI_ltI (by omega) (by omega)]; exact hlt), pm_wb hV hC hj hc, pu_cs, pm_sits hN hV hC hj hc, pu_cs]
    have hn := pm_n_lt hV hj hc (pn_f s j (s (23 + j)) c)
    have hn2 := pm_n_lt hV hj hc (pn_op s c p)
    have b1 := hT.1 _ hn
    rw [pu_gd (by omega) (by omega), pu_gd (by omega) (by omega), pu_gd (by omega) (by omega), pu_l, nI_clamp (by omega), ht _ hn, pm_min (by omega) (by omega), pm_own hV hC hc, pu_cs]
    obtain ⟨T1, hT1⟩ : ∃ T1 : Nat → Nat, ∀ i, T1 i = if i = pm_n s j c (pn_f s j (s (23 + j)) c) then (if H j < T i then H j else T i) else T i := ⟨_, fun _ => rfl⟩
    have g1 : ∀ i, i < J → upd th (pm_n s j c (pn_f s j (s (23 + j)) c)) (nI (if H j < T (pm_n s j c (pn_f s j (s (23 + j)) c)) then H j else T (pm_n s j c (pn_f s j (s (23 + j)) c)))) i = nI (T1 i) := by
      intro i hi
      rw [hT1 i]
      by_cases e : i = pm_n s j c (pn_f s j (s (23 + j)) c)
      · rw [if_pos e, e, pu_us]
      · rw [if_neg e, pu_un e, ht i hi]
    have hT1le : ∀ i, i < J → T1 i ≤ 1048576 := by
      intro i hi
      have := hT.1 i hi
      rw [hT1 i]
      split
      · split <;> omega
      · omega
    obtain ⟨T2, hT2⟩ : ∃ T2 : Nat → Nat, ∀ i, T2 i = if pm_ow s c p = true ∧ i = pm_n s j c (pn_op s c p) then (if H j + 4096 + 2 ^ c < T1 i then H j + 4096 + 2 ^ c else T1 i) else T1 i := ⟨_, fun _ => rfl⟩
    have hfin := pm_T_step hV hc hj hT hlt hT1 hT2
    by_cases ho : pm_ow s c p = true
    · rw [pu_f1 ho, pm_nby hN hV hC hj hc ho, pu_cs]
      have e1 : (1 : Int32) <<< (nI c &&& 31) = nI (2 ^ c) := pu_shl1 ⟨c, by omega⟩
      have b2 := hT1le _ hn2
      rw [pu_gd (by omega) (by omega), pu_gd (by omega) (by omega), pu_gd (by omega) (by omega), pu_l, nI_clamp (by omega), e1, pu_lit 4096, nI_add, nI_add, g1 _ hn2, pm_min (by omega) (by omega)]
      refine ⟨_, T2, rfl, fun i hi => ?_, hfin⟩
      rw [hT2 i]
      by_cases e : i = pm_n s j c (pn_op s c p)
      · rw [if_pos (show pm_ow s c p = true ∧ i = pm_n s j c (pn_op s c p) from ⟨ho, e⟩), e, pu_us]
      · rw [if_neg (show ¬ (pm_ow s c p = true ∧ i = pm_n s j c (pn_op s c p)) from fun h => e h.2), pu_un e, g1 i hi]
    · rw [pu_f0 ho]
      refine ⟨_, T2, rfl, fun i hi => ?_, hfin⟩
      rw [hT2 i, if_neg (show ¬ (pm_ow s c p = true ∧ i = pm_n s j c (pn_op s c p)) from fun h => ho h.1), g1 i hi]
  · rw [if_neg (show ¬ nI (H j) < 1048576 by rw [pu_lit 1048576, nI_ltI (by omega) (by omega)]; exact hlt)]
    refine ⟨th, T, rfl, ht, hT.1, fun i hi hl => ?_, fun i hi hl => ?_⟩
    · by_cases e : i = j
      · subst e; exact absurd hl hlt
      · exact hT.2.1 i (by omega) hl
    · obtain ⟨k, hk, h⟩ := hT.2.2 i hi hl
      exact ⟨k, by omega, h⟩
theorem pm_fw_in {N : Nat} {x : Nat → Int32} {a : Nat → Nat → Int32} {s here : Nat → Int32} {P J C X S c : Nat} {p : Int32} {H : Nat → Nat} {kL : Int32 → (Nat → Int32) → (Nat → Int32) → Option (Int32 × (Nat → Int32) × (Nat → Int32))} (hN : 10 < N) (hV : pn_V s P J C X S) (hC : pn_C x a s P J C) (hc : c < C) (hh : ∀ i, i < J → here i = nI (H i) ∧ H i ≤ 1048576) : ∀ (d j n : Nat) (th : Nat → Int32) (T : Nat → Nat), j + d = J → d < n → pm_T s p J c H T j → (∀ i, i < J → th i = nI (T i)) → ∃ r th' T', pq_w (fun _ _ => none) (f_X3_fewestThrows_L43 N (nI J) (a 0) (a 3) (a 4) (a 5) (a 6) (a 7) p (nI c) here kL) n (nI j) th = kL (nI (c + 1)) r th' ∧ pm_T s p J c H T' J ∧ ∀ i, i < J → r i = nI (T' i)
  | 0, j, n, th, T, h1, h2, hT, ht => by
    obtain ⟨n, rfl⟩ : ∃ t, n = t + 1 := ⟨n - 1, by omega⟩
    have hJ6 := hV.2.1.2
    rw [pu_w]
    unfold f_X3_fewestThrows_L43
    rw [if_pos (by rw [nI_leI (by omega) (by omega)]; omega), pm_move, pu_cs, pu_l, nI_1]
    refine ⟨_, th, T, rfl, ?_, fun i hi => by rw [pu_cpy (by omega)]; exact ht i hi⟩
    rw [show J = j by omega] at hT ⊢
    exact hT
  | d + 1, j, n, th, T, h1, h2, hT, ht => by
    obtain ⟨n, rfl⟩ : ∃ t, n = t + 1 := ⟨n - 1, by omega⟩
    have hJ6 := hV.2.1.2
    have ih := pm_fw_in (kL := kL) (p := p) hN hV hC hc hh d (j + 1) n
    rw [pu_w]
    generalize pq_w (fun _ _ => none) (f_X3_fewestThrows_L43 N (nI J) (a 0) (a 3) (a 4) (a 5) (a 6) (a 7) p (nI c) here kL) n = kk at ih ⊢
    obtain ⟨th', T', e1, e2, e3⟩ := pm_spread hN hV hC hc (show j < J by omega) hT hh ht
    unfold f_X3_fewestThrows_L43
    rw [if_neg (by rw [nI_leI (by omega) (by omega)]; omega), e1, pu_cs, pu_l, nI_1]
    exact ih th' T' (by omega) (by omega) e3 e2
/-- the least of those who would find for p -/
theorem pm_fw_end {N : Nat} {x : Nat → Int32} {a : Nat → Nat → Int32} {s here th : Nat → Int32} {P J C X S c : Nat} {p : Int32} {H : Nat → Nat} (hV : pn_V s P J C X S) (hC : pn_C x a s P J C) (hc : c < C) (hh : ∀ i, i < J → here i = nI (H i) ∧ H i ≤ 1048576) : ∀ (d j n L : Nat), j + d = J → d < n → L ≤ 1048576 → (∀ i, i < j → pn_f s i (s (23 + i)) c = p → L ≤ H i) → (L < 1048576 → ∃ i, i < J ∧ pn_f s i (s (23 + i)) c = p ∧ L = H i) → ∃ L', pq_w (fun _ _ => none) (f_X3_fewestThrows_L85 N (nI J) (a 3) (a 4) (a 5) (a 6) (a 7) p (nI c) here th) n (nI L) (nI j) = some (if L' < 1048576 then nI (L' % 4096) else -4, here, th) ∧ (∀ i, i < J → pn_f s i (s (23 + i)) c = p → L' ≤ H i) ∧ (L' < 1048576 → ∃ i, i < J ∧ pn_f s i (s (23 + i)) c = p ∧ L' = H i)
  | 0, j, n, L, h1, h2, hL, g1, g2 => by
    obtain ⟨n, rfl⟩ : ∃ t, n = t + 1 := ⟨n - 1, by omega⟩
    have hJ6 := hV.2.1.2
    rw [pu_w]
    unfold f_X3_fewestThrows_L85
    rw [if_pos (by rw [nI_leI (by omega) (by omega)]; omega)]
    refine ⟨L, ?_, fun i hi => g1 i (by omega), g2⟩
    rw [pu_lit 1048576]
    by_cases hl : L < 1048576
    · rw [if_pos ((nI_ltI (by omega) (by omega)).mpr hl), if_pos hl, pu_lit 4096, pk_rem (by omega) (by omega) (by omega)]
    · rw [if_neg (fun h => hl ((nI_ltI (by omega) (by omega)).mp h)), if_neg hl]
  | d + 1, j, n, L, h1, h2, hL, g1, g2 => by
    obtain ⟨n, rfl⟩ : ∃ t, n = t + 1 := ⟨n - 1, by omega⟩
    have hJ6 := hV.2.1.2
    have ih := pm_fw_end (N := N) (th := th) (p := p) hV hC hc hh d (j + 1) n
    rw [pu_w]
    generalize pq_w (fun _ _ => none) (f_X3_fewestThrows_L85 N (nI J) (a 3) (a 4) (a 5) (a 6) (a 7) p (nI c) here th) n = kk at ih ⊢
    obtain ⟨eh, hle⟩ := hh j (by omega)
    unfold f_X3_fewestThrows_L85
    rw [if_neg (by rw [nI_leI (by omega) (by omega)]; omega), pm_wb hV hC (by omega) hc, pu_cs, pu_j]
    by_cases hf : pn_f s j (s (23 + j)) c = p
    · rw [if_pos hf, pu_gd (by omega) (by omega), nI_clamp (by omega), eh, pm_min (by omega) (by omega), pu_l]
      dsimp only
      rw [pu_l, nI_1]
      refine ih (if H j < L then H j else L) (by omega) (by omega) (by split <;> omega) (fun i hi hfi => ?_) (fun hl => ?_)
      · by_cases e : i = j
        · subst e
          split <;> omega
        · have := g1 i (by omega) hfi
          split <;> omega
      · by_cases hlt : H j < L
        · rw [if_pos hlt]
          exact ⟨j, by omega, hf, rfl⟩
        · rw [if_neg hlt] at hl ⊢
          exact g2 hl
    · rw [if_neg hf]
      dsimp only
      rw [pu_l, nI_1]
      refine ih L (by omega) (by omega) hL (fun i hi hfi => ?_) g2
      by_cases e : i = j
      · subst e; exact absurd hfi hf
      · exact g1 i (by omega) hfi
theorem pm_fw_loop {N : Nat} {x : Nat → Int32} {a : Nat → Nat → Int32} {s : Nat → Int32} {P J C X S G : Nat} {p : Int32} (hN : 20 < N) (hV : pn_V s P J C X S) (hC : pn_C x a s P J C) (hG : G < C) : ∀ (d c n : Nat) (here th : Nat → Int32) (H : Nat → Nat), c + d = G → X ≤ c → d < n → pm_H s p J X S c H → (∀ i, i < J → here i = nI (H i)) → ∃ L' h' t' H', pq_w (fun _ _ _ => none) (f_X3_fewestThrows_L25 N (nI J) (a 0) (a 3) (a 4) (a 5) (a 6) (a 7) p (nI G)) n (nI c) here th = some (if L' < 1048576 then nI (L' % 4096) else -4, h', t') ∧ pm_H s p J X S G H' ∧ (∀ i, i < J → pn_f s i (s (23 + i)) G = p → L' ≤ H' i) ∧ (L' < 1048576 → ∃ i, i < J ∧ pn_f s i (s (23 + i)) G = p ∧ L' = H' i)
  | 0, c, n, here, th, H, h1, h2, h3, hH, hh => by
    obtain ⟨n, rfl⟩ : ∃ t, n = t + 1 := ⟨n - 1, by omega⟩
    have hJ6 := hV.2.1.2
    have hC12 := hV.2.2.1.2
    rw [pu_w]
    unfold f_X3_fewestThrows_L25
    rw [if_pos (by rw [nI_leI (by omega) (by omega)]; omega)]
    have ecG : c = G := by omega
    rw [ecG] at hH
    obtain ⟨L', e1, e2, e3⟩ := pm_fw_end (N := N) (here := here) (th := th) (p := p) (H := H) hV hC hG (fun i hi => ⟨hh i hi, hH.1 i hi⟩) J 0 N 1048576 (by omega) (by omega) (by omega) (fun i hi => absurd hi (by omega)) (fun h => absurd h (by omega))
    exact ⟨L', here, th, H, e1, hH, e2, e3⟩
  | d + 1, c, n, here, th, H, h1, h2, h3, hH, hh => by
    obtain ⟨n, rfl⟩ : ∃ t, n = t + 1 := ⟨n - 1, by omega⟩
    have hJ6 := hV.2.1.2
    have hC12 := hV.2.2.1.2
    have ih := pm_fw_loop (p := p) hN hV hC hG d (c + 1) n
    rw [pu_w]
    generalize pq_w (fun _ _ _ => none) (f_X3_fewestThrows_L25 N (nI J) (a 0) (a 3) (a 4) (a 5) (a 6) (a 7) p (nI G)) n = kk at ih ⊢
    unfold f_X3_fewestThrows_L25
    rw [if_neg (by rw [nI_leI (by omega) (by omega)]; omega), pu_fill (by omega) (by omega), pu_cs]
    have hT0 : pm_T s p J c H (fun _ => 1048576) 0 := ⟨fun i _ => Nat.le_refl _, fun i hi => absurd hi (by omega), fun i _ hl => absurd hl (Nat.lt_irrefl _)⟩
    obtain ⟨r, th', T', e1, e2, e3⟩ := pm_fw_in (N := N) (kL := kk) (p := p) (c := c) (here := here) (H := H) (show 10 < N by omega) hV hC (by omega) (fun i hi => ⟨hh i hi, hH.1 i hi⟩) J 0 N (pn_fl th 1048576 6) (fun _ => 1048576) (by omega) (by omega) hT0 (fun i hi => by rw [pn_fl_in (by omega)]; rfl)
    rw [nI_0] at e1
    rw [e1]
    exact ih r th' T' (by omega) (by omega) (by omega) (pm_T_H hV h2 (by omega) hH e2) e3
/-- a set of throws by which p wins the case G -/
def pm_ok (s : Nat → Int32) (p : Int32) (X S G : Nat) (q : Nat → Bool) : Prop := pm_va s p X G q ∧ pn_f s (pm_D s p q (G - X) X S) (s (23 + pm_D s p q (G - X) X S)) G = p
theorem pm_fewest {N : Nat} {x : Nat → Int32} {a : Nat → Nat → Int32} {s here th : Nat → Int32} {P J C X S G : Nat} {p : Int32} (hN : 20 < N) (hV : pn_V s P J C X S) (hC : pn_C x a s P J C) (hG : G < C) (hX : X ≤ G) : ∃ v h' t', f_X3_fewestThrows N here th (nI J) (nI X) (nI S) (a 0) (a 3) (a 4) (a 5) (a 6) (a 7) p (nI G) = some (v, h', t') ∧ ((v = -4 ∧ ∀ q, ¬ pm_ok s p X S G q) ∨ ∃ q, pm_ok s p X S G q ∧ v = nI (pn_bm q 12) ∧ ∀ q', pm_ok s p X S G q' → pm_en q ≤ pm_en q') := by
  have hJ6 := hV.2.1.2
  have hC12 := hV.2.2.1.2
  have hS := hV.2.2.2.2.1
  unfold f_X3_fewestThrows
  rw [pu_fill (by omega) (by omega), pu_cs, pu_gd (by omega) (by omega), pu_l, nI_clamp (by omega)]
  have hH0 : pm_H s p J X S X (fun i => if i = S then 0 else 1048576) := by
    refine ⟨fun j _ => by dsimp only; split <;> omega, fun q _ => ?_, fun j _ hl => ?_⟩
    · rw [show X - X = 0 by omega]
      show (if S = S then 0 else 1048576) ≤ _
      rw [if_pos rfl]
      omega
    · by_cases e : j = S
      · subst e
        refine ⟨fun _ => false, (fun k hk => by cases hk), ?_, ?_⟩
        · rw [show X - X = 0 by omega]
          rfl
        · dsimp only
          rw [if_pos rfl]
          rfl
      · dsimp only at hl
        rw [if_neg e] at hl
        omega
  obtain ⟨L', h', t', H', e1, e2, e3, e4⟩ := pm_fw_loop (N := N) (p := p) hN hV hC hG (G - X) X N (upd (pn_fl here 1048576 6) S 0) th (fun i => if i = S then 0 else 1048576) (by omega) (by omega) (by omega) hH0 (fun i hi => by
    by_cases e : i = S
    · subst e; rw [pu_us, if_pos rfl]; rfl
    · rw [pu_un e, if_neg e, pn_fl_in (by omega)]; rfl)
  refine ⟨_, h', t', e1, ?_⟩
  have hD : ∀ q, pm_D s p q (G - X) X S < J := fun q => pm_D_lt hV _ _ _ (by omega) hS
  by_cases hl : L' < 1048576
  · rw [if_pos hl]
    obtain ⟨i, hi, hf, eL⟩ := e4 hl
    obtain ⟨q, hq, eD, eH⟩ := e2.2.2 i hi (by omega)
    refine Or.inr ⟨q, ⟨hq, by rw [eD]; exact hf⟩, ?_, fun q' hq' => ?_⟩
    · rw [eL, eH, (pm_en_lt (q := q)).2]
    · have h1 := e3 _ (hD q') hq'.2
      have h2 := e2.2.1 q' hq'.1
      omega
  · rw [if_neg hl]
    refine Or.inl ⟨rfl, fun q hq => hl ?_⟩
    have h1 := e3 _ (hD q) hq.2
    have h2 := e2.2.1 q hq.1
    have h3 := (pm_en_lt (q := q)).1
    omega
/-! the reference's side -/
theorem pu_tb01 (m k : Nat) : m / 2 ^ k % 2 = if m.testBit k = true then 1 else 0 := by
  have h2 : m / 2 ^ k % 2 < 2 := Nat.mod_lt _ (by omega)
  by_cases h : m.testBit k = true
  · rw [if_pos h, (pu_tbN m k).mp h]
  · rw [if_neg h]
    have hx : ¬ m / 2 ^ k % 2 = 1 := fun e => h ((pu_tbN m k).mpr e)
    omega
theorem pm_en_of {m : Nat} (h : m < 4096) : pn_bm (fun k => m.testBit k) 12 = m := by
  rw [pm_bm_of]
  exact Nat.mod_eq_of_lt h
/-- what the reference holds as the best of the sets below m -/
def pm_be (s : Nat → Int32) (p : Int32) (X S G m : Nat) (v : Int32) : Prop :=
  (v = -4 ∧ ∀ m', m' < m → ¬ pm_ok s p X S G (fun k => m'.testBit k)) ∨ ∃ b, b < m ∧ v = nI b ∧ pm_ok s p X S G (fun k => b.testBit k) ∧ ∀ m', m' < m → pm_ok s p X S G (fun k => m'.testBit k) → pm_en (fun k => b.testBit k) ≤ pm_en (fun k => m'.testBit k)
theorem pm_t8_loop {N : Nat} {s : Nat → Int32} {P J C X S G : Nat} {p : Int32} (hN : 2000 < N) (hV : pn_V s P J C X S) (hG : G < C) (hX : X ≤ G) : ∀ (d m n : Nat) (v : Int32) (t : Nat → Int32), m + d = 2 ^ G → d < n → pm_be s p X S G m v → ∃ v' T, pq_w (fun _ _ _ => none) (f_X8_throwing_L54 N s p (nI G) (nI (pn_bm (pm_oq s X p) G))) n v (nI m) t = some (v', T) ∧ pm_be s p X S G (2 ^ G) v'
  | 0, m, n, v, t, h1, h2, hb => by
    obtain ⟨n, rfl⟩ : ∃ t, n = t + 1 := ⟨n - 1, by omega⟩
    have hC12 := hV.2.2.1.2
    have hp : 2 ^ G ≤ 2 ^ 11 := Nat.pow_le_pow_right (by omega) (by omega)
    have e1 : (1 : Int32) <<< (nI G &&& 31) = nI (2 ^ G) := pu_shl1 ⟨G, by omega⟩
    rw [pu_w]
    unfold f_X8_throwing_L54
    rw [e1, if_pos (by rw [nI_leI (by omega) (by omega)]; omega)]
    refine ⟨v, t, rfl, ?_⟩
    rw [show 2 ^ G = m by omega]
    exact hb
  | d + 1, m, n, v, t, h1, h2, hb => by
    obtain ⟨n, rfl⟩ : ∃ t, n = t + 1 := ⟨n - 1, by omega⟩
    have hC12 := hV.2.2.1.2
    have hp : 2 ^ G ≤ 2 ^ 11 := Nat.pow_le_pow_right (by omega) (by omega)
    have e1 : (1 : Int32) <<< (nI G &&& 31) = nI (2 ^ G) := pu_shl1 ⟨G, by omega⟩
    have ih := pm_t8_loop (p := p) hN hV hG hX d (m + 1) n
    rw [pu_w]
    generalize pq_w (fun _ _ _ => none) (f_X8_throwing_L54 N s p (nI G) (nI (pn_bm (pm_oq s X p) G))) n = kk at ih ⊢
    unfold f_X8_throwing_L54
    rw [e1, if_neg (by rw [nI_leI (by omega) (by omega)]; omega), pu_j, pu_j]
    have skip : (pm_ok s p X S G (fun k => m.testBit k) → ∃ b, v = nI b ∧ b < m ∧ pm_en (fun k => b.testBit k) ≤ pm_en (fun k => m.testBit k)) → pm_be s p X S G (m + 1) v := by
      intro h
      rcases hb with ⟨e, hno⟩ | ⟨b, hbm, e, hok, hall⟩
      · refine Or.inl ⟨e, fun m' hm' => ?_⟩
        by_cases em : m' = m
        · subst em
          intro hok
          obtain ⟨b, eb, hbm, -⟩ := h hok
          exact pu_ne4 (by omega) (eb ▸ e)
        · exact hno m' (by omega)
      · refine Or.inr ⟨b, by omega, e, hok, fun m' hm' hok' => ?_⟩
        by_cases em : m' = m
        · subst em
          obtain ⟨b', eb, hbm', hle⟩ := h hok'
          rw [e] at eb
          have : b = b' := (nI_eq (by omega) (by omega)).mp eb
          subst this
          exact hle
        · exact hall m' (by omega) hok'
    have take : pm_ok s p X S G (fun k => m.testBit k) → (∀ b, v = nI b → b < m → pn_cn (fun k => m.testBit k) 12 < pn_cn (fun k => b.testBit k) 12) → pm_be s p X S G (m + 1) (nI m) := by
      intro hok h
      refine Or.inr ⟨m, by omega, rfl, hok, fun m' hm' hok' => ?_⟩
      by_cases em : m' = m
      · subst em; exact Nat.le_refl _
      · rcases hb with ⟨e, hno⟩ | ⟨b, hbm, e, hok2, hall⟩
        · exact absurd hok' (hno m' (by omega))
        · have h1 := h b e hbm
          have h2 := hall m' (by omega) hok'
          have h3 := pm_en_of (m := m) (by omega)
          unfold pm_en at h2 ⊢
          omega
    have nokey : pm_be s p X S G (m + 1) v → ∃ v' T, (pq_l (nI m + 1) (fun x5_5 => kk v x5_5 t) : Option (Int32 × (Nat → Int32))) = some (v', T) ∧ pm_be s p X S G (2 ^ G) v' := by
      intro h
      rw [pu_l, nI_1]
      exact ih v t (by omega) (by omega) h
    by_cases hz : (nI m &&& (nI (pn_bm (pm_oq s X p) G) ^^^ (-1 : Int32))) = 0
    · rw [if_pos hz]
      have hz2 := hz
      rw [pm_sub_iff (by omega) (by omega)] at hz2
      have hva : pm_va s p X G (fun k => m.testBit k) := fun k hk => ⟨⟨(hz2 k hk).1, (hz2 k hk).2.1⟩, (hz2 k hk).2.2⟩
      have yes : (∀ b, v = nI b → b < m → pn_cn (fun k => m.testBit k) 12 < pn_cn (fun k => b.testBit k) 12) → ∃ v' T, (pq_j (fun (x4_J134 : Int32) (tried_0_J134 : Nat → Int32) => (pq_l (nI m + 1) (fun x5_5 => kk x4_J134 x5_5 tried_0_J134) : Option (Int32 × (Nat → Int32)))) (fun kJ134 => (if (1 : Int32) = 0 then kJ134 v t else pq_c (f_X8_throwsOn N s t p (nI m) (nI G)) (fun r_6 => pq_c (f_X8_hears N r_6.2 (-4)) (fun r_7 => pq_j (fun (y0_J132 : Int32) => (kJ134 y0_J132 r_7.2 : Option (Int32 × (Nat → Int32)))) (fun kJ132 => (if r_7.1 = p then kJ132 (nI m) else kJ132 v)))))) : Option (Int32 × (Nat → Int32))) = some (v', T) ∧ pm_be s p X S G (2 ^ G) v' := by
        intro hcn
        obtain ⟨T, e2, hV2, hst2⟩ := pm_throwsOn (p := p) (t := t) (m := m) (E := G) hN hV (by omega) hX (by omega)
        obtain ⟨e3, -, -⟩ := pm_hear (show 10 < N by omega) hV2 hst2 hG (-4)
        rw [pu_j, if_neg (by decide), e2, pu_cs]
        dsimp only
        rw [e3, pu_cs, pu_j]
        dsimp only
        rw [pm_wn_none hV hG]
        by_cases hw : pn_f s (pm_D s p (fun k => m.testBit k) (G - X) X S) (s (23 + pm_D s p (fun k => m.testBit k) (G - X) X S)) G = p
        · rw [if_pos hw, pu_l, nI_1]
          exact ih _ _ (by omega) (by omega) (take ⟨hva, hw⟩ hcn)
        · rw [if_neg hw, pu_l, nI_1]
          exact ih _ _ (by omega) (by omega) (skip (fun h => absurd h.2 hw))
      rw [pu_j]
      by_cases hv4 : v = -4
      · rw [if_pos hv4]
        exact yes (fun b eb hbm => absurd (eb ▸ hv4) (pu_ne4 (by omega)))
      · rw [if_neg hv4]
        rcases id hb with ⟨e, -⟩ | ⟨b, hbm, e, hok2, hall⟩
        · exact absurd e hv4
        · rw [pu_bits (show 20 < N by omega) (show m < 2 ^ 31 by omega) (q := fun k => m.testBit k) (fun k _ => pu_tb01 m k), pu_cs, e, pu_bits (show 20 < N by omega) (show b < 2 ^ 31 by omega) (q := fun k => b.testBit k) (fun k _ => pu_tb01 b k), pu_cs]
          have l1 := pn_cn_le (fun k => m.testBit k) 12
          have l2 := pn_cn_le (fun k => b.testBit k) 12
          by_cases hle : pn_cn (fun k => b.testBit k) 12 ≤ pn_cn (fun k => m.testBit k) 12
          · rw [if_pos ((nI_leI (by omega) (by omega)).mpr hle), ← e]
            dsimp only
            rw [pu_j, if_pos rfl]
            refine nokey (skip (fun _ => ⟨b, e, hbm, ?_⟩))
            have h3 := pm_en_of (m := m) (by omega)
            have h4 := pm_en_of (m := b) (by omega)
            unfold pm_en
            omega
          · rw [if_neg (fun h => hle ((nI_leI (by omega) (by omega)).mp h)), ← e]
            refine yes (fun b' eb hbm' => ?_)
            rw [e] at eb
            have : b = b' := (nI_eq (by omega) (by omega)).mp eb
            subst this
            omega
    · rw [if_neg hz]
      dsimp only
      rw [pu_j, if_pos rfl]
      refine nokey (skip (fun hok => absurd ?_ hz))
      rw [pm_sub_iff (by omega) (by omega)]
      intro k hk
      have := hok.1 k hk
      exact ⟨this.1.1, this.1.2, this.2⟩
set_option maxHeartbeats 2000000 in
theorem sim_throwing {xI : Nat → Int32} {xA : Nat → Nat → Int32} {xL : Nat → Nat → Int64} {aw : Nat → Nat → Int32} {mI : Nat → Int32} {mA : Nat → Nat → Int32} {mL : Nat → Int64} (hR : pq_R xI xA xL aw mI mA mL) (p1 : Int32) (p2 : Int32) : ∃ (zc : Int32 × (Nat → Int32) × (Nat → Int32)) (zm : Int32 × (Nat → Int32)), f_X7_throwing pq_N (xA 37) (xA 38) (xI 10) (xI 11) (xI 12) (xI 13) (xI 14) (xA 18) (xA 21) (xA 22) (xA 23) (xA 24) (xA 25) p1 p2 = some zc ∧ f_X8_throwing pq_N (mA 6) (mA 8) p1 p2 = some zm ∧ zc.1 = zm.1 ∧ pq_R xI (va_up (va_up xA 37 zc.2.1) 38 zc.2.2) xL aw mI (va_up mA 8 zm.2) mL := by
  obtain ⟨⟨r0, r1, r2, r3, r4⟩, k2, k3, k4⟩ := pu_now hR
  have hscr : ∀ (f g h : Nat → Int32), pq_R xI (va_up (va_up xA 37 f) 38 g) xL aw mI (va_up mA 8 h) mL := by
    intro f g h
    refine pq_kF hR ?_ ?_ ?_ ?_
    · intro k hk; rfl
    · intro k hk; simp (disch := omega) only [pu_vo]
    · intro k hk; rfl
    · intro k hk; simp (disch := omega) only [pu_vo]
  unfold f_X7_throwing f_X8_throwing
  rw [r0, pu_hasParty, pu_cs, pu_isParty k2, pu_cs]
  by_cases hv : 0 ≤ p1.toInt ∧ p1.toInt < (mA 6 2).toInt
  · rw [pu_f1 hv, pu_f1 hv, r2, pu_hasCase, pu_cs, pu_isCase k4, pu_cs]
    by_cases hv2 : 0 ≤ p2.toInt ∧ p2.toInt < (mA 6 4).toInt
    · rw [pu_f1 hv2, pu_f1 hv2]
      obtain ⟨P, J, C, X, S, hW, hC⟩ := pu_there hR (k := 2) (by omega) hv
      have hV := hW.v
      obtain ⟨⟨p1', p2'⟩, ⟨j1, j2⟩, ⟨c1, c2⟩, x2, s2, ⟨eP, eJ, eC, eX, eS⟩, -⟩ := id hV
      rw [eC, nI_toInt (by omega)] at hv2
      obtain ⟨G, hG, eG⟩ := pu_of hv2.1 hv2.2
      obtain ⟨nd, hN⟩ := pu_ND
      have e1 : f_X1_isOwn pq_N (xA 23) (xA 24) p1 (nI G) = some (if pm_ow (mA 6) G p1 = true then 1 else 0) := pm_own hV hC hG p1
      rw [eG, e1, pu_cs, pm_isOf (by omega), pu_cs]
      by_cases ho : pm_ow (mA 6) G p1 = true
      · rw [pu_f1 ho, pu_f1 ho, pq_gd_i (i := 0) (by decide), show (0 : Int32).toNatClampNeg = 0 from rfl, r3, eX]
        by_cases hle : X ≤ G
        · have hle' : nI X ≤ nI G := (nI_leI (by omega) (by omega)).mpr hle
          rw [if_pos hle', if_pos hle', r1, r4, eJ, eS]
          obtain ⟨v, h', t', ez, hz⟩ := pm_fewest (N := pq_N) (p := p1) (here := xA 37) (th := xA 38) (show 20 < pq_N by omega) hV hC hG hle
          have ez' : f_X3_fewestThrows pq_N (xA 37) (xA 38) (nI J) (nI X) (nI S) (xA 18) (xA 21) (xA 22) (xA 23) (xA 24) (xA 25) p1 (nI G) = some (v, h', t') := ez
          have hp : 2 ^ G ≤ 2 ^ 11 := Nat.pow_le_pow_right (by omega) (by omega)
          obtain ⟨v', T, e2, hb⟩ := pm_t8_loop (N := pq_N) (p := p1) (show 2000 < pq_N by omega) hV hG hle (2 ^ G) 0 pq_N (-4) (mA 8) (by omega) (by omega) (Or.inl ⟨rfl, fun m' hm' => absurd hm' (by omega)⟩)
          rw [nI_0] at e2
          rw [ez', pu_cs, pm_ownOnes (by omega) (by omega) hle eX, pu_cs, e2]
          refine ⟨_, _, rfl, rfl, ?_, hscr _ _ _⟩
          show v = v'
          have tob : ∀ q : Nat → Bool, pm_ok (mA 6) p1 X S G q → pn_bm q 12 < 2 ^ G ∧ pm_ok (mA 6) p1 X S G (fun k => (pn_bm q 12).testBit k) ∧ pm_en (fun k => (pn_bm q 12).testBit k) = pm_en q := by
            intro q hq
            have hqG : ∀ k, G ≤ k → q k = false := by
              intro k hk
              cases h : q k with
              | false => rfl
              | true => have := (hq.1 k h).1; omega
            have hsame : (fun k => (pn_bm q 12).testBit k) = q := by
              funext k
              by_cases hk : k < 12
              · exact pn_bm_tb q hk
              · have h1 := pn_bm_lt q 12
                have h2 : pn_bm q 12 < 2 ^ k := Nat.lt_of_lt_of_le h1 (Nat.pow_le_pow_right (by omega) (by omega))
                rw [Nat.testBit_lt_two_pow h2, hqG k (by omega)]
            rw [hsame]
            refine ⟨?_, hq, rfl⟩
            have hend : ∀ n, G ≤ n → pn_bm q n = pn_bm q G := by
              intro n
              induction n with
              | zero => intro h; rw [show G = 0 by omega]
              | succ n ihn =>
                intro h
                by_cases e : G = n + 1
                · rw [e]
                · show pn_bm q n + (if q n = true then 2 ^ n else 0) = _
                  rw [hqG n (by omega), if_neg (by decide), ihn (by omega), Nat.add_zero]
            rw [hend 12 (by omega)]
            exact pn_bm_lt q G
          rcases hz with ⟨ev, hno⟩ | ⟨q, hq, ev, hall⟩
          · rcases hb with ⟨ev', -⟩ | ⟨b, hbl, ev', hok, hmin⟩
            · rw [ev, ev']
            · exact absurd hok (hno _)
          · obtain ⟨hl, hok2, hen⟩ := tob q hq
            rcases hb with ⟨ev', hno⟩ | ⟨b, hbl, ev', hok, hmin⟩
            · exact absurd hok2 (hno _ hl)
            · have a1 := hmin _ hl hok2
              have a2 := hall _ hok
              have a3 : pm_en q = pm_en (fun k => b.testBit k) := by omega
              have a4 := (pm_en_lt (q := q)).2
              have a5 := (pm_en_lt (q := fun k => b.testBit k)).2
              rw [a3, a5, pm_en_of (by omega)] at a4
              rw [ev, ev', a4]
        · have hle' : ¬ nI X ≤ nI G := fun h => hle ((nI_leI (by omega) (by omega)).mp h)
          rw [if_neg hle', if_neg hle']
          exact ⟨_, _, rfl, rfl, rfl, hscr _ _ _⟩
      · rw [pu_f0 ho, pu_f0 ho]
        exact ⟨_, _, rfl, rfl, rfl, hscr _ _ _⟩
    · rw [pu_f0 hv2, pu_f0 hv2]
      exact ⟨_, _, rfl, rfl, rfl, hscr _ _ _⟩
  · rw [pu_f0 hv, pu_f0 hv]
    exact ⟨_, _, rfl, rfl, rfl, hscr _ _ _⟩
