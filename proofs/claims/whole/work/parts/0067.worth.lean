/-! ===== worth ===== -/
theorem pu_tbN (m k : Nat) : m.testBit k = true ↔ m / 2 ^ k % 2 = 1 := by
  rw [Nat.testBit_eq_decide_div_mod_eq, decide_eq_true_eq]
theorem pn_bm_tb (q : Nat → Bool) {n k : Nat} (h : k < n) : (pn_bm q n).testBit k = q k := by
  rw [Nat.testBit_eq_decide_div_mod_eq, pn_bm_bit q n k h]
  cases q k <;> rfl
theorem pu_or0 {a : Nat} (ha : a < 2 ^ 31) : nI a ||| 0 = nI a := by
  have h := pu_or ha (show 0 < 2 ^ 31 by decide)
  rw [nI_0, Nat.or_zero] at h
  exact h
theorem pu_p31 {m n : Nat} (hn : n ≤ 20) (h : m < 2 ^ n) : m < 2 ^ 20 := Nat.lt_of_lt_of_le h (Nat.pow_le_pow_right (by omega) hn)
theorem pu_gl {m : Nat} (h : m < 2 ^ 31) (k : Nat) : (nI m).toBitVec.getLsbD k = m.testBit k := by
  unfold BitVec.getLsbD
  rw [pk_tn (by omega)]
theorem pu_subset {m o : Nat} (hm : m < 2 ^ 31) (ho : o < 2 ^ 31) : (nI m &&& (nI o ^^^ (-1 : Int32))) = 0 ↔ ∀ k, m.testBit k = true → o.testBit k = true := by
  have e1 : ((-1 : Int32)).toBitVec = BitVec.allOnes 32 := rfl
  have z : ((0 : Int32)).toBitVec = 0#32 := rfl
  rw [← Int32.toBitVec_inj, Int32.toBitVec_and, Int32.toBitVec_xor, e1, z, BitVec.xor_allOnes]
  constructor
  · intro h k hk
    by_cases hk32 : k < 32
    · have h2 := congrArg (fun v : BitVec 32 => v.getLsbD k) h
      simp only [BitVec.getLsbD_and, BitVec.getLsbD_not, BitVec.getLsbD_zero, pu_gl hm, pu_gl ho, hk, hk32, decide_true, Bool.true_and] at h2
      cases hb : o.testBit k with
      | true => rfl
      | false => rw [hb] at h2; cases h2
    · have : m < 2 ^ k := Nat.lt_of_lt_of_le hm (Nat.pow_le_pow_right (by omega) (by omega))
      rw [Nat.testBit_lt_two_pow this] at hk
      cases hk
  · intro h
    apply BitVec.eq_of_getLsbD_eq
    intro k hk
    simp only [BitVec.getLsbD_and, BitVec.getLsbD_not, BitVec.getLsbD_zero, pu_gl hm, pu_gl ho, hk, decide_true, Bool.true_and]
    cases hb : m.testBit k with
    | false => rfl
    | true => rw [h k hb]; rfl
/-- who throws the case c -/
def pm_th (p : Int32) (q : Nat → Bool) (c : Nat) : Int32 := if q c = true then p else -4
/-- the wins of p in d cases from c on, and who sits then, p throwing what q says -/
def pm_U (s : Nat → Int32) (p : Int32) (q : Nat → Bool) : Nat → Nat → Nat → Nat
  | 0, _, _ => 0
  | d + 1, c, j => (if pn_wn s c j (pm_th p q c) = p then 1 else 0) + pm_U s p q d (c + 1) (pm_n s j c (pn_wn s c j (pm_th p q c)))
def pm_D (s : Nat → Int32) (p : Int32) (q : Nat → Bool) : Nat → Nat → Nat → Nat
  | 0, _, j => j
  | d + 1, c, j => pm_D s p q d (c + 1) (pm_n s j c (pn_wn s c j (pm_th p q c)))
theorem pm_U_s (s : Nat → Int32) (p : Int32) (q : Nat → Bool) (d c j : Nat) : pm_U s p q (d + 1) c j = (if pn_wn s c j (pm_th p q c) = p then 1 else 0) + pm_U s p q d (c + 1) (pm_n s j c (pn_wn s c j (pm_th p q c))) := rfl
theorem pm_D_s (s : Nat → Int32) (p : Int32) (q : Nat → Bool) (d c j : Nat) : pm_D s p q (d + 1) c j = pm_D s p q d (c + 1) (pm_n s j c (pn_wn s c j (pm_th p q c))) := rfl
theorem pm_U_d (s : Nat → Int32) (p : Int32) (q : Nat → Bool) : ∀ (d c j : Nat), pm_U s p q d c j ≤ d
  | 0, c, j => Nat.le_refl 0
  | d + 1, c, j => by
    have := pm_U_d s p q d (c + 1) (pm_n s j c (pn_wn s c j (pm_th p q c)))
    rw [pm_U_s]
    split <;> omega
theorem pm_U_cg {s : Nat → Int32} {p : Int32} {q q' : Nat → Bool} : ∀ (d c j : Nat), (∀ k, c ≤ k → k < c + d → q k = q' k) → pm_U s p q d c j = pm_U s p q' d c j
  | 0, c, j, _ => rfl
  | d + 1, c, j, h => by
    have e : pm_th p q c = pm_th p q' c := by unfold pm_th; rw [h c (by omega) (by omega)]
    rw [pm_U_s, pm_U_s, e, pm_U_cg d (c + 1) _ (fun k h1 h2 => h k (by omega) (by omega))]
theorem pm_D_cg {s : Nat → Int32} {p : Int32} {q q' : Nat → Bool} : ∀ (d c j : Nat), (∀ k, c ≤ k → k < c + d → q k = q' k) → pm_D s p q d c j = pm_D s p q' d c j
  | 0, c, j, _ => rfl
  | d + 1, c, j, h => by
    have e : pm_th p q c = pm_th p q' c := by unfold pm_th; rw [h c (by omega) (by omega)]
    rw [pm_D_s, pm_D_s, e, pm_D_cg d (c + 1) _ (fun k h1 h2 => h k (by omega) (by omega))]
theorem pm_thr_loop {N : Nat} {s : Nat → Int32} {P J C E m : Nat} {p : Int32} (hN : 10 < N) (hE : E ≤ C) (hm : m < 2 ^ 20) : ∀ (d n c : Nat) (t : Nat → Int32) (S u : Nat), c + d = E → d < n → pn_V t P J C c S → pm_st s t → ∃ T, pq_w (fun _ _ _ => none) (f_X8_throwsOn_L15 N p (nI m) (nI E)) n (nI u) (nI c) t = some (nI (u + pm_U s p (fun k => m.testBit k) d c S), T) ∧ pn_V T P J C E (pm_D s p (fun k => m.testBit k) d c S) ∧ pm_st s T
  | 0, n, c, t, S, u, h1, h2, hV, hst => by
    obtain ⟨n, rfl⟩ : ∃ t, n = t + 1 := ⟨n - 1, by omega⟩
    have hc := hV.2.2.1
    rw [pu_w]
    unfold f_X8_throwsOn_L15
    rw [if_pos (by rw [nI_leI (by omega) (by omega)]; omega)]
    refine ⟨t, rfl, ?_, hst⟩
    rw [show E = c by omega]
    exact hV
  | d + 1, n, c, t, S, u, h1, h2, hV, hst => by
    obtain ⟨n, rfl⟩ : ∃ t, n = t + 1 := ⟨n - 1, by omega⟩
    have hc := hV.2.2.1
    have ih := pm_thr_loop (s := s) (P := P) (J := J) (p := p) hN hE hm d n (c + 1)
    rw [pu_w]
    generalize pq_w (fun _ _ _ => none) (f_X8_throwsOn_L15 N p (nI m) (nI E)) n = kk at ih ⊢
    unfold f_X8_throwsOn_L15
    rw [if_neg (by rw [nI_leI (by omega) (by omega)]; omega), pu_hasN (by omega) (by omega), pu_cs, pu_j]
    have key : ∀ y : Int32, y = pm_th p (fun k => m.testBit k) c → ∃ T, (pq_c (f_X8_hears N t y) (fun r_4 => pq_j (fun (y0_J54 : Int32) => (pq_l ((nI u + y0_J54)) (fun x4_5 => pq_l (nI c + 1) (fun x5_6 => kk x4_5 x5_6 r_4.2)) : Option (Int32 × (Nat → Int32)))) (fun kJ54 => (if r_4.1 = p then kJ54 1 else kJ54 0))) : Option (Int32 × (Nat → Int32))) = some (nI (u + pm_U s p (fun k => m.testBit k) (d + 1) c S), T) ∧ pn_V T P J C E (pm_D s p (fun k => m.testBit k) (d + 1) c S) ∧ pm_st s T := by
      intro y hy
      rw [hy]
      obtain ⟨eh, hV', hst'⟩ := pm_hear hN hV hst (by omega) (pm_th p (fun k => m.testBit k) c)
      rw [eh, pu_cs, pu_j, pm_U_s, pm_D_s]
      dsimp only
      by_cases hw : pn_wn s c S (pm_th p (fun k => m.testBit k) c) = p
      · rw [if_pos hw, if_pos hw, pu_l, pu_l, nI_1, nI_1]
        obtain ⟨T, e1, e2, e3⟩ := ih _ _ (u + 1) (by omega) (by omega) hV' hst'
        refine ⟨T, ?_, e2, e3⟩
        rw [e1, Nat.add_assoc]
      · rw [if_neg hw, if_neg hw, pu_l, pu_l, nI_1, Int32.add_zero]
        obtain ⟨T, e1, e2, e3⟩ := ih _ _ u (by omega) (by omega) hV' hst'
        refine ⟨T, ?_, e2, e3⟩
        rw [e1, Nat.zero_add]
    by_cases hb : m / 2 ^ c % 2 = 1
    · rw [pu_f1 hb]
      exact key _ (by unfold pm_th; rw [if_pos ((pu_tbN m c).mpr hb)])
    · rw [pu_f0 hb]
      exact key _ (by unfold pm_th; rw [if_neg (fun h => hb ((pu_tbN m c).mp h))])
theorem pm_throwsOn {N : Nat} {s t : Nat → Int32} {P J C X S E m : Nat} {p : Int32} (hN : 2000 < N) (hV : pn_V s P J C X S) (hE : E ≤ C) (hX : X ≤ E) (hm : m < 2 ^ 20) : ∃ T, f_X8_throwsOn N s t p (nI m) (nI E) = some (nI (pm_U s p (fun k => m.testBit k) (E - X) X S), T) ∧ pn_V T P J C E (pm_D s p (fun k => m.testBit k) (E - X) X S) ∧ pm_st s T := by
  obtain ⟨b1, b2, b3⟩ := pm_try (N := N) (t := t) hN hV
  have hc := hV.2.2.1
  obtain ⟨-, -, -, x2, s2, ⟨eP, eJ, eC, eX, eS⟩, -⟩ := id hV
  unfold f_X8_throwsOn
  rw [b1, pu_cs, pq_gd_i (i := 0) (by decide), show (0 : Int32).toNatClampNeg = 0 from rfl, pu_l, eX]
  obtain ⟨T, e1, e2, e3⟩ := pm_thr_loop (s := s) (p := p) (E := E) (m := m) (show 10 < N by omega) hE hm (E - X) N X _ S 0 (by omega) (by omega) b2 b3
  rw [nI_0, Nat.zero_add] at e1
  exact ⟨T, e1, e2, e3⟩
def pm_oq (s : Nat → Int32) (X : Nat) (p : Int32) (c : Nat) : Bool := decide (X ≤ c) && pm_ow s c p
theorem pm_oq_t {s : Nat → Int32} {X c : Nat} {p : Int32} : pm_oq s X p c = true ↔ X ≤ c ∧ pm_ow s c p = true := by
  unfold pm_oq
  rw [Bool.and_eq_true, decide_eq_true_eq]
theorem pm_own_loop {N : Nat} {s : Nat → Int32} {E X : Nat} {p : Int32} (hE : E ≤ 12) : ∀ (d c n : Nat), c + d = E → X ≤ c → d < n → pq_w (fun _ _ => none) (f_X8_ownOnes_L10 N s p (nI E)) n (nI (pn_bm (pm_oq s X p) c)) (nI c) = some (nI (pn_bm (pm_oq s X p) E))
  | 0, c, n, h1, h2, h3 => by
    obtain ⟨n, rfl⟩ : ∃ t, n = t + 1 := ⟨n - 1, by omega⟩
    rw [pu_w]
    unfold f_X8_ownOnes_L10
    rw [if_pos (by rw [nI_leI (by omega) (by omega)]; omega), show c = E by omega]
  | d + 1, c, n, h1, h2, h3 => by
    obtain ⟨n, rfl⟩ : ∃ t, n = t + 1 := ⟨n - 1, by omega⟩
    have ih := pm_own_loop (N := N) (s := s) (X := X) (p := p) hE d (c + 1) n (by omega) (by omega) (by omega)
    rw [pu_w]
    generalize pq_w (fun _ _ => none) (f_X8_ownOnes_L10 N s p (nI E)) n = kk at ih ⊢
    unfold f_X8_ownOnes_L10
    rw [if_neg (by rw [nI_leI (by omega) (by omega)]; omega), pm_isOf (by omega), pu_cs, pu_j]
    have hl := pu_p31 (n := c) (by omega) (pn_bm_lt (pm_oq s X p) c)
    rw [pn_bm_or (show c < 31 by omega)] at ih
    by_cases ho : pm_ow s c p = true
    · rw [pu_f1 ho]
      dsimp only
      rw [pu_l, pu_l, nI_1]
      rw [if_pos (pm_oq_t.mpr ⟨h2, ho⟩)] at ih
      exact ih
    · rw [pu_f0 ho]
      dsimp only
      rw [pu_l, pu_l, nI_1, pu_or0 (by omega)]
      rw [if_neg (fun h => ho (pm_oq_t.mp h).2)] at ih
      exact ih
theorem pm_ownOnes {N : Nat} {s : Nat → Int32} {E X : Nat} {p : Int32} (hN : 20 < N) (hE : E ≤ 12) (hX : X ≤ E) (eX : s 0 = nI X) : f_X8_ownOnes N s p (nI E) = some (nI (pn_bm (pm_oq s X p) E)) := by
  have z : pn_bm (pm_oq s X p) X = 0 := (pn_bm_0 (pm_oq s X p) X).mpr (fun i hi => by
    cases h : pm_oq s X p i with
    | false => rfl
    | true => exact absurd (pm_oq_t.mp h).1 (by omega))
  have h := pm_own_loop (N := N) (s := s) (p := p) hE (E - X) X N (by omega) (Nat.le_refl X) (by omega)
  rw [z, nI_0] at h
  unfold f_X8_ownOnes
  rw [pq_gd_i (i := 0) (by decide), show (0 : Int32).toNatClampNeg = 0 from rfl, pu_l, eX]
  exact h
/-- a set of throws that the reference tries: all of them its own, not yet heard -/
theorem pm_sub_iff {s : Nat → Int32} {E X m : Nat} {p : Int32} (hE : E ≤ 12) (hm : m < 2 ^ E) : (nI m &&& (nI (pn_bm (pm_oq s X p) E) ^^^ (-1 : Int32))) = 0 ↔ ∀ k, m.testBit k = true → X ≤ k ∧ k < E ∧ pm_ow s k p = true := by
  have hl := pu_p31 (n := E) (by omega) (pn_bm_lt (pm_oq s X p) E)
  have hm2 := pu_p31 (n := E) (by omega) hm
  rw [pu_subset (by omega) (by omega)]
  constructor
  · intro h k hk
    have hkE : k < E := by
      apply Classical.byContradiction
      intro hn
      have : m < 2 ^ k := Nat.lt_of_lt_of_le hm (Nat.pow_le_pow_right (by omega) (by omega))
      rw [Nat.testBit_lt_two_pow this] at hk
      cases hk
    have := h k hk
    rw [pn_bm_tb _ hkE, pm_oq_t] at this
    exact ⟨this.1, hkE, this.2⟩
  · intro h k hk
    obtain ⟨h1, h2, h3⟩ := h k hk
    rw [pn_bm_tb _ h2, pm_oq_t]
    exact ⟨h1, h3⟩
/-! the most that can be won -/
theorem pm_g1 {p w : Int32} (h : w ≠ -4) : pm_g p (-4) w = if w = p then 1 else 0 := by
  unfold pm_g
  by_cases e : w = p
  · rw [if_pos e, if_pos e]
  · rw [if_neg e, if_neg h, if_neg e]
theorem pm_ne4 {s : Nat → Int32} {P J C X S c : Nat} (hV : pn_V s P J C X S) (hc : c < C) {w : Int32} (h : w = s (35 + c) ∨ w = s (47 + c)) : w ≠ -4 := by
  intro e
  apply pm_ow_none hV hc
  unfold pm_ow
  rw [decide_eq_true_eq]
  rcases h with h | h
  · exact Or.inl (by rw [← h, e])
  · exact Or.inr (by rw [← h, e])
theorem pm_v_1 {s : Nat → Int32} {P J C X S c j : Nat} {p : Int32} {H : Nat → Int} (hV : pn_V s P J C X S) (hc : c < C) : pm_v1 s p (-4) c j H = pm_ga s p (-4) c j H (pn_f s j (s (23 + j)) c) := by
  unfold pm_v1
  rw [if_neg (pm_ow_none hV hc)]
theorem pm_ga1 {s : Nat → Int32} {P J C X S c j : Nat} {p w : Int32} {H : Nat → Int} (hV : pn_V s P J C X S) (hc : c < C) (h : w = s (35 + c) ∨ w = s (47 + c)) : pm_ga s p (-4) c j H w = (if w = p then 1 else 0) + H (pm_n s j c w) := by
  unfold pm_ga
  rw [pm_g1 (pm_ne4 hV hc h)]
theorem pm_U_V {s : Nat → Int32} {P J C X S : Nat} {p : Int32} {q : Nat → Bool} (hV : pn_V s P J C X S) (hq : ∀ k, q k = true → pm_ow s k p = true) : ∀ (d c j : Nat), c + d ≤ C → (pm_U s p q d c j : Int) ≤ pm_V s p (-4) d c j
  | 0, c, j, _ => Int.le_refl 0
  | d + 1, c, j, h => by
    have ih := pm_U_V hV hq d (c + 1)
    rw [pm_U_s, pm_V_s]
    have hc : c < C := by omega
    unfold pm_v
    rw [pm_v_1 hV hc, pm_ga1 hV hc (pm_f_or s c j _), pm_ga1 hV hc (pm_op_or s c p)]
    cases hqc : q c with
    | true =>
      have ho := hq c hqc
      have e : pn_wn s c j (pm_th p q c) = pn_op s c p := by
        unfold pm_th
        rw [if_pos hqc, pm_wn_own ho]
      rw [e, if_pos ho]
      have i1 := ih (pm_n s j c (pn_op s c p)) (by omega)
      have e2 : (((if pn_op s c p = p then 1 else 0 : Nat)) : Int) = (if pn_op s c p = p then 1 else 0) := by split <;> rfl
      rw [Int.natCast_add, e2]
      split <;> omega
    | false =>
      have e : pn_wn s c j (pm_th p q c) = pn_f s j (s (23 + j)) c := by
        unfold pm_th
        rw [if_neg (by rw [hqc]; decide), pm_wn_none hV hc]
      rw [e]
      have i1 := ih (pm_n s j c (pn_f s j (s (23 + j)) c)) (by omega)
      have e2 : (((if pn_f s j (s (23 + j)) c = p then 1 else 0 : Nat)) : Int) = (if pn_f s j (s (23 + j)) c = p then 1 else 0) := by split <;> rfl
      rw [Int.natCast_add, e2]
      split
      · split <;> omega
      · omega
theorem pm_U_ex {s : Nat → Int32} {P J C X S : Nat} {p : Int32} (hV : pn_V s P J C X S) : ∀ (d c j : Nat), c + d ≤ C → ∃ q : Nat → Bool, (∀ k, q k = true → (c ≤ k ∧ k < c + d) ∧ pm_ow s k p = true) ∧ (pm_U s p q d c j : Int) = pm_V s p (-4) d c j
  | 0, c, j, _ => ⟨fun _ => false, (fun k h => by cases h), rfl⟩
  | d + 1, c, j, h => by
    have hc : c < C := by omega
    have build : ∀ (b : Bool) (w : Int32), (b = true → pm_ow s c p = true) → pn_wn s c j (if b = true then p else -4) = w → ∃ q : Nat → Bool, (∀ k, q k = true → (c ≤ k ∧ k < c + (d + 1)) ∧ pm_ow s k p = true) ∧ (pm_U s p q (d + 1) c j : Int) = pm_ga s p (-4) c j (pm_V s p (-4) d (c + 1)) w := by
      intro b w hb hw
      obtain ⟨q, hq, eq⟩ := pm_U_ex (p := p) hV d (c + 1) (pm_n s j c w) (by omega)
      refine ⟨fun k => if k = c then b else q k, fun k hk => ?_, ?_⟩
      · dsimp only at hk
        by_cases e : k = c
        · rw [if_pos e] at hk
          rw [e]
          exact ⟨⟨Nat.le_refl c, by omega⟩, hb hk⟩
        · rw [if_neg e] at hk
          have := hq k hk
          exact ⟨by omega, this.2⟩
      · have e1 : pm_th p (fun k => if k = c then b else q k) c = (if b = true then p else -4) := by
          simp [pm_th]
        have e2 : pm_U s p (fun k => if k = c then b else q k) d (c + 1) (pm_n s j c w) = pm_U s p q d (c + 1) (pm_n s j c w) := pm_U_cg d (c + 1) _ (fun k h1 h2 => if_neg (by omega))
        rw [pm_ga1 hV hc (by rw [← hw]; exact pm_wn_or s c j _), pm_U_s, e1, hw, e2, Int.natCast_add, eq]
        split <;> rfl
    rw [pm_V_s]
    unfold pm_v
    rw [pm_v_1 hV hc]
    have hF := build false (pn_f s j (s (23 + j)) c) (fun h => by cases h) (by rw [if_neg (by decide), pm_wn_none hV hc])
    by_cases ho : pm_ow s c p = true
    · rw [if_pos ho]
      have hT := build true (pn_op s c p) (fun _ => ho) (by rw [if_pos rfl, pm_wn_own ho])
      split
      · exact hT
      · exact hF
    · rw [if_neg ho]
      exact hF
def pm_wf (s : Nat → Int32) (p : Int32) (C X S m : Nat) : Nat := if (nI m &&& (nI (pn_bm (pm_oq s X p) C) ^^^ (-1 : Int32))) = 0 then pm_U s p (fun k => m.testBit k) (C - X) X S else 0
theorem pm_wf_le (s : Nat → Int32) (p : Int32) (C X S m : Nat) : pm_wf s p C X S m ≤ C := by
  unfold pm_wf
  split
  · have := pm_U_d s p (fun k => m.testBit k) (C - X) X S
    omega
  · omega
theorem pm_w8_loop {N : Nat} {s : Nat → Int32} {P J C X S : Nat} {p : Int32} (hN : 2000 < N) (hV : pn_V s P J C X S) : ∀ (d m n : Nat) (t : Nat → Int32), m + d = 2 ^ C → d < n → ∃ T, pq_w (fun _ _ _ => none) (f_X8_worth_L27 N s p (nI (pn_bm (pm_oq s X p) C))) n (nI (pn_gm (pm_wf s p C X S) m)) (nI m) t = some (nI (pn_gm (pm_wf s p C X S) (2 ^ C)), T)
  | 0, m, n, t, h1, h2 => by
    obtain ⟨n, rfl⟩ : ∃ t, n = t + 1 := ⟨n - 1, by omega⟩
    obtain ⟨-, -, ⟨c1, c2⟩, x2, s2, ⟨eP, eJ, eC, eX, eS⟩, -⟩ := id hV
    have hp : 2 ^ C ≤ 2 ^ 12 := Nat.pow_le_pow_right (by omega) c2
    have e1 : (1 : Int32) <<< (nI C &&& 31) = nI (2 ^ C) := pu_shl1 ⟨C, by omega⟩
    rw [pu_w]
    unfold f_X8_worth_L27
    rw [pq_gd_i (i := 4) (by decide), show (4 : Int32).toNatClampNeg = 4 from rfl, eC, e1, if_pos (by rw [nI_leI (by omega) (by omega)]; omega), show m = 2 ^ C by omega]
    exact ⟨t, rfl⟩
  | d + 1, m, n, t, h1, h2 => by
    obtain ⟨n, rfl⟩ : ∃ t, n = t + 1 := ⟨n - 1, by omega⟩
    obtain ⟨-, -, ⟨c1, c2⟩, x2, s2, ⟨eP, eJ, eC, eX, eS⟩, -⟩ := id hV
    have hp : 2 ^ C ≤ 2 ^ 12 := Nat.pow_le_pow_right (by omega) c2
    have e1 : (1 : Int32) <<< (nI C &&& 31) = nI (2 ^ C) := pu_shl1 ⟨C, by omega⟩
    have ih := pm_w8_loop (p := p) hN hV d (m + 1) n
    rw [pu_w]
    generalize pq_w (fun _ _ _ => none) (f_X8_worth_L27 N s p (nI (pn_bm (pm_oq s X p) C))) n = kk at ih ⊢
    unfold f_X8_worth_L27
    rw [pq_gd_i (i := 4) (by decide), show (4 : Int32).toNatClampNeg = 4 from rfl, eC, e1, if_neg (by rw [nI_leI (by omega) (by omega)]; omega), pu_j]
    have hg : pn_gm (pm_wf s p C X S) m ≤ C := (pn_gm_le _ _ _).mpr (fun o _ => pm_wf_le s p C X S o)
    have hw := pm_wf_le s p C X S m
    have key : ∀ (v : Nat) (T : Nat → Int32), v = pm_wf s p C X S m → ∃ T', (pq_j (fun (y0_J80 : Int32) => (pq_l (nI m + 1) (fun x4_3 => kk y0_J80 x4_3 T) : Option (Int32 × (Nat → Int32)))) (fun kJ80 => (if nI v ≤ nI (pn_gm (pm_wf s p C X S) m) then kJ80 (nI (pn_gm (pm_wf s p C X S) m)) else kJ80 (nI v))) : Option (Int32 × (Nat → Int32))) = some (nI (pn_gm (pm_wf s p C X S) (2 ^ C)), T') := by
      intro v T hv
      have ih2 := ih T (by omega) (by omega)
      rw [pn_gm_s, ← hv] at ih2
      rw [pu_j]
      by_cases hle : v ≤ pn_gm (pm_wf s p C X S) m
      · rw [if_pos hle] at ih2
        rw [if_pos ((nI_leI (by omega) (by omega)).mpr hle)]
        dsimp only
        rw [pu_l, nI_1]
        exact ih2
      · rw [if_neg hle] at ih2
        rw [if_neg (fun h => hle ((nI_leI (by omega) (by omega)).mp h))]
        dsimp only
        rw [pu_l, nI_1]
        exact ih2
    by_cases hz : (nI m &&& (nI (pn_bm (pm_oq s X p) C) ^^^ (-1 : Int32))) = 0
    · rw [if_pos hz]
      obtain ⟨T, e2, -, -⟩ := pm_throwsOn (p := p) (t := t) (m := m) hN hV (Nat.le_refl C) x2 (by omega)
      rw [pq_gd_i (i := 4) (by decide), e2, pu_cs]
      exact key _ T (by unfold pm_wf; rw [if_pos hz])
    · rw [if_neg hz]
      have := key 0 t (by unfold pm_wf; rw [if_neg hz])
      rw [nI_0] at this
      exact this
theorem pm_worth {s : Nat → Int32} {P J C X S : Nat} {p : Int32} (hV : pn_V s P J C X S) : (pn_gm (pm_wf s p C X S) (2 ^ C) : Int) = pm_V s p (-4) (C - X) X S := by
  obtain ⟨-, -, ⟨c1, c2⟩, x2, s2, -⟩ := id hV
  have h0 : 0 ≤ pm_V s p (-4) (C - X) X S := by
    have := pm_U_V (p := p) (q := fun _ => false) hV (fun k h => by cases h) (C - X) X S (by omega)
    omega
  have hle : ∀ m, m < 2 ^ C → (pm_wf s p C X S m : Int) ≤ pm_V s p (-4) (C - X) X S := by
    intro m hm
    unfold pm_wf
    by_cases hz : (nI m &&& (nI (pn_bm (pm_oq s X p) C) ^^^ (-1 : Int32))) = 0
    · rw [if_pos hz]
      rw [pm_sub_iff c2 hm] at hz
      exact pm_U_V hV (fun k hk => (hz k hk).2.2) (C - X) X S (by omega)
    · rw [if_neg hz]
      exact h0
  have a1 : pn_gm (pm_wf s p C X S) (2 ^ C) ≤ (pm_V s p (-4) (C - X) X S).toNat := (pn_gm_le _ _ _).mpr (fun m hm => by have := hle m hm; omega)
  obtain ⟨q, hq, eq⟩ := pm_U_ex (p := p) hV (C - X) X S (by omega)
  have hl := pn_bm_lt q C
  have hz : (nI (pn_bm q C) &&& (nI (pn_bm (pm_oq s X p) C) ^^^ (-1 : Int32))) = 0 := by
    rw [pm_sub_iff c2 hl]
    intro k hk
    by_cases hkC : k < C
    · rw [pn_bm_tb _ hkC] at hk
      have := hq k hk
      exact ⟨this.1.1, hkC, this.2⟩
    · have : pn_bm q C < 2 ^ k := Nat.lt_of_lt_of_le hl (Nat.pow_le_pow_right (by omega) (by omega))
      rw [Nat.testBit_lt_two_pow this] at hk
      cases hk
  have a2 := (pn_gm_le (pm_wf s p C X S) (2 ^ C) _).mp (Nat.le_refl _) (pn_bm q C) hl
  have e2 : pm_wf s p C X S (pn_bm q C) = pm_U s p q (C - X) X S := by
    unfold pm_wf
    rw [if_pos hz]
    exact pm_U_cg _ _ _ (fun k h1 h2 => pn_bm_tb q (by omega))
  rw [e2] at a2
  omega
set_option maxHeartbeats 2000000 in
theorem sim_worth {xI : Nat → Int32} {xA : Nat → Nat → Int32} {xL : Nat → Nat → Int64} {aw : Nat → Nat → Int32} {mI : Nat → Int32} {mA : Nat → Nat → Int32} {mL : Nat → Int64} (hR : pq_R xI xA xL aw mI mA mL) (p1 : Int32) : ∃ (zc : Int32 × (Nat → Int32) × (Nat → Int32)) (zm : Int32 × (Nat → Int32)), f_X7_worth pq_N (xA 37) (xA 38) (xI 10) (xI 11) (xI 12) (xI 13) (xI 14) (xA 18) (xA 21) (xA 22) (xA 23) (xA 24) (xA 25) p1 = some zc ∧ f_X8_worth pq_N (mA 6) (mA 8) p1 = some zm ∧ zc.1 = zm.1 ∧ pq_R xI (va_up (va_up xA 37 zc.2.1) 38 zc.2.2) xL aw mI (va_up mA 8 zm.2) mL := by
  obtain ⟨⟨r0, r1, r2, r3, r4⟩, k2, k3, k4⟩ := pu_now hR
  have hscr : ∀ (f g h : Nat → Int32), pq_R xI (va_up (va_up xA 37 f) 38 g) xL aw mI (va_up mA 8 h) mL := by
    intro f g h
    refine pq_kF hR ?_ ?_ ?_ ?_
    · intro k hk; rfl
    · intro k hk; simp (disch := omega) only [pu_vo]
    · intro k hk; rfl
    · intro k hk; simp (disch := omega) only [pu_vo]
  unfold f_X7_worth f_X8_worth
  rw [r0, pu_hasParty, pu_cs, pu_isParty k2, pu_cs]
  by_cases hv : 0 ≤ p1.toInt ∧ p1.toInt < (mA 6 2).toInt
  · rw [pu_f1 hv, pu_f1 hv]
    obtain ⟨P, J, C, X, S, hW, hC⟩ := pu_there hR (k := 2) (by omega) hv
    have hV := hW.v
    obtain ⟨⟨p1', p2'⟩, ⟨j1, j2⟩, ⟨c1, c2⟩, x2, s2, ⟨eP, eJ, eC, eX, eS⟩, -⟩ := id hV
    obtain ⟨l1, -⟩ := pu_left (N := pq_N) hV
    have hN := pu_N2
    rw [r2, r3, l1, pu_cs, r1, r4, eJ, eX, eS]
    obtain ⟨z, h', t', ez, hz⟩ := pm_contest (N := pq_N) (p := p1) (q := -4) (K := C - X) (here := xA 37) (th := xA 38) (show 20 < pq_N by omega) hV hC (by omega)
    have ez' : f_X3_contest pq_N (xA 37) (xA 38) (nI J) (nI X) (nI S) (xA 18) (xA 21) (xA 22) (xA 23) (xA 24) (xA 25) p1 (-4) (nI (C - X)) = some (z, h', t') := ez
    rw [ez', pu_cs, pq_gd_i (i := 4) (by decide), show (4 : Int32).toNatClampNeg = 4 from rfl, eC, pm_ownOnes (by omega) c2 x2 eX, pu_cs]
    obtain ⟨T, eT⟩ := pm_w8_loop (N := pq_N) (p := p1) hN hV (2 ^ C) 0 pq_N (mA 8) (by omega) (by have : 2 ^ C ≤ 2 ^ 12 := Nat.pow_le_pow_right (by omega) c2; obtain ⟨n, hn⟩ := pu_ND; omega)
    have eT' : pq_w (fun _ _ _ => none) (f_X8_worth_L27 pq_N (mA 6) p1 (nI (pn_bm (pm_oq (mA 6) X p1) C))) pq_N 0 0 (mA 8) = some (nI (pn_gm (pm_wf (mA 6) p1 C X S) (2 ^ C)), T) := eT
    rw [eT']
    refine ⟨_, _, rfl, rfl, ?_, hscr _ _ _⟩
    show z = nI (pn_gm (pm_wf (mA 6) p1 C X S) (2 ^ C))
    apply Int32.toInt_inj.mp
    have hg : pn_gm (pm_wf (mA 6) p1 C X S) (2 ^ C) ≤ C := (pn_gm_le _ _ _).mpr (fun o _ => pm_wf_le (mA 6) p1 C X S o)
    rw [hz, nI_toInt (by omega), pm_worth hV]
  · rw [pu_f0 hv, pu_f0 hv]
    exact ⟨_, _, rfl, rfl, rfl, hscr _ _ _⟩
