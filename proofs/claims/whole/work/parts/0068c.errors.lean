/-! ===== errors ===== -/
def pm_su (f : Nat → Nat) : Nat → Nat
  | 0 => 0
  | n + 1 => pm_su f n + f n
theorem pm_su_s (f : Nat → Nat) (n : Nat) : pm_su f (n + 1) = pm_su f n + f n := rfl
theorem pm_su_cg {f g : Nat → Nat} : ∀ {n : Nat}, (∀ i, i < n → f i = g i) → pm_su f n = pm_su g n
  | 0, _ => rfl
  | n + 1, h => by rw [pm_su_s, pm_su_s, pm_su_cg (fun i hi => h i (by omega)), h n (by omega)]
theorem pm_su_add (f g : Nat → Nat) : ∀ n, pm_su f n + pm_su g n = pm_su (fun i => f i + g i) n
  | 0 => rfl
  | n + 1 => by
    have := pm_su_add f g n
    rw [pm_su_s, pm_su_s, pm_su_s]
    omega
theorem pm_su_two (f : Nat → Nat) (m : Nat) : ∀ n, pm_su f (m + n) = pm_su f m + pm_su (fun i => f (m + i)) n
  | 0 => rfl
  | n + 1 => by
    have := pm_su_two f m n
    rw [← Nat.add_assoc, pm_su_s, pm_su_s]
    omega
theorem pm_su_le {f g : Nat → Nat} : ∀ {n : Nat}, (∀ i, i < n → f i ≤ g i) → pm_su f n ≤ pm_su g n
  | 0, _ => Nat.le_refl 0
  | n + 1, h => by
    have h1 := pm_su_le (n := n) (f := f) (g := g) (fun i hi => h i (by omega))
    have h2 := h n (by omega)
    rw [pm_su_s, pm_su_s]
    omega
theorem pm_su_0 {f : Nat → Nat} : ∀ {n : Nat}, (∀ i, i < n → f i = 0) → pm_su f n = 0
  | 0, _ => rfl
  | n + 1, h => by rw [pm_su_s, pm_su_0 (fun i hi => h i (by omega)), h n (by omega)]
/-- one entry more by v -/
theorem pm_su_up {T T' φ : Nat → Nat} {x v : Nat} (h1 : T' x = T x + v) (h2 : ∀ i, i ≠ x → T' i = T i) : ∀ n, pm_su (fun i => T' i * φ i) n = pm_su (fun i => T i * φ i) n + (if x < n then v * φ x else 0)
  | 0 => by rw [if_neg (Nat.not_lt_zero x)]; rfl
  | n + 1 => by
    have ih := pm_su_up (φ := φ) h1 h2 n
    rw [pm_su_s, pm_su_s, ih]
    by_cases e : n = x
    · subst e
      rw [if_neg (Nat.lt_irrefl n), if_pos (Nat.lt_succ_self n), h1, Nat.add_mul]
      omega
    · rw [h2 n e]
      by_cases l : x < n
      · rw [if_pos l, if_pos (show x < n + 1 by omega)]
        omega
      · rw [if_neg l, if_neg (show ¬ x < n + 1 by omega)]
        omega
/-- who wins the k-th case from X on before the judge j, an error being made or not -/
def pm_ew (s : Nat → Int32) (c j : Nat) (b : Bool) : Int32 := if b = true then pn_op s c (pn_f s j (s (23 + j)) c) else pn_f s j (s (23 + j)) c
def pm_ej (s : Nat → Int32) (X S : Nat) (b : Nat → Bool) : Nat → Nat
  | 0 => S
  | k + 1 => pm_n s (pm_ej s X S b k) (X + k) (pm_ew s (X + k) (pm_ej s X S b k) (b k))
def pm_eo (q : Nat) (b : Nat → Bool) : Nat → Nat
  | 0 => 1
  | k + 1 => pm_eo q b k * (if b k = true then q else 10 - q)
theorem pm_ej_s (s : Nat → Int32) (X S : Nat) (b : Nat → Bool) (k : Nat) : pm_ej s X S b (k + 1) = pm_n s (pm_ej s X S b k) (X + k) (pm_ew s (X + k) (pm_ej s X S b k) (b k)) := rfl
theorem pm_eo_s (q : Nat) (b : Nat → Bool) (k : Nat) : pm_eo q b (k + 1) = pm_eo q b k * (if b k = true then q else 10 - q) := rfl
theorem pm_ej_cg {s : Nat → Int32} {X S : Nat} {b b' : Nat → Bool} : ∀ {k : Nat}, (∀ i, i < k → b i = b' i) → pm_ej s X S b k = pm_ej s X S b' k
  | 0, _ => rfl
  | k + 1, h => by rw [pm_ej_s, pm_ej_s, pm_ej_cg (fun i hi => h i (by omega)), h k (by omega)]
theorem pm_eo_cg {q : Nat} {b b' : Nat → Bool} : ∀ {k : Nat}, (∀ i, i < k → b i = b' i) → pm_eo q b k = pm_eo q b' k
  | 0, _ => rfl
  | k + 1, h => by rw [pm_eo_s, pm_eo_s, pm_eo_cg (fun i hi => h i (by omega)), h k (by omega)]
theorem pm_ej_lt {s : Nat → Int32} {P J C X S : Nat} {b : Nat → Bool} (hV : pn_V s P J C X S) : ∀ {k : Nat}, X + k ≤ C → pm_ej s X S b k < J
  | 0, _ => hV.2.2.2.2.1
  | k + 1, h => by
    rw [pm_ej_s]
    exact pm_n_lt hV (pm_ej_lt hV (by omega)) (by omega) _
/-- the sets of k + 1 errors, by the last one -/
theorem pm_e_split {s : Nat → Int32} {X S q k : Nat} {ψ : Nat → Bool → Nat} : pm_su (fun m => pm_eo q (fun i => m.testBit i) (k + 1) * ψ (pm_ej s X S (fun i => m.testBit i) k) (m.testBit k)) (2 ^ (k + 1)) = pm_su (fun m => pm_eo q (fun i => m.testBit i) k * ((10 - q) * ψ (pm_ej s X S (fun i => m.testBit i) k) false + q * ψ (pm_ej s X S (fun i => m.testBit i) k) true)) (2 ^ k) := by
  have e2 : 2 ^ (k + 1) = 2 ^ k + 2 ^ k := by rw [Nat.pow_succ]; omega
  rw [e2, pm_su_two, pm_su_add]
  refine pm_su_cg (fun m hm => ?_)
  have b1 : m.testBit k = false := Nat.testBit_lt_two_pow hm
  have b2 : (2 ^ k + m).testBit k = true := by rw [Nat.testBit_two_pow_add_eq, b1]; rfl
  have b3 : ∀ i, i < k → (2 ^ k + m).testBit i = m.testBit i := fun i hi => Nat.testBit_two_pow_add_gt hi m
  have c1 : pm_eo q (fun i => (2 ^ k + m).testBit i) k = pm_eo q (fun i => m.testBit i) k := pm_eo_cg b3
  have c2 : pm_ej s X S (fun i => (2 ^ k + m).testBit i) k = pm_ej s X S (fun i => m.testBit i) k := pm_ej_cg b3
  rw [pm_eo_s, pm_eo_s, b1, b2, c1, c2, if_neg (by decide), if_pos rfl, Nat.mul_add, Nat.mul_assoc, Nat.mul_assoc]
theorem pm_eo_all {s : Nat → Int32} {X S q : Nat} (hq : q ≤ 10) : ∀ k, pm_su (fun m => pm_eo q (fun i => m.testBit i) k) (2 ^ k) = 10 ^ k
  | 0 => rfl
  | k + 1 => by
    have ih := pm_eo_all (s := s) (X := X) (S := S) hq k
    have h := pm_e_split (s := s) (X := X) (S := S) (q := q) (k := k) (ψ := fun _ _ => 1)
    have h1 : pm_su (fun m => pm_eo q (fun i => m.testBit i) (k + 1)) (2 ^ (k + 1)) = pm_su (fun m => pm_eo q (fun i => m.testBit i) k * 10) (2 ^ k) := by
      rw [← pm_su_cg (f := fun m => pm_eo q (fun i => m.testBit i) (k + 1) * 1) (g := fun m => pm_eo q (fun i => m.testBit i) (k + 1)) (fun m _ => Nat.mul_one _), h]
      refine pm_su_cg (fun m _ => ?_)
      rw [Nat.mul_one, Nat.mul_one, show 10 - q + q = 10 by omega]
    have h2 : ∀ n, pm_su (fun m => pm_eo q (fun i => m.testBit i) k * 10) n = pm_su (fun m => pm_eo q (fun i => m.testBit i) k) n * 10 := by
      intro n
      induction n with
      | zero => rfl
      | succ n ihn => rw [pm_su_s, pm_su_s, ihn, Nat.add_mul]
    rw [h1, h2, ih, Nat.pow_succ]
/-- the class' row of judges, weighed by any weights, against all the sets of errors -/
def pm_E (s : Nat → Int32) (J X S q k : Nat) (H : Nat → Nat) : Prop := ∀ φ : Nat → Nat, pm_su (fun i => H i * φ i) J = pm_su (fun m => pm_eo q (fun i => m.testBit i) k * φ (pm_ej s X S (fun i => m.testBit i) k)) (2 ^ k)
def pm_Ei (s : Nat → Int32) (J c q : Nat) (H T : Nat → Nat) (j : Nat) : Prop := ∀ φ : Nat → Nat, pm_su (fun i => T i * φ i) J = pm_su (fun i => H i * ((10 - q) * φ (pm_n s i c (pm_ew s c i false)) + q * φ (pm_n s i c (pm_ew s c i true)))) j
theorem pm_Ei_E {s : Nat → Int32} {J X S q k : Nat} {H T : Nat → Nat} (hE : pm_E s J X S q k H) (hT : pm_Ei s J (X + k) q H T J) : pm_E s J X S q (k + 1) T := by
  intro φ
  rw [hT φ, hE (fun i => (10 - q) * φ (pm_n s i (X + k) (pm_ew s (X + k) i false)) + q * φ (pm_n s i (X + k) (pm_ew s (X + k) i true)))]
  exact (pm_e_split (s := s) (X := X) (S := S) (q := q) (k := k) (ψ := fun j b => φ (pm_n s j (X + k) (pm_ew s (X + k) j b)))).symm
theorem pm_er_in {N : Nat} {x : Nat → Int32} {a : Nat → Nat → Int32} {s here : Nat → Int32} {P J C X S c q : Nat} {H : Nat → Nat} {kL : Int32 → (Nat → Int32) → (Nat → Int32) → Option (Int32 × (Nat → Int32) × (Nat → Int32))} (hN : 10 < N) (hV : pn_V s P J C X S) (hC : pn_C x a s P J C) (hc : c < C) (hq : q ≤ 10) (hh : ∀ i, i < J → here i = nI (H i)) : ∀ (d j n : Nat) (th : Nat → Int32) (T : Nat → Nat), j + d = J → d < n → pm_Ei s J c q H T j → (∀ i, i < J → th i = nI (T i)) → ∃ r th' T', pq_w (fun _ _ => none) (f_X3_oddsOfLast_L52 N (nI J) (a 0) (a 3) (a 4) (a 5) (a 6) (a 7) (nI q) (nI c) here kL) n (nI j) th = kL (nI (c + 1)) r th' ∧ pm_Ei s J c q H T' J ∧ ∀ i, i < J → r i = nI (T' i)
  | 0, j, n, th, T, h1, h2, hT, ht => by
    obtain ⟨n, rfl⟩ : ∃ t, n = t + 1 := ⟨n - 1, by omega⟩
    have hJ6 := hV.2.1.2
    rw [pu_w]
    unfold f_X3_oddsOfLast_L52
    rw [if_pos (by rw [nI_leI (by omega) (by omega)]; omega), pm_move, pu_cs, pu_l, nI_1]
    refine ⟨_, th, T, rfl, ?_, fun i hi => by rw [pu_cpy (by omega)]; exact ht i hi⟩
    have ej : j = J := by omega
    rw [ej] at hT
    exact hT
  | d + 1, j, n, th, T, h1, h2, hT, ht => by
    obtain ⟨n, rfl⟩ : ∃ t, n = t + 1 := ⟨n - 1, by omega⟩
    have hJ6 := hV.2.1.2
    have hj : j < J := by omega
    have ih := pm_er_in (kL := kL) hN hV hC hc hq hh d (j + 1) n
    rw [pu_w]
    generalize pq_w (fun _ _ => none) (f_X3_oddsOfLast_L52 N (nI J) (a 0) (a 3) (a 4) (a 5) (a 6) (a 7) (nI q) (nI c) here kL) n = kk at ih ⊢
    have hn0 := pm_n_lt hV hj hc (pn_f s j (s (23 + j)) c)
    have hn1 := pm_n_lt hV hj hc (pn_op s c (pn_f s j (s (23 + j)) c))
    unfold f_X3_oddsOfLast_L52
    rw [if_neg (by rw [nI_leI (by omega) (by omega)]; omega), pm_wb hV hC hj hc, pu_cs, pm_sits hN hV hC hj hc, pu_cs, pu_gd (by omega) (by omega), pu_gd (by omega) (by omega), pu_gd (by omega) (by omega), pu_l, pm_nby hN hV hC hj hc pm_ow_f, pu_cs, pu_gd (by omega) (by omega), pu_gd (by omega) (by omega), pu_gd (by omega) (by omega), pu_l, pu_l, nI_1, nI_clamp (by omega), nI_clamp (by omega), nI_clamp (by omega), hh j hj, ht _ hn0, pu_lit 10, pk_sub hq, pk_mul, pk_mul, nI_add]
    obtain ⟨T1, hT1⟩ : ∃ T1 : Nat → Nat, ∀ i, T1 i = if i = pm_n s j c (pn_f s j (s (23 + j)) c) then T i + H j * (10 - q) else T i := ⟨_, fun _ => rfl⟩
    have g1 : ∀ i, i < J → upd th (pm_n s j c (pn_f s j (s (23 + j)) c)) (nI (T (pm_n s j c (pn_f s j (s (23 + j)) c)) + H j * (10 - q))) i = nI (T1 i) := by
      intro i hi
      rw [hT1 i]
      by_cases e : i = pm_n s j c (pn_f s j (s (23 + j)) c)
      · rw [if_pos e, e, pu_us]
      · rw [if_neg e, pu_un e, ht i hi]
    rw [g1 _ hn1, nI_add]
    obtain ⟨T2, hT2⟩ : ∃ T2 : Nat → Nat, ∀ i, T2 i = if i = pm_n s j c (pn_op s c (pn_f s j (s (23 + j)) c)) then T1 i + H j * q else T1 i := ⟨_, fun _ => rfl⟩
    refine ih _ T2 (by omega) (by omega) (fun φ => ?_) (fun i hi => ?_)
    · rw [pm_su_s, ← hT φ]
      have u1 := pm_su_up (T := T) (T' := T1) (φ := φ) (x := pm_n s j c (pn_f s j (s (23 + j)) c)) (v := H j * (10 - q)) (by rw [hT1, if_pos rfl]) (fun i hi => by rw [hT1, if_neg hi]) J
      have u2 := pm_su_up (T := T1) (T' := T2) (φ := φ) (x := pm_n s j c (pn_op s c (pn_f s j (s (23 + j)) c))) (v := H j * q) (by rw [hT2, if_pos rfl]) (fun i hi => by rw [hT2, if_neg hi]) J
      rw [if_pos hn0] at u1
      rw [if_pos hn1] at u2
      have e0 : pm_ew s c j false = pn_f s j (s (23 + j)) c := rfl
      have e1 : pm_ew s c j true = pn_op s c (pn_f s j (s (23 + j)) c) := rfl
      rw [u2, u1, e0, e1, Nat.mul_add, Nat.mul_assoc, Nat.mul_assoc, Nat.add_assoc]
    · rw [hT2 i]
      by_cases e : i = pm_n s j c (pn_op s c (pn_f s j (s (23 + j)) c))
      · rw [if_pos e, e, pu_us]
      · rw [if_neg e, pu_un e, g1 i hi]
def pm_eg (s : Nat → Int32) (p : Int32) (q c j : Nat) : Nat := if pm_ow s c p = true then (if pn_f s j (s (23 + j)) c = p then 10 - q else q) else 0
theorem pm_eg_e {s : Nat → Int32} {P J C X S c j q : Nat} {p : Int32} (hV : pn_V s P J C X S) (hc : c < C) : pm_eg s p q c j = (10 - q) * (if pm_ew s c j false = p then 1 else 0) + q * (if pm_ew s c j true = p then 1 else 0) := by
  have e0 : pm_ew s c j false = pn_f s j (s (23 + j)) c := rfl
  have e1 : pm_ew s c j true = pn_op s c (pn_f s j (s (23 + j)) c) := rfl
  rw [e0, e1]
  obtain ⟨⟨p1, p2⟩, -, -, -, -, -, hk, hg, hl, hf, hab, hw⟩ := hV
  obtain ⟨a, b, ha, hb, hne, ea, eb⟩ := hab c hc
  have hab' : s (35 + c) ≠ s (47 + c) := by
    rw [ea, eb]
    exact fun e => hne ((nI_eq (by omega) (by omega)).mp e)
  unfold pm_eg pm_ow
  simp only [decide_eq_true_eq]
  have hop : (pn_f s j (s (23 + j)) c = s (35 + c) ∧ pn_op s c (pn_f s j (s (23 + j)) c) = s (47 + c)) ∨ (pn_f s j (s (23 + j)) c = s (47 + c) ∧ pn_op s c (pn_f s j (s (23 + j)) c) = s (35 + c)) := by
    unfold pn_op
    rcases pm_f_or s c j (s (23 + j)) with h | h
    · exact Or.inl ⟨h, by rw [h, if_pos rfl]⟩
    · exact Or.inr ⟨h, by rw [h, if_neg (fun e => hab' e.symm)]⟩
  rcases hop with ⟨h1, h2⟩ | ⟨h1, h2⟩
  · rw [h2, h1]
    by_cases q1 : s (35 + c) = p
    · have q2 : ¬ s (47 + c) = p := fun e => hab' (by rw [q1, e])
      simp only [q1, q2, or_false, if_true, if_false]
      omega
    · by_cases q2 : s (47 + c) = p
      · simp only [q1, q2, or_true, if_true, if_false]
        omega
      · simp only [q1, q2, or_false, if_false, Nat.mul_zero, Nat.add_zero]
  · rw [h2, h1]
    by_cases q1 : s (35 + c) = p
    · have q2 : ¬ s (47 + c) = p := fun e => hab' (by rw [q1, e])
      simp only [q1, q2, or_false, if_true, if_false]
      omega
    · by_cases q2 : s (47 + c) = p
      · simp only [q1, q2, or_true, if_true, if_false]
        omega
      · simp only [q1, q2, or_false, if_false, Nat.mul_zero, Nat.add_zero]
theorem pm_er_end {N : Nat} {x : Nat → Int32} {a : Nat → Nat → Int32} {s here th : Nat → Int32} {P J C X S c q : Nat} {p : Int32} {H : Nat → Nat} (hV : pn_V s P J C X S) (hC : pn_C x a s P J C) (hc : c < C) (hq : q ≤ 10) (hh : ∀ i, i < J → here i = nI (H i)) : ∀ (d j n : Nat), j + d = J → d < n → pq_w (fun _ _ => none) (f_X3_oddsOfLast_L150 N (nI J) (a 3) (a 4) (a 5) (a 6) (a 7) p (nI q) (nI c) here th) n (nI (pm_su (fun i => H i * pm_eg s p q c i) j)) (nI j) = some (nI (pm_su (fun i => H i * pm_eg s p q c i) J), here, th)
  | 0, j, n, h1, h2 => by
    obtain ⟨n, rfl⟩ : ∃ t, n = t + 1 := ⟨n - 1, by omega⟩
    have hJ6 := hV.2.1.2
    rw [pu_w]
    unfold f_X3_oddsOfLast_L150
    rw [if_pos (by rw [nI_leI (by omega) (by omega)]; omega), show j = J by omega]
  | d + 1, j, n, h1, h2 => by
    obtain ⟨n, rfl⟩ : ∃ t, n = t + 1 := ⟨n - 1, by omega⟩
    have hJ6 := hV.2.1.2
    have hj : j < J := by omega
    have ih := pm_er_end (N := N) (th := th) (p := p) hV hC hc hq hh d (j + 1) n (by omega) (by omega)
    rw [pu_w]
    generalize pq_w (fun _ _ => none) (f_X3_oddsOfLast_L150 N (nI J) (a 3) (a 4) (a 5) (a 6) (a 7) p (nI q) (nI c) here th) n = kk at ih ⊢
    rw [pm_su_s] at ih
    unfold f_X3_oddsOfLast_L150
    rw [if_neg (by rw [nI_leI (by omega) (by omega)]; omega), pm_own hV hC hc, pu_cs, pu_j]
    unfold pm_eg at ih ⊢
    by_cases ho : pm_ow s c p = true
    · rw [pu_f1 ho, pu_gd (by omega) (by omega), pm_wb hV hC hj hc, pu_cs, pu_j]
      simp only [ho, if_true] at ih ⊢
      by_cases hf : pn_f s j (s (23 + j)) c = p
      · rw [if_pos hf, pu_l, pu_l, nI_1, nI_clamp (by omega), hh j hj, pu_lit 10, pk_sub hq, pk_mul, nI_add]
        rw [if_pos hf] at ih
        exact ih
      · rw [if_neg hf, pu_l, pu_l, nI_1, nI_clamp (by omega), hh j hj, pk_mul, nI_add]
        rw [if_neg hf] at ih
        exact ih
    · rw [pu_f0 ho]
      dsimp only
      rw [pu_l, nI_1]
      simp only [ho, if_false, Nat.mul_zero, Nat.add_zero, Bool.false_eq_true] at ih ⊢
      exact ih
theorem pm_er_loop {N : Nat} {x : Nat → Int32} {a : Nat → Nat → Int32} {s : Nat → Int32} {P J C X S q K : Nat} {p : Int32} (hN : 20 < N) (hV : pn_V s P J C X S) (hC : pn_C x a s P J C) (hK : X + K < C) (hq : q ≤ 10) : ∀ (d k n : Nat) (here th : Nat → Int32) (H : Nat → Nat), k + d = K → d < n → pm_E s J X S q k H → (∀ i, i < J → here i = nI (H i)) → ∃ h' t' H', pq_w (fun _ _ _ => none) (f_X3_oddsOfLast_L34 N (nI J) (a 0) (a 3) (a 4) (a 5) (a 6) (a 7) p (nI q) (nI (X + K))) n (nI (X + k)) here th = some (nI (pm_su (fun i => H' i * pm_eg s p q (X + K) i) J), h', t') ∧ pm_E s J X S q K H'
  | 0, k, n, here, th, H, h1, h2, hE, hh => by
    obtain ⟨n, rfl⟩ : ∃ t, n = t + 1 := ⟨n - 1, by omega⟩
    have hJ6 := hV.2.1.2
    have hC12 := hV.2.2.1.2
    rw [pu_w]
    unfold f_X3_oddsOfLast_L34
    rw [if_pos (by rw [nI_leI (by omega) (by omega)]; omega)]
    have e := pm_er_end (N := N) (th := th) (p := p) hV hC hK hq hh J 0 N (by omega) (by omega)
    have ek : k = K := by omega
    rw [ek] at hE
    exact ⟨here, th, H, e, hE⟩
  | d + 1, k, n, here, th, H, h1, h2, hE, hh => by
    obtain ⟨n, rfl⟩ : ∃ t, n = t + 1 := ⟨n - 1, by omega⟩
    have hJ6 := hV.2.1.2
    have hC12 := hV.2.2.1.2
    have ih := pm_er_loop (p := p) hN hV hC hK hq d (k + 1) n
    rw [pu_w]
    generalize pq_w (fun _ _ _ => none) (f_X3_oddsOfLast_L34 N (nI J) (a 0) (a 3) (a 4) (a 5) (a 6) (a 7) p (nI q) (nI (X + K))) n = kk at ih ⊢
    unfold f_X3_oddsOfLast_L34
    rw [if_neg (by rw [nI_leI (by omega) (by omega)]; omega), pu_fill (by omega) (by omega), pu_cs]
    obtain ⟨r, th', T', e1, e2, e3⟩ := pm_er_in (N := N) (kL := kk) (c := X + k) (q := q) (here := here) (H := H) (show 10 < N by omega) hV hC (by omega) hq hh J 0 N (pn_fl th 0 6) (fun _ => 0) (by omega) (by omega) (fun φ => pm_su_0 (fun i _ => Nat.zero_mul _)) (fun i hi => by rw [pn_fl_in (by omega)]; rfl)
    rw [nI_0] at e1
    rw [e1]
    exact ih r th' T' (by omega) (by omega) (pm_Ei_E hE e2) e3
/-- in how many of all lots p wins -/
def pm_ef (s : Nat → Int32) (p : Int32) (X S q K m : Nat) : Nat := if pm_ew s (X + K) (pm_ej s X S (fun i => m.testBit i) K) (m.testBit K) = p then pm_eo q (fun i => m.testBit i) (K + 1) else 0
theorem pm_odds {N : Nat} {x : Nat → Int32} {a : Nat → Nat → Int32} {s here th : Nat → Int32} {P J C X S q K : Nat} {p : Int32} (hN : 20 < N) (hV : pn_V s P J C X S) (hC : pn_C x a s P J C) (hK : X + K < C) (hq : q ≤ 10) : ∃ h' t', f_X3_oddsOfLast N here th (nI J) (nI X) (nI S) (a 0) (a 3) (a 4) (a 5) (a 6) (a 7) p (nI (K + 1)) (nI q) = some (nI (pm_su (pm_ef s p X S q K) (2 ^ (K + 1))), h', t') := by
  have hJ6 := hV.2.1.2
  have hC12 := hV.2.2.1.2
  have hS := hV.2.2.2.2.1
  unfold f_X3_oddsOfLast
  rw [pu_fill (by omega) (by omega), pu_cs, pu_gd (by omega) (by omega), pu_l, nI_clamp (by omega), nI_add, ← Nat.add_assoc, nI_pred, pu_l]
  have hE0 : pm_E s J X S q 0 (fun i => if i = S then 1 else 0) := by
    intro φ
    have h := pm_su_up (T := fun _ => 0) (T' := fun i => if i = S then 1 else 0) (φ := φ) (x := S) (v := 1) (by rw [if_pos rfl]) (fun i hi => by rw [if_neg hi]) J
    rw [if_pos hS, pm_su_0 (fun i _ => Nat.zero_mul _), Nat.zero_add, Nat.one_mul] at h
    rw [h]
    show φ S = 0 + 1 * φ S
    omega
  obtain ⟨h', t', H', e1, e2⟩ := pm_er_loop (N := N) (p := p) (q := q) (K := K) hN hV hC hK hq K 0 N (upd (pn_fl here 0 6) S 1) th (fun i => if i = S then 1 else 0) (by omega) (by omega) hE0 (fun i hi => by
    by_cases e : i = S
    · subst e; rw [pu_us, if_pos rfl]; rfl
    · rw [pu_un e, if_neg e, pn_fl_in (by omega)]; rfl)
  have e3 : pm_su (fun i => H' i * pm_eg s p q (X + K) i) J = pm_su (pm_ef s p X S q K) (2 ^ (K + 1)) := by
    rw [e2 (pm_eg s p q (X + K))]
    have h := pm_e_split (s := s) (X := X) (S := S) (q := q) (k := K) (ψ := fun j b => if pm_ew s (X + K) j b = p then 1 else 0)
    rw [pm_su_cg (f := pm_ef s p X S q K) (g := fun m => pm_eo q (fun i => m.testBit i) (K + 1) * (if pm_ew s (X + K) (pm_ej s X S (fun i => m.testBit i) K) (m.testBit K) = p then 1 else 0)) (fun m _ => by
      unfold pm_ef
      split
      · rw [Nat.mul_one]
      · rw [Nat.mul_zero]), h]
    exact pm_su_cg (fun m _ => by rw [pm_eg_e hV hK])
  rw [e3] at e1
  exact ⟨h', t', e1⟩
theorem pm_ef_le {s : Nat → Int32} {p : Int32} {X S q K : Nat} (hq : q ≤ 10) : pm_su (pm_ef s p X S q K) (2 ^ (K + 1)) ≤ 10 ^ (K + 1) := by
  rw [← pm_eo_all (s := s) (X := X) (S := S) hq (K + 1)]
  refine pm_su_le (fun m _ => ?_)
  unfold pm_ef
  split
  · exact Nat.le_refl _
  · exact Nat.zero_le _
/-! the reference's side -/
theorem pm_e8_in {N : Nat} {s : Nat → Int32} {P J C X S q K m : Nat} {p x5 : Int32} {kL : Int32 → Int32 → (Nat → Int32) → Option (Int32 × (Nat → Int32))} (hN : 10 < N) (hV0 : pn_V s P J C X S) (hK : X + K < C) (hq : q ≤ 10) (hm : m < 2 ^ 20) : ∀ (d k n : Nat) (t : Nat → Int32) (w : Int32), k + d = K + 1 → d < n → pn_V t P J C (X + k) (pm_ej s X S (fun i => m.testBit i) k) → pm_st s t → (∀ i, k = i + 1 → w = pm_ew s (X + i) (pm_ej s X S (fun i => m.testBit i) i) (m.testBit i)) → ∃ T, pq_w (fun _ _ _ _ => none) (f_X8_errors_L104 N p (nI (K + 1)) (nI q) x5 (nI m) kL) n (nI (pm_eo q (fun i => m.testBit i) k)) w (nI k) t = kL (x5 + nI (pm_ef s p X S q K m)) (nI (m + 1)) T
  | 0, k, n, t, w, h1, h2, hV, hst, hw => by
    obtain ⟨n, rfl⟩ : ∃ t, n = t + 1 := ⟨n - 1, by omega⟩
    have hC12 := hV.2.2.1.2
    rw [pu_w]
    unfold f_X8_errors_L104
    rw [if_pos (by rw [nI_leI (by omega) (by omega)]; omega), pu_j]
    have ek : k = K + 1 := by omega
    have ew := hw K ek
    rw [ek]
    unfold pm_ef
    rw [← ew]
    by_cases hp : w = p
    · rw [if_pos hp, if_pos hp]
      dsimp only
      rw [pu_l, pu_l, nI_1]
      exact ⟨t, rfl⟩
    · rw [if_neg hp, if_neg hp]
      dsimp only
      rw [pu_l, pu_l, nI_1]
      exact ⟨t, rfl⟩
  | d + 1, k, n, t, w, h1, h2, hV, hst, hw => by
    obtain ⟨n, rfl⟩ : ∃ t, n = t + 1 := ⟨n - 1, by omega⟩
    have hC12 := hV.2.2.1.2
    obtain ⟨-, ⟨j1, j2⟩, -, x2, s2, ⟨eP, eJ, eC, eX, eS⟩, -⟩ := id hV
    have ih := pm_e8_in (p := p) (x5 := x5) (kL := kL) hN hV0 hK hq hm d (k + 1) n
    rw [pu_w]
    generalize pq_w (fun _ _ _ _ => none) (f_X8_errors_L104 N p (nI (K + 1)) (nI q) x5 (nI m) kL) n = kk at ih ⊢
    unfold f_X8_errors_L104
    rw [if_neg (by rw [nI_leI (by omega) (by omega)]; omega), pq_gd_i (i := 0) (by decide), pu_l, pq_gd_i (i := 1) (by decide), pq_gd_i (i := 1) (by decide), show (0 : Int32).toNatClampNeg = 0 from rfl, show (1 : Int32).toNatClampNeg = 1 from rfl, eX, eS, pu_lit 23, nI_add, pu_gd (by omega) (by omega), nI_clamp (by omega), pu_found (by omega) (by omega), pu_cs]
    have ef : pn_f t (pm_ej s X S (fun i => m.testBit i) k) (t (23 + pm_ej s X S (fun i => m.testBit i) k)) (X + k) = pn_f s (pm_ej s X S (fun i => m.testBit i) k) (s (23 + pm_ej s X S (fun i => m.testBit i) k)) (X + k) := by
      unfold pn_f pn_plea
      rw [hst (35 + (X + k)) (by omega) (by omega), hst (47 + (X + k)) (by omega) (by omega), hst (59 + (X + k)) (by omega) (by omega), hst (29 + pm_ej s X S (fun i => m.testBit i) k) (by omega) (by omega), hst (23 + pm_ej s X S (fun i => m.testBit i) k) (by omega) (by omega)]
    rw [ef, pu_hasN (by omega) (by omega), pu_cs, pu_j]
    have key : ∀ (v : Nat) (y : Int32), v = (if m.testBit k = true then q else 10 - q) → pn_wn s (X + k) (pm_ej s X S (fun i => m.testBit i) k) y = pm_ew s (X + k) (pm_ej s X S (fun i => m.testBit i) k) (m.testBit k) → ∃ T, (pq_c (f_X8_hears N t y) (fun r_15 => pq_l (nI k + 1) (fun x10_16 => kk (nI (pm_eo q (fun i => m.testBit i) k) * nI v) r_15.1 x10_16 r_15.2)) : Option (Int32 × (Nat → Int32))) = kL (x5 + nI (pm_ef s p X S q K m)) (nI (m + 1)) T := by
      intro v y hv hy
      obtain ⟨e1, hV', hst'⟩ := pm_hear hN hV hst (by omega) y
      rw [e1, pu_cs, pu_l, nI_1, pk_mul, hv, ← pm_eo_s (b := fun i => m.testBit i)]
      dsimp only
      rw [hy] at hV' ⊢
      refine ih _ _ (by omega) (by omega) hV' hst' (fun i hi => ?_)
      have : i = k := by omega
      subst this
      rfl
    by_cases hb : m / 2 ^ k % 2 = 1
    · rw [pu_f1 hb]
      dsimp only
      rw [pu_l, pu_cs, pu_j, pu_f1 hb]
      have tb := (pu_tbN m k).mpr hb
      refine key q _ (by rw [if_pos tb]) ?_
      rw [pm_wn_own pm_ow_f, tb]
      rfl
    · rw [pu_f0 hb]
      dsimp only
      rw [pu_l, pu_cs, pu_j, pu_f0 hb, pu_lit 10, pk_sub hq]
      have tb : m.testBit k = false := by
        cases h : m.testBit k with
        | false => rfl
        | true => exact absurd ((pu_tbN m k).mp h) hb
      refine key (10 - q) _ (by rw [tb]; rfl) ?_
      rw [pm_wn_none hV0 (by omega), tb]
      rfl
theorem pm_e8_loop {N : Nat} {s : Nat → Int32} {P J C X S q K D : Nat} {p p4 : Int32} (hN : 2000 < N) (hV : pn_V s P J C X S) (hK : X + K < C) (hK6 : K + 1 ≤ 6) (hq : q ≤ 10) : ∀ (d m n : Nat) (t : Nat → Int32), m + d = 2 ^ (K + 1) → d < n → ∃ T, pq_w (fun _ _ _ => none) (f_X8_errors_L82 N s p (nI (K + 1)) (nI q) p4 (nI D)) n (nI (pm_su (pm_ef s p X S q K) m)) (nI m) t = pq_c (f_X8_part N (nI (pm_su (pm_ef s p X S q K) (2 ^ (K + 1)))) (nI D) p4) (fun r_6 => some (r_6, T))
  | 0, m, n, t, h1, h2 => by
    obtain ⟨n, rfl⟩ : ∃ t, n = t + 1 := ⟨n - 1, by omega⟩
    have hp : 2 ^ (K + 1) ≤ 2 ^ 6 := Nat.pow_le_pow_right (by omega) hK6
    have e1 : (1 : Int32) <<< (nI (K + 1) &&& 31) = nI (2 ^ (K + 1)) := pu_shl1 ⟨K + 1, by omega⟩
    rw [pu_w]
    unfold f_X8_errors_L82
    rw [e1, if_pos (by rw [nI_leI (by omega) (by omega)]; omega), show m = 2 ^ (K + 1) by omega]
    exact ⟨t, rfl⟩
  | d + 1, m, n, t, h1, h2 => by
    obtain ⟨n, rfl⟩ : ∃ t, n = t + 1 := ⟨n - 1, by omega⟩
    have hp : 2 ^ (K + 1) ≤ 2 ^ 6 := Nat.pow_le_pow_right (by omega) hK6
    have e1 : (1 : Int32) <<< (nI (K + 1) &&& 31) = nI (2 ^ (K + 1)) := pu_shl1 ⟨K + 1, by omega⟩
    have ih := pm_e8_loop (p := p) (p4 := p4) (D := D) hN hV hK hK6 hq d (m + 1) n
    rw [pu_w]
    generalize pq_w (fun _ _ _ => none) (f_X8_errors_L82 N s p (nI (K + 1)) (nI q) p4 (nI D)) n = kk at ih ⊢
    obtain ⟨b1, b2, b3⟩ := pm_try (N := N) (t := t) hN hV
    unfold f_X8_errors_L82
    rw [e1, if_neg (by rw [nI_leI (by omega) (by omega)]; omega), b1, pu_cs]
    obtain ⟨T, e2⟩ := pm_e8_in (N := N) (s := s) (q := q) (K := K) (m := m) (p := p) (x5 := nI (pm_su (pm_ef s p X S q K) m)) (kL := kk) (show 10 < N by omega) hV hK hq (by omega) (K + 1) 0 N _ (-4) (by omega) (by omega) b2 b3 (fun i hi => absurd hi (by omega))
    have e2' : pq_w (fun _ _ _ _ => none) (f_X8_errors_L104 N p (nI (K + 1)) (nI q) (nI (pm_su (pm_ef s p X S q K) m)) (nI m) kk) N 1 (-4) 0 (pn_br s t 0 0 83) = kk (nI (pm_su (pm_ef s p X S q K) m) + nI (pm_ef s p X S q K m)) (nI (m + 1)) T := e2
    rw [e2', nI_add, ← pm_su_s]
    exact ih T (by omega) (by omega)
/-! parts in lowest terms -/
theorem pm_half {a b : Nat} (h : 0 < a % b) (hb : 0 < b) : 2 * (b % (a % b)) < b := by
  have h1 : a % b < b := Nat.mod_lt _ hb
  have h2 : b % (a % b) < a % b := Nat.mod_lt _ h
  have h3 : b % (a % b) ≤ b - a % b := by
    rw [Nat.mod_eq_sub_mod (Nat.le_of_lt h1)]
    exact Nat.mod_le _ _
  omega
theorem pm_gcd_s {a b : Nat} : Nat.gcd a b = Nat.gcd b (a % b) := by
  rw [Nat.gcd_comm a b, Nat.gcd_rec b a, Nat.gcd_comm]
theorem pm_cd {N : Nat} : ∀ (k a b st n : Nat), a < 2 ^ 30 → b < 2 ^ k → k ≤ 30 → st + 2 * k < 99 → 2 * k < n → pq_w (fun _ _ _ => none) (f_X7_commonDivisor_L7 N) (n + 1) (nI a) (nI b) (nI st) = some (nI (Nat.gcd a b))
  | 0, a, b, st, n, ha, hb, hk, h1, h2 => by
    have h0 : b = 0 := by rw [Nat.pow_zero] at hb; omega
    subst h0
    rw [pu_w]
    unfold f_X7_commonDivisor_L7
    rw [if_neg (by rw [pu_lit 100, nI_leI (by omega) (by omega)]; omega), if_pos nI_0, Nat.gcd_zero_right]
  | k + 1, a, b, st, n, ha, hb, hk, h1, h2 => by
    have hp : 2 ^ (k + 1) ≤ 2 ^ 30 := Nat.pow_le_pow_right (by omega) hk
    have hp2 : 2 ^ (k + 1) = 2 * 2 ^ k := by rw [Nat.pow_succ, Nat.mul_comm]
    obtain ⟨n, rfl⟩ : ∃ t, n = t + 2 := ⟨n - 2, by omega⟩
    rw [pu_w]
    by_cases b0 : b = 0
    · subst b0
      unfold f_X7_commonDivisor_L7
      rw [if_neg (by rw [pu_lit 100, nI_leI (by omega) (by omega)]; omega), if_pos nI_0, Nat.gcd_zero_right]
    · have hr : a % b < b := Nat.mod_lt _ (by omega)
      have step : f_X7_commonDivisor_L7 N (pq_w (fun _ _ _ => none) (f_X7_commonDivisor_L7 N) (n + 2)) (nI a) (nI b) (nI st) = pq_w (fun _ _ _ => none) (f_X7_commonDivisor_L7 N) (n + 2) (nI b) (nI (a % b)) (nI (st + 1)) := by
        generalize pq_w (fun _ _ _ => none) (f_X7_commonDivisor_L7 N) (n + 2) = kk
        unfold f_X7_commonDivisor_L7
        rw [if_neg (by rw [pu_lit 100, nI_leI (by omega) (by omega)]; omega), if_neg (nI_ne0 (by omega) (by omega)), pu_z (nI_ne0 (by omega) (by omega)), pk_rem (by omega) (by omega) (by omega), pu_l, pu_l, nI_1]
      rw [step, pm_gcd_s, pu_w]
      by_cases r0 : a % b = 0
      · rw [r0]
        unfold f_X7_commonDivisor_L7
        rw [if_neg (by rw [pu_lit 100, nI_leI (by omega) (by omega)]; omega), if_pos nI_0, Nat.gcd_zero_right]
      · have hh := pm_half (a := a) (b := b) (by omega) (by omega)
        have step2 : f_X7_commonDivisor_L7 N (pq_w (fun _ _ _ => none) (f_X7_commonDivisor_L7 N) (n + 1)) (nI b) (nI (a % b)) (nI (st + 1)) = pq_w (fun _ _ _ => none) (f_X7_commonDivisor_L7 N) (n + 1) (nI (a % b)) (nI (b % (a % b))) (nI (st + 1 + 1)) := by
          generalize pq_w (fun _ _ _ => none) (f_X7_commonDivisor_L7 N) (n + 1) = kk
          unfold f_X7_commonDivisor_L7
          rw [if_neg (by rw [pu_lit 100, nI_leI (by omega) (by omega)]; omega), if_neg (nI_ne0 (by omega) (by omega)), pu_z (nI_ne0 (by omega) (by omega)), pk_rem (by omega) (by omega) (by omega), pu_l, pu_l, nI_1]
        rw [step2, pm_gcd_s]
        exact pm_cd k (a % b) (b % (a % b)) (st + 1 + 1) n (by omega) (by omega) (by omega) (by omega) (by omega)
theorem pm_part {N : Nat} {p0 p1 p2 : Int32} : ∀ (k a b n : Nat), a < 2 ^ 30 → b < 2 ^ k → k ≤ 30 → 2 * k < n → 0 < Nat.gcd a b → pq_w (fun _ _ => none) (f_X8_part_L5 N p0 p1 p2) (n + 1) (nI a) (nI b) = some (if p2 = 0 then p0 / nI (Nat.gcd a b) else p1 / nI (Nat.gcd a b))
  | 0, a, b, n, ha, hb, hk, h2, hg => by
    have h0 : b = 0 := by rw [Nat.pow_zero] at hb; omega
    subst h0
    rw [Nat.gcd_zero_right] at hg ⊢
    rw [pu_w]
    unfold f_X8_part_L5
    rw [if_pos (by rw [nI_0]; decide), pu_z (nI_ne0 hg (by omega)), pu_z (nI_ne0 hg (by omega))]
    split <;> rfl
  | k + 1, a, b, n, ha, hb, hk, h2, hg => by
    have hp : 2 ^ (k + 1) ≤ 2 ^ 30 := Nat.pow_le_pow_right (by omega) hk
    have hp2 : 2 ^ (k + 1) = 2 * 2 ^ k := by rw [Nat.pow_succ, Nat.mul_comm]
    obtain ⟨n, rfl⟩ : ∃ t, n = t + 2 := ⟨n - 2, by omega⟩
    rw [pu_w]
    by_cases b0 : b = 0
    · subst b0
      rw [Nat.gcd_zero_right] at hg ⊢
      unfold f_X8_part_L5
      rw [if_pos (by rw [nI_0]; decide), pu_z (nI_ne0 hg (by omega)), pu_z (nI_ne0 hg (by omega))]
      split <;> rfl
    · have hr : a % b < b := Nat.mod_lt _ (by omega)
      have step : f_X8_part_L5 N p0 p1 p2 (pq_w (fun _ _ => none) (f_X8_part_L5 N p0 p1 p2) (n + 2)) (nI a) (nI b) = pq_w (fun _ _ => none) (f_X8_part_L5 N p0 p1 p2) (n + 2) (nI b) (nI (a % b)) := by
        generalize pq_w (fun _ _ => none) (f_X8_part_L5 N p0 p1 p2) (n + 2) = kk
        unfold f_X8_part_L5
        rw [if_neg (nI_nle (by omega) (by omega)), pu_z (nI_ne0 (by omega) (by omega)), pk_rem (by omega) (by omega) (by omega), pu_l]
      rw [pm_gcd_s] at hg
      rw [step, pm_gcd_s, pu_w]
      by_cases r0 : a % b = 0
      · rw [r0, Nat.gcd_zero_right]
        rw [r0, Nat.gcd_zero_right] at hg
        unfold f_X8_part_L5
        rw [if_pos (by rw [nI_0]; decide), pu_z (nI_ne0 hg (by omega)), pu_z (nI_ne0 hg (by omega))]
        split <;> rfl
      · have hh := pm_half (a := a) (b := b) (by omega) (by omega)
        have step2 : f_X8_part_L5 N p0 p1 p2 (pq_w (fun _ _ => none) (f_X8_part_L5 N p0 p1 p2) (n + 1)) (nI b) (nI (a % b)) = pq_w (fun _ _ => none) (f_X8_part_L5 N p0 p1 p2) (n + 1) (nI (a % b)) (nI (b % (a % b))) := by
          generalize pq_w (fun _ _ => none) (f_X8_part_L5 N p0 p1 p2) (n + 1) = kk
          unfold f_X8_part_L5
          rw [if_neg (nI_nle (by omega) (by omega)), pu_z (nI_ne0 (by omega) (by omega)), pk_rem (by omega) (by omega) (by omega), pu_l]
        rw [pm_gcd_s] at hg
        rw [step2, pm_gcd_s]
        exact pm_part k (a % b) (b % (a % b)) n (by omega) (by omega) (by omega) (by omega) hg
theorem pu_ten {K : Nat} (h : K ≤ 6) : 0 < 10 ^ K ∧ 10 ^ K ≤ 1000000 := ⟨Nat.pow_pos (by omega), Nat.le_trans (Nat.pow_le_pow_right (by omega) h) (by decide)⟩
theorem pm_e7_ten {N : Nat} {p4 : Int32} {r : Int32 × (Nat → Int32) × (Nat → Int32)} {K : Nat} (hK : K ≤ 6) : ∀ (d i n : Nat), i + d = K → d < n → pq_w (fun _ _ => none) (f_X7_errors_L78 N (nI K) p4 r) n (nI (10 ^ i)) (nI i) = pq_c (f_X7_commonDivisor N r.1 (nI (10 ^ K))) (fun r_5 => (if r_5 = 0 then some ((-1), r.2.1, r.2.2) else (if p4 = 0 then pq_z r_5 (some ((r.1 / r_5), r.2.1, r.2.2)) else pq_z r_5 (some ((nI (10 ^ K) / r_5), r.2.1, r.2.2)))))
  | 0, i, n, h1, h2 => by
    obtain ⟨n, rfl⟩ : ∃ t, n = t + 1 := ⟨n - 1, by omega⟩
    rw [pu_w]
    unfold f_X7_errors_L78
    rw [if_pos (by rw [nI_leI (by omega) (by omega)]; omega), show i = K by omega]
  | d + 1, i, n, h1, h2 => by
    obtain ⟨n, rfl⟩ : ∃ t, n = t + 1 := ⟨n - 1, by omega⟩
    have ih := pm_e7_ten (N := N) (p4 := p4) (r := r) hK d (i + 1) n (by omega) (by omega)
    rw [pu_w]
    generalize pq_w (fun _ _ => none) (f_X7_errors_L78 N (nI K) p4 r) n = kk at ih ⊢
    unfold f_X7_errors_L78
    rw [if_neg (by rw [nI_leI (by omega) (by omega)]; omega), pu_l, pu_l, nI_1, pu_lit 10, pk_mul, ← Nat.pow_succ]
    exact ih
theorem pm_e8_ten {N : Nat} {s t : Nat → Int32} {p p3 p4 : Int32} {K : Nat} (hK : K ≤ 6) : ∀ (d i n : Nat), i + d = K → d < n → pq_w (fun _ _ => none) (f_X8_errors_L60 N s t p (nI K) p3 p4) n (nI (10 ^ i)) (nI i) = pq_w (fun _ _ _ => none) (f_X8_errors_L82 N s p (nI K) p3 p4 (nI (10 ^ K))) N 0 0 t
  | 0, i, n, h1, h2 => by
    obtain ⟨n, rfl⟩ : ∃ t, n = t + 1 := ⟨n - 1, by omega⟩
    rw [pu_w]
    unfold f_X8_errors_L60
    rw [if_pos (by rw [nI_leI (by omega) (by omega)]; omega), show i = K by omega]
  | d + 1, i, n, h1, h2 => by
    obtain ⟨n, rfl⟩ : ∃ t, n = t + 1 := ⟨n - 1, by omega⟩
    have ih := pm_e8_ten (N := N) (s := s) (t := t) (p := p) (p3 := p3) (p4 := p4) hK d (i + 1) n (by omega) (by omega)
    rw [pu_w]
    generalize pq_w (fun _ _ => none) (f_X8_errors_L60 N s t p (nI K) p3 p4) n = kk at ih ⊢
    unfold f_X8_errors_L60
    rw [if_neg (by rw [nI_leI (by omega) (by omega)]; omega), pu_l, pu_l, nI_1, pu_lit 10, pk_mul, ← Nat.pow_succ]
    exact ih
set_option maxHeartbeats 2000000 in
theorem sim_errors {xI : Nat → Int32} {xA : Nat → Nat → Int32} {xL : Nat → Nat → Int64} {aw : Nat → Nat → Int32} {mI : Nat → Int32} {mA : Nat → Nat → Int32} {mL : Nat → Int64} (hR : pq_R xI xA xL aw mI mA mL) (p1 : Int32) (p2 : Int32) (p3 : Int32) (p4 : Int32) : ∃ (zc : Int32 × (Nat → Int32) × (Nat → Int32)) (zm : Int32 × (Nat → Int32)), f_X7_errors pq_N (xA 37) (xA 38) (xI 10) (xI 11) (xI 12) (xI 13) (xI 14) (xA 18) (xA 21) (xA 22) (xA 23) (xA 24) (xA 25) p1 p2 p3 p4 = some zc ∧ f_X8_errors pq_N (mA 6) (mA 8) p1 p2 p3 p4 = some zm ∧ zc.1 = zm.1 ∧ pq_R xI (va_up (va_up xA 37 zc.2.1) 38 zc.2.2) xL aw mI (va_up mA 8 zm.2) mL := by
  obtain ⟨⟨r0, r1, r2, r3, r4⟩, k2, k3, k4⟩ := pu_now hR
  have hscr : ∀ (f g h : Nat → Int32), pq_R xI (va_up (va_up xA 37 f) 38 g) xL aw mI (va_up mA 8 h) mL := by
    intro f g h
    refine pq_kF hR ?_ ?_ ?_ ?_
    · intro k hk; rfl
    · intro k hk; simp (disch := omega) only [pu_vo]
    · intro k hk; rfl
    · intro k hk; simp (disch := omega) only [pu_vo]
  have z0 : (0 : Int32).toInt = 0 := rfl
  have z1 : (1 : Int32).toInt = 1 := rfl
  have z6 : (6 : Int32).toInt = 6 := rfl
  have z10 : (10 : Int32).toInt = 10 := rfl
  unfold f_X7_errors f_X8_errors
  rw [r0, pu_hasParty, pu_cs, pu_isParty k2, pu_cs]
  simp only [pu_in, pu_fs, pu_cs, z0, z1, z6, z10]
  by_cases hv : 0 ≤ p1.toInt ∧ p1.toInt < (mA 6 2).toInt
  · rw [pu_f1 hv, pu_f1 hv]
    by_cases hv2 : 1 ≤ p2.toInt ∧ p2.toInt ≤ 6
    · rw [pu_f1 hv2, if_neg (show ¬ p2 < 1 by rw [pu_lt, z1]; omega), if_neg (show ¬ 6 < p2 by rw [pu_lt, z6]; omega)]
      by_cases hv3 : 0 ≤ p3.toInt ∧ p3.toInt ≤ 10
      · rw [pu_f1 hv3, if_neg (show ¬ p3 < 0 by rw [pu_lt, z0]; omega), if_neg (show ¬ 10 < p3 by rw [pu_lt, z10]; omega)]
        by_cases hv4 : 0 ≤ p4.toInt ∧ p4.toInt ≤ 1
        · rw [pu_f1 hv4, pu_f1 hv4]
          obtain ⟨P, J, C, X, S, hW, hC⟩ := pu_there hR (k := 2) (by omega) hv
          have hV := hW.v
          obtain ⟨⟨p1', p2'⟩, ⟨j1, j2⟩, ⟨c1, c2⟩, x2, s2, ⟨eP, eJ, eC, eX, eS⟩, -⟩ := id hV
          obtain ⟨l1, l2⟩ := pu_left (N := pq_N) hV
          obtain ⟨n0, hn0, en0⟩ := pu_le (n := 6) (show 0 ≤ p2.toInt by omega) (by omega)
          have hn1 : 1 ≤ n0 := by
            rw [en0, nI_toInt (by omega)] at hv2
            omega
          obtain ⟨K, rfl⟩ : ∃ K, n0 = K + 1 := ⟨n0 - 1, by omega⟩
          obtain ⟨q, hq, eq⟩ := pu_le (n := 10) hv3.1 (by omega)
          obtain ⟨nd, hN⟩ := pu_ND
          rw [r2, r3, l1, pu_cs, l2, pu_cs, en0]
          by_cases hle : K + 1 ≤ C - X
          · have hle' : nI (K + 1) ≤ nI (C - X) := (nI_leI (by omega) (by omega)).mpr hle
            rw [if_pos hle', if_pos hle', r1, r4, eJ, eX, eS, eq]
            obtain ⟨h', t', eo⟩ := pm_odds (N := pq_N) (p := p1) (q := q) (K := K) (here := xA 37) (th := xA 38) (show 20 < pq_N by omega) hV hC (by omega) hq
            have eo' : f_X3_oddsOfLast pq_N (xA 37) (xA 38) (nI J) (nI X) (nI S) (xA 18) (xA 21) (xA 22) (xA 23) (xA 24) (xA 25) p1 (nI (K + 1)) (nI q) = some (nI (pm_su (pm_ef (mA 6) p1 X S q K) (2 ^ (K + 1))), h', t') := eo
            have hA := pm_ef_le (s := mA 6) (p := p1) (X := X) (S := S) (q := q) (K := K) hq
            obtain ⟨t1, t2⟩ := pu_ten hn0
            have hp : 2 ^ (K + 1) ≤ 2 ^ 6 := Nat.pow_le_pow_right (by omega) hn0
            obtain ⟨T, e8l⟩ := pm_e8_loop (N := pq_N) (s := mA 6) (q := q) (K := K) (D := 10 ^ (K + 1)) (p := p1) (p4 := p4) (show 2000 < pq_N by omega) hV (by omega) hn0 hq (2 ^ (K + 1)) 0 pq_N (mA 8) (by omega) (by omega)
            have e8l' : pq_w (fun _ _ _ => none) (f_X8_errors_L82 pq_N (mA 6) p1 (nI (K + 1)) (nI q) p4 (nI (10 ^ (K + 1)))) pq_N 0 0 (mA 8) = pq_c (f_X8_part pq_N (nI (pm_su (pm_ef (mA 6) p1 X S q K) (2 ^ (K + 1)))) (nI (10 ^ (K + 1))) p4) (fun r_6 => some (r_6, T)) := e8l
            obtain ⟨A, eA⟩ : ∃ A, pm_su (pm_ef (mA 6) p1 X S q K) (2 ^ (K + 1)) = A := ⟨_, rfl⟩
            rw [eA] at eo' hA e8l'
            have hg : 0 < Nat.gcd A (10 ^ (K + 1)) := Nat.gcd_pos_of_pos_right _ t1
            have hgl : Nat.gcd A (10 ^ (K + 1)) ≤ 10 ^ (K + 1) := Nat.gcd_le_right _ t1
            have c7 := pm_cd (N := pq_N) 20 A (10 ^ (K + 1)) 0 (nd + 49999) (by omega) (by omega) (by omega) (by omega) (by omega)
            have c8 := pm_part (N := pq_N) (p0 := nI A) (p1 := nI (10 ^ (K + 1))) (p2 := p4) 20 A (10 ^ (K + 1)) (nd + 49999) (by omega) (by omega) (by omega) (by omega) hg
            rw [show nd + 49999 + 1 = pq_N by omega] at c7 c8
            have c7' : f_X7_commonDivisor pq_N (nI A) (nI (10 ^ (K + 1))) = some (nI (Nat.gcd A (10 ^ (K + 1)))) := c7
            have c8' : f_X8_part pq_N (nI A) (nI (10 ^ (K + 1))) p4 = some (if p4 = 0 then nI A / nI (Nat.gcd A (10 ^ (K + 1))) else nI (10 ^ (K + 1)) / nI (Nat.gcd A (10 ^ (K + 1)))) := c8
            have e7 := pm_e7_ten (N := pq_N) (p4 := p4) (r := (nI A, h', t')) hn0 (K + 1) 0 pq_N (by omega) (by omega)
            have hne : ¬ nI (Nat.gcd A (10 ^ (K + 1))) = 0 := nI_ne0 hg (by omega)
            have e7' : pq_w (fun _ _ => none) (f_X7_errors_L78 pq_N (nI (K + 1)) p4 (nI A, h', t')) pq_N 1 0 = some (if p4 = 0 then nI A / nI (Nat.gcd A (10 ^ (K + 1))) else nI (10 ^ (K + 1)) / nI (Nat.gcd A (10 ^ (K + 1))), h', t') := by
              refine Eq.trans e7 ?_
              dsimp only
              rw [c7', pu_cs, if_neg hne, pu_z hne, pu_z hne]
              split <;> rfl
            have e8 := pm_e8_ten (N := pq_N) (s := mA 6) (t := mA 8) (p := p1) (p3 := nI q) (p4 := p4) hn0 (K + 1) 0 pq_N (by omega) (by omega)
            have e8' : pq_w (fun _ _ => none) (f_X8_errors_L60 pq_N (mA 6) (mA 8) p1 (nI (K + 1)) (nI q) p4) pq_N 1 0 = some (if p4 = 0 then nI A / nI (Nat.gcd A (10 ^ (K + 1))) else nI (10 ^ (K + 1)) / nI (Nat.gcd A (10 ^ (K + 1))), T) := by
              refine Eq.trans e8 ?_
              rw [e8l', c8', pu_cs]
            rw [eo', pu_cs, e7', e8']
            exact ⟨_, _, rfl, rfl, rfl, hscr _ _ _⟩
          · have hle' : ¬ nI (K + 1) ≤ nI (C - X) := fun h => hle ((nI_leI (by omega) (by omega)).mp h)
            rw [if_neg hle', if_neg hle']
            exact ⟨_, _, rfl, rfl, rfl, hscr _ _ _⟩
        · rw [pu_f0 hv4, pu_f0 hv4]
          exact ⟨_, _, rfl, rfl, rfl, hscr _ _ _⟩
      · rw [pu_f0 hv3]
        by_cases hl0 : p3 < 0
        · rw [if_pos hl0]
          exact ⟨_, _, rfl, rfl, rfl, hscr _ _ _⟩
        · rw [if_neg hl0, if_pos (show 10 < p3 by rw [pu_lt, z0] at hl0; rw [pu_lt, z10]; omega)]
          exact ⟨_, _, rfl, rfl, rfl, hscr _ _ _⟩
    · rw [pu_f0 hv2]
      by_cases hl0 : p2 < 1
      · rw [if_pos hl0]
        exact ⟨_, _, rfl, rfl, rfl, hscr _ _ _⟩
      · rw [if_neg hl0, if_pos (show 6 < p2 by rw [pu_lt, z1] at hl0; rw [pu_lt, z6]; omega)]
        exact ⟨_, _, rfl, rfl, rfl, hscr _ _ _⟩
  · rw [pu_f0 hv, pu_f0 hv]
    exact ⟨_, _, rfl, rfl, rfl, hscr _ _ _⟩
