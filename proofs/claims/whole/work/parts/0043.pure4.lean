/-! ===== pure: a circuit in natural numbers ===== -/
def pn_W (s : Nat → Int32) (P J C X S : Nat) : Prop :=
  (2 ≤ P ∧ P ≤ 6) ∧ (1 ≤ J ∧ J ≤ 6) ∧ (1 ≤ C ∧ C ≤ 12) ∧ X ≤ C ∧ S < J ∧ (s 2 = nI P ∧ s 3 = nI J ∧ s 4 = nI C ∧ s 0 = nI X ∧ s 1 = nI S) ∧
  (∀ i, i < P → ∃ k, (1 ≤ k ∧ k ≤ 5) ∧ s (5 + i) = nI k) ∧ (∀ i, i < P → ∃ g, g ≤ 20 ∧ s (11 + i) = nI g) ∧
  (∀ i, i < J → ∃ l, l ≤ 9 ∧ s (23 + i) = nI l) ∧ (∀ i, i < J → s (29 + i) = -4 ∨ ∃ f, f < P ∧ s (29 + i) = nI f) ∧
  (∀ i, i < C → ∃ a b, a < P ∧ b < P ∧ a ≠ b ∧ s (35 + i) = nI a ∧ s (47 + i) = nI b) ∧ (∀ i, i < C → ∃ w, w ≤ 9 ∧ s (59 + i) = nI w) ∧
  (∀ i, i < X → s (71 + i) = s (35 + i) ∨ s (71 + i) = s (47 + i)) ∧ (∀ i, X ≤ i → i < C → s (71 + i) = -4)
theorem pn_W.of {s : Nat → Int32} (h : pq_wf s) : ∃ P J C X S, pn_W s P J C X S := by
  obtain ⟨⟨p1, p2⟩, ⟨j1, j2⟩, ⟨c1, c2⟩, ⟨x1, x2⟩, ⟨s1, s2⟩, hp, hj, hc⟩ := h
  obtain ⟨P, hP, eP⟩ := pu_le (n := 6) (x := s 2) (by omega) (by omega)
  obtain ⟨J, hJ, eJ⟩ := pu_le (n := 6) (x := s 3) (by omega) (by omega)
  obtain ⟨C, hC, eC⟩ := pu_le (n := 12) (x := s 4) (by omega) (by omega)
  obtain ⟨X, hX, eX⟩ := pu_le (n := 12) (x := s 0) (by omega) (by omega)
  obtain ⟨S, hS, eS⟩ := pu_le (n := 6) (x := s 1) (by omega) (by omega)
  have tP : (s 2).toInt = P := by rw [eP]; exact nI_toInt (by omega)
  have tJ : (s 3).toInt = J := by rw [eJ]; exact nI_toInt (by omega)
  have tC : (s 4).toInt = C := by rw [eC]; exact nI_toInt (by omega)
  have tX : (s 0).toInt = X := by rw [eX]; exact nI_toInt (by omega)
  have tS : (s 1).toInt = S := by rw [eS]; exact nI_toInt (by omega)
  refine ⟨P, J, C, X, S, ⟨by omega, hP⟩, ⟨by omega, hJ⟩, ⟨by omega, hC⟩, by omega, by omega, ⟨eP, eJ, eC, eX, eS⟩, ?_, ?_, ?_, ?_, ?_, ?_, ?_, ?_⟩
  · intro i hi
    obtain ⟨⟨h1, h2⟩, -⟩ := hp i (by omega)
    obtain ⟨k, hk, ek⟩ := pu_le (n := 5) (x := s (5 + i)) (by omega) (by omega)
    have := nI_toInt (n := k) (by omega)
    rw [ek] at h1
    exact ⟨k, ⟨by omega, hk⟩, ek⟩
  · intro i hi
    obtain ⟨-, h1, h2⟩ := hp i (by omega)
    exact pu_le (n := 20) h1 (by omega)
  · intro i hi
    obtain ⟨⟨h1, h2⟩, -⟩ := hj i (by omega)
    exact pu_le (n := 9) h1 (by omega)
  · intro i hi
    obtain ⟨-, h⟩ := hj i (by omega)
    rcases h with h | ⟨h1, h2⟩
    · exact Or.inl h
    · exact Or.inr (pu_of h1 (by omega))
  · intro i hi
    obtain ⟨⟨a1, a2⟩, ⟨b1, b2⟩, hne, -⟩ := hc i (by omega)
    obtain ⟨a, ha, ea⟩ := pu_of (n := P) a1 (by omega)
    obtain ⟨b, hb, eb⟩ := pu_of (n := P) b1 (by omega)
    exact ⟨a, b, ha, hb, fun e => hne (by rw [ea, eb, e]), ea, eb⟩
  · intro i hi
    obtain ⟨-, -, -, ⟨w1, w2⟩, -⟩ := hc i (by omega)
    exact pu_le (n := 9) w1 (by omega)
  · intro i hi
    obtain ⟨-, -, -, -, h, -⟩ := hc i (by omega)
    exact h (by omega)
  · intro i h1 h2
    obtain ⟨-, -, -, -, -, h⟩ := hc i (by omega)
    exact h (by omega)
theorem pn_W.wf {s : Nat → Int32} {P J C X S : Nat} (h : pn_W s P J C X S) : pq_wf s := by
  obtain ⟨⟨p1, p2⟩, ⟨j1, j2⟩, ⟨c1, c2⟩, x2, s2, ⟨eP, eJ, eC, eX, eS⟩, hk, hg, hl, hf, hab, hw, hx1, hx2⟩ := h
  have tP : (s 2).toInt = P := by rw [eP]; exact nI_toInt (by omega)
  have tJ : (s 3).toInt = J := by rw [eJ]; exact nI_toInt (by omega)
  have tC : (s 4).toInt = C := by rw [eC]; exact nI_toInt (by omega)
  have tX : (s 0).toInt = X := by rw [eX]; exact nI_toInt (by omega)
  have tS : (s 1).toInt = S := by rw [eS]; exact nI_toInt (by omega)
  refine ⟨by omega, by omega, by omega, by omega, by omega, ?_, ?_, ?_⟩
  · intro i hi
    obtain ⟨k, hk, ek⟩ := hk i (by omega)
    obtain ⟨g, hg, eg⟩ := hg i (by omega)
    rw [ek, eg, nI_toInt (by omega), nI_toInt (by omega)]
    omega
  · intro i hi
    obtain ⟨l, hl, el⟩ := hl i (by omega)
    rw [el, nI_toInt (by omega)]
    refine ⟨by omega, ?_⟩
    rcases hf i (by omega) with h | ⟨f, hf, ef⟩
    · exact Or.inl h
    · rw [ef, nI_toInt (by omega)]
      exact Or.inr (by omega)
  · intro i hi
    obtain ⟨a, b, ha, hb, hne, ea, eb⟩ := hab i (by omega)
    obtain ⟨w, hw, ew⟩ := hw i (by omega)
    refine ⟨by rw [ea, nI_toInt (by omega)]; omega, by rw [eb, nI_toInt (by omega)]; omega, fun e => hne ?_, by rw [ew, nI_toInt (by omega)]; omega, fun h => hx1 i (by omega), fun h => hx2 i (by omega) (by omega)⟩
    rw [ea, eb] at e
    exact (nI_eq (by omega) (by omega)).mp e
/-- the winner and the loser of a case, in numbers -/
theorem pn_wn_two {s : Nat → Int32} {a b c j : Nat} (ha : a < 6) (hb : b < 6) (hne : a ≠ b) (ea : s (35 + c) = nI a) (eb : s (47 + c) = nI b) (t : Int32) : ∃ w lo, ((w = a ∧ lo = b) ∨ (w = b ∧ lo = a)) ∧ pn_wn s c j t = nI w ∧ pn_op s c (nI w) = nI lo := by
  have o1 : pn_op s c (nI a) = nI b := by unfold pn_op; rw [ea, if_pos rfl, eb]
  have o2 : pn_op s c (nI b) = nI a := by unfold pn_op; rw [ea, if_neg (fun e => hne ((nI_eq (by omega) (by omega)).mp e).symm)]
  unfold pn_wn
  by_cases ht : t = s (35 + c) ∨ t = s (47 + c)
  · rw [if_pos ht]
    rcases ht with h | h
    · exact ⟨b, a, Or.inr ⟨rfl, rfl⟩, by rw [h, ea, o1], o2⟩
    · exact ⟨a, b, Or.inl ⟨rfl, rfl⟩, by rw [h, eb, o2], o1⟩
  · rw [if_neg ht]
    unfold pn_f
    split
    · exact ⟨b, a, Or.inr ⟨rfl, rfl⟩, eb, o2⟩
    · exact ⟨a, b, Or.inl ⟨rfl, rfl⟩, ea, o1⟩
theorem pn_dn_le {g : Nat} (h : g ≤ 20) : pn_dn (nI g) = nI (g - 1) := by
  unfold pn_dn
  rw [pu_lit 0]
  by_cases h0 : g = 0
  · subst h0; rfl
  · rw [if_neg (by rw [nI_leI (by omega) (by omega)]; omega), pu_lit 1, pk_sub (by omega)]
theorem pn_hu_n {k w : Nat} (hk : 1 ≤ k ∧ k ≤ 5) (hw : w ≤ 9) : ∃ h, h ≤ 19 ∧ pn_hu (nI k) (nI w) = nI h := by
  unfold pn_hu
  rcases (show k = 1 ∨ k = 2 ∨ k = 3 ∨ k = 4 ∨ k = 5 by omega) with rfl | rfl | rfl | rfl | rfl
  · exact ⟨w, by omega, rfl⟩
  · refine ⟨2 * w, by omega, ?_⟩
    rw [if_neg (by decide), if_pos (by decide), pu_lit 2, pk_mul]
  · exact ⟨0, by omega, rfl⟩
  · exact ⟨1, by omega, rfl⟩
  · refine ⟨2 * w + 1, by omega, ?_⟩
    rw [if_neg (by decide), if_neg (by decide), if_neg (by decide), if_neg (by decide), if_pos (by decide), pu_lit 2, pk_mul, pu_lit 1, nI_add]
theorem pn_up_le {g h : Nat} (hg : g ≤ 20) (hh : h ≤ 19) : ∃ q, q ≤ 20 ∧ pn_up (nI g) (nI h) = nI q := by
  unfold pn_up
  rw [nI_add, pu_lit 20]
  by_cases q : g + h ≤ 20
  · rw [if_pos ((nI_leI (by omega) (by omega)).mpr q)]
    exact ⟨_, q, rfl⟩
  · rw [if_neg (by rw [nI_leI (by omega) (by omega)]; exact q)]
    exact ⟨20, by omega, rfl⟩
/-- the row when a case has ended: place by place -/
theorem pn_end_at {s : Nat → Int32} {c w lo j : Nat} (hw : w < 6) (hlo : lo < 6) (hne : w ≠ lo) (hc : c < 12) :
    pn_end s c w lo j 1 = pn_nm s (nI lo) (s (5 + lo)) j ∧ pn_end s c w lo j (71 + c) = nI w ∧ pn_end s c w lo j (11 + w) = pn_dn (s (11 + w)) ∧ pn_end s c w lo j (11 + lo) = pn_up (s (11 + lo)) (pn_hu (s (5 + lo)) (s (59 + c))) ∧ pn_end s c w lo j (17 + w) = s (17 + w) + 1 ∧
    ∀ i, i ≠ 1 → i ≠ 71 + c → i ≠ 11 + w → i ≠ 11 + lo → i ≠ 17 + w → pn_end s c w lo j i = s i := by
  unfold pn_end pn_e3
  refine ⟨?_, pu_us, ?_, ?_, ?_, fun i h1 h2 h3 h4 h5 => ?_⟩
  · rw [pu_un (by omega), pu_us]
  · rw [pu_un (by omega), pu_un (by omega), pu_un (by omega), pu_us]
  · rw [pu_un (by omega), pu_un (by omega), pu_us]
  · rw [pu_un (by omega), pu_un (by omega), pu_un (by omega), pu_un (by omega), pu_us]
  · rw [pu_un h2, pu_un h1, pu_un h4, pu_un h3, pu_un h5]
