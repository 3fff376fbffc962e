/-! ===== the relation kept ===== -/
theorem pu_vs {α : Type} {f : Nat → α} {k : Nat} {v : α} : va_up f k v k = v := if_pos rfl
theorem pu_vo {α : Type} {f : Nat → α} {k j : Nat} {v : α} (h : j ≠ k) : va_up f k v j = f j := if_neg h
theorem pq_rc_cg {x x' : Nat → Int32} {a a' : Nat → Nat → Int32} {s : Nat → Int32} (hx : ∀ f, f < 5 → x' f = x f) (ha : ∀ f, f < 9 → a' f = a f) (h : pq_rc x a s) : pq_rc x' a' s := by
  obtain ⟨r0, r1, r2, r3, r4, hp, hj, hc⟩ := h
  refine ⟨by rw [hx 0 (by omega)]; exact r0, by rw [hx 1 (by omega)]; exact r1, by rw [hx 2 (by omega)]; exact r2, by rw [hx 3 (by omega)]; exact r3, by rw [hx 4 (by omega)]; exact r4, ?_, ?_, ?_⟩
  · intro i hi
    rw [ha 0 (by omega), ha 1 (by omega), ha 2 (by omega)]
    exact hp i hi
  · intro i hi
    rw [ha 3 (by omega), ha 4 (by omega)]
    exact hj i hi
  · intro i hi
    rw [ha 5 (by omega), ha 6 (by omega), ha 7 (by omega), ha 8 (by omega)]
    exact hc i hi
section PR
variable {xI xI' : Nat → Int32} {xA xA' : Nat → Nat → Int32} {xL xL' : Nat → Nat → Int64} {aw aw' : Nat → Nat → Int32} {mI mI' : Nat → Int32} {mA mA' : Nat → Nat → Int32} {mL mL' : Nat → Int64}
theorem pq_kT (hR : pq_R xI xA xL aw mI mA mL) (h1 : xI' 20 = xI 20) (h2 : xA' 36 = xA 36) (h3 : mI' 3 = mI 3) (h4 : mA' 4 = mA 4) : xI' 20 = mI' 3 ∧ (0 ≤ (mI' 3).toInt ∧ (mI' 3).toInt ≤ 130) ∧ ∀ i : Nat, (i : Int) < (mI' 3).toInt → xA' 36 i = mA' 4 i := by
  rw [h1, h2, h3, h4]; exact hR.tape
theorem pq_kN (hR : pq_R xI xA xL aw mI mA mL) (h1 : ∀ f, f < 5 → xI' (10 + f) = xI (10 + f)) (h2 : ∀ f, f < 9 → xA' (18 + f) = xA (18 + f)) (h3 : mA' 6 = mA 6) : pq_rc (fun f => xI' (10 + f)) (fun f => xA' (18 + f)) (mA' 6) ∧ (pq_no (mA' 6) ∨ pq_wf (mA' 6)) := by
  rw [h3]; exact ⟨pq_rc_cg h1 h2 hR.now.1, hR.now.2⟩
theorem pq_kI (hR : pq_R xI xA xL aw mI mA mL) (h1 : ∀ k, k < 10 → xI' k = xI k) (h2 : ∀ k, k < 18 → xA' k = xA k) (h3 : mA' 9 = mA 9) (h4 : mA' 10 = mA 10) : ∀ k, k < 2 → (mA' 10 k = 0 ∧ xI' (5 * k + 2) = 0) ∨ (mA' 10 k = 1 ∧ pq_rc (fun f => xI' (5 * k + f)) (fun f => xA' (9 * k + f)) (fun i => mA' 9 (83 * k + i)) ∧ pq_wf (fun i => mA' 9 (83 * k + i))) := by
  intro k hk
  rw [h3, h4]
  rcases hR.ims k hk with ⟨e1, e2⟩ | ⟨e1, e2, e3⟩
  · exact Or.inl ⟨e1, by rw [h1 _ (by omega)]; exact e2⟩
  · exact Or.inr ⟨e1, pq_rc_cg (fun f hf => h1 _ (by omega)) (fun f hf => h2 _ (by omega)) e2, e3⟩
theorem pq_kH (hR : pq_R xI xA xL aw mI mA mL) (h1 : xI' 22 = xI 22) (h2 : xI' 23 = xI 23) (h3 : mI' 12 = mI 12) (h4 : aw' = aw) (h5 : mA' 6 = mA 6) (h6 : mA' 11 = mA 11) : xI' 22 = mI' 12 ∧ pq_hi (xI' 22) (xI' 23) aw' (mA' 6) (mA' 11) := by
  rw [h1, h2, h3, h4, h5, h6]; exact hR.hist
theorem pq_kS (hR : pq_R xI xA xL aw mI mA mL) (h1 : ∀ k, 25 ≤ k → k < 37 → xI' k = xI k) (h2 : ∀ k, k < 4 → xL' k = xL k) (h3 : mA' 0 = mA 0) (h4 : mA' 1 = mA 1) (h5 : mL' = mL) : ∀ k, k < 4 → pq_sh (xI' (25 + 3 * k)) (xI' (26 + 3 * k)) (xI' (27 + 3 * k)) (xL' k) (mA' 0 k) (mA' 1 k) (fun i => mL' (24 * k + i)) := by
  intro k hk
  rw [h1 _ (by omega) (by omega), h1 _ (by omega) (by omega), h1 _ (by omega) (by omega), h2 k hk, h3, h4, h5]
  exact hR.shs k hk
/-- what is foretold is done in scratch -/
theorem pq_kF (hR : pq_R xI xA xL aw mI mA mL) (h1 : ∀ k, (k < 15 ∨ k = 20 ∨ k = 22 ∨ k = 23 ∨ 25 ≤ k) → xI' k = xI k) (h2 : ∀ k, (k < 27 ∨ k = 36) → xA' k = xA k) (h3 : ∀ k, (k = 3 ∨ k = 12) → mI' k = mI k) (h4 : ∀ k, (k < 2 ∨ k = 4 ∨ k = 6 ∨ k = 9 ∨ k = 10 ∨ k = 11) → mA' k = mA k) : pq_R xI' xA' xL aw mI' mA' mL :=
  ⟨pq_kT hR (h1 _ (by omega)) (h2 _ (by omega)) (h3 _ (by omega)) (h4 _ (by omega)), pq_kN hR (fun f hf => h1 _ (by omega)) (fun f hf => h2 _ (by omega)) (h4 _ (by omega)), pq_kI hR (fun k hk => h1 _ (by omega)) (fun k hk => h2 _ (by omega)) (h4 _ (by omega)) (h4 _ (by omega)), pq_kH hR (h1 _ (by omega)) (h1 _ (by omega)) (h3 _ (by omega)) rfl (h4 _ (by omega)) (h4 _ (by omega)), pq_kS hR (fun k h1' h2' => h1 _ (by omega)) (fun k hk => rfl) (h4 _ (by omega)) (h4 _ (by omega)) rfl⟩
end PR
theorem pu_if10 {c : Prop} [Decidable c] : ((if c then (1 : Int32) else 0) = 0) ↔ ¬ c := by
  by_cases h : c
  · rw [if_pos h]; exact ⟨fun e => absurd e (by decide), fun e => absurd h e⟩
  · rw [if_neg h]; exact ⟨fun _ => h, fun _ => rfl⟩
theorem pu_f0 {α : Type} {c : Prop} [Decidable c] {a b : α} (h : ¬ c) : (if (if c then (1 : Int32) else 0) = 0 then a else b) = a := by rw [if_neg h, if_pos rfl]
theorem pu_f1 {α : Type} {c : Prop} [Decidable c] {a b : α} (h : c) : (if (if c then (1 : Int32) else 0) = 0 then a else b) = b := by rw [if_pos h, if_neg (by decide)]
/-! ===== feed ===== -/
theorem sim_feed {xI : Nat → Int32} {xA : Nat → Nat → Int32} {xL : Nat → Nat → Int64} {aw : Nat → Nat → Int32} {mI : Nat → Int32} {mA : Nat → Nat → Int32} {mL : Nat → Int64} (hR : pq_R xI xA xL aw mI mA mL) (p1 : Int32) : ∃ (zc : Int32 × Int32 × (Nat → Int32)) (zm : Int32 × Int32 × (Nat → Int32)), f_X7_feed pq_N (xI 20) (xA 36) p1 = some zc ∧ f_X8_feed pq_N (mI 3) (mA 4) p1 = some zm ∧ zc.1 = zm.1 ∧ pq_R (va_up xI 20 zc.2.1) (va_up xA 36 zc.2.2) xL aw (va_up mI 3 zm.2.1) (va_up mA 4 zm.2.2) mL := by
  obtain ⟨t1, ⟨t2, t3⟩, t4⟩ := hR.tape
  obtain ⟨n, hn, en⟩ := pu_le (n := 130) t2 (by omega)
  rw [t1, en]
  rw [en] at t4
  have rest : ∀ (v : Int32) (g g' : Nat → Int32), ((0 ≤ v.toInt ∧ v.toInt ≤ 130) ∧ ∀ i : Nat, (i : Int) < v.toInt → g i = g' i) → pq_R (va_up xI 20 v) (va_up xA 36 g) xL aw (va_up mI 3 v) (va_up mA 4 g') mL := by
    intro v g g' h
    refine ⟨⟨by rw [pu_vs, pu_vs], by rw [pu_vs]; exact h.1, by rw [pu_vs, pu_vs, pu_vs]; exact h.2⟩, pq_kN hR (fun f hf => pu_vo (by omega)) (fun f hf => pu_vo (by omega)) (pu_vo (by omega)), pq_kI hR (fun f hf => pu_vo (by omega)) (fun f hf => pu_vo (by omega)) (pu_vo (by omega)) (pu_vo (by omega)), pq_kH hR (pu_vo (by omega)) (pu_vo (by omega)) (pu_vo (by omega)) rfl (pu_vo (by omega)) (pu_vo (by omega)), pq_kS hR (fun k h1 h2 => pu_vo (by omega)) (fun k hk => rfl) (pu_vo (by omega)) (pu_vo (by omega)) rfl⟩
  have tn : (nI n).toInt = n := nI_toInt (by omega)
  have same : pq_R (va_up xI 20 (nI n)) (va_up xA 36 (xA 36)) xL aw (va_up mI 3 (nI n)) (va_up mA 4 (mA 4)) mL := rest _ _ _ ⟨by omega, t4⟩
  unfold f_X7_feed f_X8_feed
  rw [pu_in, pu_cs]
  have z0 : (0 : Int32).toInt = 0 := rfl
  have z255 : (255 : Int32).toInt = 255 := rfl
  rw [z0, z255]
  by_cases h1 : p1 < 0
  · rw [if_pos h1, pu_f0 (by rw [pu_lt, z0] at h1; omega)]
    exact ⟨_, _, rfl, rfl, rfl, same⟩
  · rw [if_neg h1]
    rw [pu_lt, z0] at h1
    by_cases h2 : p1 ≤ 255
    · rw [if_pos h2]
      rw [pu_lei, z255] at h2
      rw [pu_f1 (by omega)]
      unfold f_X6_append
      rw [pu_lit 130]
      by_cases h3 : n = 130
      · subst h3
        rw [if_neg (by decide), pu_b0, pu_cs, if_pos rfl, if_pos rfl]
        exact ⟨_, _, rfl, rfl, rfl, same⟩
      · rw [if_pos (by rw [nI_ltI (by omega) (by omega)]; omega), if_neg (by rw [nI_eq (by omega) (by omega)]; exact h3)]
        simp (disch := omega) only [pu_gd, nI_clamp, pu_l, nI_1, pu_b1, pu_cs]
        rw [if_neg (by decide)]
        refine ⟨_, _, rfl, rfl, rfl, rest _ _ _ ⟨by rw [nI_toInt (by omega)]; omega, fun i hi => ?_⟩⟩
        rw [nI_toInt (by omega)] at hi
        by_cases q : i = n
        · subst q
          show upd (xA 36) i p1 i = upd (mA 4) i p1 i
          rw [pu_us, pu_us]
        · show upd (xA 36) n p1 i = upd (mA 4) n p1 i
          rw [pu_un q, pu_un q]
          exact t4 i (by omega)
    · rw [if_neg h2]
      rw [pu_lei, z255] at h2
      rw [pu_f0 (by omega)]
      exact ⟨_, _, rfl, rfl, rfl, same⟩
