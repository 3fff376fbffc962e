/-! ===== images ===== -/
theorem pu_cp6 {α : Type} {k : Option α} : pq_cp 0 0 6 6 6 k = k := if_pos (by decide)
theorem pu_cp12 {α : Type} {k : Option α} : pq_cp 0 0 12 12 12 k = k := if_pos (by decide)
theorem pu_become {N : Nat} {d0 d1 d2 d3 d4 x0 x1 x2 x3 x4 : Int32} {b0 b1 b2 b3 b4 b5 b6 b7 b8 a0 a1 a2 a3 a4 a5 a6 a7 a8 : Nat → Int32} : f_X1_become N d0 d1 d2 d3 d4 b0 b1 b2 b3 b4 b5 b6 b7 b8 x0 x1 x2 x3 x4 a0 a1 a2 a3 a4 a5 a6 a7 a8 = some (x0, x1, x2, x3, x4, va_cpy a0 b0 0 0 6, va_cpy a1 b1 0 0 6, va_cpy a2 b2 0 0 6, va_cpy a3 b3 0 0 6, va_cpy a4 b4 0 0 6, va_cpy a5 b5 0 0 12, va_cpy a6 b6 0 0 12, va_cpy a7 b7 0 0 12, va_cpy a8 b8 0 0 12) := by
  unfold f_X1_become
  simp only [pu_cp6, pu_cp12, pu_l]
  rfl
theorem pu_cpy {f g : Nat → Int32} {n i : Nat} (h : i < n) : va_cpy f g 0 0 n i = f i := by
  unfold va_cpy
  rw [if_pos (by omega), show 0 + (i - 0) = i by omega]
theorem pn_C_cg {x x' : Nat → Int32} {a a' : Nat → Nat → Int32} {s t : Nat → Int32} {P J C : Nat} (hP : P ≤ 6) (hJ : J ≤ 6) (hCC : C ≤ 12) (hC : pn_C x a s P J C) (hx : ∀ f, f < 5 → x' f = x f) (ha : ∀ f, f < 5 → ∀ i, i < 6 → a' f i = a f i) (ha2 : ∀ f, 5 ≤ f → f < 9 → ∀ i, i < 12 → a' f i = a f i) (ht : ∀ i, i < 83 → t i = s i) : pn_C x' a' t P J C := by
  obtain ⟨⟨r0, r1, r2, r3, r4⟩, h0, h1, h2, h3, h4, h5, h6, h7, h8⟩ := hC
  refine ⟨⟨by rw [hx 0 (by omega), r0], by rw [hx 1 (by omega), r1], by rw [hx 2 (by omega), r2], by rw [hx 3 (by omega), r3, ht 0 (by omega)], by rw [hx 4 (by omega), r4, ht 1 (by omega)]⟩, ?_, ?_, ?_, ?_, ?_, ?_, ?_, ?_, ?_⟩
  · intro i hi; rw [ha 0 (by omega) i (by omega), ht _ (by omega)]; exact h0 i hi
  · intro i hi; rw [ha 1 (by omega) i (by omega), ht _ (by omega)]; exact h1 i hi
  · intro i hi; rw [ha 2 (by omega) i (by omega), ht _ (by omega)]; exact h2 i hi
  · intro i hi; rw [ha 3 (by omega) i (by omega), ht _ (by omega)]; exact h3 i hi
  · intro i hi; rw [ha 4 (by omega) i (by omega), ht _ (by omega)]; exact h4 i hi
  · intro i hi; rw [ha2 5 (by omega) (by omega) i (by omega), ht _ (by omega)]; exact h5 i hi
  · intro i hi; rw [ha2 6 (by omega) (by omega) i (by omega), ht _ (by omega)]; exact h6 i hi
  · intro i hi; rw [ha2 7 (by omega) (by omega) i (by omega), ht _ (by omega)]; exact h7 i hi
  · intro i hi; rw [ha2 8 (by omega) (by omega) i (by omega), ht _ (by omega)]; exact h8 i hi
/-- the same circuit elsewhere, copied -/
theorem pq_rc_cp {x x' : Nat → Int32} {a a' : Nat → Nat → Int32} {s t : Nat → Int32} (hw : pq_wf s) (h : pq_rc x a s) (hx : ∀ f, f < 5 → x' f = x f) (ha : ∀ f, f < 5 → ∀ i, i < 6 → a' f i = a f i) (ha2 : ∀ f, 5 ≤ f → f < 9 → ∀ i, i < 12 → a' f i = a f i) (ht : ∀ i, i < 83 → t i = s i) : pq_rc x' a' t := by
  obtain ⟨P, J, C, X, S, hW⟩ := pn_W.of hw
  obtain ⟨⟨p1', p2'⟩, ⟨j1, j2⟩, ⟨c1, c2⟩, -⟩ := id hW
  exact pn_C.rc (pn_W_cg ht hW) (pn_C_cg p2' j2 c2 (pn_C.of hW h) hx ha ha2 ht)
theorem pu_there1 {N : Nat} {s : Nat → Int32} (h : pq_no s ∨ pq_wf s) : (pq_no s ∧ f_X1_isThere N (s 4) = some 0 ∧ f_X8_isThere N s = some 0) ∨ (pq_wf s ∧ f_X1_isThere N (s 4) = some 1 ∧ f_X8_isThere N s = some 1) := by
  unfold f_X1_isThere f_X8_isThere
  rw [pq_gd_i (by decide), show (2 : Int32).toNatClampNeg = 2 from rfl]
  have z0 : (0 : Int32).toInt = 0 := rfl
  rcases h with h | h
  · refine Or.inl ⟨h, ?_, ?_⟩
    · rw [h.2.2.2.2, if_pos (by decide), pu_b0]
    · rw [h.2.2.1, if_pos (by decide), pu_b0]
  · refine Or.inr ⟨h, ?_, ?_⟩
    · rw [if_neg (by rw [pu_lei, z0]; have := h.2.2.1; omega), pu_b1]
    · rw [if_neg (by rw [pu_lei, z0]; have := h.1; omega), pu_b1]
theorem pu_01 {v : Int32} (h : 0 ≤ v.toInt ∧ v.toInt ≤ 1) : v = 0 ∨ v = 1 := by
  rcases (show v.toInt = 0 ∨ v.toInt = 1 by omega) with e | e
  · exact Or.inl (by rw [pu_eqi, e]; rfl)
  · exact Or.inr (by rw [pu_eqi, e]; rfl)
set_option maxHeartbeats 2000000 in
theorem sim_image {xI : Nat → Int32} {xA : Nat → Nat → Int32} {xL : Nat → Nat → Int64} {aw : Nat → Nat → Int32} {mI : Nat → Int32} {mA : Nat → Nat → Int32} {mL : Nat → Int64} (hR : pq_R xI xA xL aw mI mA mL) (p1 : Int32) : ∃ (zc : Int32 × Int32 × Int32 × Int32 × Int32 × Int32 × (Nat → Int32) × (Nat → Int32) × (Nat → Int32) × (Nat → Int32) × (Nat → Int32) × (Nat → Int32) × (Nat → Int32) × (Nat → Int32) × (Nat → Int32) × Int32 × Int32 × Int32 × Int32 × Int32 × (Nat → Int32) × (Nat → Int32) × (Nat → Int32) × (Nat → Int32) × (Nat → Int32) × (Nat → Int32) × (Nat → Int32) × (Nat → Int32) × (Nat → Int32)) (zm : Int32 × (Nat → Int32) × (Nat → Int32)), f_X7_image pq_N (xI 0) (xI 1) (xI 2) (xI 3) (xI 4) (xA 0) (xA 1) (xA 2) (xA 3) (xA 4) (xA 5) (xA 6) (xA 7) (xA 8) (xI 5) (xI 6) (xI 7) (xI 8) (xI 9) (xA 9) (xA 10) (xA 11) (xA 12) (xA 13) (xA 14) (xA 15) (xA 16) (xA 17) (xI 10) (xI 11) (xI 12) (xI 13) (xI 14) (xA 18) (xA 19) (xA 20) (xA 21) (xA 22) (xA 23) (xA 24) (xA 25) (xA 26) p1 = some zc ∧ f_X8_image pq_N (mA 6) (mA 9) (mA 10) p1 = some zm ∧ zc.1 = zm.1 ∧ pq_R (va_up (va_up (va_up (va_up (va_up (va_up (va_up (va_up (va_up (va_up xI 0 zc.2.1) 1 zc.2.2.1) 2 zc.2.2.2.1) 3 zc.2.2.2.2.1) 4 zc.2.2.2.2.2.1) 5 zc.2.2.2.2.2.2.2.2.2.2.2.2.2.2.2.1) 6 zc.2.2.2.2.2.2.2.2.2.2.2.2.2.2.2.2.1) 7 zc.2.2.2.2.2.2.2.2.2.2.2.2.2.2.2.2.2.1) 8 zc.2.2.2.2.2.2.2.2.2.2.2.2.2.2.2.2.2.2.1) 9 zc.2.2.2.2.2.2.2.2.2.2.2.2.2.2.2.2.2.2.2.1) (va_up (va_up (va_up (va_up (va_up (va_up (va_up (va_up (va_up (va_up (va_up (va_up (va_up (va_up (va_up (va_up (va_up (va_up xA 0 zc.2.2.2.2.2.2.1) 1 zc.2.2.2.2.2.2.2.1) 2 zc.2.2.2.2.2.2.2.2.1) 3 zc.2.2.2.2.2.2.2.2.2.1) 4 zc.2.2.2.2.2.2.2.2.2.2.1) 5 zc.2.2.2.2.2.2.2.2.2.2.2.1) 6 zc.2.2.2.2.2.2.2.2.2.2.2.2.1) 7 zc.2.2.2.2.2.2.2.2.2.2.2.2.2.1) 8 zc.2.2.2.2.2.2.2.2.2.2.2.2.2.2.1) 9 zc.2.2.2.2.2.2.2.2.2.2.2.2.2.2.2.2.2.2.2.2.1) 10 zc.2.2.2.2.2.2.2.2.2.2.2.2.2.2.2.2.2.2.2.2.2.1) 11 zc.2.2.2.2.2.2.2.2.2.2.2.2.2.2.2.2.2.2.2.2.2.2.1) 12 zc.2.2.2.2.2.2.2.2.2.2.2.2.2.2.2.2.2.2.2.2.2.2.2.1) 13 zc.2.2.2.2.2.2.2.2.2.2.2.2.2.2.2.2.2.2.2.2.2.2.2.2.1) 14 zc.2.2.2.2.2.2.2.2.2.2.2.2.2.2.2.2.2.2.2.2.2.2.2.2.2.1) 15 zc.2.2.2.2.2.2.2.2.2.2.2.2.2.2.2.2.2.2.2.2.2.2.2.2.2.2.1) 16 zc.2.2.2.2.2.2.2.2.2.2.2.2.2.2.2.2.2.2.2.2.2.2.2.2.2.2.2.1) 17 zc.2.2.2.2.2.2.2.2.2.2.2.2.2.2.2.2.2.2.2.2.2.2.2.2.2.2.2.2) xL aw mI (va_up (va_up mA 9 zm.2.1) 10 zm.2.2) mL := by
  obtain ⟨⟨r0, r1, r2, r3, r4⟩, k2, k3, k4⟩ := pu_now hR
  have same : pq_R (va_up (va_up (va_up (va_up (va_up (va_up (va_up (va_up (va_up (va_up xI 0 (xI 0)) 1 (xI 1)) 2 (xI 2)) 3 (xI 3)) 4 (xI 4)) 5 (xI 5)) 6 (xI 6)) 7 (xI 7)) 8 (xI 8)) 9 (xI 9)) (va_up (va_up (va_up (va_up (va_up (va_up (va_up (va_up (va_up (va_up (va_up (va_up (va_up (va_up (va_up (va_up (va_up (va_up xA 0 (xA 0)) 1 (xA 1)) 2 (xA 2)) 3 (xA 3)) 4 (xA 4)) 5 (xA 5)) 6 (xA 6)) 7 (xA 7)) 8 (xA 8)) 9 (xA 9)) 10 (xA 10)) 11 (xA 11)) 12 (xA 12)) 13 (xA 13)) 14 (xA 14)) 15 (xA 15)) 16 (xA 16)) 17 (xA 17)) xL aw mI (va_up (va_up mA 9 (mA 9)) 10 (mA 10)) mL := by
    simp only [pu_vid]; exact hR
  unfold f_X7_image f_X8_image
  have z0 : (0 : Int32).toInt = 0 := rfl
  have z1 : (1 : Int32).toInt = 1 := rfl
  have z2 : (2 : Int32).toInt = 2 := rfl
  rw [pu_in, pu_cs, z0, z1]
  by_cases hv : 0 ≤ p1.toInt ∧ p1.toInt ≤ 1
  · rw [pu_f1 hv, if_neg (show ¬ p1 < 0 by rw [pu_lt, z0]; omega), if_pos (show p1 < 2 by rw [pu_lt, z2]; omega), r2]
    rcases pu_there1 (N := pq_N) hR.now.2 with ⟨-, e1, e2⟩ | ⟨hw, e1, e2⟩
    · rw [e1, e2, pu_cs, pu_cs, if_pos rfl, if_pos rfl]
      exact ⟨_, _, rfl, rfl, rfl, same⟩
    · rw [e1, e2, pu_cs, pu_cs, if_neg (show ¬ (1 : Int32) = 0 by decide), if_neg (show ¬ (1 : Int32) = 0 by decide)]
      have hbr : ∀ k, k < 2 → f_X8_bring pq_N 83 166 (mA 6) (mA 9) 0 (nI (83 * k)) 83 = some (pn_br (mA 6) (mA 9) 0 (83 * k) 83) := by
        intro k hk
        have e3 := pu_bring (N := pq_N) (n0 := 83) (n2 := 166) (i := 0) (j := 83 * k) (n := 83) (a := mA 6) (b := mA 9) (by omega) (by omega) (by omega) (by omega) (by have := pu_N2; omega)
        rw [nI_0] at e3
        exact e3
      have hin : ∀ k, ∀ i, i < 83 → pn_br (mA 6) (mA 9) 0 (83 * k) 83 (83 * k + i) = mA 6 i := by
        intro k i hi
        unfold pn_br
        rw [if_pos (by omega), show 0 + (83 * k + i - 83 * k) = i by omega]
      have hout : ∀ k k', k ≠ k' → ∀ i, i < 83 → pn_br (mA 6) (mA 9) 0 (83 * k) 83 (83 * k' + i) = mA 9 (83 * k' + i) := by
        intro k k' hne i hi
        unfold pn_br
        rw [if_neg (by omega)]
      have en : vp_nar .boolean 1 = 1 := rfl
      have hother : ∀ k, (mA 10 k = 0 ∧ xI (5 * k + 2) = 0) ∨ (mA 10 k = 1 ∧ pq_rc (fun f => xI (5 * k + f)) (fun f => xA (9 * k + f)) (fun i => mA 9 (83 * k + i)) ∧ pq_wf (fun i => mA 9 (83 * k + i))) → ∀ k', k' ≠ k → (mA 10 k = 0 ∧ xI (5 * k + 2) = 0) ∨ (mA 10 k = 1 ∧ pq_rc (fun f => xI (5 * k + f)) (fun f => xA (9 * k + f)) (fun i => pn_br (mA 6) (mA 9) 0 (83 * k') 83 (83 * k + i)) ∧ pq_wf (fun i => pn_br (mA 6) (mA 9) 0 (83 * k') 83 (83 * k + i))) := by
        intro k h k' hne
        rcases h with h | ⟨h1, h2, h3⟩
        · exact Or.inl h
        · exact Or.inr ⟨h1, pq_rc_cp h3 h2 (fun _ _ => rfl) (fun _ _ _ _ => rfl) (fun _ _ _ _ _ => rfl) (fun i hi => hout k' k hne i hi), pq_wf_cg (fun i hi => hout k' k hne i hi) h3⟩
      rw [pq_gd_i (i := p1) (n := 2) (by omega)]
      rcases pu_01 hv with rfl | rfl
      · rw [if_pos rfl, pu_become, pu_cs, show ((83 : Int32) * 0) = nI (83 * 0) from rfl, hbr 0 (by omega), pu_cs, pq_gd_i (by decide), pu_l, pq_gd_i (by decide), en]
        refine ⟨_, _, rfl, rfl, r3, ?_⟩
        dsimp only
        refine ⟨pq_kT hR ?_ ?_ ?_ ?_, pq_kN hR ?_ ?_ ?_, ?_, pq_kH hR ?_ ?_ ?_ rfl ?_ ?_, pq_kS hR ?_ ?_ ?_ ?_ rfl⟩
        · simp (disch := omega) only [pu_vo]
        · simp (disch := omega) only [pu_vo]
        · rfl
        · simp (disch := omega) only [pu_vo]
        · intro f hf; simp (disch := omega) only [pu_vo]
        · intro f hf; simp (disch := omega) only [pu_vo]
        · simp (disch := omega) only [pu_vo]
        · intro k hk
          rcases (show k = 0 ∨ k = 1 by omega) with rfl | rfl
          · refine Or.inr ⟨rfl, ?_, ?_⟩
            · refine pq_rc_cp hw hR.now.1 ?_ ?_ ?_ ?_
              · intro f hf
                rcases (show f = 0 ∨ f = 1 ∨ f = 2 ∨ f = 3 ∨ f = 4 by omega) with rfl | rfl | rfl | rfl | rfl
                · rfl
                · rfl
                · exact r2.symm
                · rfl
                · rfl
              · intro f hf i hi
                rcases (show f = 0 ∨ f = 1 ∨ f = 2 ∨ f = 3 ∨ f = 4 by omega) with rfl | rfl | rfl | rfl | rfl <;> exact pu_cpy hi
              · intro f hf hf2 i hi
                rcases (show f = 5 ∨ f = 6 ∨ f = 7 ∨ f = 8 by omega) with rfl | rfl | rfl | rfl <;> exact pu_cpy hi
              · intro i hi; exact hin 0 i hi
            · exact pq_wf_cg (fun i hi => hin 0 i hi) hw
          · have h := hother 1 (hR.ims 1 (by omega)) 0 (by omega)
            rcases h with ⟨h1, h2⟩ | ⟨h1, h2, h3⟩
            · exact Or.inl ⟨h1, h2⟩
            · refine Or.inr ⟨h1, pq_rc_cg ?_ ?_ h2, h3⟩
              · intro f hf
                rcases (show f = 0 ∨ f = 1 ∨ f = 2 ∨ f = 3 ∨ f = 4 by omega) with rfl | rfl | rfl | rfl | rfl <;> rfl
              · intro f hf
                rcases (show f = 0 ∨ f = 1 ∨ f = 2 ∨ f = 3 ∨ f = 4 ∨ f = 5 ∨ f = 6 ∨ f = 7 ∨ f = 8 by omega) with rfl | rfl | rfl | rfl | rfl | rfl | rfl | rfl | rfl <;> rfl
        · simp (disch := omega) only [pu_vo]
        · simp (disch := omega) only [pu_vo]
        · rfl
        · simp (disch := omega) only [pu_vo]
        · simp (disch := omega) only [pu_vo]
        · intro k h1 h2; simp (disch := omega) only [pu_vo]
        · intro k hk; rfl
        · simp (disch := omega) only [pu_vo]
        · simp (disch := omega) only [pu_vo]
      · rw [if_neg (show ¬ (1 : Int32) = 0 by decide), if_pos rfl, pu_become, pu_cs, show ((83 : Int32) * 1) = nI (83 * 1) from rfl, hbr 1 (by omega), pu_cs, pq_gd_i (by decide), pu_l, pq_gd_i (by decide), en]
        refine ⟨_, _, rfl, rfl, r3, ?_⟩
        dsimp only
        refine ⟨pq_kT hR ?_ ?_ ?_ ?_, pq_kN hR ?_ ?_ ?_, ?_, pq_kH hR ?_ ?_ ?_ rfl ?_ ?_, pq_kS hR ?_ ?_ ?_ ?_ rfl⟩
        · simp (disch := omega) only [pu_vo]
        · simp (disch := omega) only [pu_vo]
        · rfl
        · simp (disch := omega) only [pu_vo]
        · intro f hf; simp (disch := omega) only [pu_vo]
        · intro f hf; simp (disch := omega) only [pu_vo]
        · simp (disch := omega) only [pu_vo]
        · intro k hk
          rcases (show k = 1 ∨ k = 0 by omega) with rfl | rfl
          · refine Or.inr ⟨rfl, ?_, ?_⟩
            · refine pq_rc_cp hw hR.now.1 ?_ ?_ ?_ ?_
              · intro f hf
                rcases (show f = 0 ∨ f = 1 ∨ f = 2 ∨ f = 3 ∨ f = 4 by omega) with rfl | rfl | rfl | rfl | rfl
                · rfl
                · rfl
                · exact r2.symm
                · rfl
                · rfl
              · intro f hf i hi
                rcases (show f = 0 ∨ f = 1 ∨ f = 2 ∨ f = 3 ∨ f = 4 by omega) with rfl | rfl | rfl | rfl | rfl <;> exact pu_cpy hi
              · intro f hf hf2 i hi
                rcases (show f = 5 ∨ f = 6 ∨ f = 7 ∨ f = 8 by omega) with rfl | rfl | rfl | rfl <;> exact pu_cpy hi
              · intro i hi; exact hin 1 i hi
            · exact pq_wf_cg (fun i hi => hin 1 i hi) hw
          · have h := hother 0 (hR.ims 0 (by omega)) 1 (by omega)
            rcases h with ⟨h1, h2⟩ | ⟨h1, h2, h3⟩
            · exact Or.inl ⟨h1, h2⟩
            · refine Or.inr ⟨h1, pq_rc_cg ?_ ?_ h2, h3⟩
              · intro f hf
                rcases (show f = 0 ∨ f = 1 ∨ f = 2 ∨ f = 3 ∨ f = 4 by omega) with rfl | rfl | rfl | rfl | rfl <;> rfl
              · intro f hf
                rcases (show f = 0 ∨ f = 1 ∨ f = 2 ∨ f = 3 ∨ f = 4 ∨ f = 5 ∨ f = 6 ∨ f = 7 ∨ f = 8 by omega) with rfl | rfl | rfl | rfl | rfl | rfl | rfl | rfl | rfl <;> rfl
        · simp (disch := omega) only [pu_vo]
        · simp (disch := omega) only [pu_vo]
        · rfl
        · simp (disch := omega) only [pu_vo]
        · simp (disch := omega) only [pu_vo]
        · intro k h1 h2; simp (disch := omega) only [pu_vo]
        · intro k hk; rfl
        · simp (disch := omega) only [pu_vo]
        · simp (disch := omega) only [pu_vo]
  · rw [pu_f0 hv]
    by_cases hl0 : p1 < 0
    · rw [if_pos hl0]
      exact ⟨_, _, rfl, rfl, rfl, same⟩
    · rw [if_neg hl0, if_neg (show ¬ p1 < 2 by rw [pu_lt, z0] at hl0; rw [pu_lt, z2]; omega)]
      exact ⟨_, _, rfl, rfl, rfl, same⟩
set_option maxHeartbeats 2000000 in
theorem sim_restore {xI : Nat → Int32} {xA : Nat → Nat → Int32} {xL : Nat → Nat → Int64} {aw : Nat → Nat → Int32} {mI : Nat → Int32} {mA : Nat → Nat → Int32} {mL : Nat → Int64} (hR : pq_R xI xA xL aw mI mA mL) (p1 : Int32) : ∃ (zc : Int32 × Int32 × Int32 × Int32 × Int32 × Int32 × Int32 × (Nat → Int32) × (Nat → Int32) × (Nat → Int32) × (Nat → Int32) × (Nat → Int32) × (Nat → Int32) × (Nat → Int32) × (Nat → Int32) × (Nat → Int32)) (zm : Int32 × Int32 × (Nat → Int32)), f_X7_restore pq_N (xI 22) (xI 0) (xI 1) (xI 2) (xI 3) (xI 4) (xA 0) (xA 1) (xA 2) (xA 3) (xA 4) (xA 5) (xA 6) (xA 7) (xA 8) (xI 5) (xI 6) (xI 7) (xI 8) (xI 9) (xA 9) (xA 10) (xA 11) (xA 12) (xA 13) (xA 14) (xA 15) (xA 16) (xA 17) (xI 10) (xI 11) (xI 12) (xI 13) (xI 14) (xA 18) (xA 19) (xA 20) (xA 21) (xA 22) (xA 23) (xA 24) (xA 25) (xA 26) p1 = some zc ∧ f_X8_restore pq_N (mI 12) (mA 6) (mA 9) (mA 10) p1 = some zm ∧ zc.1 = zm.1 ∧ pq_R (va_up (va_up (va_up (va_up (va_up (va_up xI 22 zc.2.1) 10 zc.2.2.1) 11 zc.2.2.2.1) 12 zc.2.2.2.2.1) 13 zc.2.2.2.2.2.1) 14 zc.2.2.2.2.2.2.1) (va_up (va_up (va_up (va_up (va_up (va_up (va_up (va_up (va_up xA 18 zc.2.2.2.2.2.2.2.1) 19 zc.2.2.2.2.2.2.2.2.1) 20 zc.2.2.2.2.2.2.2.2.2.1) 21 zc.2.2.2.2.2.2.2.2.2.2.1) 22 zc.2.2.2.2.2.2.2.2.2.2.2.1) 23 zc.2.2.2.2.2.2.2.2.2.2.2.2.1) 24 zc.2.2.2.2.2.2.2.2.2.2.2.2.2.1) 25 zc.2.2.2.2.2.2.2.2.2.2.2.2.2.2.1) 26 zc.2.2.2.2.2.2.2.2.2.2.2.2.2.2.2) xL aw (va_up mI 12 zm.2.1) (va_up mA 6 zm.2.2) mL := by
  obtain ⟨⟨r0, r1, r2, r3, r4⟩, k2, k3, k4⟩ := pu_now hR
  have same : pq_R (va_up (va_up (va_up (va_up (va_up (va_up xI 22 (xI 22)) 10 (xI 10)) 11 (xI 11)) 12 (xI 12)) 13 (xI 13)) 14 (xI 14)) (va_up (va_up (va_up (va_up (va_up (va_up (va_up (va_up (va_up xA 18 (xA 18)) 19 (xA 19)) 20 (xA 20)) 21 (xA 21)) 22 (xA 22)) 23 (xA 23)) 24 (xA 24)) 25 (xA 25)) 26 (xA 26)) xL aw (va_up mI 12 (mI 12)) (va_up mA 6 (mA 6)) mL := by
    simp only [pu_vid]; exact hR
  unfold f_X7_restore f_X8_restore
  have z0 : (0 : Int32).toInt = 0 := rfl
  have z1 : (1 : Int32).toInt = 1 := rfl
  have z2 : (2 : Int32).toInt = 2 := rfl
  rw [pu_in, pu_cs, z0, z1]
  by_cases hv : 0 ≤ p1.toInt ∧ p1.toInt ≤ 1
  · rw [pu_f1 hv, if_neg (show ¬ p1 < 0 by rw [pu_lt, z0]; omega), if_pos (show p1 < 2 by rw [pu_lt, z2]; omega), pq_gd_i (i := p1) (n := 2) (by omega)]
    have hbr : ∀ k, k < 2 → f_X8_bring pq_N 166 83 (mA 9) (mA 6) (nI (83 * k)) 0 83 = some (pn_br (mA 9) (mA 6) (83 * k) 0 83) := by
      intro k hk
      have e3 := pu_bring (N := pq_N) (n0 := 166) (n2 := 83) (i := 83 * k) (j := 0) (n := 83) (a := mA 9) (b := mA 6) (by omega) (by omega) (by omega) (by omega) (by have := pu_N2; omega)
      rw [nI_0] at e3
      exact e3
    have hin : ∀ k, ∀ i, i < 83 → pn_br (mA 9) (mA 6) (83 * k) 0 83 i = mA 9 (83 * k + i) := by
      intro k i hi
      unfold pn_br
      rw [if_pos (by omega), show i - 0 = i by omega]
    have hhi : ∀ u, pq_hi 0 (xI 23) aw u (mA 11) := by
      intro u
      refine ⟨by decide, hR.hist.2.2.1, fun j hj => ?_⟩
      rw [z0] at hj
      omega
    have c1 : ∀ v : Int32, f_X1_isThere pq_N v = some (if 0 < v.toInt then 1 else 0) := by
      intro v
      unfold f_X1_isThere
      by_cases h : v ≤ 0
      · rw [if_pos h, pu_b0, if_neg (by rw [pu_lei, z0] at h; omega)]
      · rw [if_neg h, pu_b1, if_pos (by rw [pu_lei, z0] at h; omega)]
    rcases pu_01 hv with rfl | rfl
    · rw [if_pos rfl, show (0 : Int32).toNatClampNeg = 0 from rfl, c1, pu_cs]
      rcases hR.ims 0 (by omega) with ⟨h1, h2⟩ | ⟨h1, h2, h3⟩
      · have h2 : xI 2 = 0 := h2
        rw [h1, h2, pu_f0 (by decide), if_pos rfl]
        exact ⟨_, _, rfl, rfl, rfl, same⟩
      · have hc : xI 2 = mA 9 (83 * 0 + 4) := h2.2.2.1
        have h3' := h3.2.2.1
        dsimp only at h3'
        rw [h1, hc, pu_f1 (by omega), if_neg (by decide), pu_become, pu_cs, show ((83 : Int32) * 0) = nI (83 * 0) from rfl, hbr 0 (by omega), pu_cs, pq_gd_i (by decide)]
        have hwu := pq_wf_cg (fun i hi => hin 0 i hi) h3
        refine ⟨_, _, rfl, rfl, ?_, ?_⟩
        · show xI 3 = pn_br (mA 9) (mA 6) (83 * 0) 0 83 0
          rw [hin 0 0 (by omega)]
          exact h2.2.2.2.1
        · dsimp only
          refine pq_kA hR ?_ ?_ ?_ ?_ ?_ ?_ ?_
          · intro k hk'; simp (disch := omega) only [pu_vo]
          · intro k hk'; simp (disch := omega) only [pu_vo]
          · simp (disch := omega) only [pu_vo]
          · intro k hk'; simp (disch := omega) only [pu_vo]
          · rw [pu_vs]
            refine pq_rc_cp h3 h2 ?_ ?_ ?_ (fun i hi => hin 0 i hi)
            · intro f hf
              rcases (show f = 0 ∨ f = 1 ∨ f = 2 ∨ f = 3 ∨ f = 4 by omega) with rfl | rfl | rfl | rfl | rfl
              · rfl
              · rfl
              · exact hc.symm
              · rfl
              · rfl
            · intro f hf i hi
              rcases (show f = 0 ∨ f = 1 ∨ f = 2 ∨ f = 3 ∨ f = 4 by omega) with rfl | rfl | rfl | rfl | rfl <;> exact pu_cpy hi
            · intro f hf hf2 i hi
              rcases (show f = 5 ∨ f = 6 ∨ f = 7 ∨ f = 8 by omega) with rfl | rfl | rfl | rfl <;> exact pu_cpy hi
          · rw [pu_vs]; exact hwu
          · refine ⟨rfl, ?_⟩
            exact hhi _
    · rw [if_neg (by decide), if_pos rfl, show (1 : Int32).toNatClampNeg = 1 from rfl, c1, pu_cs]
      rcases hR.ims 1 (by omega) with ⟨h1, h2⟩ | ⟨h1, h2, h3⟩
      · have h2 : xI 7 = 0 := h2
        rw [h1, h2, pu_f0 (by decide), if_pos rfl]
        exact ⟨_, _, rfl, rfl, rfl, same⟩
      · have hc : xI 7 = mA 9 (83 * 1 + 4) := h2.2.2.1
        have h3' := h3.2.2.1
        dsimp only at h3'
        rw [h1, hc, pu_f1 (by omega), if_neg (by decide), pu_become, pu_cs, show ((83 : Int32) * 1) = nI (83 * 1) from rfl, hbr 1 (by omega), pu_cs, pq_gd_i (by decide)]
        have hwu := pq_wf_cg (fun i hi => hin 1 i hi) h3
        refine ⟨_, _, rfl, rfl, ?_, ?_⟩
        · show xI 8 = pn_br (mA 9) (mA 6) (83 * 1) 0 83 0
          rw [hin 1 0 (by omega)]
          exact h2.2.2.2.1
        · dsimp only
          refine pq_kA hR ?_ ?_ ?_ ?_ ?_ ?_ ?_
          · intro k hk'; simp (disch := omega) only [pu_vo]
          · intro k hk'; simp (disch := omega) only [pu_vo]
          · simp (disch := omega) only [pu_vo]
          · intro k hk'; simp (disch := omega) only [pu_vo]
          · rw [pu_vs]
            refine pq_rc_cp h3 h2 ?_ ?_ ?_ (fun i hi => hin 1 i hi)
            · intro f hf
              rcases (show f = 0 ∨ f = 1 ∨ f = 2 ∨ f = 3 ∨ f = 4 by omega) with rfl | rfl | rfl | rfl | rfl
              · rfl
              · rfl
              · exact hc.symm
              · rfl
              · rfl
            · intro f hf i hi
              rcases (show f = 0 ∨ f = 1 ∨ f = 2 ∨ f = 3 ∨ f = 4 by omega) with rfl | rfl | rfl | rfl | rfl <;> exact pu_cpy hi
            · intro f hf hf2 i hi
              rcases (show f = 5 ∨ f = 6 ∨ f = 7 ∨ f = 8 by omega) with rfl | rfl | rfl | rfl <;> exact pu_cpy hi
          · rw [pu_vs]; exact hwu
          · refine ⟨rfl, ?_⟩
            exact hhi _
  · rw [pu_f0 hv]
    by_cases hl0 : p1 < 0
    · rw [if_pos hl0]
      exact ⟨_, _, rfl, rfl, rfl, same⟩
    · rw [if_neg hl0, if_neg (show ¬ p1 < 2 by rw [pu_lt, z0] at hl0; rw [pu_lt, z2]; omega)]
      exact ⟨_, _, rfl, rfl, rfl, same⟩
