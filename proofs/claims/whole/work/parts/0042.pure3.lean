/-! ===== pure: a case is heard ===== -/
/-- rows that agree on what is asked in a naming -/
def pn_ag (s t : Nat → Int32) : Prop := s 3 = t 3 ∧ (∀ j, j < 6 → s (23 + j) = t (23 + j)) ∧ (∀ j, j < 6 → s (29 + j) = t (29 + j))
theorem pn_lk_ag {s t : Nat → Int32} (h : pn_ag s t) {p k : Int32} {j : Nat} (hj : j < 6) : pn_lk s p k j = pn_lk t p k j := by
  unfold pn_lk
  rw [h.2.1 j hj, h.2.2 j hj]
theorem pn_b_cg {g g' : Nat → Int32} {ok : Nat → Bool} : ∀ {n : Nat}, (∀ i, i < n → g i = g' i) → pn_b g ok n = pn_b g' ok n
  | 0, _ => rfl
  | n + 1, h => by
    rw [pn_b_succ, pn_b_succ, pn_b_cg (fun i hi => h i (by omega))]
    cases e : pn_b g' ok n with
    | none => rfl
    | some b =>
      dsimp only
      rw [h n (by omega), h b (by have := (pn_b_lt g' ok n b e).1; omega)]
theorem pn_nm_ag {s t : Nat → Int32} (h : pn_ag s t) {p k : Int32} {j : Nat} (h6 : (s 3).toNatClampNeg ≤ 6) : pn_nm s p k j = pn_nm t p k j := by
  unfold pn_nm
  rw [← h.1, pn_b_cg (g := pn_lk s p k) (g' := pn_lk t p k) (fun i hi => pn_lk_ag h (by omega))]
def pn_hu (k w : Int32) : Int32 := if k = 1 then w else if k = 2 then 2 * w else if k = 3 then 0 else if k = 4 then 1 else if k = 5 then 2 * w + 1 else 0
theorem pu_hurts {N : Nat} {k w : Int32} : f_X8_hurts N k w = some (pn_hu k w) := by
  unfold f_X8_hurts pn_hu
  split
  · rfl
  split
  · rfl
  split
  · rfl
  split
  · rfl
  split <;> rfl
theorem pu_hurtOf {N : Nat} {a0 : Nat → Int32} {p : Nat} {w : Int32} (hp : p < 6) (hk : ∃ k : Nat, 1 ≤ k ∧ k ≤ 5 ∧ a0 p = nI k) : f_X1_hurtOf N a0 (nI p) w = some (pn_hu (a0 p) w) := by
  obtain ⟨k, h1, h2, e⟩ := hk
  unfold f_X1_hurtOf pn_hu
  rw [pu_gd hp (by decide), nI_clamp (by omega), e]
  rcases (show k = 1 ∨ k = 2 ∨ k = 3 ∨ k = 4 ∨ k = 5 by omega) with rfl | rfl | rfl | rfl | rfl <;> rfl
def pn_dn (g : Int32) : Int32 := if g ≤ 0 then g - 0 else g - 1
def pn_up (g h : Int32) : Int32 := if g + h ≤ 20 then g + h else 20
def pn_op (s : Nat → Int32) (c : Nat) (w : Int32) : Int32 := if w = s (35 + c) then s (47 + c) else s (35 + c)
/-- the reference's row when the case c has ended, w (a party's number) having won and lo lost -/
def pn_e3 (s : Nat → Int32) (c w lo : Nat) : Nat → Int32 := upd (upd (upd s (17 + w) (s (17 + w) + 1)) (11 + w) (pn_dn (s (11 + w)))) (11 + lo) (pn_up (s (11 + lo)) (pn_hu (s (5 + lo)) (s (59 + c))))
def pn_end (s : Nat → Int32) (c w lo : Nat) (j : Nat) : Nat → Int32 := upd (upd (pn_e3 s c w lo) 1 (pn_nm s (nI lo) (s (5 + lo)) j)) (71 + c) (nI w)
theorem pu_us {f : Nat → Int32} {k : Nat} {x : Int32} : upd f k x k = x := pk_us
theorem pu_un {f : Nat → Int32} {k j : Nat} {x : Int32} (h : j ≠ k) : upd f k x j = f j := pk_un h
theorem pn_e3_o {s : Nat → Int32} {c w lo i : Nat} (h1 : i ≠ 17 + w) (h2 : i ≠ 11 + w) (h3 : i ≠ 11 + lo) : pn_e3 s c w lo i = s i := by
  unfold pn_e3
  rw [pu_un h3, pu_un h2, pu_un h1]
theorem pu_ends {N : Nat} {s : Nat → Int32} {c w lo j J : Nat} (hN : 10 < N) (hJ : s 3 = nI J) (h1 : 1 ≤ J) (hJ6 : J ≤ 6) (hj : j < J) (hs : s 1 = nI j) (hc : c < 12) (hw : w < 6) (hlo : lo < 6) (hne : w ≠ lo) (hop : pn_op s c (nI w) = nI lo) : f_X8_ends N s (nI c) (nI w) = some (pn_end s c w lo j) := by
  have hag : pn_ag (pn_e3 s c w lo) s := ⟨pn_e3_o (by omega) (by omega) (by omega), fun i hi => pn_e3_o (by omega) (by omega) (by omega), fun i hi => pn_e3_o (by omega) (by omega) (by omega)⟩
  have hJ3 : (pn_e3 s c w lo) 3 = nI J := by rw [hag.1, hJ]
  have hnm : f_X8_namedBy N (pn_e3 s c w lo) (nI lo) (s (5 + lo)) (nI j) = some (pn_nm s (nI lo) (s (5 + lo)) j) := by
    rw [pu_named8 hN hJ3 h1 hJ6 hj, pn_nm_ag hag (by rw [hJ3, nI_clamp (by omega)]; exact hJ6)]
  unfold pn_op at hop
  have key : ∀ (y : Int32), y = nI lo → (pq_gd ((17 : Int32) + nI w) 83 (pq_gd ((17 : Int32) + nI w) 83 (pq_l (upd s (((17 : Int32) + nI w) : Int32).toNatClampNeg ((s (((17 : Int32) + nI w) : Int32).toNatClampNeg) + (1 : Int32))) (fun ar_0_1 => pq_gd ((11 : Int32) + nI w) 83 (pq_gd ((11 : Int32) + nI w) 83 (pq_j (fun (y0_J57 : Int32) => (pq_gd ((11 : Int32) + nI w) 83 (pq_l (upd ar_0_1 (((11 : Int32) + nI w) : Int32).toNatClampNeg ((ar_0_1 (((11 : Int32) + nI w) : Int32).toNatClampNeg) - y0_J57)) (fun ar_0_2 => pq_gd ((11 : Int32) + y) 83 (pq_gd ((5 : Int32) + y) 83 (pq_gd ((59 : Int32) + nI c) 83 (pq_c (f_X8_hurts N (ar_0_2 (((5 : Int32) + y) : Int32).toNatClampNeg) (ar_0_2 (((59 : Int32) + nI c) : Int32).toNatClampNeg)) (fun r_3 => pq_l (((ar_0_2 (((11 : Int32) + y) : Int32).toNatClampNeg) + r_3)) (fun x4_4 => pq_j (fun (y0_J101 : Int32) => (pq_gd ((11 : Int32) + y) 83 (pq_l (upd ar_0_2 (((11 : Int32) + y) : Int32).toNatClampNeg y0_J101) (fun ar_0_5 => pq_gd ((5 : Int32) + y) 83 (pq_gd 1 83 (pq_c (f_X8_namedBy N ar_0_5 y (ar_0_5 (((5 : Int32) + y) : Int32).toNatClampNeg) (ar_0_5 (1 : Int32).toNatClampNeg)) (fun r_6 => pq_gd 1 83 (pq_l (upd ar_0_5 (1 : Int32).toNatClampNeg r_6) (fun ar_0_7 => pq_gd ((71 : Int32) + nI c) 83 (pq_l (upd ar_0_7 (((71 : Int32) + nI c) : Int32).toNatClampNeg (nI w)) (fun ar_0_8 => some (ar_0_8)))))))))) : Option ((Nat → Int32)))) (fun kJ101 => (if x4_4 ≤ 20 then kJ101 x4_4 else kJ101 20))))))))) : Option ((Nat → Int32)))) (fun kJ57 => (if (ar_0_1 (((11 : Int32) + nI w) : Int32).toNatClampNeg) ≤ 0 then kJ57 0 else kJ57 1))))))) : Option ((Nat → Int32))) = some (pn_end s c w lo j) := by
    intro y hy
    subst hy
    simp (disch := omega) only [pu_lit 17, pu_lit 11, pu_lit 5, pu_lit 59, pu_lit 71, pu_lit 1, nI_add, pu_gd, pu_l, pu_j, nI_clamp]
    rw [pu_un (show 11 + w ≠ 17 + w by omega)]
    have e1 : ∀ d : Int32, (if s (11 + w) ≤ 0 then s (11 + w) - 0 else s (11 + w) - nI 1) = d → d = pn_dn (s (11 + w)) := fun d h => by rw [← h]; rfl
    by_cases hg : s (11 + w) ≤ 0
    · rw [if_pos hg]
      have ed : s (11 + w) - 0 = pn_dn (s (11 + w)) := e1 _ (by rw [if_pos hg])
      rw [ed]
      simp only [pu_un (show 5 + lo ≠ 11 + w by omega), pu_un (show 5 + lo ≠ 17 + w by omega), pu_un (show 59 + c ≠ 11 + w by omega), pu_un (show 59 + c ≠ 17 + w by omega), pu_un (show 11 + lo ≠ 11 + w by omega), pu_un (show 11 + lo ≠ 17 + w by omega), pu_hurts, pu_cs]
      have eu : ∀ d : Int32, d = pn_up (s (11 + lo)) (pn_hu (s (5 + lo)) (s (59 + c))) → (pq_c (f_X8_namedBy N (upd (upd (upd s (17 + w) (s (17 + w) + nI 1)) (11 + w) (pn_dn (s (11 + w)))) (11 + lo) d) (nI lo) (upd (upd (upd s (17 + w) (s (17 + w) + nI 1)) (11 + w) (pn_dn (s (11 + w)))) (11 + lo) d (5 + lo)) (upd (upd (upd s (17 + w) (s (17 + w) + nI 1)) (11 + w) (pn_dn (s (11 + w)))) (11 + lo) d 1)) fun r_6 => some (upd (upd (upd (upd (upd s (17 + w) (s (17 + w) + nI 1)) (11 + w) (pn_dn (s (11 + w)))) (11 + lo) d) 1 r_6) (71 + c) (nI w))) = some (pn_end s c w lo j) := by
        intro d hd
        subst hd
        show pq_c (f_X8_namedBy N (pn_e3 s c w lo) (nI lo) (pn_e3 s c w lo (5 + lo)) (pn_e3 s c w lo 1)) _ = _
        rw [pn_e3_o (show 5 + lo ≠ 17 + w by omega) (by omega) (by omega), pn_e3_o (show 1 ≠ 17 + w by omega) (by omega) (by omega), hs, hnm, pu_cs]
        rfl
      by_cases hu : s (11 + lo) + pn_hu (s (5 + lo)) (s (59 + c)) ≤ 20
      · rw [if_pos hu]
        exact eu _ (by unfold pn_up; rw [if_pos hu])
      · rw [if_neg hu]
        exact eu _ (by unfold pn_up; rw [if_neg hu])
    · rw [if_neg hg]
      have ed : s (11 + w) - nI 1 = pn_dn (s (11 + w)) := e1 _ (by rw [if_neg hg])
      rw [ed]
      simp only [pu_un (show 5 + lo ≠ 11 + w by omega), pu_un (show 5 + lo ≠ 17 + w by omega), pu_un (show 59 + c ≠ 11 + w by omega), pu_un (show 59 + c ≠ 17 + w by omega), pu_un (show 11 + lo ≠ 11 + w by omega), pu_un (show 11 + lo ≠ 17 + w by omega), pu_hurts, pu_cs]
      have eu : ∀ d : Int32, d = pn_up (s (11 + lo)) (pn_hu (s (5 + lo)) (s (59 + c))) → (pq_c (f_X8_namedBy N (upd (upd (upd s (17 + w) (s (17 + w) + nI 1)) (11 + w) (pn_dn (s (11 + w)))) (11 + lo) d) (nI lo) (upd (upd (upd s (17 + w) (s (17 + w) + nI 1)) (11 + w) (pn_dn (s (11 + w)))) (11 + lo) d (5 + lo)) (upd (upd (upd s (17 + w) (s (17 + w) + nI 1)) (11 + w) (pn_dn (s (11 + w)))) (11 + lo) d 1)) fun r_6 => some (upd (upd (upd (upd (upd s (17 + w) (s (17 + w) + nI 1)) (11 + w) (pn_dn (s (11 + w)))) (11 + lo) d) 1 r_6) (71 + c) (nI w))) = some (pn_end s c w lo j) := by
        intro d hd
        subst hd
        show pq_c (f_X8_namedBy N (pn_e3 s c w lo) (nI lo) (pn_e3 s c w lo (5 + lo)) (pn_e3 s c w lo 1)) _ = _
        rw [pn_e3_o (show 5 + lo ≠ 17 + w by omega) (by omega) (by omega), pn_e3_o (show 1 ≠ 17 + w by omega) (by omega) (by omega), hs, hnm, pu_cs]
        rfl
      by_cases hu : s (11 + lo) + pn_hu (s (5 + lo)) (s (59 + c)) ≤ 20
      · rw [if_pos hu]
        exact eu _ (by unfold pn_up; rw [if_pos hu])
      · rw [if_neg hu]
        exact eu _ (by unfold pn_up; rw [if_neg hu])
  unfold f_X8_ends
  simp (disch := omega) only [pu_lit 35, pu_lit 47, nI_add, pu_gd, nI_clamp, pu_j]
  by_cases hwp : nI w = s (35 + c)
  · rw [if_pos hwp] at hop
    rw [if_pos hwp]
    exact key _ hop
  · rw [if_neg hwp] at hop
    rw [if_neg hwp]
    exact key _ hop
theorem pu_other {N : Nat} {s : Nat → Int32} {c : Nat} {w : Int32} (hc : c < 12) : f_X8_otherOf N s (nI c) w = some (pn_op s c w) := by
  unfold f_X8_otherOf pn_op
  simp (disch := omega) only [pu_lit 35, pu_lit 47, nI_add, pu_gd, nI_clamp]
  split <;> rfl
/-- who wins the case c, t throwing it -/
def pn_wn (s : Nat → Int32) (c : Nat) (j : Nat) (t : Int32) : Int32 := if t = s (35 + c) ∨ t = s (47 + c) then pn_op s c t else pn_f s j (s (23 + j)) c
theorem pu_hears {N : Nat} {s : Nat → Int32} {c w lo j J : Nat} {t : Int32} (hN : 10 < N) (hJ : s 3 = nI J) (h1 : 1 ≤ J) (hJ6 : J ≤ 6) (hj : j < J) (hs : s 1 = nI j) (hc : c < 12) (hn : s 0 = nI c) (hw : w < 6) (hlo : lo < 6) (hne : w ≠ lo) (hwn : pn_wn s c j t = nI w) (hop : pn_op s c (nI w) = nI lo) : f_X8_hears N s t = some (nI w, upd (pn_end s c w lo j) 0 (nI (c + 1))) := by
  have he := pu_ends (N := N) hN hJ h1 hJ6 hj hs hc hw hlo hne hop
  have e0 : pn_end s c w lo j 0 = nI c := by
    unfold pn_end
    rw [pu_un (show 0 ≠ 71 + c by omega), pu_un (show 0 ≠ 1 by omega), pn_e3_o (by omega) (by omega) (by omega), hn]
  unfold pn_wn at hwn
  unfold f_X8_hears
  simp (disch := omega) only [pu_lit 0, pu_lit 1, pu_lit 23, pu_lit 35, pu_lit 47, nI_add, pu_gd, nI_clamp, pu_j, pu_l, hn, hs, pu_found (show j < 6 by omega) hc, pu_other hc, pu_cs, if_true]
  have fin : ∀ y : Int32, y = nI w → (pq_c (f_X8_ends N s (nI c) y) fun r_2 => some (y, upd r_2 0 (r_2 0 + nI 1))) = some (nI w, upd (pn_end s c w lo j) 0 (nI (c + 1))) := by
    intro y hy
    subst hy
    rw [he, pu_cs, e0, nI_add]
  have hz : ¬ nI 1 = nI 0 := by decide
  by_cases ht : t = s (35 + c)
  · rw [if_pos (Or.inl ht)] at hwn
    rw [if_pos ht]
    simp only [hz, if_false]
    exact fin _ hwn
  · rw [if_neg ht]
    by_cases ht2 : t = s (47 + c)
    · rw [if_pos (Or.inr ht2)] at hwn
      rw [if_pos ht2]
      simp only [hz, if_false]
      exact fin _ hwn
    · rw [if_neg (by rintro (h | h); exact ht h; exact ht2 h)] at hwn
      rw [if_neg ht2]
      exact fin _ hwn
