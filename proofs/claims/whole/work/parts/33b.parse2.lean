/-! judges -/
def pc_J (s : Nat → Int32) (P i : Nat) (le fa : Nat → Int32) : Prop :=
  s 3 = nI i ∧ ∀ q, q < i → (∃ l, l ≤ 9 ∧ s (23 + q) = nI l) ∧ le q = s (23 + q) ∧ (s (29 + q) = -4 ∨ ∃ f, f < P ∧ s (29 + q) = nI f) ∧ fa q = s (29 + q)
def pc_sJ (s : Nat → Int32) (i : Nat) (l f : Int32) : Nat → Int32 := upd (upd (upd s (23 + i) l) (29 + i) f) 3 (nI (i + 1))
theorem pc_sJ_o {s : Nat → Int32} {i : Nat} {l f : Int32} {q : Nat} (h1 : q ≠ 3) (h2 : q ≠ 23 + i) (h3 : q ≠ 29 + i) : pc_sJ s i l f q = s q := by
  unfold pc_sJ
  rw [pu_un h1, pu_un h3, pu_un h2]
theorem pc_J_s {s le fa : Nat → Int32} {P i l : Nat} {f : Int32} (hi : i < 6) (hl : l ≤ 9) (hf : f = -4 ∨ ∃ q, q < P ∧ f = nI q) (h : pc_J s P i le fa) : pc_J (pc_sJ s i (nI l) f) P (i + 1) (upd le i (nI l)) (upd fa i f) := by
  obtain ⟨h1, h2⟩ := h
  refine ⟨by unfold pc_sJ; rw [pu_us], fun q hq => ?_⟩
  by_cases c : q = i
  · have e1 : pc_sJ s i (nI l) f (23 + i) = nI l := by unfold pc_sJ; rw [pu_un (by omega), pu_un (by omega), pu_us]
    have e2 : pc_sJ s i (nI l) f (29 + i) = f := by unfold pc_sJ; rw [pu_un (by omega), pu_us]
    rw [c, pu_us, pu_us, e1, e2]
    exact ⟨⟨l, hl, rfl⟩, rfl, hf, rfl⟩
  · rw [pu_un c, pu_un c, pc_sJ_o (by omega) (by omega) (by omega), pc_sJ_o (by omega) (by omega) (by omega)]
    exact h2 q (by omega)
theorem pc_r104 {N n p m : Nat} {tp s : Nat → Int32} (hn : n ≤ 130) (hp : p ≤ n) : pq_w (fun _ _ _ => none) (f_X8_isRead_L104 N (nI n) tp) (m + 1) 0 (nI p) s = if pc_b tp n p = 59 then pq_w (fun _ _ _ => none) (f_X8_isRead_L159 N (nI n) tp) N 1 (nI (p + 1)) s else some (0, nI p, s) := by
  rw [pu_w]
  unfold f_X8_isRead_L104
  rw [if_pos rfl]
  by_cases c2 : pc_b tp n p = 59
  · rw [pc_t8 hn hp c2, pu_cs, if_pos c2]
    rfl
  · rw [pc_u8 hn hp c2, pu_cs, if_neg c2]
    rfl
/-- a judge is read on both sides: nothing, at p', or his lean, whom he favours, and the place behind -/
theorem pc_jud1 {N n p P i : Nat} {xb tp s : Nat → Int32} {le fa : Nat → Int32} {k1 : Int32 → Int32 → Int32 → (Nat → Int32) → (Nat → Int32) → Option (Int32 × Int32 × Int32 × (Nat → Int32) × (Nat → Int32))} (hn : n ≤ 130) (hb : ∀ i, i < n → xb i = tp i) (hp : p ≤ n) (hi : i < 6) (hP : 1 ≤ P ∧ P ≤ 6) (es2 : s 2 = nI P) (es3 : s 3 = nI i) :
    (∃ p' J' le' fa', f_X6_readJudges_L2 N (nI n) xb (nI P) k1 (nI i) (nI p) (nI i) le fa = some (0, nI p', J', le', fa') ∧ f_X8_isJudgeItem N (nI n) (nI p) tp s = some (0, nI p', s)) ∨
    (∃ p' l f, p' ≤ n ∧ l ≤ 9 ∧ (f = -4 ∨ ∃ q, q < P ∧ f = nI q) ∧ f_X8_isJudgeItem N (nI n) (nI p) tp s = some (1, nI p', pc_sJ s i (nI l) f) ∧
      f_X6_readJudges_L2 N (nI n) xb (nI P) k1 (nI i) (nI p) (nI i) le fa = if pc_b tp n p' = 59 then some (1, nI (p' + 1), nI (i + 1), upd le i (nI l), upd fa i f) else if 6 ≤ i + 1 then some (0, nI p', nI (i + 1), upd le i (nI l), upd fa i f) else if pc_b tp n p' = 44 then k1 (nI (i + 1)) (nI (p' + 1)) (nI (i + 1)) (upd le i (nI l)) (upd fa i f) else some (0, nI p', nI (i + 1), upd le i (nI l), upd fa i f)) := by
  have hi6 : ((6 : Int32) ≤ nI i) = False := eq_false (by rw [pu_lit 6, nI_leI (by omega) (by omega)]; omega)
  have c6i : ((6 : Int32) ≤ nI (i + 1)) = (6 ≤ i + 1) := propext (by rw [pu_lit 6, nI_leI (by omega) (by omega)])
  have h10 : (1 : Int32) = 0 ↔ False := ⟨fun e => by revert e; decide, fun e => e.elim⟩
  have h41 : (-4 : Int32) = -1 ↔ False := ⟨fun e => by revert e; decide, fun e => e.elim⟩
  have m0 : ((0 : Int32) ≤ -1) = False := eq_false (by decide)
  have eP1 : nI P - 1 = nI (P - 1) := by rw [pu_lit 1, pk_sub (by omega)]
  cases hf : pc_fg tp n p 9 with
  | none =>
    have f6 : f_X6_figureBelow N (nI n) (nI p) xb 10 = some (-1, nI p) := pc_g6 (k := 9) (m := 10) rfl (by omega) hn hp hb hf
    have f8 : f_X8_figure N (nI n) (nI p) tp 9 = some (-1, nI p) := pc_g8 (k := 9) (by omega) hn hp hf
    left
    refine ⟨p, nI i, upd le i (-1), fa, ?_, ?_⟩
    · unfold f_X6_readJudges_L2
      simp (disch := omega) only [hi6, if_false, f6, pu_cs, pu_gd, nI_clamp, pu_l, pu_us, m0, pu_b0]
    · unfold f_X8_isJudgeItem
      simp only [f8, pu_cs, m0, if_false, pu_b0]
  | some l =>
    obtain ⟨hl, hpl, -⟩ := pc_fg_some hf
    have f6 : f_X6_figureBelow N (nI n) (nI p) xb 10 = some (nI l, nI (p + 1)) := pc_f6 (k := 9) (m := 10) rfl (by omega) hn hp hb hf
    have f8 : f_X8_figure N (nI n) (nI p) tp 9 = some (nI l, nI (p + 1)) := pc_f8 (k := 9) (by omega) hn hp hf
    have m1 : ((0 : Int32) ≤ nI l) = True := eq_true (nI_pos' (by omega))
    have tail : ∀ (p' : Nat) (f : Int32), p' ≤ n → ¬ f = -1 → (pq_gd (nI i) 6 (pq_l (upd fa (nI i : Int32).toNatClampNeg f) (fun favours_1_4 => pq_gd (nI i) 6 ((if (favours_1_4 (nI i : Int32).toNatClampNeg) = (-1) then pq_b 0 (some (0, nI p', nI i, upd le i (nI l), favours_1_4)) else pq_l ((nI i + (1 : Int32))) (fun f_5 => pq_c (f_X6_takes N (nI n) (nI p') xb 59) (fun r_6 => (if r_6.1 = 0 then (if 6 ≤ f_5 then pq_b 0 (some (0, r_6.2, f_5, upd le i (nI l), favours_1_4)) else pq_c (f_X6_takes N (nI n) r_6.2 xb 44) (fun r_7 => (if r_7.1 = 0 then pq_b 0 (some (0, r_7.2, f_5, upd le i (nI l), favours_1_4)) else pq_l (nI i + 1) (fun x2_8 => k1 x2_8 r_7.2 f_5 (upd le i (nI l)) favours_1_4)))) else pq_b 1 (some (1, r_6.2, f_5, upd le i (nI l), favours_1_4))))))))) : Option (Int32 × Int32 × Int32 × (Nat → Int32) × (Nat → Int32))) = if pc_b tp n p' = 59 then some (1, nI (p' + 1), nI (i + 1), upd le i (nI l), upd fa i f) else if 6 ≤ i + 1 then some (0, nI p', nI (i + 1), upd le i (nI l), upd fa i f) else if pc_b tp n p' = 44 then k1 (nI (i + 1)) (nI (p' + 1)) (nI (i + 1)) (upd le i (nI l)) (upd fa i f) else some (0, nI p', nI (i + 1), upd le i (nI l), upd fa i f) := by
      intro p' f hp' hf1
      have hf1' : (f = -1) = False := eq_false hf1
      by_cases c59 : pc_b tp n p' = 59
      · simp (disch := omega) only [pu_gd, nI_clamp, pu_l, pu_us, hf1', if_false, pc_t6 hn hp' hb c59, pu_cs, h10, nI_1, pu_b1]
        rw [if_pos c59]
      · simp (disch := omega) only [pu_gd, nI_clamp, pu_l, pu_us, hf1', if_false, pc_u6 hn hp' hb c59, pu_cs, if_true, nI_1, c6i, pu_b0]
        rw [if_neg c59]
        by_cases c1 : 6 ≤ i + 1
        · rw [if_pos c1, if_pos c1]
        · rw [if_neg c1, if_neg c1]
          by_cases c3 : pc_b tp n p' = 44
          · rw [pc_t6 hn hp' hb c3, pu_cs, if_pos c3]
            rfl
          · rw [pc_u6 hn hp' hb c3, pu_cs, if_neg c3]
            rfl
    have put : ∀ (p' : Nat) (f : Int32), (pq_gd 3 83 (pq_gd ((23 : Int32) + (s (3 : Int32).toNatClampNeg)) 83 (pq_l (upd s (((23 : Int32) + (s (3 : Int32).toNatClampNeg)) : Int32).toNatClampNeg (nI l)) (fun read_0_3 => pq_gd 3 83 (pq_gd ((29 : Int32) + (read_0_3 (3 : Int32).toNatClampNeg)) 83 (pq_l (upd read_0_3 (((29 : Int32) + (read_0_3 (3 : Int32).toNatClampNeg)) : Int32).toNatClampNeg f) (fun read_0_4 => pq_gd 3 83 (pq_gd 3 83 (pq_l (upd read_0_4 (3 : Int32).toNatClampNeg ((read_0_4 (3 : Int32).toNatClampNeg) + (1 : Int32))) (fun read_0_5 => pq_b 1 (some (1, nI p', read_0_5))))))))))) : Option (Int32 × Int32 × (Nat → Int32))) = some (1, nI p', pc_sJ s i (nI l) f) := by
      intro p' f
      simp (disch := omega) only [pu_lit 3, pu_lit 23, pu_lit 29, pu_gd, nI_clamp, es3, nI_add, pu_l, pu_un, nI_1, pu_b1]
      rfl
    by_cases c45 : pc_b tp n (p + 1) = 45
    · have hpl2 := pc_lt c45 (by decide)
      right
      refine ⟨p + 1 + 1, l, -4, by omega, hl, Or.inl rfl, ?_, ?_⟩
      · unfold f_X8_isJudgeItem
        simp only [f8, pu_cs, m1, if_true, pc_t8 hn (show p + 1 ≤ n by omega) c45, pu_j, h10, if_false]
        exact put (p + 1 + 1) (-4)
      · unfold f_X6_readJudges_L2
        simp (disch := omega) only [hi6, if_false, f6, pu_cs, pu_gd, nI_clamp, pu_l, pu_us, m1, if_true, pc_t6 hn (show p + 1 ≤ n by omega) hb c45, pu_j, h10]
        have t := tail (p + 1 + 1) (-4) (by omega) (by decide)
        simp (disch := omega) only [pu_gd, nI_clamp, pu_l, pu_us] at t
        exact t
    · cases hg : pc_fg tp n (p + 1) (P - 1) with
      | none =>
        have g6 : f_X6_figureBelow N (nI n) (nI (p + 1)) xb (nI P) = some (-1, nI (p + 1)) := pc_g6 (k := P - 1) (m := P) (by omega) (by omega) hn (by omega) hb hg
        have g8 : f_X8_figure N (nI n) (nI (p + 1)) tp (nI (P - 1)) = some (-1, nI (p + 1)) := pc_g8 (k := P - 1) (by omega) hn (by omega) hg
        left
        refine ⟨p + 1, nI i, upd le i (nI l), upd fa i (-1), ?_, ?_⟩
        · unfold f_X6_readJudges_L2
          simp (disch := omega) only [hi6, if_false, f6, pu_cs, pu_gd, nI_clamp, pu_l, pu_us, m1, if_true, pc_u6 hn (show p + 1 ≤ n by omega) hb c45, pu_j, g6, pu_b0]
        · unfold f_X8_isJudgeItem
          simp (disch := omega) only [f8, pu_cs, m1, if_true, pc_u8 hn (show p + 1 ≤ n by omega) c45, pu_j, pu_lit 2, pu_gd, nI_clamp, es2, eP1, g8, m0, if_false, pu_b0]
      | some q =>
        obtain ⟨hq, hpl2, -⟩ := pc_fg_some hg
        have g6 : f_X6_figureBelow N (nI n) (nI (p + 1)) xb (nI P) = some (nI q, nI (p + 1 + 1)) := pc_f6 (k := P - 1) (m := P) (by omega) (by omega) hn (by omega) hb hg
        have g8 : f_X8_figure N (nI n) (nI (p + 1)) tp (nI (P - 1)) = some (nI q, nI (p + 1 + 1)) := pc_f8 (k := P - 1) (by omega) hn (by omega) hg
        have m2 : ((0 : Int32) ≤ nI q) = True := eq_true (nI_pos' (by omega))
        have hq1 : ¬ nI q = -1 := fun e => by
          have h1 := congrArg Int32.toInt e
          rw [nI_toInt (by omega)] at h1
          have h2 : (-1 : Int32).toInt = -1 := rfl
          omega
        right
        refine ⟨p + 1 + 1, l, nI q, by omega, hl, Or.inr ⟨q, by omega, rfl⟩, ?_, ?_⟩
        · unfold f_X8_isJudgeItem
          have t := put (p + 1 + 1) (nI q)
          simp (disch := omega) only [f8, pu_cs, m1, if_true, pc_u8 hn (show p + 1 ≤ n by omega) c45, pu_j, pu_lit 2, pu_gd, nI_clamp, es2, eP1, g8, m2, if_false]
          exact t
        · unfold f_X6_readJudges_L2
          have t := tail (p + 1 + 1) (nI q) (by omega) hq1
          simp (disch := omega) only [pu_gd, nI_clamp, pu_l, pu_us] at t
          simp (disch := omega) only [hi6, if_false, f6, pu_cs, pu_gd, nI_clamp, pu_l, pu_us, m1, if_true, pc_u6 hn (show p + 1 ≤ n by omega) hb c45, pu_j, g6]
          exact t
theorem pc_jud {N n P : Nat} {xb tp : Nat → Int32} (hn : n ≤ 130) (hb : ∀ i, i < n → xb i = tp i) (hP : 1 ≤ P ∧ P ≤ 6) : ∀ (d i n1 n2 p : Nat) (le fa s : Nat → Int32), i + d = 5 → d < n1 → d + 1 < n2 → p ≤ n → s 2 = nI P → pc_J s P i le fa →
    (∃ p' J' le' fa' s', pq_w (fun _ _ _ _ _ => none) (f_X6_readJudges_L2 N (nI n) xb (nI P)) n1 (nI i) (nI p) (nI i) le fa = some (0, nI p', J', le', fa') ∧ pq_w (fun _ _ _ => none) (f_X8_isRead_L104 N (nI n) tp) n2 1 (nI p) s = some (0, nI p', s')) ∨
    (∃ p' J le' fa' s', (1 ≤ J ∧ J ≤ 6) ∧ p' ≤ n ∧ pq_w (fun _ _ _ _ _ => none) (f_X6_readJudges_L2 N (nI n) xb (nI P)) n1 (nI i) (nI p) (nI i) le fa = some (1, nI p', nI J, le', fa') ∧ pq_w (fun _ _ _ => none) (f_X8_isRead_L104 N (nI n) tp) n2 1 (nI p) s = pq_w (fun _ _ _ => none) (f_X8_isRead_L159 N (nI n) tp) N 1 (nI p') s' ∧ pc_J s' P J le' fa' ∧ ∀ q, q ≠ 3 → (q < 23 ∨ 35 ≤ q) → s' q = s q)
  | d, i, n1, n2, p, le, fa, s, h1, h2, h3, hp, es2, hJ => by
    obtain ⟨n1, rfl⟩ : ∃ t, n1 = t + 1 := ⟨n1 - 1, by omega⟩
    obtain ⟨n2, rfl⟩ : ∃ t, n2 = t + 2 := ⟨n2 - 2, by omega⟩
    have h10 : (1 : Int32) = 0 ↔ False := ⟨fun e => by revert e; decide, fun e => e.elim⟩
    rw [pu_w, show n2 + 2 = n2 + 1 + 1 from rfl, pu_w (n := n2 + 1)]
    have r104 := fun (q : Nat) (S : Nat → Int32) (hq : q ≤ n) => pc_r104 (N := N) (m := n2) (tp := tp) (s := S) hn hq
    have ih := fun (hd : 0 < d) (q : Nat) (le' fa' s' : Nat → Int32) (hq : q ≤ n) (es' : s' 2 = nI P) (hJ' : pc_J s' P (i + 1) le' fa') => pc_jud (N := N) hn hb hP (d - 1) (i + 1) n1 (n2 + 1) q le' fa' s' (by omega) (by omega) (by omega) hq es' hJ'
    generalize pq_w (fun _ _ _ _ _ => none) (f_X6_readJudges_L2 N (nI n) xb (nI P)) n1 = k1 at ih ⊢
    generalize pq_w (fun _ _ _ => none) (f_X8_isRead_L104 N (nI n) tp) (n2 + 1) = k2 at ih r104 ⊢
    rcases pc_jud1 (N := N) (k1 := k1) (le := le) (fa := fa) (xb := xb) hn hb hp (show i < 6 by omega) hP es2 hJ.1 with ⟨p', J', le', fa', c1, c2⟩ | ⟨p', l, f, hp', hl, hf, item, cls⟩
    · left
      refine ⟨p', J', le', fa', s, c1, ?_⟩
      unfold f_X8_isRead_L104
      simp only [h10, if_false, c2, pu_cs, if_true, pu_b0]
    · have hJ' := pc_J_s (s := s) (le := le) (fa := fa) (show i < 6 by omega) hl hf hJ
      have hfr : ∀ q, q ≠ 3 → (q < 23 ∨ 35 ≤ q) → pc_sJ s i (nI l) f q = s q := fun q h4 h5 => pc_sJ_o h4 (by omega) (by omega)
      have c6i : ((6 : Int32) ≤ nI (i + 1)) = (6 ≤ i + 1) := propext (by rw [pu_lit 6, nI_leI (by omega) (by omega)])
      have ref : f_X8_isRead_L104 N (nI n) tp k2 1 (nI p) s = if 6 ≤ i + 1 then k2 0 (nI p') (pc_sJ s i (nI l) f) else if pc_b tp n p' = 44 then k2 1 (nI (p' + 1)) (pc_sJ s i (nI l) f) else k2 0 (nI p') (pc_sJ s i (nI l) f) := by
        unfold f_X8_isRead_L104
        simp (disch := omega) only [h10, if_false, item, pu_cs, pu_lit 3, pu_gd, nI_clamp, hJ'.1, pu_j, c6i]
        by_cases c1 : 6 ≤ i + 1
        · rw [if_pos c1, if_pos c1]
        · rw [if_neg c1, if_neg c1]
          by_cases c3 : pc_b tp n p' = 44
          · rw [pc_t8 hn hp' c3, pu_cs, if_pos c3]
            rfl
          · rw [pc_u8 hn hp' c3, pu_cs, if_neg c3]
            rfl
      have e104 := r104 p' (pc_sJ s i (nI l) f) hp'
      rw [ref, cls]
      by_cases c59 : pc_b tp n p' = 59
      · have hpl3 := pc_lt c59 (by decide)
        have n44 : ¬ pc_b tp n p' = 44 := by rw [c59]; decide
        rw [if_pos c59] at e104
        right
        refine ⟨p' + 1, i + 1, _, _, _, by omega, by omega, by rw [if_pos c59], ?_, hJ', hfr⟩
        rw [if_neg n44, e104]
        split <;> rfl
      · rw [if_neg c59] at e104
        rw [if_neg c59, e104]
        by_cases c1 : 6 ≤ i + 1
        · left
          exact ⟨p', _, _, _, _, by rw [if_pos c1], by rw [if_pos c1]⟩
        · by_cases c3 : pc_b tp n p' = 44
          · have hpl3 := pc_lt c3 (by decide)
            rw [if_neg c1, if_neg c1, if_pos c3, if_pos c3]
            rcases ih (by omega) (p' + 1) _ _ _ (by omega) (by rw [hfr 2 (by omega) (by omega)]; exact es2) hJ' with h9 | ⟨p2, J, le', fa', s', h9, h10', h11, h12, h13, h14⟩
            · exact Or.inl h9
            · exact Or.inr ⟨p2, J, le', fa', s', h9, h10', h11, h12, h13, fun q h4 h5 => by rw [h14 q h4 h5]; exact hfr q h4 h5⟩
          · left
            exact ⟨p', _, _, _, _, by rw [if_neg c1, if_neg c3], by rw [if_neg c1, if_neg c3]⟩
termination_by d => d
/-! cases -/
def pc_K (s : Nat → Int32) (P i : Nat) (pl de we wn : Nat → Int32) : Prop :=
  s 4 = nI i ∧ ∀ q, q < i → (∃ a b, a < P ∧ b < P ∧ a ≠ b ∧ s (35 + q) = nI a ∧ s (47 + q) = nI b) ∧ pl q = s (35 + q) ∧ de q = s (47 + q) ∧ (∃ w, w ≤ 9 ∧ s (59 + q) = nI w) ∧ we q = s (59 + q) ∧ s (71 + q) = -4 ∧ wn q = -4
def pc_sK (s : Nat → Int32) (i : Nat) (a b w : Int32) : Nat → Int32 := upd (upd (upd (upd (upd s (35 + i) a) (47 + i) b) (59 + i) w) (71 + i) (-4)) 4 (nI (i + 1))
theorem pc_sK_o {s : Nat → Int32} {i : Nat} {a b w : Int32} {q : Nat} (h1 : q ≠ 4) (h2 : q ≠ 35 + i) (h3 : q ≠ 47 + i) (h4 : q ≠ 59 + i) (h5 : q ≠ 71 + i) : pc_sK s i a b w q = s q := by
  unfold pc_sK
  rw [pu_un h1, pu_un h5, pu_un h4, pu_un h3, pu_un h2]
theorem pc_K_s {s pl de we wn : Nat → Int32} {P i a b w : Nat} (hi : i < 12) (ha : a < P) (hb : b < P) (hab : a ≠ b) (hw : w ≤ 9) (h : pc_K s P i pl de we wn) : pc_K (pc_sK s i (nI a) (nI b) (nI w)) P (i + 1) (upd pl i (nI a)) (upd de i (nI b)) (upd we i (nI w)) (upd wn i (-4)) := by
  obtain ⟨h1, h2⟩ := h
  refine ⟨by unfold pc_sK; rw [pu_us], fun q hq => ?_⟩
  by_cases c : q = i
  · have e1 : pc_sK s i (nI a) (nI b) (nI w) (35 + i) = nI a := by unfold pc_sK; rw [pu_un (by omega), pu_un (by omega), pu_un (by omega), pu_un (by omega), pu_us]
    have e2 : pc_sK s i (nI a) (nI b) (nI w) (47 + i) = nI b := by unfold pc_sK; rw [pu_un (by omega), pu_un (by omega), pu_un (by omega), pu_us]
    have e3 : pc_sK s i (nI a) (nI b) (nI w) (59 + i) = nI w := by unfold pc_sK; rw [pu_un (by omega), pu_un (by omega), pu_us]
    have e4 : pc_sK s i (nI a) (nI b) (nI w) (71 + i) = -4 := by unfold pc_sK; rw [pu_un (by omega), pu_us]
    rw [c, pu_us, pu_us, pu_us, pu_us, e1, e2, e3, e4]
    exact ⟨⟨a, b, ha, hb, hab, rfl, rfl⟩, rfl, rfl, ⟨w, hw, rfl⟩, rfl, rfl, rfl⟩
  · rw [pu_un c, pu_un c, pu_un c, pu_un c, pc_sK_o (by omega) (by omega) (by omega) (by omega) (by omega), pc_sK_o (by omega) (by omega) (by omega) (by omega) (by omega), pc_sK_o (by omega) (by omega) (by omega) (by omega) (by omega), pc_sK_o (by omega) (by omega) (by omega) (by omega) (by omega)]
    exact h2 q (by omega)
theorem pc_case {N n p P i : Nat} {xb tp s pl de we wn : Nat → Int32} (hn : n ≤ 130) (hb : ∀ i, i < n → xb i = tp i) (hp : p ≤ n) (hi : i < 12) (hP : 1 ≤ P ∧ P ≤ 6) (es2 : s 2 = nI P) (es4 : s 4 = nI i) :
    (∃ p' pl' de' we' wn', f_X6_readCase N (nI n) (nI p) xb (nI P) pl de we wn (nI i) = some (0, nI p', pl', de', we', wn') ∧ f_X8_isCaseItem N (nI n) (nI p) tp s = some (0, nI p', s)) ∨
    (∃ p' a b w, p' ≤ n ∧ a < P ∧ b < P ∧ a ≠ b ∧ w ≤ 9 ∧ f_X6_readCase N (nI n) (nI p) xb (nI P) pl de we wn (nI i) = some (1, nI p', upd pl i (nI a), upd de i (nI b), upd we i (nI w), upd wn i (-4)) ∧ f_X8_isCaseItem N (nI n) (nI p) tp s = some (1, nI p', pc_sK s i (nI a) (nI b) (nI w))) := by
  have m0 : ((0 : Int32) ≤ -1) = False := eq_false (by decide)
  have m3 : ((-1 : Int32) < 0) = True := eq_true (by decide)
  have eP1 : nI P - 1 = nI (P - 1) := by rw [pu_lit 1, pk_sub (by omega)]
  cases hf : pc_fg tp n p (P - 1) with
  | none =>
    have f6 : f_X6_figureBelow N (nI n) (nI p) xb (nI P) = some (-1, nI p) := pc_g6 (k := P - 1) (m := P) (by omega) (by omega) hn hp hb hf
    have f8 : f_X8_figure N (nI n) (nI p) tp (nI (P - 1)) = some (-1, nI p) := pc_g8 (k := P - 1) (by omega) hn hp hf
    left
    refine ⟨p, upd pl i (-1), de, we, upd wn i (-4), ?_, ?_⟩
    · unfold f_X6_readCase
      simp (disch := omega) only [f6, pu_cs, pu_gd, nI_clamp, pu_l, pu_us, m3, if_true, pu_b0]
    · unfold f_X8_isCaseItem
      simp (disch := omega) only [pu_lit 2, pu_gd, nI_clamp, es2, eP1, f8, pu_cs, m0, if_false, pu_b0]
  | some a =>
    obtain ⟨ha, hpl, -⟩ := pc_fg_some hf
    have f6 : f_X6_figureBelow N (nI n) (nI p) xb (nI P) = some (nI a, nI (p + 1)) := pc_f6 (k := P - 1) (m := P) (by omega) (by omega) hn hp hb hf
    have f8 : f_X8_figure N (nI n) (nI p) tp (nI (P - 1)) = some (nI a, nI (p + 1)) := pc_f8 (k := P - 1) (by omega) hn hp hf
    have ma : (nI a < 0) = False := eq_false (nI_pos (by omega))
    have ma' : ((0 : Int32) ≤ nI a) = True := eq_true (nI_pos' (by omega))
    have hpp : p + 1 ≤ n := by omega
    have heq : (pc_b tp n (p + 1) = (48 : Int32) + nI a) = (pc_b tp n (p + 1) - 48 = nI a) := propext ⟨fun e => by rw [e, Int32.add_comm, Int32.add_sub_cancel], fun e => by rw [← e, Int32.add_comm, Int32.sub_add_cancel]⟩
    by_cases ce : pc_b tp n (p + 1) - 48 = nI a
    · left
      refine ⟨p + 1, upd pl i (nI a), de, we, upd wn i (-4), ?_, ?_⟩
      · unfold f_X6_readCase
        simp (disch := omega) only [f6, pu_cs, pu_gd, nI_clamp, pu_l, pu_us, ma, if_false, pc_by6 hn hpp hb, heq, ce, if_true, pu_b0]
      · unfold f_X8_isCaseItem
        simp (disch := omega) only [pu_lit 2, pu_gd, nI_clamp, es2, eP1, f8, pu_cs, ma', if_true, pc_by8 hn hpp, pu_j, ce, m0, if_false, pu_b0]
    · cases hg : pc_fg tp n (p + 1) (P - 1) with
      | none =>
        have g6 : f_X6_figureBelow N (nI n) (nI (p + 1)) xb (nI P) = some (-1, nI (p + 1)) := pc_g6 (k := P - 1) (m := P) (by omega) (by omega) hn hpp hb hg
        have g8 : f_X8_figure N (nI n) (nI (p + 1)) tp (nI (P - 1)) = some (-1, nI (p + 1)) := pc_g8 (k := P - 1) (by omega) hn hpp hg
        left
        refine ⟨p + 1, upd pl i (nI a), upd de i (-1), we, upd wn i (-4), ?_, ?_⟩
        · unfold f_X6_readCase
          simp (disch := omega) only [f6, pu_cs, pu_gd, nI_clamp, pu_l, pu_us, ma, if_false, pc_by6 hn hpp hb, heq, ce, g6, m0, pu_b0]
        · unfold f_X8_isCaseItem
          simp (disch := omega) only [pu_lit 2, pu_gd, nI_clamp, es2, eP1, f8, pu_cs, ma', if_true, pc_by8 hn hpp, pu_j, ce, if_false, g8, m0, pu_b0]
      | some b =>
        obtain ⟨hb', hpl2, eb⟩ := pc_fg_some hg
        have g6 : f_X6_figureBelow N (nI n) (nI (p + 1)) xb (nI P) = some (nI b, nI (p + 1 + 1)) := pc_f6 (k := P - 1) (m := P) (by omega) (by omega) hn hpp hb hg
        have g8 : f_X8_figure N (nI n) (nI (p + 1)) tp (nI (P - 1)) = some (nI b, nI (p + 1 + 1)) := pc_f8 (k := P - 1) (by omega) hn hpp hg
        have mb' : ((0 : Int32) ≤ nI b) = True := eq_true (nI_pos' (by omega))
        have hpp2 : p + 1 + 1 ≤ n := by omega
        have hab : a ≠ b := fun e => ce (by rw [eb, e])
        cases hw : pc_fg tp n (p + 1 + 1) 9 with
        | none =>
          have w6 : f_X6_figureBelow N (nI n) (nI (p + 1 + 1)) xb 10 = some (-1, nI (p + 1 + 1)) := pc_g6 (k := 9) (m := 10) rfl (by omega) hn hpp2 hb hw
          have w8 : f_X8_figure N (nI n) (nI (p + 1 + 1)) tp 9 = some (-1, nI (p + 1 + 1)) := pc_g8 (k := 9) (by omega) hn hpp2 hw
          left
          refine ⟨p + 1 + 1, upd pl i (nI a), upd de i (nI b), upd we i (-1), upd wn i (-4), ?_, ?_⟩
          · unfold f_X6_readCase
            simp (disch := omega) only [f6, pu_cs, pu_gd, nI_clamp, pu_l, pu_us, ma, if_false, pc_by6 hn hpp hb, heq, ce, g6, mb', if_true, w6, m3, pu_b0]
          · unfold f_X8_isCaseItem
            simp (disch := omega) only [pu_lit 2, pu_gd, nI_clamp, es2, eP1, f8, pu_cs, ma', if_true, pc_by8 hn hpp, pu_j, ce, if_false, g8, mb', w8, m0, pu_b0]
        | some w =>
          obtain ⟨hw', hpl3, -⟩ := pc_fg_some hw
          have w6 : f_X6_figureBelow N (nI n) (nI (p + 1 + 1)) xb 10 = some (nI w, nI (p + 1 + 1 + 1)) := pc_f6 (k := 9) (m := 10) rfl (by omega) hn hpp2 hb hw
          have w8 : f_X8_figure N (nI n) (nI (p + 1 + 1)) tp 9 = some (nI w, nI (p + 1 + 1 + 1)) := pc_f8 (k := 9) (by omega) hn hpp2 hw
          have mw : (nI w < 0) = False := eq_false (nI_pos (by omega))
          have mw' : ((0 : Int32) ≤ nI w) = True := eq_true (nI_pos' (by omega))
          right
          refine ⟨p + 1 + 1 + 1, a, b, w, by omega, by omega, by omega, hab, hw', ?_, ?_⟩
          · unfold f_X6_readCase
            simp (disch := omega) only [f6, pu_cs, pu_gd, nI_clamp, pu_l, pu_us, ma, if_false, pc_by6 hn hpp hb, heq, ce, g6, mb', if_true, w6, mw, pu_b1]
          · unfold f_X8_isCaseItem
            simp (disch := omega) only [pu_lit 2, pu_gd, nI_clamp, es2, eP1, f8, pu_cs, ma', if_true, pc_by8 hn hpp, pu_j, ce, if_false, g8, mb', w8, mw', pu_lit 4, es4, pu_l, pu_lit 35, pu_lit 47, pu_lit 59, pu_lit 71, nI_add, pu_un, nI_1, pu_b1]
            rfl
/-- who sits, and the end -/
def pc_z (tp : Nat → Int32) (n p J : Nat) (s : Nat → Int32) : Option (Int32 × Int32 × (Nat → Int32)) := match pc_fg tp n p (J - 1) with
  | none => some (0, nI p, upd s 1 (-1))
  | some q => if p + 1 = n then some (1, nI (p + 1), upd s 1 (nI q)) else some (0, nI (p + 1), upd s 1 (nI q))
theorem pc_z0 {tp s : Nat → Int32} {n p J : Nat} (h : pc_fg tp n p (J - 1) = none) : pc_z tp n p J s = some (0, nI p, upd s 1 (-1)) := by
  unfold pc_z
  rw [h]
theorem pc_z1 {tp s : Nat → Int32} {n p J q : Nat} (h : pc_fg tp n p (J - 1) = some q) : pc_z tp n p J s = if p + 1 = n then some (1, nI (p + 1), upd s 1 (nI q)) else some (0, nI (p + 1), upd s 1 (nI q)) := by
  unfold pc_z
  rw [h]
theorem pc_r159 {N n p m J : Nat} {tp s : Nat → Int32} (hn : n ≤ 130) (hp : p ≤ n) (hJ : 1 ≤ J ∧ J ≤ 6) (es3 : s 3 = nI J) : pq_w (fun _ _ _ => none) (f_X8_isRead_L159 N (nI n) tp) (m + 1) 0 (nI p) s = if pc_b tp n p = 59 then pc_z tp n (p + 1) J s else some (0, nI p, s) := by
  have h10 : (1 : Int32) = 0 ↔ False := ⟨fun e => by revert e; decide, fun e => e.elim⟩
  have m3 : ((-1 : Int32) < 0) = True := eq_true (by decide)
  have eJ1 : nI J - 1 = nI (J - 1) := by rw [pu_lit 1, pk_sub (by omega)]
  have z3 : (3 : Int32).toNatClampNeg = 3 := rfl
  have z1 : (1 : Int32).toNatClampNeg = 1 := rfl
  rw [pu_w]
  unfold f_X8_isRead_L159
  rw [if_pos rfl]
  by_cases c2 : pc_b tp n p = 59
  · have hpl := pc_lt c2 (by decide)
    rw [if_pos c2]
    cases hf : pc_fg tp n (p + 1) (J - 1) with
    | none =>
      rw [pc_z0 hf]
      have f8 : f_X8_figure N (nI n) (nI (p + 1)) tp (nI (J - 1)) = some (-1, nI (p + 1)) := pc_g8 (k := J - 1) (by omega) hn (by omega) hf
      simp only [pc_t8 hn hp c2, pu_cs, h10, if_false, pq_gd_i (i := 3) (n := 83) (by decide), pq_gd_i (i := 1) (n := 83) (by decide), z3, z1, es3, eJ1, f8, pu_l, pu_us, m3, if_true, pu_b0]
    | some q =>
      rw [pc_z1 hf]
      obtain ⟨hq, hpl2, -⟩ := pc_fg_some hf
      have f8 : f_X8_figure N (nI n) (nI (p + 1)) tp (nI (J - 1)) = some (nI q, nI (p + 1 + 1)) := pc_f8 (k := J - 1) (by omega) hn (by omega) hf
      have mq : (nI q < 0) = False := eq_false (nI_pos (by omega))
      have en : (nI (p + 1 + 1) = nI n) = (p + 1 + 1 = n) := propext (nI_eq (by omega) (by omega))
      simp only [pc_t8 hn hp c2, pu_cs, h10, if_false, pq_gd_i (i := 3) (n := 83) (by decide), pq_gd_i (i := 1) (n := 83) (by decide), z3, z1, es3, eJ1, f8, pu_l, pu_us, mq, en, pu_b0, pu_b1]
  · rw [pc_u8 hn hp c2, pu_cs, if_neg c2]
    rfl
theorem pc_cas {N n P J : Nat} {xb tp : Nat → Int32} (hn : n ≤ 130) (hb : ∀ i, i < n → xb i = tp i) (hP : 1 ≤ P ∧ P ≤ 6) (hJ : 1 ≤ J ∧ J ≤ 6) : ∀ (d i n1 n2 p : Nat) (pl de we wn s : Nat → Int32), i + d = 11 → d < n1 → d + 1 < n2 → p ≤ n → s 2 = nI P → s 3 = nI J → pc_K s P i pl de we wn →
    (∃ p' C' pl' de' we' wn' s', pq_w (fun _ _ _ _ _ _ _ => none) (f_X6_readCases_L2 N (nI n) xb (nI P)) n1 (nI i) (nI p) (nI i) pl de we wn = some (0, nI p', C', pl', de', we', wn') ∧ pq_w (fun _ _ _ => none) (f_X8_isRead_L159 N (nI n) tp) n2 1 (nI p) s = some (0, nI p', s')) ∨
    (∃ p' C pl' de' we' wn' s', (1 ≤ C ∧ C ≤ 12) ∧ p' ≤ n ∧ pq_w (fun _ _ _ _ _ _ _ => none) (f_X6_readCases_L2 N (nI n) xb (nI P)) n1 (nI i) (nI p) (nI i) pl de we wn = some (1, nI p', nI C, pl', de', we', wn') ∧ pq_w (fun _ _ _ => none) (f_X8_isRead_L159 N (nI n) tp) n2 1 (nI p) s = pc_z tp n p' J s' ∧ pc_K s' P C pl' de' we' wn' ∧ ∀ q, q ≠ 4 → q < 35 → s' q = s q)
  | d, i, n1, n2, p, pl, de, we, wn, s, h1, h2, h3, hp, es2, es3, hK => by
    obtain ⟨n1, rfl⟩ : ∃ t, n1 = t + 1 := ⟨n1 - 1, by omega⟩
    obtain ⟨n2, rfl⟩ : ∃ t, n2 = t + 2 := ⟨n2 - 2, by omega⟩
    have h10 : (1 : Int32) = 0 ↔ False := ⟨fun e => by revert e; decide, fun e => e.elim⟩
    have hi12 : ((12 : Int32) ≤ nI i) = False := eq_false (by rw [pu_lit 12, nI_leI (by omega) (by omega)]; omega)
    have c12 : ((12 : Int32) ≤ nI (i + 1)) = (12 ≤ i + 1) := propext (by rw [pu_lit 12, nI_leI (by omega) (by omega)])
    rw [pu_w, show n2 + 2 = n2 + 1 + 1 from rfl, pu_w (n := n2 + 1)]
    have r159 := fun (q : Nat) (S : Nat → Int32) (hq : q ≤ n) (e : S 3 = nI J) => pc_r159 (N := N) (m := n2) (tp := tp) (s := S) hn hq hJ e
    have ih := fun (hd : 0 < d) (q : Nat) (pl' de' we' wn' s' : Nat → Int32) (hq : q ≤ n) (e2 : s' 2 = nI P) (e3 : s' 3 = nI J) (hK' : pc_K s' P (i + 1) pl' de' we' wn') => pc_cas (N := N) hn hb hP hJ (d - 1) (i + 1) n1 (n2 + 1) q pl' de' we' wn' s' (by omega) (by omega) (by omega) hq e2 e3 hK'
    generalize pq_w (fun _ _ _ _ _ _ _ => none) (f_X6_readCases_L2 N (nI n) xb (nI P)) n1 = k1 at ih ⊢
    generalize pq_w (fun _ _ _ => none) (f_X8_isRead_L159 N (nI n) tp) (n2 + 1) = k2 at ih r159 ⊢
    rcases pc_case (N := N) (xb := xb) (pl := pl) (de := de) (we := we) (wn := wn) hn hb hp (show i < 12 by omega) hP es2 hK.1 with ⟨p', pl', de', we', wn', c1, c2⟩ | ⟨p', a, b, w, hp', ha, hb', hab, hw, c1, c2⟩
    · left
      refine ⟨p', nI i, pl', de', we', wn', s, ?_, ?_⟩
      · unfold f_X6_readCases_L2
        simp only [hi12, if_false, c1, pu_cs, if_true, pu_b0]
      · unfold f_X8_isRead_L159
        simp only [h10, if_false, c2, pu_cs, if_true, pu_b0]
    · have hK' := pc_K_s (s := s) (pl := pl) (de := de) (we := we) (wn := wn) (show i < 12 by omega) ha hb' hab hw hK
      have hfr : ∀ q, q ≠ 4 → q < 35 → pc_sK s i (nI a) (nI b) (nI w) q = s q := fun q h4 h5 => pc_sK_o h4 (by omega) (by omega) (by omega) (by omega)
      have ref : f_X8_isRead_L159 N (nI n) tp k2 1 (nI p) s = if 12 ≤ i + 1 then k2 0 (nI p') (pc_sK s i (nI a) (nI b) (nI w)) else if pc_b tp n p' = 44 then k2 1 (nI (p' + 1)) (pc_sK s i (nI a) (nI b) (nI w)) else k2 0 (nI p') (pc_sK s i (nI a) (nI b) (nI w)) := by
        unfold f_X8_isRead_L159
        simp (disch := omega) only [h10, if_false, c2, pu_cs, pu_lit 4, pu_gd, nI_clamp, hK'.1, pu_j, c12]
        by_cases c1 : 12 ≤ i + 1
        · rw [if_pos c1, if_pos c1]
        · rw [if_neg c1, if_neg c1]
          by_cases c3 : pc_b tp n p' = 44
          · rw [pc_t8 hn hp' c3, pu_cs, if_pos c3]
            rfl
          · rw [pc_u8 hn hp' c3, pu_cs, if_neg c3]
            rfl
      have cls : f_X6_readCases_L2 N (nI n) xb (nI P) k1 (nI i) (nI p) (nI i) pl de we wn = if pc_b tp n p' = 59 then some (1, nI (p' + 1), nI (i + 1), upd pl i (nI a), upd de i (nI b), upd we i (nI w), upd wn i (-4)) else if 12 ≤ i + 1 then some (0, nI p', nI (i + 1), upd pl i (nI a), upd de i (nI b), upd we i (nI w), upd wn i (-4)) else if pc_b tp n p' = 44 then k1 (nI (i + 1)) (nI (p' + 1)) (nI (i + 1)) (upd pl i (nI a)) (upd de i (nI b)) (upd we i (nI w)) (upd wn i (-4)) else some (0, nI p', nI (i + 1), upd pl i (nI a), upd de i (nI b), upd we i (nI w), upd wn i (-4)) := by
        unfold f_X6_readCases_L2
        simp only [hi12, if_false, c1, pu_cs, h10, pu_l, nI_1]
        by_cases c59 : pc_b tp n p' = 59
        · rw [pc_t6 hn hp' hb c59, pu_cs, if_pos c59]
          rfl
        · rw [pc_u6 hn hp' hb c59, pu_cs, if_neg c59]
          dsimp only
          rw [if_pos rfl]
          simp only [c12, pu_b0]
          by_cases c1 : 12 ≤ i + 1
          · rw [if_pos c1, if_pos c1]
          · rw [if_neg c1, if_neg c1]
            by_cases c3 : pc_b tp n p' = 44
            · rw [pc_t6 hn hp' hb c3, pu_cs, if_pos c3]
              rfl
            · rw [pc_u6 hn hp' hb c3, pu_cs, if_neg c3]
              rfl
      have e159 := r159 p' (pc_sK s i (nI a) (nI b) (nI w)) hp' (by rw [hfr 3 (by omega) (by omega)]; exact es3)
      rw [ref, cls]
      by_cases c59 : pc_b tp n p' = 59
      · have hpl3 := pc_lt c59 (by decide)
        have n44 : ¬ pc_b tp n p' = 44 := by rw [c59]; decide
        rw [if_pos c59] at e159
        right
        refine ⟨p' + 1, i + 1, _, _, _, _, _, by omega, by omega, by rw [if_pos c59], ?_, hK', hfr⟩
        rw [if_neg n44, e159]
        split <;> rfl
      · rw [if_neg c59] at e159
        rw [if_neg c59, e159]
        by_cases c1 : 12 ≤ i + 1
        · left
          exact ⟨p', _, _, _, _, _, _, by rw [if_pos c1], by rw [if_pos c1]⟩
        · by_cases c3 : pc_b tp n p' = 44
          · have hpl3 := pc_lt c3 (by decide)
            rw [if_neg c1, if_neg c1, if_pos c3, if_pos c3]
            rcases ih (by omega) (p' + 1) _ _ _ _ _ (by omega) (by rw [hfr 2 (by omega) (by omega)]; exact es2) (by rw [hfr 3 (by omega) (by omega)]; exact es3) hK' with h9 | ⟨p2, C, pl', de', we', wn', s', h9, h10', h11, h12, h13, h14⟩
            · exact Or.inl h9
            · exact Or.inr ⟨p2, C, pl', de', we', wn', s', h9, h10', h11, h12, h13, fun q h4 h5 => by rw [h14 q h4 h5]; exact hfr q h4 h5⟩
          · left
            exact ⟨p', _, _, _, _, _, _, by rw [if_neg c1, if_neg c3], by rw [if_neg c1, if_neg c3]⟩
termination_by d => d
