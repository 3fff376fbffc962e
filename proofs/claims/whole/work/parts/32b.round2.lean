/-! the class' side of the round -/
theorem pr_behind {N : Nat} {s : Nat → Int32} {P J C X S0 c a b st : Nat} {k0 gr wi le fa pl de we wn : Nat → Int32} {q : Int32} (hN : 10 < N) (hV : pn_V s P J C X S0) (hk0 : ∀ i, i < P → k0 i = s (5 + i)) (hle : ∀ i, i < J → le i = s (23 + i)) (hfa : ∀ i, i < J → fa i = s (29 + i)) (hpl : ∀ i, i < C → pl i = s (35 + i)) (hde : ∀ i, i < C → de i = s (47 + i)) (hwe : ∀ i, i < C → we i = s (59 + i)) (hc : c < C) (ha : a < P) (hb : b < P) (hab : a ≠ b) (ea : s (35 + c) = nI a) (eb : s (47 + c) = nI b) (hgr : ∀ i, i < P → i ≠ a → i ≠ b → gr i = s (11 + i)) (hS : st / 441 < J) :
    ∃ q' gr' wi' wn', f_X1_stateBehind N (nI J) q k0 gr wi le fa pl de we wn (nI c) (nI st) = some (nI (pr_f s c a b st), q', gr', wi', wn') ∧ (∀ i, i < P → i ≠ a → i ≠ b → gr' i = s (11 + i)) ∧ pr_f s c a b st / 441 < J := by
  obtain ⟨⟨p1, p2⟩, ⟨j1, j2⟩, ⟨c1, c2⟩, x2, s2, ⟨eP, eJ, eC, eX, eS⟩, hk, hg, hl, hf, hpd, hw⟩ := id hV
  obtain ⟨t, ht⟩ : ∃ t : Nat → Int32, ∀ i, t i = if i = 1 then nI (st / 441) else if i = 11 + a then nI (st / 21 % 21) else if i = 11 + b then nI (st % 21) else if 17 ≤ i ∧ i < 23 then wi (i - 17) else if 71 ≤ i ∧ i < 83 then wn (i - 71) else s i := ⟨_, fun _ => rfl⟩
  have t1 : t 1 = nI (st / 441) := by rw [ht, if_pos rfl]
  have ta : t (11 + a) = nI (st / 21 % 21) := by rw [ht, if_neg (by omega), if_pos rfl]
  have tb : t (11 + b) = nI (st % 21) := by rw [ht, if_neg (by omega), if_neg (by omega), if_pos rfl]
  have tw : ∀ i, i < 6 → t (17 + i) = wi i := fun i hi => by rw [ht, if_neg (by omega), if_neg (by omega), if_neg (by omega), if_pos (by omega), show 17 + i - 17 = i by omega]
  have tn : ∀ i, i < 12 → t (71 + i) = wn i := fun i hi => by rw [ht, if_neg (by omega), if_neg (by omega), if_neg (by omega), if_neg (by omega), if_pos (by omega), show 71 + i - 71 = i by omega]
  have to : ∀ i, i ≠ 1 → i ≠ 11 + a → i ≠ 11 + b → (i < 17 ∨ 23 ≤ i) → i < 71 → t i = s i := fun i h1 h2 h3 h4 h5 => by rw [ht, if_neg h1, if_neg h2, if_neg h3, if_neg (by omega), if_neg (by omega)]
  have hVt : pn_V t P J C X (st / 441) := by
    refine ⟨⟨p1, p2⟩, ⟨j1, j2⟩, ⟨c1, c2⟩, x2, hS, ⟨by rw [to 2 (by omega) (by omega) (by omega) (by omega) (by omega)]; exact eP, by rw [to 3 (by omega) (by omega) (by omega) (by omega) (by omega)]; exact eJ, by rw [to 4 (by omega) (by omega) (by omega) (by omega) (by omega)]; exact eC, by rw [to 0 (by omega) (by omega) (by omega) (by omega) (by omega)]; exact eX, t1⟩, ?_, ?_, ?_, ?_, ?_, ?_⟩
    · intro i hi; rw [to (5 + i) (by omega) (by omega) (by omega) (by omega) (by omega)]; exact hk i hi
    · intro i hi
      by_cases c3 : i = a
      · exact ⟨st / 21 % 21, by omega, by rw [c3, ta]⟩
      · by_cases c4 : i = b
        · exact ⟨st % 21, by omega, by rw [c4, tb]⟩
        · rw [to (11 + i) (by omega) (by omega) (by omega) (by omega) (by omega)]; exact hg i hi
    · intro i hi; rw [to (23 + i) (by omega) (by omega) (by omega) (by omega) (by omega)]; exact hl i hi
    · intro i hi; rw [to (29 + i) (by omega) (by omega) (by omega) (by omega) (by omega)]; exact hf i hi
    · intro i hi; rw [to (35 + i) (by omega) (by omega) (by omega) (by omega) (by omega), to (47 + i) (by omega) (by omega) (by omega) (by omega) (by omega)]; exact hpd i hi
    · intro i hi; rw [to (59 + i) (by omega) (by omega) (by omega) (by omega) (by omega)]; exact hw i hi
  have hst : pm_st s t := fun i h2 hi => to i (by omega) (by omega) (by omega) (by omega) (by omega)
  obtain ⟨w, lo, hor, ew, elo, hV', hst', g1, g2⟩ := pr_end hVt hst hc ha hb hab ea eb ta tb
  have hww : w < P ∧ lo < P ∧ w ≠ lo := by
    rcases hor with ⟨rfl, rfl⟩ | ⟨rfl, rfl⟩
    · exact ⟨ha, hb, hab⟩
    · exact ⟨hb, ha, hab.symm⟩
  obtain ⟨gr2, hgr2⟩ : ∃ gr2, gr2 = upd (upd gr a (nI (st / 21 % 21))) b (nI (st % 21)) := ⟨_, rfl⟩
  have hCt : pn_C (pn_mx P J C X (nI (st / 441))) (fun f => if f = 0 then k0 else if f = 1 then gr2 else if f = 2 then wi else if f = 3 then le else if f = 4 then fa else if f = 5 then pl else if f = 6 then de else if f = 7 then we else wn) t P J C := by
    refine ⟨⟨rfl, rfl, rfl, ?_, ?_⟩, ?_, ?_, ?_, ?_, ?_, ?_, ?_, ?_, ?_⟩
    · show nI X = t 0
      rw [to 0 (by omega) (by omega) (by omega) (by omega) (by omega), eX]
    · show nI (st / 441) = t 1
      rw [t1]
    · intro i hi; show k0 i = _; rw [to (5 + i) (by omega) (by omega) (by omega) (by omega) (by omega)]; exact hk0 i hi
    · intro i hi
      show gr2 i = _
      rw [hgr2]
      by_cases c4 : i = b
      · rw [c4, pu_us, tb]
      · rw [pu_un c4]
        by_cases c3 : i = a
        · rw [c3, pu_us, ta]
        · rw [pu_un c3, to (11 + i) (by omega) (by omega) (by omega) (by omega) (by omega)]; exact hgr i hi c3 c4
    · intro i hi; show wi i = _; rw [tw i (by omega)]
    · intro i hi; show le i = _; rw [to (23 + i) (by omega) (by omega) (by omega) (by omega) (by omega)]; exact hle i hi
    · intro i hi; show fa i = _; rw [to (29 + i) (by omega) (by omega) (by omega) (by omega) (by omega)]; exact hfa i hi
    · intro i hi; show pl i = _; rw [to (35 + i) (by omega) (by omega) (by omega) (by omega) (by omega)]; exact hpl i hi
    · intro i hi; show de i = _; rw [to (47 + i) (by omega) (by omega) (by omega) (by omega) (by omega)]; exact hde i hi
    · intro i hi; show we i = _; rw [to (59 + i) (by omega) (by omega) (by omega) (by omega) (by omega)]; exact hwe i hi
    · intro i hi; show wn i = _; rw [tn i (by omega)]
  have hwn : pn_wn t c (st / 441) (pn_t t c 0) = nI w := by
    have e4 : pn_t t c 0 = -4 := rfl
    rw [e4, pm_wn_none hVt hc, ew]
  have es := pu_settleV (N := N) (p2 := 0) hN hVt hCt hc hww.1 hww.2.1 hww.2.2 hwn elo
  have hCe := pn_C.endedV hVt hCt hc hww.1 hww.2.1 hww.2.2 (x' := pn_mx P J C X (pn_nm t (nI lo) (t (5 + lo)) (st / 441))) (a' := fun f => if f = 1 then upd (upd gr2 w (pn_dn (t (11 + w)))) lo (pn_up (t (11 + lo)) (pn_hu (t (5 + lo)) (t (59 + c)))) else if f = 2 then upd wi w (t (17 + w) + 1) else if f = 8 then upd wn c (nI w) else if f = 0 then k0 else if f = 3 then le else if f = 4 then fa else if f = 5 then pl else if f = 6 then de else we) rfl rfl rfl rfl rfl rfl rfl rfl rfl rfl rfl rfl rfl rfl
  have es' : f_X1_settle N (nI J) (nI (st / 441)) k0 gr2 wi le fa pl de we wn (nI c) 0 = some (pn_nm t (nI lo) (t (5 + lo)) (st / 441), upd (upd gr2 w (pn_dn (t (11 + w)))) lo (pn_up (t (11 + lo)) (pn_hu (t (5 + lo)) (t (59 + c)))), upd wi w (t (17 + w) + 1), upd wn c (nI w)) := es
  have en : pn_nm t (nI lo) (t (5 + lo)) (st / 441) = nI (pr_f s c a b st / 441) := by
    have h1 : pn_nm t (nI lo) (t (5 + lo)) (st / 441) = pn_end t c w lo (st / 441) 1 := hCe.1.2.2.2.2
    rw [h1]
    exact hV'.2.2.2.2.2.1.2.2.2.2
  obtain ⟨gr3, hgr3⟩ : ∃ gr3, gr3 = upd (upd gr2 w (pn_dn (t (11 + w)))) lo (pn_up (t (11 + lo)) (pn_hu (t (5 + lo)) (t (59 + c)))) := ⟨_, rfl⟩
  have ga : gr3 a = nI (pr_f s c a b st / 21 % 21) := by
    rw [hgr3, ← g1]
    exact hCe.2.2.1 a ha
  have gb : gr3 b = nI (pr_f s c a b st % 21) := by
    rw [hgr3, ← g2]
    exact hCe.2.2.1 b hb
  rw [en, ← hgr3] at es'
  have hrng : pr_f s c a b st / 441 < J := hV'.2.2.2.2.1
  have plc : pl c = nI a := by rw [hpl c hc, ea]
  have dec : de c = nI b := by rw [hde c hc, eb]
  have r0 := pk_rem (a := st) (d := 21) (by omega) (by omega) (by omega)
  have r1 := pk_rem (a := st / 21) (d := 21) (by omega) (by omega) (by omega)
  have d1 := pk_div (a := st) (d := 21) (by omega) (by omega) (by omega)
  have d2 := pk_div (a := st / 21) (d := 21) (by omega) (by omega) (by omega)
  rw [show st / 21 / 21 = st / 441 by omega] at d2
  refine ⟨nI (pr_f s c a b st / 441), gr3, upd wi w (t (17 + w) + 1), upd wn c (nI w), ?_, fun i hi h1 h2 => ?_, hrng⟩
  rotate_left
  · rw [hgr3, hgr2]
    have hiw : i ≠ w ∧ i ≠ lo := by
      rcases hor with ⟨rfl, rfl⟩ | ⟨rfl, rfl⟩
      · exact ⟨h1, h2⟩
      · exact ⟨h2, h1⟩
    rw [pu_un hiw.2, pu_un hiw.1, pu_un h2, pu_un h1]
    exact hgr i hi h1 h2
  · unfold f_X1_stateBehind f_X1_stateOf
    rw [pu_lit 21, r0, d1, r1, d2]
    simp (disch := omega) only [pu_l, pu_gd, nI_clamp, plc, dec, ← hgr2, es', pu_cs, ga, gb, pk_mul, nI_add, pr_enc]
section PRD
variable {N : Nat} {J c : Nat} {k0 le fa pl de we : Nat → Int32} {G : (Nat → Int32) → Prop} {f : Nat → Nat} {x0 m l : Nat}
theorem pr_per_loop (hx : ∀ n, pr_it f x0 n < 2646 ∧ pr_it f x0 n / 441 < J) (hS : ∀ (st : Nat) (q : Int32) (gr wi wn : Nat → Int32), st / 441 < J → G gr → ∃ q' gr' wi' wn', f_X1_stateBehind N (nI J) q k0 gr wi le fa pl de we wn (nI c) (nI st) = some (nI (f st), q', gr', wi', wn') ∧ G gr') (hc : pr_c (pr_it f x0) m l) (hml : m + l ≤ 2646) : ∀ (d w t n : Nat) (q : Int32) (gr wi wn : Nat → Int32), d + (w + t) = 8000 → d < n → 1 ≤ t → t ≤ w + 1 → w ≤ 5300 → (m ≤ w → t ≤ l) → G gr →
    ∃ q' gr' wi' wn', pq_w (fun _ _ _ _ _ _ _ _ _ => none) (f_X3_period_L20 N (nI J) k0 le fa pl de we (nI c)) n (nI (pr_it f x0 w)) (nI (pr_it f x0 (w + t))) (nI t) (nI (w + 1)) (nI (w + t - 1)) q gr wi wn = some (nI l, q', gr', wi', wn') ∧ G gr'
  | 0, w, t, n, q, gr, wi, wn, h1, h2, h3, h4, h5, h6, hG => by
    exfalso
    by_cases c9 : m ≤ w
    · have := h6 c9; omega
    · omega
  | d + 1, w, t, n, q, gr, wi, wn, h1, h2, h3, h4, h5, h6, hG => by
    obtain ⟨n, rfl⟩ : ∃ q, n = q + 1 := ⟨n - 1, by omega⟩
    have ih := pr_per_loop hx hS hc hml d
    have x1 := hx w
    have x2 := hx (w + t)
    rw [pu_w]
    have ih2 := fun w' t' => ih w' t' n
    generalize pq_w (fun _ _ _ _ _ _ _ _ _ => none) (f_X3_period_L20 N (nI J) k0 le fa pl de we (nI c)) n = kk at ih2 ⊢
    unfold f_X3_period_L20
    rw [if_neg (show ¬ (10000 : Int32) ≤ nI (w + t - 1) by rw [pu_lit 10000, nI_leI (by omega) (by omega)]; omega)]
    by_cases e : pr_it f x0 w = pr_it f x0 (w + t)
    · obtain ⟨f1, f2⟩ := pr_F2 hc h3 e
      have el : t = l := by have := h6 f1; omega
      rw [if_pos (by rw [e]), el]
      exact ⟨q, gr, wi, wn, rfl, hG⟩
    · rw [if_neg (fun h => e ((nI_eq (by omega) (by omega)).mp h).symm), pu_j]
      have hlt : m ≤ w → t < l := by
        intro hm
        have h8 := h6 hm
        have h9 : t ≠ l := fun h => e (by rw [h, pr_F1 hc hm])
        omega
      obtain ⟨q', gr', wi', wn', e1, hG'⟩ := hS (pr_it f x0 (w + t)) q gr wi wn x2.2 hG
      have e2 : f (pr_it f x0 (w + t)) = pr_it f x0 (w + t + 1) := rfl
      by_cases u : t = w + 1
      · rw [if_pos (by rw [u]), pu_l]
        dsimp only
        rw [e1, pu_cs, pu_l, pu_l, e2, pu_lit 2, pk_mul, nI_1, show w + t - 1 + 1 = w + t + 1 - 1 by omega, show (w + 1) * 2 = w + t + 1 by omega]
        have hw : w ≤ 2646 := by
          by_cases c9 : m ≤ w
          · have := hlt c9; omega
          · omega
        exact ih2 (w + t) 1 q' gr' wi' wn' (by omega) (by omega) (by omega) (by omega) (by omega) (fun _ => hc.1) hG'
      · rw [if_neg (fun h => u ((nI_eq (by omega) (by omega)).mp h))]
        dsimp only
        rw [e1, pu_cs, pu_l, pu_l, e2, nI_1, nI_1, show w + t - 1 + 1 = w + (t + 1) - 1 by omega, show w + t + 1 = w + (t + 1) by omega]
        exact ih2 w (t + 1) q' gr' wi' wn' (by omega) (by omega) (by omega) (by omega) (by omega) (fun hm => by have := hlt hm; omega) hG'
theorem pr_lead2 (hx : ∀ n, pr_it f x0 n < 2646 ∧ pr_it f x0 n / 441 < J) (hS : ∀ (st : Nat) (q : Int32) (gr wi wn : Nat → Int32), st / 441 < J → G gr → ∃ q' gr' wi' wn', f_X1_stateBehind N (nI J) q k0 gr wi le fa pl de we wn (nI c) (nI st) = some (nI (f st), q', gr', wi', wn') ∧ G gr') (hc : pr_c (pr_it f x0) m l) (hml : m + l ≤ 2646) : ∀ (d i n : Nat) (q : Int32) (gr wi wn : Nat → Int32), i + d = m → d < n → G gr →
    ∃ q' gr' wi' wn', pq_w (fun _ _ _ _ _ _ _ _ => none) (f_X3_leadIn_L37 N (nI J) k0 le fa pl de we (nI c)) n (nI (pr_it f x0 i)) (nI (pr_it f x0 (i + l))) (nI i) (nI i) q gr wi wn = some (nI m, q', gr', wi', wn') ∧ G gr'
  | 0, i, n, q, gr, wi, wn, h1, h2, hG => by
    obtain ⟨n, rfl⟩ : ∃ q, n = q + 1 := ⟨n - 1, by omega⟩
    rw [pu_w]
    unfold f_X3_leadIn_L37
    have e := pr_F1 hc (i := i) (by omega)
    rw [if_neg (show ¬ (10000 : Int32) ≤ nI i by rw [pu_lit 10000, nI_leI (by omega) (by omega)]; omega), e, if_pos rfl, show i = m by omega]
    exact ⟨q, gr, wi, wn, rfl, hG⟩
  | d + 1, i, n, q, gr, wi, wn, h1, h2, hG => by
    obtain ⟨n, rfl⟩ : ∃ q, n = q + 1 := ⟨n - 1, by omega⟩
    have ih := pr_lead2 hx hS hc hml d (i + 1) n
    have x1 := hx i
    have x2 := hx (i + l)
    have hl := hc.1
    rw [pu_w]
    generalize pq_w (fun _ _ _ _ _ _ _ _ => none) (f_X3_leadIn_L37 N (nI J) k0 le fa pl de we (nI c)) n = kk at ih ⊢
    obtain ⟨q', gr', wi', wn', e1, hG'⟩ := hS (pr_it f x0 i) q gr wi wn x1.2 hG
    obtain ⟨q2, gr2, wi2, wn2, e2, hG2⟩ := hS (pr_it f x0 (i + l)) q' gr' wi' wn' x2.2 hG'
    have e3 : f (pr_it f x0 i) = pr_it f x0 (i + 1) := rfl
    have e4 : f (pr_it f x0 (i + l)) = pr_it f x0 (i + 1 + l) := by
      rw [show i + 1 + l = i + l + 1 by omega]
      rfl
    unfold f_X3_leadIn_L37
    rw [if_neg (show ¬ (10000 : Int32) ≤ nI i by rw [pu_lit 10000, nI_leI (by omega) (by omega)]; omega), if_neg (fun h => by
      have h3 := pr_F2 hc hc.1 ((nI_eq (by omega) (by omega)).mp h)
      omega), e1, pu_cs, e2, pu_cs, pu_l, pu_l, nI_1, e3, e4]
    exact ih q2 gr2 wi2 wn2 (by omega) (by omega) hG2
theorem pr_lead1 (hx : ∀ n, pr_it f x0 n < 2646 ∧ pr_it f x0 n / 441 < J) (hS : ∀ (st : Nat) (q : Int32) (gr wi wn : Nat → Int32), st / 441 < J → G gr → ∃ q' gr' wi' wn', f_X1_stateBehind N (nI J) q k0 gr wi le fa pl de we wn (nI c) (nI st) = some (nI (f st), q', gr', wi', wn') ∧ G gr') (hl : l ≤ 2646) {p3 : Int32} : ∀ (d i n : Nat) (q : Int32) (gr wi wn : Nat → Int32), i + d = l → d < n → G gr →
    ∃ q' gr' wi' wn', pq_w (fun _ _ _ _ _ _ => none) (f_X3_leadIn_L9 N (nI J) k0 le fa pl de we (nI c) p3 (nI l)) n (nI (pr_it f x0 i)) (nI i) q gr wi wn = pq_w (fun _ _ _ _ _ _ _ _ => none) (f_X3_leadIn_L37 N (nI J) k0 le fa pl de we (nI c)) N p3 (nI (pr_it f x0 l)) 0 0 q' gr' wi' wn' ∧ G gr'
  | 0, i, n, q, gr, wi, wn, h1, h2, hG => by
    obtain ⟨n, rfl⟩ : ∃ q, n = q + 1 := ⟨n - 1, by omega⟩
    rw [pu_w]
    unfold f_X3_leadIn_L9
    rw [if_pos (by rw [nI_leI (by omega) (by omega)]; omega), show i = l by omega]
    exact ⟨q, gr, wi, wn, rfl, hG⟩
  | d + 1, i, n, q, gr, wi, wn, h1, h2, hG => by
    obtain ⟨n, rfl⟩ : ∃ q, n = q + 1 := ⟨n - 1, by omega⟩
    have ih := pr_lead1 hx hS hl (p3 := p3) d (i + 1) n
    have x1 := hx i
    rw [pu_w]
    generalize pq_w (fun _ _ _ _ _ _ => none) (f_X3_leadIn_L9 N (nI J) k0 le fa pl de we (nI c) p3 (nI l)) n = kk at ih ⊢
    obtain ⟨q', gr', wi', wn', e1, hG'⟩ := hS (pr_it f x0 i) q gr wi wn x1.2 hG
    have e3 : f (pr_it f x0 i) = pr_it f x0 (i + 1) := rfl
    unfold f_X3_leadIn_L9
    rw [if_neg (by rw [nI_leI (by omega) (by omega)]; omega), e1, pu_cs, pu_l, nI_1, e3]
    exact ih q' gr' wi' wn' (by omega) (by omega) hG'
end PRD
set_option maxHeartbeats 4000000 in
theorem sim_round {xI : Nat → Int32} {xA : Nat → Nat → Int32} {xL : Nat → Nat → Int64} {aw : Nat → Nat → Int32} {mI : Nat → Int32} {mA : Nat → Nat → Int32} {mL : Nat → Int64} (hR : pq_R xI xA xL aw mI mA mL) (p1 : Int32) (p2 : Int32) : ∃ (zc : Int32 × Int32 × Int32 × Int32 × Int32 × Int32 × (Nat → Int32) × (Nat → Int32) × (Nat → Int32) × (Nat → Int32) × (Nat → Int32) × (Nat → Int32) × (Nat → Int32) × (Nat → Int32) × (Nat → Int32)) (zm : Int32 × Int32 × Int32 × (Nat → Int32) × (Nat → Int32)), f_X7_round pq_N (xI 10) (xI 11) (xI 12) (xI 13) (xI 14) (xA 18) (xA 19) (xA 20) (xA 21) (xA 22) (xA 23) (xA 24) (xA 25) (xA 26) (xI 15) (xI 16) (xI 17) (xI 18) (xI 19) (xA 27) (xA 28) (xA 29) (xA 30) (xA 31) (xA 32) (xA 33) (xA 34) (xA 35) p1 p2 = some zc ∧ f_X8_round pq_N (mI 18) (mI 19) (mA 6) (mA 8) (mA 17) p1 p2 = some zm ∧ zc.1 = zm.1 ∧ pq_R (va_up (va_up (va_up (va_up (va_up xI 15 zc.2.1) 16 zc.2.2.1) 17 zc.2.2.2.1) 18 zc.2.2.2.2.1) 19 zc.2.2.2.2.2.1) (va_up (va_up (va_up (va_up (va_up (va_up (va_up (va_up (va_up xA 27 zc.2.2.2.2.2.2.1) 28 zc.2.2.2.2.2.2.2.1) 29 zc.2.2.2.2.2.2.2.2.1) 30 zc.2.2.2.2.2.2.2.2.2.1) 31 zc.2.2.2.2.2.2.2.2.2.2.1) 32 zc.2.2.2.2.2.2.2.2.2.2.2.1) 33 zc.2.2.2.2.2.2.2.2.2.2.2.2.1) 34 zc.2.2.2.2.2.2.2.2.2.2.2.2.2.1) 35 zc.2.2.2.2.2.2.2.2.2.2.2.2.2.2) xL aw (va_up (va_up mI 18 zm.2.1) 19 zm.2.2.1) (va_up (va_up mA 8 zm.2.2.2.1) 17 zm.2.2.2.2) mL := by
  obtain ⟨⟨r0, r1, r2, r3, r4⟩, k2, k3, k4⟩ := pu_now hR
  have same : pq_R (va_up (va_up (va_up (va_up (va_up xI 15 (xI 15)) 16 (xI 16)) 17 (xI 17)) 18 (xI 18)) 19 (xI 19)) (va_up (va_up (va_up (va_up (va_up (va_up (va_up (va_up (va_up xA 27 (xA 27)) 28 (xA 28)) 29 (xA 29)) 30 (xA 30)) 31 (xA 31)) 32 (xA 32)) 33 (xA 33)) 34 (xA 34)) 35 (xA 35)) xL aw (va_up (va_up mI 18 (mI 18)) 19 (mI 19)) (va_up (va_up mA 8 (mA 8)) 17 (mA 17)) mL := by
    simp only [pu_vid]; exact hR
  unfold f_X7_round f_X8_round
  have z0 : (0 : Int32).toInt = 0 := rfl
  have z1 : (1 : Int32).toInt = 1 := rfl
  rw [r2, pu_hasCase, pu_cs, pu_isCase k4, pu_cs, pu_fs, pu_cs, pu_in, pu_cs, z0, z1]
  by_cases hv : 0 ≤ p1.toInt ∧ p1.toInt < (mA 6 4).toInt
  · rw [pu_f1 hv, pu_f1 hv]
    by_cases hv2 : 0 ≤ p2.toInt ∧ p2.toInt ≤ 1
    · rw [pu_f1 hv2, pu_f1 hv2]
      obtain ⟨P, J, C, X, S, hW, hC⟩ := pu_there hR (k := 4) (by omega) hv
      have hV := hW.v
      obtain ⟨⟨p1', p2'⟩, ⟨j1, j2⟩, ⟨c1, c2⟩, x2, s2, ⟨eP, eJ, eC, eX, eS⟩, hk, hg, hl, hf, hpd, hw⟩ := id hV
      obtain ⟨-, h0, h1, h2, h3, h4, h5, h6, h7, h8⟩ := id hC
      rw [eC, nI_toInt (by omega)] at hv
      obtain ⟨c, hc, ec⟩ := pu_of hv.1 hv.2
      obtain ⟨a, b, ha, hb, hab, ea, eb⟩ := hpd c hc
      obtain ⟨ga, hga, ega⟩ := hg a ha
      obtain ⟨gb, hgb, egb⟩ := hg b hb
      obtain ⟨nd, hN⟩ := pu_ND
      obtain ⟨x0, ex0⟩ : ∃ x0, x0 = (S * 21 + ga) * 21 + gb := ⟨_, rfl⟩
      have q0 : x0 / 441 = S := by omega
      have q1 : x0 / 21 % 21 = ga := by omega
      have q2 : x0 % 21 = gb := by omega
      have hS : ∀ (st : Nat) (q : Int32) (gr wi wn : Nat → Int32), st / 441 < J → (∀ i, i < P → i ≠ a → i ≠ b → gr i = mA 6 (11 + i)) → ∃ q' gr' wi' wn', f_X1_stateBehind pq_N (nI J) q (va_cpy (xA 18) (xA 27) 0 0 6) gr wi (va_cpy (xA 21) (xA 30) 0 0 6) (va_cpy (xA 22) (xA 31) 0 0 6) (va_cpy (xA 23) (xA 32) 0 0 12) (va_cpy (xA 24) (xA 33) 0 0 12) (va_cpy (xA 25) (xA 34) 0 0 12) wn (nI c) (nI st) = some (nI (pr_f (mA 6) c a b st), q', gr', wi', wn') ∧ (∀ i, i < P → i ≠ a → i ≠ b → gr' i = mA 6 (11 + i)) ∧ pr_f (mA 6) c a b st / 441 < J := by
        intro st q gr wi wn hst hgr
        exact pr_behind (N := pq_N) pu_N hV (fun i hi => by rw [pu_cpy (by omega)]; exact h0 i hi) (fun i hi => by rw [pu_cpy (by omega)]; exact h3 i hi) (fun i hi => by rw [pu_cpy (by omega)]; exact h4 i hi) (fun i hi => by rw [pu_cpy (by omega)]; exact h5 i hi) (fun i hi => by rw [pu_cpy (by omega)]; exact h6 i hi) (fun i hi => by rw [pu_cpy (by omega)]; exact h7 i hi) hc ha hb hab ea eb hgr hst
      have hS2 : ∀ (st : Nat) (q : Int32) (gr wi wn : Nat → Int32), st / 441 < J → (∀ i, i < P → i ≠ a → i ≠ b → gr i = mA 6 (11 + i)) → ∃ q' gr' wi' wn', f_X1_stateBehind pq_N (nI J) q (va_cpy (xA 18) (xA 27) 0 0 6) gr wi (va_cpy (xA 21) (xA 30) 0 0 6) (va_cpy (xA 22) (xA 31) 0 0 6) (va_cpy (xA 23) (xA 32) 0 0 12) (va_cpy (xA 24) (xA 33) 0 0 12) (va_cpy (xA 25) (xA 34) 0 0 12) wn (nI c) (nI st) = some (nI (pr_f (mA 6) c a b st), q', gr', wi', wn') ∧ (∀ i, i < P → i ≠ a → i ≠ b → gr' i = mA 6 (11 + i)) := by
        intro st q gr wi wn hst hgr
        obtain ⟨q', gr', wi', wn', e1, e2, -⟩ := hS st q gr wi wn hst hgr
        exact ⟨q', gr', wi', wn', e1, e2⟩
      have hG0 : ∀ i, i < P → i ≠ a → i ≠ b → va_cpy (xA 19) (xA 28) 0 0 6 i = mA 6 (11 + i) := fun i hi _ _ => by rw [pu_cpy (by omega)]; exact h1 i hi
      have hx : ∀ n, pr_it (pr_f (mA 6) c a b) x0 n / 441 < J := by
        intro n
        induction n with
        | zero => show x0 / 441 < J; omega
        | succ n ih =>
          obtain ⟨-, -, -, -, -, -, h9⟩ := hS _ 0 (va_cpy (xA 19) (xA 28) 0 0 6) (fun _ => 0) (fun _ => 0) ih hG0
          exact h9
      have hx2 : ∀ n, pr_it (pr_f (mA 6) c a b) x0 n < 2646 ∧ pr_it (pr_f (mA 6) c a b) x0 n / 441 < J := fun n => ⟨by have := hx n; omega, hx n⟩
      obtain ⟨had, e1, e2⟩ := pr_had (N := pq_N) (s := mA 6) (t := mA 8) (p1 := nI c) 2646 0 pq_N (mA 17) (by omega) (by omega) (fun v hv => absurd hv (by omega))
      obtain ⟨b1, b2, b3⟩ := pm_try (N := pq_N) (t := mA 8) pu_N2 hV
      obtain ⟨m, l, T, hd, e3, hcy, hml⟩ := pr_ref_loop (N := pq_N) (s := mA 6) (X := X) (x0 := x0) pu_N hc ha hb hab ea eb (fun n => (hx2 n).1) 2647 0 pq_N (pn_br (mA 6) (mA 8) 0 0 83) had (by omega) (by omega) (by show pn_V _ P J C X (x0 / 441); rw [q0]; exact b2) b3 (by show _ = nI (x0 / 21 % 21); rw [q1, pn_br_83 (11 + a) (by omega)]; exact ega) (by show _ = nI (x0 % 21); rw [q2, pn_br_83 (11 + b) (by omega)]; exact egb) (fun v hv => Or.inl ⟨e2 v hv, fun i hi => absurd hi (by omega)⟩) (fun i j _ h => absurd h (by omega))
      have e8 : f_X8_layRound pq_N (mI 18) (mI 19) (mA 6) (mA 8) (mA 17) (nI c) = some (nI m, nI l, T, hd) := by
        unfold f_X8_layRound
        refine Eq.trans e1 ?_
        rw [b1, pu_cs]
        exact e3
      have es : f_X1_stateOf pq_N (xI 14) (xA 19) (xA 23) (xA 24) (nI c) = some (nI x0) := by
        have h5' : xA 23 c = nI a := by have := h5 c hc; rw [ea] at this; exact this
        have h6' : xA 24 c = nI b := by have := h6 c hc; rw [eb] at this; exact this
        have h1a : xA 19 a = nI ga := by have := h1 a ha; rw [ega] at this; exact this
        have h1b : xA 19 b = nI gb := by have := h1 b hb; rw [egb] at this; exact this
        unfold f_X1_stateOf
        rw [r4, eS, ex0]
        simp (disch := omega) only [pu_lit 21, pu_gd, nI_clamp, h5', h6', h1a, h1b, pk_mul, nI_add]
      obtain ⟨q', gr', wi', wn', p3, hG', -⟩ := hS x0 (xI 14) (va_cpy (xA 19) (xA 28) 0 0 6) (va_cpy (xA 20) (xA 29) 0 0 6) (va_cpy (xA 26) (xA 35) 0 0 12) (by omega) hG0
      obtain ⟨q2', gr2, wi2, wn2, p4, hG2⟩ := pr_per_loop (N := pq_N) (G := fun gr => ∀ i, i < P → i ≠ a → i ≠ b → gr i = mA 6 (11 + i)) hx2 hS2 hcy hml 7999 0 1 pq_N q' gr' wi' wn' (by omega) (by omega) (by omega) (by omega) (by omega) (fun _ => hcy.1) hG'
      have per : f_X3_period pq_N (nI J) (xI 14) (va_cpy (xA 18) (xA 27) 0 0 6) (va_cpy (xA 19) (xA 28) 0 0 6) (va_cpy (xA 20) (xA 29) 0 0 6) (va_cpy (xA 21) (xA 30) 0 0 6) (va_cpy (xA 22) (xA 31) 0 0 6) (va_cpy (xA 23) (xA 32) 0 0 12) (va_cpy (xA 24) (xA 33) 0 0 12) (va_cpy (xA 25) (xA 34) 0 0 12) (va_cpy (xA 26) (xA 35) 0 0 12) (nI c) (nI x0) = some (nI l, q2', gr2, wi2, wn2) := by
        unfold f_X3_period
        rw [p3, pu_cs]
        exact p4
      rw [ec, e8, pu_cs, pu_become, pu_cs, es, pu_cs]
      dsimp only
      rw [r1, eJ, per, pu_cs]
      dsimp only
      have fin : ∀ (u2 v0 v1 u4 : Int32) (g3 w3 n3 t3 h3 : Nat → Int32) (i3 j3 : Int32), v0 = v1 → ∃ zc zm, some (v0, xI 10, nI J, u2, xI 13, u4, va_cpy (xA 18) (xA 27) 0 0 6, g3, w3, va_cpy (xA 21) (xA 30) 0 0 6, va_cpy (xA 22) (xA 31) 0 0 6, va_cpy (xA 23) (xA 32) 0 0 12, va_cpy (xA 24) (xA 33) 0 0 12, va_cpy (xA 25) (xA 34) 0 0 12, n3) = some zc ∧ some (v1, i3, j3, t3, h3) = some zm ∧ zc.1 = zm.1 ∧ pq_R (va_up (va_up (va_up (va_up (va_up xI 15 zc.2.1) 16 zc.2.2.1) 17 zc.2.2.2.1) 18 zc.2.2.2.2.1) 19 zc.2.2.2.2.2.1) (va_up (va_up (va_up (va_up (va_up (va_up (va_up (va_up (va_up xA 27 zc.2.2.2.2.2.2.1) 28 zc.2.2.2.2.2.2.2.1) 29 zc.2.2.2.2.2.2.2.2.1) 30 zc.2.2.2.2.2.2.2.2.2.1) 31 zc.2.2.2.2.2.2.2.2.2.2.1) 32 zc.2.2.2.2.2.2.2.2.2.2.2.1) 33 zc.2.2.2.2.2.2.2.2.2.2.2.2.1) 34 zc.2.2.2.2.2.2.2.2.2.2.2.2.2.1) 35 zc.2.2.2.2.2.2.2.2.2.2.2.2.2.2) xL aw (va_up (va_up mI 18 zm.2.1) 19 zm.2.2.1) (va_up (va_up mA 8 zm.2.2.2.1) 17 zm.2.2.2.2) mL := by
        intro u2 v0 v1 u4 g3 w3 n3 t3 h3 i3 j3 e
        refine ⟨_, _, rfl, rfl, e, ?_⟩
        dsimp only
        refine pq_kF hR ?_ ?_ ?_ ?_
        · intro k hk; simp (disch := omega) only [pu_vo]
        · intro k hk; simp (disch := omega) only [pu_vo]
        · intro k hk; simp (disch := omega) only [pu_vo]
        · intro k hk; simp (disch := omega) only [pu_vo]
      by_cases hp : p2 = 1
      · rw [if_pos hp, if_neg (by rw [hp]; decide)]
        exact fin _ _ _ _ _ _ _ _ _ _ _ rfl
      · have hp0 : p2 = 0 := by
          have h9 : p2.toInt ≠ 1 := fun e => hp (Int32.toInt_inj.mp e)
          exact Int32.toInt_inj.mp (by rw [z0]; omega)
        rw [if_neg hp, if_pos hp0]
        obtain ⟨q3, gr3, wi3, wn3, p5, hG3⟩ := pr_lead1 (N := pq_N) (G := fun gr => ∀ i, i < P → i ≠ a → i ≠ b → gr i = mA 6 (11 + i)) (l := l) hx2 hS2 (by omega) (p3 := nI x0) l 0 pq_N q2' gr2 wi2 wn2 (by omega) (by omega) hG2
        obtain ⟨q4, gr4, wi4, wn4, p6, hG4⟩ := pr_lead2 (N := pq_N) (G := fun gr => ∀ i, i < P → i ≠ a → i ≠ b → gr i = mA 6 (11 + i)) hx2 hS2 hcy hml m 0 pq_N q3 gr3 wi3 wn3 (by omega) (by omega) hG3
        rw [Nat.zero_add] at p6
        have lead : f_X3_leadIn pq_N (nI J) q2' (va_cpy (xA 18) (xA 27) 0 0 6) gr2 wi2 (va_cpy (xA 21) (xA 30) 0 0 6) (va_cpy (xA 22) (xA 31) 0 0 6) (va_cpy (xA 23) (xA 32) 0 0 12) (va_cpy (xA 24) (xA 33) 0 0 12) (va_cpy (xA 25) (xA 34) 0 0 12) wn2 (nI c) (nI x0) (nI l) = some (nI m, q4, gr4, wi4, wn4) := by
          unfold f_X3_leadIn
          exact Eq.trans p5 p6
        rw [pu_cs, lead, pu_cs]
        exact fin _ _ _ _ _ _ _ _ _ _ _ rfl
    · rw [pu_f0 hv2, pu_f0 hv2]
      exact ⟨_, _, rfl, rfl, rfl, same⟩
  · rw [pu_f0 hv, pu_f0 hv]
    exact ⟨_, _, rfl, rfl, rfl, same⟩
