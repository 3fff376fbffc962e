/-! ===== hear and undo ===== -/
set_option maxHeartbeats 1000000 in
theorem sim_hear {xI : Nat → Int32} {xA : Nat → Nat → Int32} {xL : Nat → Nat → Int64} {aw : Nat → Nat → Int32} {mI : Nat → Int32} {mA : Nat → Nat → Int32} {mL : Nat → Int64} (hR : pq_R xI xA xL aw mI mA mL) (p1 : Int32) : ∃ (zc : Int32 × Int32 × Int32 × Int32 × Int32 × (Nat → Int32) × (Nat → Int32) × (Nat → Int32) × (Nat → Nat → Int32)) (zm : Int32 × Int32 × (Nat → Int32) × (Nat → Int32)), f_X7_hear pq_N (xI 22) (xI 23) (xI 11) (xI 12) (xI 13) (xI 14) (xA 18) (xA 19) (xA 20) (xA 21) (xA 22) (xA 23) (xA 24) (xA 25) (xA 26) aw p1 = some zc ∧ f_X8_hear pq_N (mI 12) (mA 6) (mA 11) p1 = some zm ∧ zc.1 = zm.1 ∧ pq_R (va_up (va_up (va_up (va_up xI 22 zc.2.1) 23 zc.2.2.1) 13 zc.2.2.2.1) 14 zc.2.2.2.2.1) (va_up (va_up (va_up xA 19 zc.2.2.2.2.2.1) 20 zc.2.2.2.2.2.2.1) 26 zc.2.2.2.2.2.2.2.1) xL zc.2.2.2.2.2.2.2.2 (va_up mI 12 zm.2.1) (va_up (va_up mA 6 zm.2.2.1) 11 zm.2.2.2) mL := by
  obtain ⟨⟨r0, r1, r2, r3, r4⟩, k2, k3, k4⟩ := pu_now hR
  have same : pq_R (va_up (va_up (va_up (va_up xI 22 (xI 22)) 23 (xI 23)) 13 (xI 13)) 14 (xI 14)) (va_up (va_up (va_up xA 19 (xA 19)) 20 (xA 20)) 26 (xA 26)) xL aw (va_up mI 12 (mI 12)) (va_up (va_up mA 6 (mA 6)) 11 (mA 11)) mL := by
    simp only [pu_vid]; exact hR
  unfold f_X7_hear f_X8_hear
  have z0 : (0 : Int32).toInt = 0 := rfl
  have z2 : (2 : Int32).toInt = 2 := rfl
  rw [pu_in, pu_cs, z0, z2]
  by_cases hv : 0 ≤ p1.toInt ∧ p1.toInt ≤ 2
  · rw [pu_f1 hv, if_neg (show ¬ p1 < 0 by rw [pu_lt, z0]; omega), if_pos (show p1 ≤ 2 by rw [pu_lei, z2]; omega)]
    unfold f_X1_casesLeft f_X8_casesLeft
    rw [pu_cs, pq_gd_i (i := 4) (by decide), pq_gd_i (i := 0) (by decide), pu_cs, r2, r3, show (4 : Int32).toNatClampNeg = 4 from rfl, show (0 : Int32).toNatClampNeg = 0 from rfl]
    by_cases hl : mA 6 4 - mA 6 0 = 0
    · rw [if_pos hl, if_pos hl, ← r3]
      exact ⟨_, _, rfl, rfl, rfl, same⟩
    · rw [if_neg hl, if_neg hl]
      have hw : pq_wf (mA 6) := by
        rcases hR.now.2 with h | h
        · exfalso
          apply hl
          rw [h.1, h.2.2.2.2]
          rfl
        · exact h
      obtain ⟨P, J, C, X, S, hW⟩ := pn_W.of hw
      have hC := pn_C.of hW hR.now.1
      obtain ⟨n, K0, hn, hK, e22, e23, e12, hh⟩ := pu_hist hR
      obtain ⟨⟨p1', p2'⟩, ⟨j1, j2⟩, ⟨c1, c2⟩, x2, s2, ⟨eP, eJ, eC, eX, eS⟩, hkk, hg, hle, hf, hab, hwt, -⟩ := id hW
      obtain ⟨⟨q0, q1, q2, q3, q4⟩, h0, h1, h2, h3, h4, h5, h6, h7, h8⟩ := id hC
      have hX : X < C := by
        rw [eC, eX] at hl
        rcases Nat.lt_or_ge X C with h | h
        · exact h
        · exact absurd (by rw [show C = X by omega]; exact Int32.sub_self _) hl
      obtain ⟨a, b, ha, hb, hne, ea, eb⟩ := hab X hX
      obtain ⟨w, lo, hwl, ew, elo⟩ := pn_wn_two (s := mA 6) (a := a) (b := b) (c := X) (j := S) (by omega) (by omega) hne ea eb (pn_t (mA 6) X p1)
      have hst := pu_settle (N := pq_N) (p2 := p1) (c := X) (w := w) (lo := lo) pu_N hW hC hX (by omega) (by omega) (by omega) ew elo
      have hhe := pu_hears (N := pq_N) (s := mA 6) (c := X) (w := w) (lo := lo) (j := S) (J := J) (t := pn_t (mA 6) X p1) pu_N eJ j1 j2 s2 eS (by omega) eX (by omega) (by omega) (by omega) ew elo
      rw [e22, e23, e12, pu_begin hn hK, pu_cs, pu_note pu_N2 hn, pu_cs]
      have hk : (K0 + 1) % 24 < 24 := by omega
      have et : (if p1 = 0 then (-4 : Int32) else if p1 = 1 then mA 6 (35 + X) else mA 6 (47 + X)) = pn_t (mA 6) X p1 := by
        unfold pn_t
        by_cases g0 : p1 = 0
        · subst g0; rfl
        · rw [if_neg g0]
          by_cases g1 : p1 = 1
          · rw [if_pos g1, if_pos g1]
          · rw [if_neg g1, if_neg g1]
            have g2 : p1 = 2 := by
              rw [pu_eqi, z2]
              have a0 : p1.toInt ≠ 0 := fun e => g0 (by rw [pu_eqi, z0]; exact e)
              have a1 : p1.toInt ≠ 1 := fun e => g1 (by rw [pu_eqi]; exact e)
              omega
            rw [if_pos g2]
      have hap : xA 23 X = nI a := (h5 X hX).trans ea
      have hbp : xA 24 X = nI b := (h6 X hX).trans eb
      rw [eX, pq_gd_i (i := 0) (by decide), pu_l]
      simp (disch := omega) only [pu_lit 35, pu_lit 47, nI_add, nI_clamp, pu_gd, pu_l, pu_j, hap, hbp, pu_gn hk]
      have em : (if p1 = 0 then pq_c (f_X8_hears pq_N (mA 6) (-4)) fun r_5 => some (r_5.1, nI (pn_ns n), r_5.2, pn_an n (mA 6) (mA 11)) else if p1 = 1 then pq_c (f_X8_hears pq_N (mA 6) (mA 6 (35 + X))) fun r_5 => some (r_5.1, nI (pn_ns n), r_5.2, pn_an n (mA 6) (mA 11)) else pq_c (f_X8_hears pq_N (mA 6) (mA 6 (47 + X))) fun r_5 => some (r_5.1, nI (pn_ns n), r_5.2, pn_an n (mA 6) (mA 11))) = some (nI w, nI (pn_ns n), upd (pn_end (mA 6) X w lo S) 0 (nI (X + 1)), pn_an n (mA 6) (mA 11)) := by
        rw [← et] at hhe
        by_cases g0 : p1 = 0
        · rw [if_pos g0] at hhe ⊢
          rw [hhe, pu_cs]
        · rw [if_neg g0] at hhe ⊢
          by_cases g1 : p1 = 1
          · rw [if_pos g1] at hhe ⊢
            rw [hhe, pu_cs]
          · rw [if_neg g1] at hhe ⊢
            rw [hhe, pu_cs]
      rw [em]
      have hst' : f_X1_settle pq_N (xI 11) (xI 14) (xA 18) (xA 19) (xA 20) (xA 21) (xA 22) (xA 23) (xA 24) (xA 25) (xA 26) (nI X) p1 = _ := hst
      rw [hst', pu_cs, nI_1]
      dsimp only
      rw [pu_us]
      refine ⟨_, _, rfl, rfl, rfl, ?_⟩
      dsimp only
      have hwab : nI w = mA 6 (35 + X) ∨ nI w = mA 6 (47 + X) := by
        rw [ea, eb]
        rcases hwl with ⟨rfl, -⟩ | ⟨rfl, -⟩
        · exact Or.inl rfl
        · exact Or.inr rfl
      obtain ⟨S', eS', hW'⟩ := pn_W_hear (w := w) (lo := lo) hW hX (by omega) (by omega) (by omega) hwab
      refine pu_act hR (t := upd (pn_end (mA 6) X w lo S) 0 (nI (X + 1))) hn hK hh hW.wf hW'.wf (pn_C.rc hW' ?_) ?_ ?_ ?_ ?_ ?_ ?_ ?_ ?_ ?_ ?_ ?_ ?_
      · have hE := pn_C.ended (w := w) (lo := lo) (c := X) (x' := fun f => if f = 4 then pn_nm (mA 6) (nI lo) (mA 6 (5 + lo)) S else xI (10 + f)) (a' := fun f => va_up (va_up (va_up xA 19 (upd (upd (xA 19) w (pn_dn (mA 6 (11 + w)))) lo (pn_up (mA 6 (11 + lo)) (pn_hu (mA 6 (5 + lo)) (mA 6 (59 + X)))))) 20 (upd (xA 20) w (mA 6 (17 + w) + 1))) 26 (upd (xA 26) X (nI w)) (18 + f)) hW hC hX (by omega) (by omega) (by omega) rfl rfl rfl rfl rfl rfl rfl rfl rfl rfl rfl rfl rfl rfl
        obtain ⟨⟨y0, y1, y2, y3, y4⟩, g0, g1, g2, g3, g4, g5, g6, g7, g8⟩ := hE
        have h : ∀ i, i ≠ 0 → upd (pn_end (mA 6) X w lo S) 0 (nI (X + 1)) i = pn_end (mA 6) X w lo S i := fun i hi => pu_un hi
        refine ⟨⟨y0, y1, y2, ?_, ?_⟩, ?_, ?_, ?_, ?_, ?_, ?_, ?_, ?_, ?_⟩
        · rw [pu_us]; rfl
        · rw [h 1 (by omega)]; exact y4
        · intro i hi; rw [h _ (by omega)]; exact g0 i hi
        · intro i hi; rw [h _ (by omega)]; exact g1 i hi
        · intro i hi; rw [h _ (by omega)]; exact g2 i hi
        · intro i hi; rw [h _ (by omega)]; exact g3 i hi
        · intro i hi; rw [h _ (by omega)]; exact g4 i hi
        · intro i hi; rw [h _ (by omega)]; exact g5 i hi
        · intro i hi; rw [h _ (by omega)]; exact g6 i hi
        · intro i hi; rw [h _ (by omega)]; exact g7 i hi
        · intro i hi; rw [h _ (by omega)]; exact g8 i hi
      · intro f k hk'
        rw [pu_ak hk', pu_ak hk', pu_ak hk', pu_ak hk', pu_ak hk', pu_ak hk']
      · refine Or.inl ?_
        simp (disch := omega) only [pu_ao, pu_as]
        rw [pu_us, nI_toInt (by omega), nI_toInt (by omega)]
        refine ⟨trivial, by omega, by omega⟩
      · intro i hi
        refine (pn_un_hear hW hX ha hb hne ea eb hwl ?_ ?_ ?_ ?_ ?_ i).symm
        · simp (disch := omega) only [pu_ao, pu_as]
        · simp (disch := omega) only [pu_ao, pu_as]
        · simp (disch := omega) only [pu_ao, pu_as]
          exact h1 a ha
        · simp (disch := omega) only [pu_ao, pu_as]
          exact h1 b hb
        · simp (disch := omega) only [pu_ao, pu_as]
          exact r4
      · intro k hk'; simp (disch := omega) only [pu_vo]
      · intro k hk'; simp (disch := omega) only [pu_vo]
      · simp (disch := omega) only [pu_vo]
      · intro k hk'; simp (disch := omega) only [pu_vo]
      · simp (disch := omega) only [pu_vo, pu_vs]
      · simp (disch := omega) only [pu_vo, pu_vs]
      · simp (disch := omega) only [pu_vo, pu_vs]
      · simp (disch := omega) only [pu_vo, pu_vs]
      · simp (disch := omega) only [pu_vo, pu_vs]
  · rw [pu_f0 hv]
    by_cases hl0 : p1 < 0
    · rw [if_pos hl0]
      exact ⟨_, _, rfl, rfl, rfl, same⟩
    · rw [if_neg hl0, if_neg (show ¬ p1 ≤ 2 by rw [pu_lt, z0] at hl0; rw [pu_lei, z2]; omega)]
      exact ⟨_, _, rfl, rfl, rfl, same⟩
/-! ===== undo ===== -/
def pn_24 {β : Type} (F : Nat → Option β) (k : Nat) : Option β := (if k = 0 then F 0 else (if k = 1 then F 1 else (if k = 2 then F 2 else (if k = 3 then F 3 else (if k = 4 then F 4 else (if k = 5 then F 5 else (if k = 6 then F 6 else (if k = 7 then F 7 else (if k = 8 then F 8 else (if k = 9 then F 9 else (if k = 10 then F 10 else (if k = 11 then F 11 else (if k = 12 then F 12 else (if k = 13 then F 13 else (if k = 14 then F 14 else (if k = 15 then F 15 else (if k = 16 then F 16 else (if k = 17 then F 17 else (if k = 18 then F 18 else (if k = 19 then F 19 else (if k = 20 then F 20 else (if k = 21 then F 21 else (if k = 22 then F 22 else (if k = 23 then F 23 else none))))))))))))))))))))))))
theorem pu_24 {β : Type} {F : Nat → Option β} {k : Nat} (hk : k < 24) : pn_24 F k = F k := by
  rcases (show k = 0 ∨ k = 1 ∨ k = 2 ∨ k = 3 ∨ k = 4 ∨ k = 5 ∨ k = 6 ∨ k = 7 ∨ k = 8 ∨ k = 9 ∨ k = 10 ∨ k = 11 ∨ k = 12 ∨ k = 13 ∨ k = 14 ∨ k = 15 ∨ k = 16 ∨ k = 17 ∨ k = 18 ∨ k = 19 ∨ k = 20 ∨ k = 21 ∨ k = 22 ∨ k = 23 by omega) with rfl | rfl | rfl | rfl | rfl | rfl | rfl | rfl | rfl | rfl | rfl | rfl | rfl | rfl | rfl | rfl | rfl | rfl | rfl | rfl | rfl | rfl | rfl | rfl <;> rfl
set_option maxHeartbeats 1000000 in
theorem pu_undo7 {N n K0 : Nat} {nx st : Int32} {a1 a2 a3 a5 a6 a7 a8 : Nat → Int32} {aw : Nat → Nat → Int32} (h0 : 1 ≤ n) (hn : n ≤ 24) (hK : K0 < 24) : f_X7_undo N (nI n) (nI K0) nx st a1 a2 a3 a5 a6 a7 a8 aw = pq_c (f_X0_takeBack N (aw 0 K0) (aw 1 K0) (aw 2 K0) (aw 3 K0) (aw 4 K0) (aw 5 K0) nx st a1 a2 a3 a5 a6 a7 a8) (fun r => some (nI (n - 1), nI (n - 1), nI ((K0 + 23) % 24), r.1, r.2.1, r.2.2.1, r.2.2.2.1, r.2.2.2.2.1, r.2.2.2.2.2.1, r.2.2.2.2.2.2.1, r.2.2.2.2.2.2.2.1, r.2.2.2.2.2.2.2.2)) := by
  have ef : f_X4_forgetLatest N (nI n) (nI K0) = some (nI (n - 1), nI ((K0 + 23) % 24)) := by
    unfold f_X4_forgetLatest
    simp only [pu_j, pu_l]
    rw [pu_lit 1, pk_sub h0]
    by_cases h : K0 = 0
    · subst h; rfl
    · rw [if_neg (by rw [pu_lit 0, nI_leI (by omega) (by omega)]; omega), pk_sub (by omega), show (K0 + 23) % 24 = K0 - 1 by omega]
  unfold f_X7_undo
  rw [if_neg (by rw [pu_lit 0, nI_eq (by omega) (by omega)]; omega)]
  unfold f_X4_latest
  rw [pu_gd hK (by decide), nI_clamp (by omega), pu_cs, ef]
  exact (pu_24 (F := fun k => pq_c (f_X0_takeBack N (aw 0 k) (aw 1 k) (aw 2 k) (aw 3 k) (aw 4 k) (aw 5 k) nx st a1 a2 a3 a5 a6 a7 a8) (fun r => pq_c (some (nI (n - 1), nI ((K0 + 23) % 24))) (fun r3 => some (r3.1, r3.1, r3.2, r.1, r.2.1, r.2.2.1, r.2.2.2.1, r.2.2.2.2.1, r.2.2.2.2.2.1, r.2.2.2.2.2.2.1, r.2.2.2.2.2.2.2.1, r.2.2.2.2.2.2.2.2)))) hK)
/-- the class takes an act back -/
theorem pu_takeBack {N : Nat} {x : Nat → Int32} {a : Nat → Nat → Int32} {t u w : Nat → Int32} {P J C X S : Nat} (hW : pn_W t P J C X S) (hC : pn_C x a t P J C) (hv : pq_av w t) (hu : ∀ i, i < 83 → u i = pq_un w t i) :
    ∃ z, f_X0_takeBack N (w 0) (w 1) (w 2) (w 3) (w 4) (w 5) (x 3) (x 4) (a 1) (a 2) (a 3) (a 5) (a 6) (a 7) (a 8) = some z ∧ (∀ i, i = 2 ∨ i = 3 ∨ i = 4 → u i = t i) ∧
    ∀ (x' : Nat → Int32) (a' : Nat → Nat → Int32), x' 0 = x 0 → x' 1 = x 1 → x' 2 = x 2 → x' 3 = z.1 → x' 4 = z.2.1 → a' 0 = a 0 → a' 1 = z.2.2.1 → a' 2 = z.2.2.2.1 → a' 3 = z.2.2.2.2.1 → a' 4 = a 4 → a' 5 = z.2.2.2.2.2.1 → a' 6 = z.2.2.2.2.2.2.1 → a' 7 = z.2.2.2.2.2.2.2.1 → a' 8 = z.2.2.2.2.2.2.2.2 → pn_C x' a' u P J C := by
  obtain ⟨⟨p1', p2'⟩, ⟨j1, j2⟩, ⟨c1, c2⟩, x2, s2, ⟨eP, eJ, eC, eX, eS⟩, hkk, hg, hle, hf, hab, hwt, hx1, hx2⟩ := id hW
  obtain ⟨⟨q0, q1, q2, q3, q4⟩, h0, h1, h2, h3, h4, h5, h6, h7, h8⟩ := id hC
  unfold f_X0_takeBack
  rcases hv with ⟨e0, ⟨v1, v2⟩⟩ | ⟨e0, ⟨v1, v2⟩, ⟨v3, v4⟩, vne⟩ | ⟨e0, v1, v2⟩ | e0 | ⟨e0, v1, v2⟩
  · -- heard
    rw [if_pos e0]
    rw [eX, nI_toInt (by omega)] at v2
    obtain ⟨c, hc, ec⟩ := pu_of (n := C) v1 (by omega)
    rw [ec, nI_toInt (by omega)] at v2
    obtain ⟨p, d, hp, hd, hpd, ep, ed⟩ := hab c hc
    obtain ⟨wn, hwn, ewn⟩ : ∃ wn, wn < P ∧ t (71 + c) = nI wn := by
      rcases hx1 c (by omega) with e | e
      · exact ⟨p, hp, by rw [e, ep]⟩
      · exact ⟨d, hd, by rw [e, ed]⟩
    unfold f_X0_takeBackHearing
    have a5 : a 5 c = nI p := (h5 c hc).trans ep
    have a6 : a 6 c = nI d := (h6 c hc).trans ed
    have a8 : a 8 c = nI wn := (h8 c hc).trans ewn
    rw [ec]
    simp (disch := omega) only [nI_clamp, pu_gd, pu_l, a5, a6, a8, pu_cs]
    have hun : ∀ i, i < 83 → u i = (if i = 0 then w 1 else if i = 1 then w 5 else if i = 11 + p then w 3 else if i = 11 + d then w 4 else if i = 17 + wn then t i - 1 else if i = 71 + c then -4 else t i) := by
      intro i hi
      rw [hu i hi]
      unfold pq_un
      rw [if_pos e0, ec, nI_clamp (by omega), ep, ed, ewn, nI_clamp (by omega), nI_clamp (by omega), nI_clamp (by omega)]
    have ho : ∀ i, i < 83 → i ≠ 0 → i ≠ 1 → i ≠ 11 + p → i ≠ 11 + d → i ≠ 17 + wn → i ≠ 71 + c → u i = t i := by
      intro i hi g0 g1 g2 g3 g4 g5
      rw [hun i hi, if_neg g0, if_neg g1, if_neg g2, if_neg g3, if_neg g4, if_neg g5]
    refine ⟨_, rfl, fun i hi => ho i (by omega) (by omega) (by omega) (by omega) (by omega) (by omega) (by omega), ?_⟩
    intro x' a' y0 y1 y2 y3 y4 b0 b1 b2 b3 b4 b5 b6 b7 b8
    refine ⟨⟨by rw [y0, q0], by rw [y1, q1], by rw [y2, q2], ?_, ?_⟩, ?_, ?_, ?_, ?_, ?_, ?_, ?_, ?_, ?_⟩
    · rw [y3, hun 0 (by omega), if_pos rfl, ec]
    · rw [y4, hun 1 (by omega), if_neg (by omega), if_pos rfl]
    · intro i hi; rw [b0, ho _ (by omega) (by omega) (by omega) (by omega) (by omega) (by omega) (by omega)]; exact h0 i hi
    · intro i hi
      rw [b1]
      dsimp only
      rw [hun _ (by omega), if_neg (by omega), if_neg (by omega)]
      by_cases g1 : i = p
      · rw [if_pos (by omega), g1, pu_un (fun e => hpd e), pu_us]
      · rw [if_neg (by omega)]
        by_cases g2 : i = d
        · rw [if_pos (by omega), g2, pu_us]
        · rw [if_neg (by omega), if_neg (by omega), if_neg (by omega), pu_un g2, pu_un g1]; exact h1 i hi
    · intro i hi
      rw [b2]
      dsimp only
      rw [hun _ (by omega), if_neg (by omega), if_neg (by omega), if_neg (by omega), if_neg (by omega)]
      by_cases g1 : i = wn
      · rw [if_pos (by omega), g1, pu_us, h2 wn hwn]
      · rw [if_neg (by omega), if_neg (by omega), pu_un g1]; exact h2 i hi
    · intro i hi; rw [b3, ho _ (by omega) (by omega) (by omega) (by omega) (by omega) (by omega) (by omega)]; exact h3 i hi
    · intro i hi; rw [b4, ho _ (by omega) (by omega) (by omega) (by omega) (by omega) (by omega) (by omega)]; exact h4 i hi
    · intro i hi; rw [b5, ho _ (by omega) (by omega) (by omega) (by omega) (by omega) (by omega) (by omega)]; exact h5 i hi
    · intro i hi; rw [b6, ho _ (by omega) (by omega) (by omega) (by omega) (by omega) (by omega) (by omega)]; exact h6 i hi
    · intro i hi; rw [b7, ho _ (by omega) (by omega) (by omega) (by omega) (by omega) (by omega) (by omega)]; exact h7 i hi
    · intro i hi
      rw [b8]
      dsimp only
      rw [hun _ (by omega), if_neg (by omega), if_neg (by omega), if_neg (by omega), if_neg (by omega), if_neg (by omega)]
      by_cases g1 : i = c
      · rw [if_pos (by omega), g1, pu_us]
      · rw [if_neg (by omega), pu_un g1]; exact h8 i hi
  · -- swapped
    rw [eC, nI_toInt (by omega)] at v2 v4
    obtain ⟨b, hb, eb⟩ := pu_of (n := C) v1 (by omega)
    obtain ⟨d, hd, ed⟩ := pu_of (n := C) v3 (by omega)
    have hbd : b ≠ d := fun e => vne (by rw [eb, ed, e])
    rw [if_neg (show ¬ w 0 = 0 by rw [e0]; decide), if_pos e0, eb, ed, pu_exchange (by omega) (by omega), pu_cs]
    have hun : ∀ i, i < 83 → u i = pn_x3 t b d i := fun i hi => by rw [hu i hi, pn_un_swap (by omega) (by omega) hbd e0 eb ed]
    obtain ⟨-, hx⟩ := pn_x3_at (s := t) (a := b) (b := d) (by omega) (by omega)
    refine ⟨_, rfl, fun i hi => by rw [hun i (by omega), hx i (by omega)], ?_⟩
    intro x' a' y0 y1 y2 y3 y4 b0 b1 b2 b3 b4 b5 b6 b7 b8
    refine pn_C.swapped hW hC hb hd hun ?_ ?_ b5 b6 b7
    · intro k hk
      rcases (show k = 0 ∨ k = 1 ∨ k = 2 ∨ k = 3 ∨ k = 4 by omega) with rfl | rfl | rfl | rfl | rfl
      · exact y0
      · exact y1
      · exact y2
      · exact y3
      · exact y4
    · intro k hk
      rcases (show k = 0 ∨ k = 1 ∨ k = 2 ∨ k = 3 ∨ k = 4 ∨ k = 8 by omega) with rfl | rfl | rfl | rfl | rfl | rfl
      · exact b0
      · exact b1
      · exact b2
      · exact b3
      · exact b4
      · exact b8
  · -- soothed
    rw [eP, nI_toInt (by omega)] at v2
    obtain ⟨p, hp, ep⟩ := pu_of (n := P) v1 (by omega)
    rw [if_neg (show ¬ w 0 = 0 by rw [e0]; decide), if_neg (show ¬ w 0 = 1 by rw [e0]; decide), if_pos e0, ep, pu_gd (show p < 6 by omega) (by decide), nI_clamp (by omega), pu_l]
    have hun : ∀ i, i < 83 → u i = if i = 11 + p then w 3 else t i := by
      intro i hi
      rw [hu i hi]
      unfold pq_un
      rw [if_neg (show ¬ w 0 = 0 by rw [e0]; decide), if_neg (show ¬ w 0 = 1 by rw [e0]; decide), if_pos e0, ep, nI_clamp (by omega)]
    have ho : ∀ i, i < 83 → i ≠ 11 + p → u i = t i := fun i hi g => by rw [hun i hi, if_neg g]
    refine ⟨_, rfl, fun i hi => ho i (by omega) (by omega), ?_⟩
    intro x' a' y0 y1 y2 y3 y4 b0 b1 b2 b3 b4 b5 b6 b7 b8
    refine ⟨⟨by rw [y0, q0], by rw [y1, q1], by rw [y2, q2], by rw [y3, ho 0 (by omega) (by omega)]; exact q3, by rw [y4, ho 1 (by omega) (by omega)]; exact q4⟩, ?_, ?_, ?_, ?_, ?_, ?_, ?_, ?_, ?_⟩
    · intro i hi; rw [b0, ho _ (by omega) (by omega)]; exact h0 i hi
    · intro i hi
      rw [b1]
      dsimp only
      rw [hun _ (by omega)]
      by_cases g1 : i = p
      · rw [if_pos (by omega), g1, pu_us]
      · rw [if_neg (by omega), pu_un g1]; exact h1 i hi
    · intro i hi; rw [b2, ho _ (by omega) (by omega)]; exact h2 i hi
    · intro i hi; rw [b3, ho _ (by omega) (by omega)]; exact h3 i hi
    · intro i hi; rw [b4, ho _ (by omega) (by omega)]; exact h4 i hi
    · intro i hi; rw [b5, ho _ (by omega) (by omega)]; exact h5 i hi
    · intro i hi; rw [b6, ho _ (by omega) (by omega)]; exact h6 i hi
    · intro i hi; rw [b7, ho _ (by omega) (by omega)]; exact h7 i hi
    · intro i hi; rw [b8, ho _ (by omega) (by omega)]; exact h8 i hi
  · -- seated
    rw [if_neg (show ¬ w 0 = 0 by rw [e0]; decide), if_neg (show ¬ w 0 = 1 by rw [e0]; decide), if_neg (show ¬ w 0 = 2 by rw [e0]; decide), if_pos e0]
    have hun : ∀ i, i < 83 → u i = if i = 1 then w 5 else t i := by
      intro i hi
      rw [hu i hi]
      unfold pq_un
      rw [if_neg (show ¬ w 0 = 0 by rw [e0]; decide), if_neg (show ¬ w 0 = 1 by rw [e0]; decide), if_neg (show ¬ w 0 = 2 by rw [e0]; decide), if_pos e0]
    have ho : ∀ i, i < 83 → i ≠ 1 → u i = t i := fun i hi g => by rw [hun i hi, if_neg g]
    refine ⟨_, rfl, fun i hi => ho i (by omega) (by omega), ?_⟩
    intro x' a' y0 y1 y2 y3 y4 b0 b1 b2 b3 b4 b5 b6 b7 b8
    refine ⟨⟨by rw [y0, q0], by rw [y1, q1], by rw [y2, q2], by rw [y3, ho 0 (by omega) (by omega)]; exact q3, by rw [y4, hun 1 (by omega), if_pos rfl]⟩, ?_, ?_, ?_, ?_, ?_, ?_, ?_, ?_, ?_⟩
    · intro i hi; rw [b0, ho _ (by omega) (by omega)]; exact h0 i hi
    · intro i hi; rw [b1, ho _ (by omega) (by omega)]; exact h1 i hi
    · intro i hi; rw [b2, ho _ (by omega) (by omega)]; exact h2 i hi
    · intro i hi; rw [b3, ho _ (by omega) (by omega)]; exact h3 i hi
    · intro i hi; rw [b4, ho _ (by omega) (by omega)]; exact h4 i hi
    · intro i hi; rw [b5, ho _ (by omega) (by omega)]; exact h5 i hi
    · intro i hi; rw [b6, ho _ (by omega) (by omega)]; exact h6 i hi
    · intro i hi; rw [b7, ho _ (by omega) (by omega)]; exact h7 i hi
    · intro i hi; rw [b8, ho _ (by omega) (by omega)]; exact h8 i hi
  · -- leaned
    rw [eJ, nI_toInt (by omega)] at v2
    obtain ⟨p, hp, ep⟩ := pu_of (n := J) v1 (by omega)
    rw [if_neg (show ¬ w 0 = 0 by rw [e0]; decide), if_neg (show ¬ w 0 = 1 by rw [e0]; decide), if_neg (show ¬ w 0 = 2 by rw [e0]; decide), if_neg (show ¬ w 0 = 3 by rw [e0]; decide), ep, pu_gd (show p < 6 by omega) (by decide), nI_clamp (by omega), pu_l]
    have hun : ∀ i, i < 83 → u i = if i = 23 + p then w 3 else t i := by
      intro i hi
      rw [hu i hi]
      unfold pq_un
      rw [if_neg (show ¬ w 0 = 0 by rw [e0]; decide), if_neg (show ¬ w 0 = 1 by rw [e0]; decide), if_neg (show ¬ w 0 = 2 by rw [e0]; decide), if_neg (show ¬ w 0 = 3 by rw [e0]; decide), ep, nI_clamp (by omega)]
    have ho : ∀ i, i < 83 → i ≠ 23 + p → u i = t i := fun i hi g => by rw [hun i hi, if_neg g]
    refine ⟨_, rfl, fun i hi => ho i (by omega) (by omega), ?_⟩
    intro x' a' y0 y1 y2 y3 y4 b0 b1 b2 b3 b4 b5 b6 b7 b8
    refine ⟨⟨by rw [y0, q0], by rw [y1, q1], by rw [y2, q2], by rw [y3, ho 0 (by omega) (by omega)]; exact q3, by rw [y4, ho 1 (by omega) (by omega)]; exact q4⟩, ?_, ?_, ?_, ?_, ?_, ?_, ?_, ?_, ?_⟩
    · intro i hi; rw [b0, ho _ (by omega) (by omega)]; exact h0 i hi
    · intro i hi; rw [b1, ho _ (by omega) (by omega)]; exact h1 i hi
    · intro i hi; rw [b2, ho _ (by omega) (by omega)]; exact h2 i hi
    · intro i hi
      rw [b3]
      dsimp only
      rw [hun _ (by omega)]
      by_cases g1 : i = p
      · rw [if_pos (by omega), g1, pu_us]
      · rw [if_neg (by omega), pu_un g1]; exact h3 i hi
    · intro i hi; rw [b4, ho _ (by omega) (by omega)]; exact h4 i hi
    · intro i hi; rw [b5, ho _ (by omega) (by omega)]; exact h5 i hi
    · intro i hi; rw [b6, ho _ (by omega) (by omega)]; exact h6 i hi
    · intro i hi; rw [b7, ho _ (by omega) (by omega)]; exact h7 i hi
    · intro i hi; rw [b8, ho _ (by omega) (by omega)]; exact h8 i hi
/-- one act less -/
theorem pq_hi_pop {n K0 : Nat} {aw : Nat → Nat → Int32} {now u acts : Nat → Int32} (h0 : 1 ≤ n) (hn : n ≤ 24) (hK : K0 < 24) (h : pq_hi (nI n) (nI K0) aw now acts) (hu : ∀ i, i < 83 → u i = acts (83 * (n - 1) + i)) : pq_hi (nI (n - 1)) (nI ((K0 + 23) % 24)) aw u acts := by
  obtain ⟨-, -, hj⟩ := h
  have t1 : (nI n).toInt = n := nI_toInt (by omega)
  have t2 : (nI (n - 1)).toInt = (n - 1 : Nat) := nI_toInt (by omega)
  have t3 : (nI K0).toInt = K0 := nI_toInt (by omega)
  have t4 : (nI ((K0 + 23) % 24)).toInt = ((K0 + 23) % 24 : Nat) := nI_toInt (by omega)
  unfold pq_hi
  rw [t2, t4]
  rw [t1, t3] at hj
  simp only [Int.toNat_natCast] at hj ⊢
  refine ⟨by omega, by omega, ?_⟩
  have r : ∀ j, j ≤ n - 1 → ∀ i, i < 83 → pq_sn u acts (n - 1) j i = pq_sn now acts n (j + 1) i := by
    intro j hjn i hi
    unfold pq_sn
    rw [if_neg (show ¬ j + 1 = 0 by omega)]
    by_cases q : j = 0
    · subst q
      rw [if_pos rfl, hu i hi]
    · rw [if_neg q, show n - 1 - j = n - (j + 1) by omega]
  intro j hjn
  obtain ⟨a1, a2, a3, a4⟩ := hj (j + 1) (by omega)
  rw [show ((K0 + 23) % 24 + 24 - j) % 24 = (K0 + 24 - (j + 1)) % 24 by omega]
  refine ⟨pq_wf_cg (r j (by omega)) a1, pq_wf_cg (r (j + 1) (by omega)) a2, pq_av_cg (r j (by omega)) a3, fun i hi => ?_⟩
  rw [r (j + 1) (by omega) i hi, pq_un_cg (r j (by omega)) a1 a3 hi]
  exact a4 i hi
set_option maxHeartbeats 1000000 in
theorem sim_undo {xI : Nat → Int32} {xA : Nat → Nat → Int32} {xL : Nat → Nat → Int64} {aw : Nat → Nat → Int32} {mI : Nat → Int32} {mA : Nat → Nat → Int32} {mL : Nat → Int64} (hR : pq_R xI xA xL aw mI mA mL) : ∃ (zc : Int32 × Int32 × Int32 × Int32 × Int32 × (Nat → Int32) × (Nat → Int32) × (Nat → Int32) × (Nat → Int32) × (Nat → Int32) × (Nat → Int32) × (Nat → Int32)) (zm : Int32 × Int32 × (Nat → Int32)), f_X7_undo pq_N (xI 22) (xI 23) (xI 13) (xI 14) (xA 19) (xA 20) (xA 21) (xA 23) (xA 24) (xA 25) (xA 26) aw = some zc ∧ f_X8_undo pq_N (mI 12) (mA 6) (mA 11) = some zm ∧ zc.1 = zm.1 ∧ pq_R (va_up (va_up (va_up (va_up xI 22 zc.2.1) 23 zc.2.2.1) 13 zc.2.2.2.1) 14 zc.2.2.2.2.1) (va_up (va_up (va_up (va_up (va_up (va_up (va_up xA 19 zc.2.2.2.2.2.1) 20 zc.2.2.2.2.2.2.1) 21 zc.2.2.2.2.2.2.2.1) 23 zc.2.2.2.2.2.2.2.2.1) 24 zc.2.2.2.2.2.2.2.2.2.1) 25 zc.2.2.2.2.2.2.2.2.2.2.1) 26 zc.2.2.2.2.2.2.2.2.2.2.2) xL aw (va_up mI 12 zm.2.1) (va_up mA 6 zm.2.2) mL := by
  obtain ⟨⟨r0, r1, r2, r3, r4⟩, k2, k3, k4⟩ := pu_now hR
  obtain ⟨n, K0, hn, hK, e22, e23, e12, hh⟩ := pu_hist hR
  by_cases hz : n = 0
  · subst hz
    have same : pq_R (va_up (va_up (va_up (va_up xI 22 (xI 22)) 23 (xI 23)) 13 (xI 13)) 14 (xI 14)) (va_up (va_up (va_up (va_up (va_up (va_up (va_up xA 19 (xA 19)) 20 (xA 20)) 21 (xA 21)) 23 (xA 23)) 24 (xA 24)) 25 (xA 25)) 26 (xA 26)) xL aw (va_up mI 12 (mI 12)) (va_up mA 6 (mA 6)) mL := by
      simp only [pu_vid]; exact hR
    unfold f_X7_undo f_X8_undo
    rw [if_pos (show xI 22 = 0 from e22), if_pos (show mI 12 = 0 from e12)]
    exact ⟨_, _, rfl, rfl, rfl, same⟩
  · rw [e22, e23, e12, pu_undo7 (by omega) hn hK]
    obtain ⟨-, -, hj⟩ := id hh
    have t1 : (nI n).toInt = n := nI_toInt (by omega)
    have t3 : (nI K0).toInt = K0 := nI_toInt (by omega)
    rw [t1, t3] at hj
    simp only [Int.toNat_natCast] at hj
    obtain ⟨a1, a2, a3, a4⟩ := hj 0 (by omega)
    have a1 : pq_wf (mA 6) := a1
    rw [show (K0 + 24 - 0) % 24 = K0 by omega] at a3 a4
    have a3 : pq_av (fun f => aw f K0) (mA 6) := a3
    obtain ⟨P, J, C, X, S, hW⟩ := pn_W.of a1
    have hC := pn_C.of hW hR.now.1
    have eu : ∀ i, i < 83 → pn_br (mA 11) (mA 6) (83 * (n - 1)) 0 83 i = mA 11 (83 * (n - 1) + i) := by
      intro i hi
      unfold pn_br
      rw [if_pos (by omega), show i - 0 = i by omega]
    have es : ∀ i, i < 83 → pn_br (mA 11) (mA 6) (83 * (n - 1)) 0 83 i = pq_sn (mA 6) (mA 11) n 1 i := by
      intro i hi
      rw [eu i hi]
      rfl
    obtain ⟨z, ez, ef, hz'⟩ := pu_takeBack (N := pq_N) (u := pn_br (mA 11) (mA 6) (83 * (n - 1)) 0 83) hW hC a3 (fun i hi => by rw [es i hi]; exact a4 i hi)
    have hwu : pq_wf (pn_br (mA 11) (mA 6) (83 * (n - 1)) 0 83) := pq_wf_cg es a2
    obtain ⟨P', J', C', X', S', hW'⟩ := pn_W.of hwu
    obtain ⟨⟨p1', p2'⟩, ⟨j1, j2⟩, ⟨c1, c2⟩, x2, s2, ⟨eP, eJ, eC, eX, eS⟩, -⟩ := id hW
    have hW'' : pn_W (pn_br (mA 11) (mA 6) (83 * (n - 1)) 0 83) P J C X' S' := by
      obtain ⟨⟨p1'', p2''⟩, ⟨j1', j2'⟩, ⟨c1', c2'⟩, x2', s2', ⟨eP', eJ', eC', eX', eS'⟩, -⟩ := id hW'
      have g1 : P' = P := by
        rw [ef 2 (by omega), eP] at eP'
        exact ((nI_eq (by omega) (by omega)).mp eP').symm
      have g2 : J' = J := by
        rw [ef 3 (by omega), eJ] at eJ'
        exact ((nI_eq (by omega) (by omega)).mp eJ').symm
      have g3 : C' = C := by
        rw [ef 4 (by omega), eC] at eC'
        exact ((nI_eq (by omega) (by omega)).mp eC').symm
      rw [← g1, ← g2, ← g3]
      exact hW'
    have ez' : f_X0_takeBack pq_N (aw 0 K0) (aw 1 K0) (aw 2 K0) (aw 3 K0) (aw 4 K0) (aw 5 K0) (xI 13) (xI 14) (xA 19) (xA 20) (xA 21) (xA 23) (xA 24) (xA 25) (xA 26) = some z := ez
    rw [ez', pu_cs]
    have em : f_X8_undo pq_N (nI n) (mA 6) (mA 11) = some (nI (n - 1), nI (n - 1), pn_br (mA 11) (mA 6) (83 * (n - 1)) 0 83) := by
      unfold f_X8_undo
      rw [if_neg (by rw [pu_lit 0, nI_eq (by omega) (by omega)]; exact hz), pu_l, pu_lit 1, pk_sub (by omega), pu_lit 83, pk_mul]
      have e3 := pu_bring (N := pq_N) (n0 := 1992) (n2 := 83) (i := 83 * (n - 1)) (j := 0) (n := 83) (a := mA 11) (b := mA 6) (by omega) (by omega) (by omega) (by omega) (by have := pu_N2; omega)
      rw [nI_0] at e3
      rw [e3, pu_cs]
    refine ⟨_, _, rfl, em, rfl, ?_⟩
    dsimp only
    refine pq_kA hR ?_ ?_ ?_ ?_ ?_ ?_ ?_
    · intro k hk'; simp (disch := omega) only [pu_vo]
    · intro k hk'; simp (disch := omega) only [pu_vo]
    · simp (disch := omega) only [pu_vo]
    · intro k hk'; simp (disch := omega) only [pu_vo]
    · rw [pu_vs]
      exact pn_C.rc hW'' (hz' _ _ rfl rfl rfl rfl rfl rfl rfl rfl rfl rfl rfl rfl rfl rfl)
    · rw [pu_vs]
      exact hwu
    · refine ⟨rfl, ?_⟩
      exact pq_hi_pop (by omega) hn hK hh eu
