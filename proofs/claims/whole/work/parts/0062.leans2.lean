/-! ===== leans: both sides ===== -/
theorem pu_isFor {N j c : Nat} {s : Nat → Int32} {l : Int32} (hj : j < 6) (hc : c < 12) (hne : s (35 + c) ≠ s (47 + c)) : f_X8_isForBy N s (nI j) l (nI c) = some (if pn_plea s j c < l then 0 else 1) := by
  unfold f_X8_isForBy
  rw [pu_found hj hc, pu_cs]
  simp (disch := omega) only [pu_lit 35, nI_add, pu_gd, nI_clamp, pu_b1, pu_b0]
  unfold pn_f
  by_cases h : pn_plea s j c < l
  · rw [if_pos h, if_pos h, if_neg (fun e => hne e.symm)]
  · rw [if_neg h, if_neg h, if_pos rfl]
theorem pn_ok_cg {x y x' y' : Nat → Int64} {a b k : Nat} (h1 : x k = x' k) (h2 : y k = y' k) : pn_ok x y a b k = pn_ok x' y' a b k := by
  unfold pn_ok
  rw [h1, h2]
theorem pn_ok_nat {x y : Nat → Int64} {a b n : Nat} (h : pn_al (pn_ok x y a b) n = true) : ∃ c Y : Nat → Nat, ∀ k, k < n → ((x k).toInt = (c k : Int) ∧ c k < a) ∧ ((y k).toInt = (Y k : Int) ∧ Y k < b) := by
  refine ⟨fun k => (x k).toInt.toNat, fun k => (y k).toInt.toNat, fun k hk => ?_⟩
  have := (pn_al_iff _ n).mp h k hk
  unfold pn_ok at this
  have := of_decide_eq_true this
  dsimp only
  omega
set_option maxHeartbeats 2000000 in
theorem sim_leans {xI : Nat → Int32} {xA : Nat → Nat → Int32} {xL : Nat → Nat → Int64} {aw : Nat → Nat → Int32} {mI : Nat → Int32} {mA : Nat → Nat → Int32} {mL : Nat → Int64} (hR : pq_R xI xA xL aw mI mA mL) (p1 : Int32) (p2 : Int32) (p3 : Int32) (p4 : Int32) (p5 : Int32) (p6 : Int32) : ∃ (zc : Int32 × Int32 × (Nat → Int32) × (Nat → Int32)) (zm : Int32), f_X7_leans pq_N (xI 24) (xA 45) (xA 46) (xI 25) (xI 26) (xI 27) (xL 0) (xI 28) (xI 29) (xI 30) (xL 1) (xI 31) (xI 32) (xI 33) (xL 2) (xI 34) (xI 35) (xI 36) (xL 3) (xI 11) (xI 12) (xA 22) (xA 23) (xA 24) (xA 25) p1 p2 p3 p4 p5 p6 = some zc ∧ f_X8_leans pq_N (mA 0) (mA 1) mL (mA 6) p1 p2 p3 p4 p5 p6 = some zm ∧ zc.1 = zm ∧ pq_R (va_up xI 24 zc.2.1) (va_up (va_up xA 45 zc.2.2.1) 46 zc.2.2.2) xL aw mI mA mL := by
  obtain ⟨⟨r0, r1, r2, r3, r4⟩, k2, k3, k4⟩ := pu_now hR
  have hscr : ∀ (v : Int32) (f g : Nat → Int32), pq_R (va_up xI 24 v) (va_up (va_up xA 45 f) 46 g) xL aw mI mA mL := by
    intro v f g
    refine pq_kF hR ?_ ?_ ?_ ?_
    · intro k hk; simp (disch := omega) only [pu_vo]
    · intro k hk; simp (disch := omega) only [pu_vo]
    · intro k hk; rfl
    · intro k hk; rfl
  unfold f_X7_leans f_X8_leans
  have z0 : (0 : Int32).toInt = 0 := rfl
  have z1 : (1 : Int32).toInt = 1 := rfl
  have z10 : (10 : Int32).toInt = 10 := rfl
  simp only [r1, pu_hasJudge, pu_cs, pu_isJudge k3, pu_told, pu_fs, pu_sheet8, pu_in3]
  simp only [pu_in, pu_cs, z0, z1, z10]
  by_cases hj : 0 ≤ p1.toInt ∧ p1.toInt < (mA 6 3).toInt
  · rw [pu_f1 hj, pu_f1 hj]
    by_cases hs : 0 ≤ p2.toInt ∧ p2.toInt < 4
    · rw [pu_f1 hs]
      by_cases hl : 0 ≤ p3.toInt ∧ p3.toInt < 4
      · rw [pu_f1 hl]
        by_cases hn : 1 ≤ p5.toInt ∧ p5.toInt ≤ 10
        · rw [pu_f1 hn, pu_f1 (c := (0 ≤ p2.toInt ∧ p2.toInt < 4) ∧ (0 ≤ p3.toInt ∧ p3.toInt < 4) ∧ 1 ≤ p5.toInt ∧ p5.toInt ≤ 10) ⟨hs, hl, hn⟩]
          by_cases hw6 : 0 ≤ p6.toInt ∧ p6.toInt ≤ 1
          · rw [pu_f1 hw6, pu_f1 hw6]
            obtain ⟨P, J, C, X, S, hW, hC⟩ := pu_there hR (k := 3) (by omega) hj
            obtain ⟨⟨p1', p2'⟩, ⟨j1, j2⟩, ⟨c1, c2⟩, x2, s2, ⟨eP, eJ, eC, eX, eS⟩, -, -, -, -, hab, -⟩ := id hW
            obtain ⟨-, h0, h1, h2, h3, h4, h5, h6, h7, h8⟩ := id hC
            rw [eJ, nI_toInt (by omega)] at hj
            obtain ⟨j, hj, ej⟩ := pu_of hj.1 hj.2
            obtain ⟨k, hk, ek⟩ := pu_k4 hs
            obtain ⟨n, hn10, en⟩ := pu_le (n := 10) (x := p5) (by omega) (by omega)
            obtain ⟨r, e1, e2, hr⟩ := pu_refuse (N := pq_N) (p2 := p3) (p3 := p4) (p4 := (2 : Int32) * p5) hk (hR.shs k hk)
            have hne : ∀ c, c < C → mA 6 (35 + c) ≠ mA 6 (47 + c) := by
              intro c hc e
              obtain ⟨a, b, ha, hb, hab', ea, eb⟩ := hab c hc
              rw [ea, eb] at e
              exact hab' ((nI_eq (by omega) (by omega)).mp e)
            have hplea : ∀ c, c < C → f_X1_pleaBefore pq_N (xA 22) (xA 23) (xA 24) (xA 25) (nI j) (nI c) = some (pn_plea (mA 6) j c) := fun c hc => (pu_win (a3 := xA 21) (s := mA 6) (by omega) (by omega) (h3 j hj) (h4 j hj) (h5 c hc) (h6 c hc) (h7 c hc)).1
            have hfor : ∀ c, c < C → ∀ v, v ≤ 9 → f_X8_isForBy pq_N (mA 6) (nI j) (nI v) (nI c) = some (if pn_plea (mA 6) j c < nI v then 0 else 1) := fun c hc v _ => pu_isFor (by omega) (by omega) (hne c hc)
            have hNN : 20 < pq_N := by have := pu_N2; omega
            rw [ek, e2, pu_gd hk (by omega)]
            have key : ∃ zc zm, (pq_c (f_X5_refusal pq_N (xI (25 + 3 * k)) (xI (26 + 3 * k)) (xI (27 + 3 * k)) p3 p4 ((2 : Int32) * p5)) (fun r_5 => (if r_5 = 0 then pq_c (f_X2_take pq_N (xI 24) (xA 45) (xA 46) (xL k) p4 p5 (xI 12) 2) (fun r_6 => (if r_6.1 = 0 then some ((-2 : Int32), r_6.2.1, r_6.2.2.1, r_6.2.2.2) else pq_c (f_X2_leansOf pq_N r_6.2.1 r_6.2.2.1 r_6.2.2.2 (xA 22) (xA 23) (xA 24) (xA 25) p1) (fun r_7 => (if p6 = 0 then some (r_7, r_6.2.1, r_6.2.2.1, r_6.2.2.2) else pq_c (f_X2_caseToTry pq_N (xI 12) (xA 22) (xA 23) (xA 24) (xA 25) p1 r_7) (fun r_8 => some (r_8, r_6.2.1, r_6.2.2.1, r_6.2.2.2)))))) else some (r_5, xI 24, xA 45, xA 46)))) = some zc ∧ (if r = 0 then pq_gd 4 83 (pq_c (f_X8_areBelow pq_N mL (((24 : Int32) * nI k) + p4) p5 (mA 6 (4 : Int32).toNatClampNeg) 2) (fun r_7 => (if r_7 = 0 then some ((-2 : Int32)) else pq_c (f_X8_leansBy pq_N mL (mA 6) p1 (((24 : Int32) * nI k) + p4) p5) (fun r_8 => (if p6 = 0 then some (r_8) else pq_c (f_X8_bestCase pq_N (mA 6) p1 r_8) (fun r_9 => some (r_9))))))) else some r) = some zm ∧ zc.1 = zm ∧ pq_R (va_up xI 24 zc.2.1) (va_up (va_up xA 45 zc.2.2.1) 46 zc.2.2.2) xL aw mI mA mL := by
              rw [e1, pu_cs]
              by_cases hr0 : r = 0
              · obtain ⟨a1, a2, a3, i, n2, Z, ei, en2, hin, hZ, eZ, -⟩ := hr hr0
                have hn2 : n2 = 2 * n := by
                  rw [en, pu_lit 2, pk_mul] at en2
                  exact ((nI_eq (by omega) (by omega)).mp en2).symm
                subst hn2
                rw [if_pos hr0, if_pos hr0, pq_gd_i (by decide), show (4 : Int32).toNatClampNeg = 4 from rfl, r2, eC, ei, en, ej]
                have sk : ∀ q, q < 24 → xL k q = mL (24 * k + q) := by
                  rcases hR.shs k hk with ⟨c1, -⟩ | ⟨-, -, -, -, -, c6⟩
                  · rw [c1] at a1
                    exact absurd a1 (by decide)
                  · exact c6
                obtain ⟨f', s', et, hfs⟩ := pu_take (N := pq_N) (z := xI 24) (f := xA 45) (s := xA 46) (it := xL k) (i := i) (n := n) (a := C) (b := 2) hNN hn10 (by omega) (by omega) (by omega)
                have eb := pu_below (N := pq_N) (it := mL) (o := 24 * k + i) (n := n) (a := C) (b := 2) hNN hn10 (by omega) (by omega) (by omega)
                have eok : pn_al (pn_ok (fun q => mL (24 * k + i + 2 * q)) (fun q => mL (24 * k + i + 2 * q + 1)) C 2) n = pn_al (pn_ok (fun q => xL k (i + 2 * q)) (fun q => xL k (i + 2 * q + 1)) C 2) n := by
                  apply pn_al_cg
                  intro q hq
                  apply pn_ok_cg
                  · rw [sk _ (by omega), show 24 * k + (i + 2 * q) = 24 * k + i + 2 * q by omega]
                  · rw [sk _ (by omega), show 24 * k + (i + 2 * q + 1) = 24 * k + i + 2 * q + 1 by omega]
                rw [eok] at eb
                have et' : f_X2_take pq_N (xI 24) (xA 45) (xA 46) (xL k) (nI i) (nI n) (nI C) 2 = _ := et
                have eb' : f_X8_areBelow pq_N mL (nI (24 * k + i)) (nI n) (nI C) 2 = _ := eb
                rw [et', pu_cs, pu_lit 24, pk_mul, nI_add, eb', pu_cs]
                cases hok : pn_al (pn_ok (fun q => xL k (i + 2 * q)) (fun q => xL k (i + 2 * q + 1)) C 2) n
                · rw [if_pos (show pn_i false = 0 from rfl), if_pos (show pn_i false = 0 from rfl)]
                  exact ⟨_, _, rfl, rfl, rfl, hscr _ _ _⟩
                · rw [if_neg (show ¬ pn_i true = 0 by decide), if_neg (show ¬ pn_i true = 0 by decide)]
                  obtain ⟨cc, Y, hcy⟩ := pn_ok_nat hok
                  have hfs := hfs hok
                  have l1 : f_X2_leansOf pq_N (nI n) f' s' (xA 22) (xA 23) (xA 24) (xA 25) (nI j) = some (nI (pn_bm (fun v => pn_al (pn_P (fun q => pn_plea (mA 6) j (cc q)) Y v) n) 10)) := by
                    unfold f_X2_leansOf
                    refine pu_lo (pl := fun q => pn_plea (mA 6) j (cc q)) (Y := Y) hNN hn10 ?_ ?_ 10 0 pq_N (by omega) (by omega)
                    · intro q hq
                      rw [(hfs q hq).1, pu_l32 (hcy q hq).1.1 (by have := (hcy q hq).1.2; omega)]
                      exact hplea _ (hcy q hq).1.2
                    · intro q hq
                      exact ⟨by rw [(hfs q hq).2, pu_l32 (hcy q hq).2.1 (by have := (hcy q hq).2.2; omega)], (hcy q hq).2.2⟩
                  have l2 : f_X8_leansBy pq_N mL (mA 6) (nI j) (nI (24 * k + i)) (nI n) = some (nI (pn_bm (fun v => pn_al (pn_P (fun q => pn_plea (mA 6) j (cc q)) Y v) n) 10)) := by
                    unfold f_X8_leansBy
                    refine pu_lb (pl := fun q => pn_plea (mA 6) j (cc q)) (Y := Y) hNN hn10 (by omega) ?_ ?_ 10 0 pq_N (by omega) (by omega)
                    · intro v hv q hq
                      rw [show 24 * k + i + 2 * q = 24 * k + (i + 2 * q) by omega, ← sk _ (by omega), pu_l32 (hcy q hq).1.1 (by have := (hcy q hq).1.2; omega)]
                      exact hfor _ (hcy q hq).1.2 v hv
                    · intro q hq
                      rw [show 24 * k + i + 2 * q + 1 = 24 * k + (i + 2 * q + 1) by omega, ← sk _ (by omega)]
                      exact (hcy q hq).2
                  dsimp only
                  rw [l1, l2, pu_cs, pu_cs]
                  by_cases h60 : p6 = 0
                  · rw [if_pos h60, if_pos h60]
                    exact ⟨_, _, rfl, rfl, rfl, hscr _ _ _⟩
                  · rw [if_neg h60, if_neg h60]
                    obtain ⟨z, t1, t2⟩ := pu_try (q := fun v => pn_al (pn_P (fun q => pn_plea (mA 6) j (cc q)) Y v) n) hNN ⟨c1, c2⟩ eC hplea hfor
                    rw [t1, t2, pu_cs, pu_cs]
                    exact ⟨_, _, rfl, rfl, rfl, hscr _ _ _⟩
              · rw [if_neg hr0, if_neg hr0]
                exact ⟨_, _, rfl, rfl, rfl, hscr _ _ _⟩
            rcases (show k = 0 ∨ k = 1 ∨ k = 2 ∨ k = 3 by omega) with rfl | rfl | rfl | rfl
            · rw [if_pos (show nI 0 = 0 from rfl)]
              exact key
            · rw [if_neg (show ¬ nI 1 = 0 by decide), if_pos (show nI 1 = 1 from rfl)]
              exact key
            · rw [if_neg (show ¬ nI 2 = 0 by decide), if_neg (show ¬ nI 2 = 1 by decide), if_pos (show nI 2 = 2 from rfl)]
              exact key
            · rw [if_neg (show ¬ nI 3 = 0 by decide), if_neg (show ¬ nI 3 = 1 by decide), if_neg (show ¬ nI 3 = 2 by decide), if_pos (show nI 3 = 3 from rfl)]
              exact key
          · rw [pu_f0 hw6, pu_f0 hw6]
            exact ⟨_, _, rfl, rfl, rfl, hscr _ _ _⟩
        · rw [pu_f0 hn, pu_f0 (c := (0 ≤ p2.toInt ∧ p2.toInt < 4) ∧ (0 ≤ p3.toInt ∧ p3.toInt < 4) ∧ 1 ≤ p5.toInt ∧ p5.toInt ≤ 10) (fun h => hn h.2.2)]
          exact ⟨_, _, rfl, rfl, rfl, hscr _ _ _⟩
      · rw [pu_f0 hl, pu_f0 (c := (0 ≤ p2.toInt ∧ p2.toInt < 4) ∧ (0 ≤ p3.toInt ∧ p3.toInt < 4) ∧ 1 ≤ p5.toInt ∧ p5.toInt ≤ 10) (fun h => hl h.2.1)]
        exact ⟨_, _, rfl, rfl, rfl, hscr _ _ _⟩
    · rw [pu_f0 hs, pu_f0 (c := (0 ≤ p2.toInt ∧ p2.toInt < 4) ∧ (0 ≤ p3.toInt ∧ p3.toInt < 4) ∧ 1 ≤ p5.toInt ∧ p5.toInt ≤ 10) (fun h => hs h.1)]
      exact ⟨_, _, rfl, rfl, rfl, hscr _ _ _⟩
  · rw [pu_f0 hj, pu_f0 hj]
    exact ⟨_, _, rfl, rfl, rfl, hscr _ _ _⟩
