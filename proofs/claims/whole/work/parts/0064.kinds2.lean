/-! ===== kinds: both sides ===== -/
set_option maxHeartbeats 2000000 in
theorem sim_kinds {xI : Nat → Int32} {xA : Nat → Nat → Int32} {xL : Nat → Nat → Int64} {aw : Nat → Nat → Int32} {mI : Nat → Int32} {mA : Nat → Nat → Int32} {mL : Nat → Int64} (hR : pq_R xI xA xL aw mI mA mL) (p1 : Int32) (p2 : Int32) (p3 : Int32) (p4 : Int32) (p5 : Int32) (p6 : Int32) : ∃ (zc : Int32 × Int32 × (Nat → Int32) × (Nat → Int32) × (Nat → Int32)) (zm : Int32), f_X7_kinds pq_N (xI 24) (xA 45) (xA 46) (xA 47) (xI 25) (xI 26) (xI 27) (xL 0) (xI 28) (xI 29) (xI 30) (xL 1) (xI 31) (xI 32) (xI 33) (xL 2) (xI 34) (xI 35) (xI 36) (xL 3) (xI 10) (xI 11) (xA 21) (xA 22) p1 p2 p3 p4 p5 p6 = some zc ∧ f_X8_kinds pq_N (mA 0) (mA 1) mL (mA 6) p1 p2 p3 p4 p5 p6 = some zm ∧ zc.1 = zm ∧ pq_R (va_up xI 24 zc.2.1) (va_up (va_up (va_up xA 45 zc.2.2.1) 46 zc.2.2.2.1) 47 zc.2.2.2.2) xL aw mI mA mL := by
  obtain ⟨⟨r0, r1, r2, r3, r4⟩, k2, k3, k4⟩ := pu_now hR
  have hscr : ∀ (v : Int32) (f g h : Nat → Int32), pq_R (va_up xI 24 v) (va_up (va_up (va_up xA 45 f) 46 g) 47 h) xL aw mI mA mL := by
    intro v f g h
    refine pq_kF hR ?_ ?_ ?_ ?_
    · intro k hk; simp (disch := omega) only [pu_vo]
    · intro k hk; simp (disch := omega) only [pu_vo]
    · intro k hk; rfl
    · intro k hk; rfl
  unfold f_X7_kinds f_X8_kinds
  have z0 : (0 : Int32).toInt = 0 := rfl
  have z1 : (1 : Int32).toInt = 1 := rfl
  have z10 : (10 : Int32).toInt = 10 := rfl
  simp only [r0, pu_hasParty, pu_cs, pu_isParty k2, pu_told, pu_fs, pu_sheet8, pu_in3]
  simp only [pu_in, pu_cs, z0, z1, z10]
  by_cases hj : 0 ≤ p1.toInt ∧ p1.toInt < (mA 6 2).toInt
  · rw [pu_f1 hj, pu_f1 hj]
    by_cases hs : 0 ≤ p2.toInt ∧ p2.toInt < 4
    · rw [pu_f1 hs]
      by_cases hl : 0 ≤ p3.toInt ∧ p3.toInt < 4
      · rw [pu_f1 hl]
        by_cases hn : 1 ≤ p5.toInt ∧ p5.toInt ≤ 10
        · rw [pu_f1 hn, pu_f1 (c := (0 ≤ p2.toInt ∧ p2.toInt < 4) ∧ (0 ≤ p3.toInt ∧ p3.toInt < 4) ∧ 1 ≤ p5.toInt ∧ p5.toInt ≤ 10) ⟨hs, hl, hn⟩]
          by_cases hw6 : 0 ≤ p6.toInt ∧ p6.toInt ≤ 1
          · rw [pu_f1 hw6, pu_f1 hw6]
            obtain ⟨P, J, C, X, S, hW, hC⟩ := pu_there hR (k := 2) (by omega) hj
            obtain ⟨⟨p1', p2'⟩, ⟨j1, j2⟩, ⟨c1, c2⟩, x2, s2, ⟨eP, eJ, eC, eX, eS⟩, -, -, -, -, hab, -⟩ := id hW
            obtain ⟨-, h0, h1, h2, h3, h4, h5, h6, h7, h8⟩ := id hC
            rw [eP, nI_toInt (by omega)] at hj
            obtain ⟨j, hj, ej⟩ := pu_of hj.1 hj.2
            obtain ⟨k, hk, ek⟩ := pu_k4 hs
            obtain ⟨n, hn10, en⟩ := pu_le (n := 10) (x := p5) (by omega) (by omega)
            obtain ⟨r, e1, e2, hr⟩ := pu_refuse (N := pq_N) (p2 := p3) (p3 := p4) (p4 := (2 : Int32) * p5) hk (hR.shs k hk)
            have hnm : ∀ v c, ∃ q, q < J ∧ (c < J → pn_nm (mA 6) (nI j) (nI v) c = nI q) := by
              intro v c
              by_cases hc : c < J
              · obtain ⟨q, hq, eq⟩ := pn_nm_lt (s := mA 6) (p := nI j) (k := nI v) (j := c) eJ j1 j2 hc
                exact ⟨q, hq, fun _ => eq⟩
              · exact ⟨0, by omega, fun h => absurd h hc⟩
            obtain ⟨nm, hnm⟩ : ∃ nm : Nat → Nat → Nat, ∀ v c, nm v c < J ∧ (c < J → pn_nm (mA 6) (nI j) (nI v) c = nI (nm v c)) := ⟨fun v c => Classical.choose (hnm v c), fun v c => Classical.choose_spec (hnm v c)⟩
            have hNN : 20 < pq_N := by have := pu_N2; omega
            have hcl : ∀ v c, c < J → f_X1_namedAs pq_N (nI J) (xA 21) (xA 22) (nI j) (nI v) (nI c) = some (nI (nm v c)) := fun v c hc => by
              rw [pu_named1 (s := mA 6) pu_N eJ j1 j2 hc h3 h4, (hnm v c).2 hc]
            have hmo : ∀ v c, c < J → f_X8_namedBy pq_N (mA 6) (nI j) (nI v) (nI c) = some (nI (nm v c)) := fun v c hc => by
              rw [pu_named8 (s := mA 6) pu_N eJ j1 j2 hc, (hnm v c).2 hc]
            rw [ek, e2, pu_gd hk (by omega)]
            have key : ∃ zc zm, (pq_c (f_X5_refusal pq_N (xI (25 + 3 * k)) (xI (26 + 3 * k)) (xI (27 + 3 * k)) p3 p4 ((2 : Int32) * p5)) (fun r_5 => (if r_5 = 0 then pq_c (f_X2_take pq_N (xI 24) (xA 45) (xA 46) (xL k) p4 p5 (xI 11) (xI 11)) (fun r_6 => (if r_6.1 = 0 then some ((-2 : Int32), r_6.2.1, r_6.2.2.1, r_6.2.2.2, xA 47) else pq_c (f_X2_kindsOf pq_N r_6.2.1 r_6.2.2.1 r_6.2.2.2 (xI 11) (xA 21) (xA 22) p1) (fun r_7 => (if p6 = 0 then some (r_7, r_6.2.1, r_6.2.2.1, r_6.2.2.2, xA 47) else pq_c (f_X2_judgeToTry pq_N (xA 47) (xI 11) (xA 21) (xA 22) p1 r_7) (fun r_8 => some (r_8.1, r_6.2.1, r_6.2.2.1, r_6.2.2.2, r_8.2)))))) else some (r_5, xI 24, xA 45, xA 46, xA 47)))) = some zc ∧ (if r = 0 then pq_gd 3 83 (pq_gd 3 83 (pq_c (f_X8_areBelow pq_N mL (((24 : Int32) * nI k) + p4) p5 (mA 6 (3 : Int32).toNatClampNeg) (mA 6 (3 : Int32).toNatClampNeg)) (fun r_7 => (if r_7 = 0 then some ((-2 : Int32)) else pq_c (f_X8_kindsBy pq_N mL (mA 6) p1 (((24 : Int32) * nI k) + p4) p5) (fun r_8 => (if p6 = 0 then some (r_8) else pq_c (f_X8_bestJudge pq_N (mA 6) p1 r_8) (fun r_9 => some (r_9)))))))) else some r) = some zm ∧ zc.1 = zm ∧ pq_R (va_up xI 24 zc.2.1) (va_up (va_up (va_up xA 45 zc.2.2.1) 46 zc.2.2.2.1) 47 zc.2.2.2.2) xL aw mI mA mL := by
              rw [e1, pu_cs]
              by_cases hr0 : r = 0
              · obtain ⟨a1, a2, a3, i, n2, Z, ei, en2, hin, hZ, eZ, -⟩ := hr hr0
                have hn2 : n2 = 2 * n := by
                  rw [en, pu_lit 2, pk_mul] at en2
                  exact ((nI_eq (by omega) (by omega)).mp en2).symm
                subst hn2
                rw [if_pos hr0, if_pos hr0, r1, pq_gd_i (i := 3) (by decide), pq_gd_i (i := 3) (by decide), show (3 : Int32).toNatClampNeg = 3 from rfl, eJ, ei, en, ej]
                have sk : ∀ q, q < 24 → xL k q = mL (24 * k + q) := by
                  rcases hR.shs k hk with ⟨c1, -⟩ | ⟨-, -, -, -, -, c6⟩
                  · rw [c1] at a1
                    exact absurd a1 (by decide)
                  · exact c6
                obtain ⟨f', s', et, hfs⟩ := pu_take (N := pq_N) (z := xI 24) (f := xA 45) (s := xA 46) (it := xL k) (i := i) (n := n) (a := J) (b := J) hNN hn10 (by omega) (by omega) (by omega)
                have eb := pu_below (N := pq_N) (it := mL) (o := 24 * k + i) (n := n) (a := J) (b := J) hNN hn10 (by omega) (by omega) (by omega)
                have eok : pn_al (pn_ok (fun q => mL (24 * k + i + 2 * q)) (fun q => mL (24 * k + i + 2 * q + 1)) J J) n = pn_al (pn_ok (fun q => xL k (i + 2 * q)) (fun q => xL k (i + 2 * q + 1)) J J) n := by
                  apply pn_al_cg
                  intro q hq
                  apply pn_ok_cg
                  · rw [sk _ (by omega), show 24 * k + (i + 2 * q) = 24 * k + i + 2 * q by omega]
                  · rw [sk _ (by omega), show 24 * k + (i + 2 * q + 1) = 24 * k + i + 2 * q + 1 by omega]
                rw [eok] at eb
                have et' : f_X2_take pq_N (xI 24) (xA 45) (xA 46) (xL k) (nI i) (nI n) (nI J) (nI J) = _ := et
                have eb' : f_X8_areBelow pq_N mL (nI (24 * k + i)) (nI n) (nI J) (nI J) = _ := eb
                rw [et', pu_cs, pu_lit 24, pk_mul, nI_add, eb', pu_cs]
                cases hok : pn_al (pn_ok (fun q => xL k (i + 2 * q)) (fun q => xL k (i + 2 * q + 1)) J J) n
                · rw [if_pos (show pn_i false = 0 from rfl), if_pos (show pn_i false = 0 from rfl)]
                  exact ⟨_, _, rfl, rfl, rfl, hscr _ _ _ _⟩
                · rw [if_neg (show ¬ pn_i true = 0 by decide), if_neg (show ¬ pn_i true = 0 by decide)]
                  obtain ⟨cc, Y, hcy⟩ := pn_ok_nat hok
                  have hfs := hfs hok
                  have l1 : f_X2_kindsOf pq_N (nI n) f' s' (nI J) (xA 21) (xA 22) (nI j) = some (nI (pn_bm (pn_K nm cc Y n) 6)) := by
                    unfold f_X2_kindsOf
                    refine pu_ko (nm := nm) (c := cc) (Y := Y) hNN hn10 ?_ ?_ 5 1 pq_N (by omega) (by omega) (by omega)
                    · intro v hv1 hv2 q hq
                      rw [(hfs q hq).1, pu_l32 (hcy q hq).1.1 (by have := (hcy q hq).1.2; omega)]
                      exact ⟨hcl v _ (hcy q hq).1.2, by have := (hnm v (cc q)).1; omega⟩
                    · intro q hq
                      exact ⟨by rw [(hfs q hq).2, pu_l32 (hcy q hq).2.1 (by have := (hcy q hq).2.2; omega)], by have := (hcy q hq).2.2; omega⟩
                  have l2 : f_X8_kindsBy pq_N mL (mA 6) (nI j) (nI (24 * k + i)) (nI n) = some (nI (pn_bm (pn_K nm cc Y n) 6)) := by
                    unfold f_X8_kindsBy
                    refine pu_kb (nm := nm) (c := cc) (Y := Y) hNN hn10 (by omega) ?_ ?_ 5 1 pq_N (by omega) (by omega) (by omega)
                    · intro v hv1 hv2 q hq
                      rw [show 24 * k + i + 2 * q = 24 * k + (i + 2 * q) by omega, ← sk _ (by omega), pu_l32 (hcy q hq).1.1 (by have := (hcy q hq).1.2; omega)]
                      exact ⟨hmo v _ (hcy q hq).1.2, by have := (hnm v (cc q)).1; omega⟩
                    · intro q hq
                      rw [show 24 * k + i + 2 * q + 1 = 24 * k + (i + 2 * q + 1) by omega, ← sk _ (by omega)]
                      exact ⟨(hcy q hq).2.1, by have := (hcy q hq).2.2; omega⟩
                  dsimp only
                  rw [l1, l2, pu_cs, pu_cs]
                  by_cases h60 : p6 = 0
                  · rw [if_pos h60, if_pos h60]
                    exact ⟨_, _, rfl, rfl, rfl, hscr _ _ _ _⟩
                  · rw [if_neg h60, if_neg h60]
                    obtain ⟨z, al', t1, t2⟩ := pu_tryj (N := pq_N) (s := mA 6) (a3 := xA 21) (a4 := xA 22) (al := xA 47) (p := nI j) (q := pn_K nm cc Y n) (nm := nm) hNN ⟨j1, j2⟩ eJ rfl (fun v _ _ c hc => ⟨hcl v c hc, hmo v c hc, (hnm v c).1⟩)
                    rw [t1, t2, pu_cs, pu_cs]
                    exact ⟨_, _, rfl, rfl, rfl, hscr _ _ _ _⟩
              · rw [if_neg hr0, if_neg hr0]
                exact ⟨_, _, rfl, rfl, rfl, hscr _ _ _ _⟩
            rcases (show k = 0 ∨ k = 1 ∨ k = 2 ∨ k = 3 by omega) with rfl | rfl | rfl | rfl
            · rw [if_pos (show nI 0 = 0 from rfl)]
              exact key
            · rw [if_neg (show ¬ nI 1 = 0 by decide), if_pos (show nI 1 = 1 from rfl)]
              exact key
            · rw [if_neg (show ¬ nI 2 = 0 by decide), if_neg (show ¬ nI 2 = 1 by decide), if_pos (show nI 2 = 2 from rfl)]
              exact key
            · rw [if_neg (show ¬ nI 3 = 0 by decide), if_neg (show ¬ nI 3 = 1 by decide), if_neg (show ¬ nI 3 = 2 by decide), if_pos (show nI 3 = 3 from rfl)]
              exact key
          · rw [pu_f0 hw6, pu_f0 hw6]
            exact ⟨_, _, rfl, rfl, rfl, hscr _ _ _ _⟩
        · rw [pu_f0 hn, pu_f0 (c := (0 ≤ p2.toInt ∧ p2.toInt < 4) ∧ (0 ≤ p3.toInt ∧ p3.toInt < 4) ∧ 1 ≤ p5.toInt ∧ p5.toInt ≤ 10) (fun h => hn h.2.2)]
          exact ⟨_, _, rfl, rfl, rfl, hscr _ _ _ _⟩
      · rw [pu_f0 hl, pu_f0 (c := (0 ≤ p2.toInt ∧ p2.toInt < 4) ∧ (0 ≤ p3.toInt ∧ p3.toInt < 4) ∧ 1 ≤ p5.toInt ∧ p5.toInt ≤ 10) (fun h => hl h.2.1)]
        exact ⟨_, _, rfl, rfl, rfl, hscr _ _ _ _⟩
    · rw [pu_f0 hs, pu_f0 (c := (0 ≤ p2.toInt ∧ p2.toInt < 4) ∧ (0 ≤ p3.toInt ∧ p3.toInt < 4) ∧ 1 ≤ p5.toInt ∧ p5.toInt ≤ 10) (fun h => hs h.1)]
      exact ⟨_, _, rfl, rfl, rfl, hscr _ _ _ _⟩
  · rw [pu_f0 hj, pu_f0 hj]
    exact ⟨_, _, rfl, rfl, rfl, hscr _ _ _ _⟩
