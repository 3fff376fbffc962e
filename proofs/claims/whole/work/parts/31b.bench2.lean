/-! the class' side of the bench -/
def pb_C (g : Nat → Nat → Int32) (P J : Nat) (k : Nat → Nat) (h : Nat → Option Nat) (jo ak po : Nat → Int32) : Prop :=
  (∀ p, p < P → ak p = nI (pn_bm (pb_Q (g p) J (k p)) J)) ∧ (∀ j, j < J → po j = pn_e (h j)) ∧ (∀ p, p < P → ((∃ j, j < J ∧ h j = some p ∧ jo p = nI j) ∨ ((∀ j, j < J → h j ≠ some p) ∧ jo p = -4)))
theorem pb_ask {N : Nat} {x : Nat → Int32} {a : Nat → Nat → Int32} {s : Nat → Int32} {P J C X S p : Nat} {k : Nat → Nat} {h : Nat → Option Nat} {jo ak po : Nat → Int32} (hN : 10 < N) (hV : pn_V s P J C X S) (hC : pn_C x a s P J C) (hI : pb_I (pb_g s) (pb_bf s) P J k h) (hR : pb_C (pb_g s) P J k h jo ak po) (hp : p < P) (hf : ∀ j, j < J → h j ≠ some p) (hk : k p < J) :
    ∃ jo' ak' po', f_X3_ask N jo ak po (nI J) (a 0) (a 1) (a 3) (a 4) (nI p) = some (jo', ak', po') ∧ pb_C (pb_g s) P J (pb_k k p) (pb_h (pb_bf s) h p (pb_a (pb_g s p) J (k p))) jo' ak' po' := by
  obtain ⟨b0, b1, b2, b3⟩ := pb_at (g := pb_g s p) (J := J) (i := k p) hk
  obtain ⟨b, eb⟩ : ∃ b, pb_a (pb_g s p) J (k p) = b := ⟨_, rfl⟩
  rw [eb] at b0 b1 b2 ⊢
  obtain ⟨⟨p1, p2⟩, ⟨j1, j2⟩, -, -, -, -, -⟩ := id hV
  obtain ⟨-, h0, h1, h2, h3, h4, -⟩ := id hC
  obtain ⟨c1, c2, c3⟩ := hR
  have el : f_X1_likedBest N (nI J) (a 3) (a 4) (nI p) (a 0 p) (ak p) = some (nI b) := by
    rw [h0 p hp, c1 p hp, pu_liked1 (s := s) hN j2 h3 h4, pn_b_cong (ok' := fun j => !pb_Q (pb_g s p) J (k p) j) (fun i hi => pb_ok j2 hi)]
    show some (pn_e (pn_b (pb_g s p) (fun j => !pb_Q (pb_g s p) J (k p) j) J)) = some (nI b)
    rw [b0]
    rfl
  have hA : ∀ q, q < P → upd ak p (ak p ||| ((1 : Int32) <<< (nI b &&& 31))) q = nI (pn_bm (pb_Q (pb_g s q) J (pb_k k p q)) J) := by
    intro q hq
    by_cases c : q = p
    · rw [c, pu_us, pb_kp, c1 p hp]
      exact (pb_mask b1 j2 (fun j => by rw [b3 j, eb])).symm
    · rw [pu_un c, pb_ko c, c1 q hq]
  unfold f_X3_ask
  simp (disch := omega) only [pu_gd, nI_clamp, pu_l, pu_j, el, pu_cs]
  have hb4 : ¬ nI b = (-4 : Int32) := pu_ne4 (by omega)
  simp only [hb4, if_false]
  cases hh : h b with
  | none =>
    have ep : po b = -4 := by rw [c2 b b1, hh]; rfl
    simp only [ep, if_true]
    refine ⟨_, _, _, rfl, hA, fun j hj => ?_, fun q hq => ?_⟩
    · by_cases c : j = b
      · rw [c, pu_us, pb_h0 hh]; rfl
      · rw [pu_un c, pb_ho c]; exact c2 j hj
    · by_cases c : q = p
      · rw [c]
        exact Or.inl ⟨b, b1, pb_h0 hh, pu_us⟩
      · rw [pu_un c]
        rcases c3 q hq with ⟨j, hj, e1, e2⟩ | ⟨e1, e2⟩
        · have hjb : j ≠ b := fun e => by rw [e, hh] at e1; cases e1
          exact Or.inl ⟨j, hj, by rw [pb_ho hjb]; exact e1, e2⟩
        · refine Or.inr ⟨fun j hj => ?_, e2⟩
          by_cases d : j = b
          · rw [d, pb_h0 hh]
            exact fun e => c (Option.some.inj e).symm
          · rw [pb_ho d]; exact e1 j hj
  | some r =>
    obtain ⟨r1, r2, r3, r4⟩ := hI.2.2 b r b1 hh
    have hrp : r ≠ p := fun c => hf b b1 (by rw [hh, c])
    have ep : po b = nI r := by rw [c2 b b1, hh]; rfl
    have hr4 : ¬ nI r = (-4 : Int32) := pu_ne4 (by omega)
    simp (disch := omega) only [ep, hr4, if_false, pb_more hV hC hp r1, pu_cs, pu_gd, nI_clamp]
    by_cases hb : pb_bf (s := s) p r = true
    · rw [pu_f1 hb]
      refine ⟨_, _, _, rfl, hA, fun j hj => ?_, fun q hq => ?_⟩
      · by_cases c : j = b
        · rw [c, pu_us, pb_h1 hh hb]; rfl
        · rw [pu_un c, pb_ho c]; exact c2 j hj
      · by_cases c : q = p
        · rw [c]
          exact Or.inl ⟨b, b1, pb_h1 hh hb, pu_us⟩
        · rw [pu_un c]
          by_cases d : q = r
          · rw [d, pu_us]
            refine Or.inr ⟨fun j hj => ?_, rfl⟩
            by_cases e : j = b
            · rw [e, pb_h1 hh hb]
              exact fun e => hrp (Option.some.inj e).symm
            · rw [pb_ho e]
              exact fun e2 => e (pb_uq hI hj b1 e2 hh)
          · rw [pu_un d]
            rcases c3 q hq with ⟨j, hj, e1, e2⟩ | ⟨e1, e2⟩
            · have hjb : j ≠ b := fun e => by rw [e, hh] at e1; exact d (Option.some.inj e1).symm
              exact Or.inl ⟨j, hj, by rw [pb_ho hjb]; exact e1, e2⟩
            · refine Or.inr ⟨fun j hj => ?_, e2⟩
              by_cases e : j = b
              · rw [e, pb_h1 hh hb]
                exact fun e => c (Option.some.inj e).symm
              · rw [pb_ho e]; exact e1 j hj
    · rw [pu_f0 hb]
      have hs : ∀ j, pb_h (pb_bf s) h p b j = h j := by
        intro j
        by_cases c : j = b
        · rw [c, pb_h2 hh hb, hh]
        · rw [pb_ho c]
      refine ⟨_, _, _, rfl, hA, fun j hj => ?_, fun q hq => ?_⟩
      · rw [hs j]; exact c2 j hj
      · rcases c3 q hq with ⟨j, hj, e1, e2⟩ | ⟨e1, e2⟩
        · exact Or.inl ⟨j, hj, by rw [hs j]; exact e1, e2⟩
        · exact Or.inr ⟨fun j hj => by rw [hs j]; exact e1 j hj, e2⟩
theorem pb_asking {N P : Nat} {jo ak : Nat → Int32} {all : Int32} (hP : P ≤ 6) : ∀ (d i n : Nat), i + d = P → d < n → ∃ r, pq_w (fun _ => none) (f_X3_askingParty_L11 N jo ak (nI P) all) n (nI i) = some r ∧ ((r = -4 ∧ ∀ q, i ≤ q → q < P → jo q = -4 → ak q = all) ∨ ∃ q, q < P ∧ r = nI q ∧ jo q = -4 ∧ ak q ≠ all)
  | 0, i, n, h1, h2 => by
    obtain ⟨n, rfl⟩ : ∃ t, n = t + 1 := ⟨n - 1, by omega⟩
    rw [pu_w]
    unfold f_X3_askingParty_L11
    rw [if_pos (by rw [nI_leI (by omega) (by omega)]; omega)]
    exact ⟨_, rfl, Or.inl ⟨rfl, fun q h3 h4 => absurd h4 (by omega)⟩⟩
  | d + 1, i, n, h1, h2 => by
    obtain ⟨n, rfl⟩ : ∃ t, n = t + 1 := ⟨n - 1, by omega⟩
    obtain ⟨r, e1, e2⟩ := pb_asking (N := N) (jo := jo) (ak := ak) (all := all) hP d (i + 1) n (by omega) (by omega)
    rw [pu_w]
    generalize pq_w (fun _ => none) (f_X3_askingParty_L11 N jo ak (nI P) all) n = kk at e1 ⊢
    unfold f_X3_askingParty_L11
    rw [if_neg (by rw [nI_leI (by omega) (by omega)]; omega), pu_gd (by omega) (by omega), nI_clamp (by omega), pu_j]
    have next : (jo i = -4 → ak i = all) → ∃ r, (pq_l (nI i + 1) (fun x3_2 => kk x3_2) : Option Int32) = some r ∧ ((r = -4 ∧ ∀ q, i ≤ q → q < P → jo q = -4 → ak q = all) ∨ ∃ q, q < P ∧ r = nI q ∧ jo q = -4 ∧ ak q ≠ all) := by
      intro hi
      rw [pu_l, nI_1]
      refine ⟨r, e1, ?_⟩
      rcases e2 with ⟨e3, e4⟩ | e3
      · refine Or.inl ⟨e3, fun q h3 h4 h5 => ?_⟩
        by_cases c : q = i
        · rw [c] at h5 ⊢; exact hi h5
        · exact e4 q (by omega) h4 h5
      · exact Or.inr e3
    by_cases c1 : jo i = -4
    · rw [if_pos c1, pu_gd (by omega) (by omega)]
      by_cases c2 : ak i = all
      · rw [if_pos c2]
        exact next (fun _ => c2)
      · rw [if_neg c2]
        exact ⟨_, rfl, Or.inr ⟨i, by omega, rfl, c1, c2⟩⟩
    · rw [if_neg c1]
      exact next (fun h => absurd h c1)
theorem pb_body {N : Nat} {x : Nat → Int32} {a : Nat → Nat → Int32} {s : Nat → Int32} {P J C X S p : Nat} {k : Nat → Nat} {h : Nat → Option Nat} {jo ak po : Nat → Int32} {kk : Int32 → (Nat → Int32) → (Nat → Int32) → (Nat → Int32) → Option (Int32 × (Nat → Int32) × (Nat → Int32) × (Nat → Int32))} (hN : 10 < N) (hV : pn_V s P J C X S) (hC : pn_C x a s P J C) (hp : p < P) (hI : pb_I (pb_g s) (pb_bf s) P J k h) (hR : pb_C (pb_g s) P J k h jo ak po) :
    (pb_Z P J k h ∧ f_X3_benchOf_L28 N (nI P) (nI J) (a 0) (a 1) (a 3) (a 4) (nI p) kk (nI (pb_S k P)) jo ak po = some (jo p, jo, ak, po)) ∨ ∃ q jo' ak' po', q < P ∧ k q < J ∧ (∀ j, j < J → h j ≠ some q) ∧ f_X3_benchOf_L28 N (nI P) (nI J) (a 0) (a 1) (a 3) (a 4) (nI p) kk (nI (pb_S k P)) jo ak po = kk (nI (pb_S k P + 1)) jo' ak' po' ∧ pb_C (pb_g s) P J (pb_k k q) (pb_h (pb_bf s) h q (pb_a (pb_g s q) J (k q))) jo' ak' po' := by
  obtain ⟨⟨p1, p2⟩, ⟨j1, j2⟩, -, -, -, -, -⟩ := id hV
  have hS := pb_S_le (k := k) (J := J) P hI.1
  have hPJ : P * J ≤ 6 * 6 := Nat.mul_le_mul p2 j2
  unfold f_X3_benchOf_L28
  rw [pu_j, pu_gd (by omega) (by omega), nI_clamp (by omega)]
  by_cases c : 36 ≤ pb_S k P
  · left
    rw [if_pos (show (36 : Int32) ≤ nI (pb_S k P) by rw [pu_lit 36, nI_leI (by omega) (by omega)]; exact c)]
    refine ⟨fun q hq => Or.inl ?_, rfl⟩
    apply Classical.byContradiction
    intro hn
    have h1 := hI.1 q hq
    have := pb_S_lt (k := k) (J := J) (p := q) P hI.1 hq (by omega)
    omega
  · rw [if_neg (show ¬ (36 : Int32) ≤ nI (pb_S k P) by rw [pu_lit 36, nI_leI (by omega) (by omega)]; exact c)]
    have pJ : 2 ^ J ≤ 2 ^ 6 := Nat.pow_le_pow_right (by omega) j2
    have pJ0 := Nat.two_pow_pos J
    have e1 : (1 : Int32) <<< (nI J &&& 31) = nI (2 ^ J) := pu_shl1 ⟨J, by omega⟩
    have e2 : nI (2 ^ J) - 1 = nI (2 ^ J - 1) := by rw [pu_lit 1, pk_sub (by omega)]
    obtain ⟨r, e3, e4⟩ := pb_asking (N := N) (jo := jo) (ak := ak) (all := nI (2 ^ J - 1)) p2 P 0 N (by omega) (by omega)
    have e5 : f_X3_askingParty N jo ak (nI P) (nI J) = some r := by
      unfold f_X3_askingParty
      rw [e1, e2, pu_l]
      exact e3
    have full : ∀ q, q < P → (ak q = nI (2 ^ J - 1) ↔ k q = J) := by
      intro q hq
      have l1 := pn_bm_lt (pb_Q (pb_g s q) J (k q)) J
      rw [hR.1 q hq, nI_eq (by omega) (by omega), ← pb_full (g := pb_g s q) (hI.1 q hq)]
      omega
    rw [e5, pu_cs]
    rcases e4 with ⟨e6, e7⟩ | ⟨q, hq, e6, e7, e8⟩
    · left
      rw [if_pos e6]
      refine ⟨fun q hq => ?_, rfl⟩
      rcases hR.2.2 q hq with ⟨j, hj, e8, -⟩ | ⟨-, e8⟩
      · exact Or.inr ⟨j, hj, e8⟩
      · exact Or.inl ((full q hq).mp (e7 q (by omega) hq e8))
    · right
      rw [e6, if_neg (pu_ne4 (by omega))]
      have hk : k q < J := by
        have h1 := hI.1 q hq
        have h2 : ¬ k q = J := fun e => e8 ((full q hq).mpr e)
        omega
      have hf : ∀ j, j < J → h j ≠ some q := by
        rcases hR.2.2 q hq with ⟨j, hj, -, e9⟩ | ⟨e9, -⟩
        · rw [e7] at e9
          exact absurd e9.symm (pu_ne4 (by omega))
        · exact e9
      obtain ⟨jo', ak', po', e9, e10⟩ := pb_ask hN hV hC hI hR hq hf hk
      refine ⟨q, jo', ak', po', hq, hk, hf, ?_, e10⟩
      rw [e9, pu_cs, pu_l, nI_1]
theorem pb_loop {N : Nat} {x : Nat → Int32} {a : Nat → Nat → Int32} {s : Nat → Int32} {P J C X S p : Nat} (hN : 10 < N) (hV : pn_V s P J C X S) (hC : pn_C x a s P J C) (hp : p < P) : ∀ (d n : Nat) (k : Nat → Nat) (h : Nat → Option Nat) (jo ak po : Nat → Int32), pb_S k P + d = P * J → d < n → pb_I (pb_g s) (pb_bf s) P J k h → pb_B (pb_g s) (pb_bf s) P J k → pb_C (pb_g s) P J k h jo ak po → ∃ k' h' jo' ak' po', pq_w (fun _ _ _ _ => none) (f_X3_benchOf_L28 N (nI P) (nI J) (a 0) (a 1) (a 3) (a 4) (nI p)) n (nI (pb_S k P)) jo ak po = some (jo' p, jo', ak', po') ∧ pb_I (pb_g s) (pb_bf s) P J k' h' ∧ pb_Z P J k' h' ∧ pb_B (pb_g s) (pb_bf s) P J k' ∧ pb_C (pb_g s) P J k' h' jo' ak' po'
  | 0, n, k, h, jo, ak, po, h1, h2, hI, hB, hR => by
    obtain ⟨n, rfl⟩ : ∃ t, n = t + 1 := ⟨n - 1, by omega⟩
    rw [pu_w]
    rcases pb_body (kk := pq_w (fun _ _ _ _ => none) (f_X3_benchOf_L28 N (nI P) (nI J) (a 0) (a 1) (a 3) (a 4) (nI p)) n) hN hV hC hp hI hR with ⟨hZ, e⟩ | ⟨q, jo', ak', po', hq, hk, hf, e, hR'⟩
    · exact ⟨k, h, jo, ak, po, e, hI, hZ, hB, hR⟩
    · have := pb_S_lt (k := k) (J := J) (p := q) P hI.1 hq hk
      omega
  | d + 1, n, k, h, jo, ak, po, h1, h2, hI, hB, hR => by
    obtain ⟨n, rfl⟩ : ∃ t, n = t + 1 := ⟨n - 1, by omega⟩
    rw [pu_w]
    rcases pb_body (kk := pq_w (fun _ _ _ _ => none) (f_X3_benchOf_L28 N (nI P) (nI J) (a 0) (a 1) (a 3) (a 4) (nI p)) n) hN hV hC hp hI hR with ⟨hZ, e⟩ | ⟨q, jo', ak', po', hq, hk, hf, e, hR'⟩
    · exact ⟨k, h, jo, ak, po, e, hI, hZ, hB, hR⟩
    · rw [e]
      have eS : pb_S (pb_k k q) P = pb_S k P + 1 := by rw [pb_S_up, if_pos hq]
      have ih := pb_loop hN hV hC hp d n (pb_k k q) _ jo' ak' po' (by omega) (by omega) (pb_step (pb_tot s) (pb_tr s) hI hq hf hk) (pb_below (pb_as s) hI hB hq hf hk) hR'
      rw [eS] at ih
      exact ih
theorem pb_I0 (g : Nat → Nat → Int32) (bf : Nat → Nat → Bool) (P J : Nat) : pb_I g bf P J (fun _ => 0) (fun _ => none) :=
  ⟨fun _ _ => Nat.zero_le J, fun _ _ _ _ _ => rfl, fun j r _ e => by cases e⟩
theorem pb_B0 (g : Nat → Nat → Int32) (bf : Nat → Nat → Bool) (P J : Nat) : pb_B g bf P J (fun _ => 0) := fun F e _ _ p _ => Nat.zero_le _
theorem pb_m0 (g : Nat → Int32) (J : Nat) : nI (pn_bm (pb_Q g J 0) J) = 0 := by
  rw [(pn_bm_0 (pb_Q g J 0) J).mpr (fun _ _ => rfl)]
  exact nI_0
theorem pb_bench7 {N : Nat} {x : Nat → Int32} {a : Nat → Nat → Int32} {s jo ak po : Nat → Int32} {P J C X S p : Nat} (hN : 100 < N) (hV : pn_V s P J C X S) (hC : pn_C x a s P J C) (hp : p < P) : ∃ k' h' jo' ak' po', f_X3_benchOf N jo ak po (nI P) (nI J) (a 0) (a 1) (a 3) (a 4) (nI p) = some (jo' p, jo', ak', po') ∧ pb_I (pb_g s) (pb_bf s) P J k' h' ∧ pb_Z P J k' h' ∧ pb_B (pb_g s) (pb_bf s) P J k' ∧ pb_C (pb_g s) P J k' h' jo' ak' po' := by
  obtain ⟨⟨p1, p2⟩, ⟨j1, j2⟩, -, -, -, -, -⟩ := id hV
  have hPJ : P * J ≤ 6 * 6 := Nat.mul_le_mul p2 j2
  unfold f_X3_benchOf
  rw [pu_fill (by omega) (by omega), pu_cs, pu_fill (by omega) (by omega), pu_cs, pu_fill (by omega) (by omega), pu_cs]
  have hR : pb_C (pb_g s) P J (fun _ => 0) (fun _ => none) (pn_fl jo (-4) 6) (pn_fl ak 0 6) (pn_fl po (-4) 6) := by
    refine ⟨fun q hq => ?_, fun j hj => ?_, fun q hq => Or.inr ⟨(fun j _ e => by cases e), ?_⟩⟩
    · rw [pn_fl_in (by omega), pb_m0]
    · rw [pn_fl_in (by omega)]; rfl
    · rw [pn_fl_in (by omega)]
  have h := pb_loop (N := N) (show 10 < N by omega) hV hC hp (P * J) N (fun _ => 0) (fun _ => none) _ _ _ (by rw [pb_S_0]; omega) (by omega) (pb_I0 _ _ _ _) (pb_B0 _ _ _ _) hR
  rw [pb_S_0, nI_0] at h
  exact h
/-! the reference's side of the bench -/
def pb_M (g : Nat → Nat → Int32) (P J : Nat) (k : Nat → Nat) (h : Nat → Option Nat) (ho ak : Nat → Int32) : Prop :=
  (∀ p, p < P → ak p = nI (pn_bm (pb_Q (g p) J (k p)) J)) ∧ (∀ j, j < J → ho j = pn_e (h j))
theorem pb_fav_loop {N : Nat} {s ak : Nat → Int32} {p J : Nat} {q : Nat → Bool} (hJ : s 3 = nI J) (hJ6 : J ≤ 6) (hp : p < 6) (ea : ak p = nI (pn_bm q J)) : ∀ (d i n : Nat), i + d = J → d < n → pq_w (fun _ _ => none) (f_X8_favourite_L15 N s ak (nI p) (s (5 + p))) n (pn_e (pn_b (pb_g s p) (fun j => !q j) i)) (nI i) = some (pn_e (pn_b (pb_g s p) (fun j => !q j) J))
  | 0, i, n, h1, h2 => by
    obtain ⟨n, rfl⟩ : ∃ t, n = t + 1 := ⟨n - 1, by omega⟩
    rw [pu_w]
    unfold f_X8_favourite_L15
    simp (disch := omega) only [pu_lit 3, pu_gd, nI_clamp, hJ, nI_leI]
    rw [if_pos (by omega), show i = J by omega]
  | d + 1, i, n, h1, h2 => by
    obtain ⟨n, rfl⟩ : ∃ t, n = t + 1 := ⟨n - 1, by omega⟩
    have ih := pb_fav_loop (N := N) hJ hJ6 hp ea d (i + 1) n (by omega) (by omega)
    have l1 := pn_bm_lt q J
    have p1 : 2 ^ J ≤ 2 ^ 6 := Nat.pow_le_pow_right (by omega) hJ6
    have eh : f_X8_has N (nI (pn_bm q J)) (nI i) = some (if q i = true then 1 else 0) := by
      rw [pu_hasN (by omega) (by omega), pn_bm_bit q J i (by omega)]
      cases q i <;> rfl
    rw [pu_w]
    generalize pq_w (fun _ _ => none) (f_X8_favourite_L15 N s ak (nI p) (s (5 + p))) n = kk at ih ⊢
    unfold f_X8_favourite_L15
    simp (disch := omega) only [pu_lit 3, pu_gd, nI_clamp, hJ, nI_leI, pu_j, pu_l, nI_1, ea, eh, pu_cs]
    rw [if_neg (by omega)]
    rw [pn_b_succ] at ih
    cases e : pn_b (pb_g s p) (fun j => !q j) i with
    | none =>
      rw [e] at ih
      dsimp only at ih
      simp only [pn_e, if_true]
      cases hq : q i with
      | true =>
        rw [hq, if_neg (by decide)] at ih
        rw [pu_f1 rfl]
        exact ih
      | false =>
        rw [hq, if_pos (by decide)] at ih
        rw [pu_f0 (by decide), if_neg (by decide)]
        exact ih
    | some b =>
      rw [e] at ih
      dsimp only at ih
      have hb := pn_b_lt _ _ _ _ e
      simp only [pn_e]
      have hne : ¬ nI b = (-4 : Int32) := pu_ne4 (by omega)
      simp only [hne, if_false]
      rw [pu_liking8 (by omega), pu_cs, pu_liking8 (by omega), pu_cs]
      cases hq : q i with
      | true =>
        rw [hq, if_neg (by simp)] at ih
        by_cases hg : pn_lk s (nI p) (s (5 + p)) i ≤ pn_lk s (nI p) (s (5 + p)) b
        · rw [if_pos hg, pu_f1 rfl]
          exact ih
        · rw [if_neg hg, pu_f1 rfl]
          exact ih
      | false =>
        by_cases hg : pn_lk s (nI p) (s (5 + p)) i ≤ pn_lk s (nI p) (s (5 + p)) b
        · rw [hq, if_neg (fun h => by have h2 := h.2; unfold pb_g at h2; rw [pu_lt] at h2; rw [pu_lei] at hg; omega)] at ih
          rw [if_pos hg, pu_f0 (by decide), if_pos trivial]
          exact ih
        · rw [hq, if_pos ⟨rfl, by unfold pb_g; rw [pu_lt]; rw [pu_lei] at hg; omega⟩] at ih
          rw [if_neg hg, pu_f0 (by decide), if_neg (by decide)]
          exact ih
theorem pb_fav {N : Nat} {s ak : Nat → Int32} {P J C X S p : Nat} {q : Nat → Bool} (hN : 10 < N) (hV : pn_V s P J C X S) (hp : p < P) (ea : ak p = nI (pn_bm q J)) : f_X8_favourite N s ak (nI p) = some (pn_e (pn_b (pb_g s p) (fun j => !q j) J)) := by
  obtain ⟨⟨p1, p2⟩, ⟨j1, j2⟩, -, -, -, ⟨eP, eJ, eC, eX, eS⟩, -⟩ := id hV
  unfold f_X8_favourite
  rw [pu_lit 5, nI_add, pu_gd (by omega) (by omega), nI_clamp (by omega), pu_l]
  exact pb_fav_loop eJ j2 (by omega) ea J 0 N (by omega) (by omega)
theorem pb_asks_exit {N n : Nat} {s ho ak : Nat → Int32} {p : Int32} : pq_w (fun _ _ _ _ => none) (f_X8_asks_L8 N s) (n + 1) p (-4) ho ak = some (ho, ak) := by
  rw [pu_w]
  unfold f_X8_asks_L8
  rw [if_pos rfl]
/-- one more is asked: all is said of it for the loop -/
theorem pb_asks_step {N : Nat} {s : Nat → Int32} {P J C X S p : Nat} {k : Nat → Nat} {h : Nat → Option Nat} {ho ak : Nat → Int32} {kk : Int32 → Int32 → (Nat → Int32) → (Nat → Int32) → Option ((Nat → Int32) × (Nat → Int32))} (hN : 10 < N) (hV : pn_V s P J C X S) (hI : pb_I (pb_g s) (pb_bf s) P J k h) (hM : pb_M (pb_g s) P J k h ho ak) (hp : p < P) (hf : ∀ j, j < J → h j ≠ some p) (hk : k p < J) :
    ∃ b ho' ak', b < J ∧ pb_a (pb_g s p) J (k p) = b ∧ pb_M (pb_g s) P J (pb_k k p) (pb_h (pb_bf s) h p b) ho' ak' ∧
      ((h b = none ∧ f_X8_asks_L8 N s kk (nI p) (pn_e (pn_b (pb_g s p) (fun j => !pb_Q (pb_g s p) J (k p) j) J)) ho ak = kk (nI p) (-4) ho' ak') ∨
       ∃ r q, h b = some r ∧ r < P ∧ r ≠ p ∧ ((pb_bf s p r = true ∧ q = r) ∨ (¬ pb_bf s p r = true ∧ q = p)) ∧ f_X8_asks_L8 N s kk (nI p) (pn_e (pn_b (pb_g s p) (fun j => !pb_Q (pb_g s p) J (k p) j) J)) ho ak = kk (nI q) (pn_e (pn_b (pb_g s q) (fun j => !pb_Q (pb_g s q) J (pb_k k p q) j) J)) ho' ak') := by
  obtain ⟨b0, b1, b2, b3⟩ := pb_at (g := pb_g s p) (J := J) (i := k p) hk
  obtain ⟨b, eb⟩ : ∃ b, pb_a (pb_g s p) J (k p) = b := ⟨_, rfl⟩
  rw [eb] at b0 b1 b2
  obtain ⟨⟨p1, p2⟩, ⟨j1, j2⟩, -, -, -, -, -⟩ := id hV
  obtain ⟨c1, c2⟩ := hM
  have hA : ∀ q, q < P → upd ak p (ak p ||| ((1 : Int32) <<< (nI b &&& 31))) q = nI (pn_bm (pb_Q (pb_g s q) J (pb_k k p q)) J) := by
    intro q hq
    by_cases c : q = p
    · rw [c, pu_us, pb_kp, c1 p hp]
      exact (pb_mask b1 j2 (fun j => by rw [b3 j, eb])).symm
    · rw [pu_un c, pb_ko c, c1 q hq]
  have hH : ∀ (v : Nat), pb_h (pb_bf s) h p b b = some v → ∀ j, j < J → upd ho b (nI v) j = pn_e (pb_h (pb_bf s) h p b j) := by
    intro v hv j hj
    by_cases c : j = b
    · rw [c, pu_us, hv]; rfl
    · rw [pu_un c, pb_ho c]; exact c2 j hj
  rw [b0]
  unfold f_X8_asks_L8
  have hb4 : ¬ nI b = (-4 : Int32) := pu_ne4 (by omega)
  simp (disch := omega) only [pn_e, hb4, if_false, pu_gd, nI_clamp, pu_l, pu_j]
  cases hh : h b with
  | none =>
    have ep : ho b = -4 := by rw [c2 b b1, hh]; rfl
    simp only [ep, if_true]
    exact ⟨b, _, _, b1, eb, ⟨hA, hH p (pb_h0 hh)⟩, Or.inl ⟨hh, rfl⟩⟩
  | some r =>
    obtain ⟨r1, r2, r3, r4⟩ := hI.2.2 b r b1 hh
    have hrp : r ≠ p := fun c => hf b b1 (by rw [hh, c])
    have ep : ho b = nI r := by rw [c2 b b1, hh]; rfl
    have hr4 : ¬ nI r = (-4 : Int32) := pu_ne4 (by omega)
    simp only [ep, hr4, if_false, pb_isBefore hV hp r1, pu_cs]
    by_cases hb : pb_bf s p r = true
    · rw [pu_f1 hb, pu_f1 hb, pb_fav hN hV r1 (hA r r1), pu_cs]
      exact ⟨b, _, _, b1, eb, ⟨hA, hH p (pb_h1 hh hb)⟩, Or.inr ⟨r, r, hh, r1, hrp, Or.inl ⟨hb, rfl⟩, rfl⟩⟩
    · rw [pu_f0 hb, pu_f0 hb, pb_fav hN hV hp (hA p hp), pu_cs]
      exact ⟨b, _, _, b1, eb, ⟨hA, hH r (pb_h2 hh hb)⟩, Or.inr ⟨r, p, hh, r1, hrp, Or.inr ⟨hb, rfl⟩, rfl⟩⟩
theorem pb_asks_loop {N : Nat} {s : Nat → Int32} {P J C X S o : Nat} (hN : 10 < N) (hV : pn_V s P J C X S) (ho : o ≤ P) : ∀ (d n p : Nat) (k : Nat → Nat) (h : Nat → Option Nat) (hd ak : Nat → Int32), pb_S k P + d = P * J → d + 1 < n → pb_I (pb_g s) (pb_bf s) P J k h → pb_B (pb_g s) (pb_bf s) P J k → pb_M (pb_g s) P J k h hd ak → p < o → (∀ j, j < J → h j ≠ some p) → (∀ q, q < o → q ≠ p → k q = J ∨ ∃ j, j < J ∧ h j = some q) → (∀ q, o ≤ q → q < P → ∀ j, j < J → h j ≠ some q) →
    ∃ k' h' hd' ak', pq_w (fun _ _ _ _ => none) (f_X8_asks_L8 N s) n (nI p) (pn_e (pn_b (pb_g s p) (fun j => !pb_Q (pb_g s p) J (k p) j) J)) hd ak = some (hd', ak') ∧ pb_I (pb_g s) (pb_bf s) P J k' h' ∧ pb_B (pb_g s) (pb_bf s) P J k' ∧ pb_M (pb_g s) P J k' h' hd' ak' ∧ (∀ q, q < o → k' q = J ∨ ∃ j, j < J ∧ h' j = some q) ∧ (∀ q, o ≤ q → q < P → ∀ j, j < J → h' j ≠ some q)
  | d, n, p, k, h, hd, ak, h1, h2, hI, hB, hM, hpo, hf, hcl, hfr => by
    obtain ⟨n, rfl⟩ : ∃ t, n = t + 1 := ⟨n - 1, by omega⟩
    have hp : p < P := by omega
    by_cases hk : k p < J
    · have hlt := pb_S_lt (k := k) (J := J) (p := p) P hI.1 hp hk
      obtain ⟨d, rfl⟩ : ∃ t, d = t + 1 := ⟨d - 1, by omega⟩
      obtain ⟨n, rfl⟩ : ∃ t, n = t + 1 := ⟨n - 1, by omega⟩
      have eS : pb_S (pb_k k p) P = pb_S k P + 1 := by rw [pb_S_up, if_pos hp]
      obtain ⟨b, hd', ak', hb, eb, hM', hor⟩ := pb_asks_step (kk := pq_w (fun _ _ _ _ => none) (f_X8_asks_L8 N s) (n + 1)) hN hV hI hM hp hf hk
      have hI' := pb_step (pb_tot s) (pb_tr s) hI hp hf hk
      have hB' := pb_below (pb_as s) hI hB hp hf hk
      rw [eb] at hI'
      rw [pu_w]
      rcases hor with ⟨hh, e⟩ | ⟨r, q, hh, hr, hrp, hq, e⟩
      · rw [e, pb_asks_exit]
        refine ⟨_, _, _, _, rfl, hI', hB', hM', fun q hq => ?_, fun q hq1 hq2 j hj => ?_⟩
        · by_cases c : q = p
          · rw [c]
            exact Or.inr ⟨b, hb, pb_h0 hh⟩
          · rw [pb_ko c]
            rcases hcl q hq c with h9 | ⟨j, hj, ej⟩
            · exact Or.inl h9
            · have hjb : j ≠ b := fun x => by rw [x, hh] at ej; cases ej
              exact Or.inr ⟨j, hj, by rw [pb_ho hjb]; exact ej⟩
        · by_cases c : j = b
          · rw [c, pb_h0 hh]
            exact fun x => absurd (Option.some.inj x) (by omega)
          · rw [pb_ho c]; exact hfr q hq1 hq2 j hj
      · rw [e]
        have hro : r < o := by
          apply Classical.byContradiction
          intro hn
          exact hfr r (by omega) hr b hb hh
        rcases hq with ⟨hbf, rfl⟩ | ⟨hbf, rfl⟩
        · refine pb_asks_loop hN hV ho d (n + 1) q (pb_k k p) _ hd' ak' (by omega) (by omega) hI' hB' hM' hro (fun j hj => ?_) (fun t ht htr => ?_) (fun t ht1 ht2 j hj => ?_)
          · by_cases c : j = b
            · rw [c, pb_h1 hh hbf]
              exact fun x => hrp (Option.some.inj x).symm
            · rw [pb_ho c]
              exact fun x => c (pb_uq hI hj hb x hh)
          · by_cases c : t = p
            · rw [c]
              exact Or.inr ⟨b, hb, pb_h1 hh hbf⟩
            · rw [pb_ko c]
              rcases hcl t ht c with h9 | ⟨j, hj, ej⟩
              · exact Or.inl h9
              · have hjb : j ≠ b := fun x => by rw [x, hh] at ej; exact htr (Option.some.inj ej).symm
                exact Or.inr ⟨j, hj, by rw [pb_ho hjb]; exact ej⟩
          · by_cases c : j = b
            · rw [c, pb_h1 hh hbf]
              exact fun x => absurd (Option.some.inj x) (by omega)
            · rw [pb_ho c]; exact hfr t ht1 ht2 j hj
        · have hs : ∀ j, pb_h (pb_bf s) h q b j = h j := by
            intro j
            by_cases c : j = b
            · rw [c, pb_h2 hh hbf, hh]
            · rw [pb_ho c]
          refine pb_asks_loop hN hV ho d (n + 1) q (pb_k k q) _ hd' ak' (by omega) (by omega) hI' hB' hM' hpo (fun j hj => by rw [hs j]; exact hf j hj) (fun t ht htr => ?_) (fun t ht1 ht2 j hj => by rw [hs j]; exact hfr t ht1 ht2 j hj)
          rw [pb_ko htr]
          rcases hcl t ht htr with h9 | ⟨j, hj, ej⟩
          · exact Or.inl h9
          · exact Or.inr ⟨j, hj, by rw [hs j]; exact ej⟩
    · have hkJ : k p = J := by have := hI.1 p hp; omega
      have e : pn_e (pn_b (pb_g s p) (fun j => !pb_Q (pb_g s p) J (k p) j) J) = -4 := by rw [hkJ, pb_no]; rfl
      rw [e, pb_asks_exit]
      refine ⟨_, _, _, _, rfl, hI, hB, hM, fun q hq => ?_, hfr⟩
      by_cases c : q = p
      · rw [c]; exact Or.inl hkJ
      · exact hcl q hq c
termination_by d => d
theorem pb_outer {N : Nat} {s : Nat → Int32} {P J C X S : Nat} {p1 : Int32} (hN : 100 < N) (hV : pn_V s P J C X S) : ∀ (d o n : Nat) (k : Nat → Nat) (h : Nat → Option Nat) (hd ak : Nat → Int32), o + d = P → d < n → pb_I (pb_g s) (pb_bf s) P J k h → pb_B (pb_g s) (pb_bf s) P J k → pb_M (pb_g s) P J k h hd ak → (∀ q, q < o → k q = J ∨ ∃ j, j < J ∧ h j = some q) → (∀ q, o ≤ q → q < P → ∀ j, j < J → h j ≠ some q) →
    ∃ k' h' hd' ak', pq_w (fun _ _ _ => none) (f_X8_bench_L41 N s p1) n (nI o) hd ak = pq_w (fun _ => none) (f_X8_bench_L64 N s p1 hd' ak') N 0 ∧ pb_I (pb_g s) (pb_bf s) P J k' h' ∧ pb_B (pb_g s) (pb_bf s) P J k' ∧ pb_M (pb_g s) P J k' h' hd' ak' ∧ pb_Z P J k' h'
  | 0, o, n, k, h, hd, ak, h1, h2, hI, hB, hM, hcl, hfr => by
    obtain ⟨n, rfl⟩ : ∃ t, n = t + 1 := ⟨n - 1, by omega⟩
    obtain ⟨⟨p1', p2'⟩, ⟨j1, j2⟩, -, -, -, ⟨eP, eJ, eC, eX, eS⟩, -⟩ := id hV
    rw [pu_w]
    unfold f_X8_bench_L41
    rw [pu_lit 2, pu_gd (by omega) (by omega), nI_clamp (by omega), eP, if_pos (by rw [nI_leI (by omega) (by omega)]; omega)]
    exact ⟨k, h, hd, ak, rfl, hI, hB, hM, fun q hq => hcl q (by omega)⟩
  | d + 1, o, n, k, h, hd, ak, h1, h2, hI, hB, hM, hcl, hfr => by
    obtain ⟨n, rfl⟩ : ∃ t, n = t + 1 := ⟨n - 1, by omega⟩
    obtain ⟨⟨p1', p2'⟩, ⟨j1, j2⟩, -, -, -, ⟨eP, eJ, eC, eX, eS⟩, -⟩ := id hV
    have hPJ : P * J ≤ 6 * 6 := Nat.mul_le_mul p2' j2
    have hSl := pb_S_le (k := k) (J := J) P hI.1
    obtain ⟨k', h', hd', ak', e1, e2, e3, e4, e5, e6⟩ := pb_asks_loop (N := N) (o := o + 1) (show 10 < N by omega) hV (by omega) (P * J - pb_S k P) N o k h hd ak (by omega) (by omega) hI hB hM (by omega) (hfr o (by omega) (by omega)) (fun q hq hqo => hcl q (by omega)) (fun q hq1 hq2 => hfr q (by omega) hq2)
    rw [pu_w]
    have ih := pb_outer (p1 := p1) hN hV d (o + 1) n k' h' hd' ak' (by omega) (by omega) e2 e3 e4 e5 e6
    generalize pq_w (fun _ _ _ => none) (f_X8_bench_L41 N s p1) n = kk at ih ⊢
    unfold f_X8_bench_L41 f_X8_asks
    rw [pu_lit 2, pu_gd (by omega) (by omega), nI_clamp (by omega), eP, if_neg (by rw [nI_leI (by omega) (by omega)]; omega), pb_fav (show 10 < N by omega) hV (by omega) (hM.1 o (by omega)), pu_cs, e1, pu_cs, pu_l, nI_1]
    exact ih
theorem pb_init {N : Nat} {s : Nat → Int32} {p1 : Int32} : ∀ (d i n : Nat) (hd ak : Nat → Int32), i + d = 6 → d < n → (∀ j, j < i → hd j = -4 ∧ ak j = 0) → ∃ hd' ak', pq_w (fun _ _ _ => none) (f_X8_bench_L12 N s p1) n (nI i) hd ak = pq_w (fun _ _ _ => none) (f_X8_bench_L41 N s p1) N 0 hd' ak' ∧ ∀ j, j < 6 → hd' j = -4 ∧ ak' j = 0
  | 0, i, n, hd, ak, h1, h2, h3 => by
    obtain ⟨n, rfl⟩ : ∃ t, n = t + 1 := ⟨n - 1, by omega⟩
    rw [pu_w]
    unfold f_X8_bench_L12
    rw [if_pos (by rw [pu_lit 6, nI_leI (by omega) (by omega)]; omega)]
    exact ⟨hd, ak, rfl, fun j hj => h3 j (by omega)⟩
  | d + 1, i, n, hd, ak, h1, h2, h3 => by
    obtain ⟨n, rfl⟩ : ∃ t, n = t + 1 := ⟨n - 1, by omega⟩
    have ih := pb_init (N := N) (s := s) (p1 := p1) d (i + 1) n (upd hd i (-4)) (upd ak i 0) (by omega) (by omega) (fun j hj => by
      by_cases c : j = i
      · rw [c, pu_us, pu_us]; exact ⟨rfl, rfl⟩
      · rw [pu_un c, pu_un c]; exact h3 j (by omega))
    rw [pu_w]
    generalize pq_w (fun _ _ _ => none) (f_X8_bench_L12 N s p1) n = kk at ih ⊢
    unfold f_X8_bench_L12
    rw [if_neg (by rw [pu_lit 6, nI_leI (by omega) (by omega)]; omega), pu_gd (by omega) (by omega), pu_l, pu_gd (by omega) (by omega), pu_l, pu_l, nI_1, nI_clamp (by omega)]
    exact ih
theorem pb_find {N : Nat} {s hd ak : Nat → Int32} {J : Nat} {p1 : Int32} (eJ : s 3 = nI J) (hJ : J ≤ 6) : ∀ (d i n : Nat), i + d = J → d < n → (∀ j, j < i → hd j ≠ p1) → ∃ r, pq_w (fun _ => none) (f_X8_bench_L64 N s p1 hd ak) n (nI i) = some (r, hd, ak) ∧ ((∃ j, j < J ∧ hd j = p1 ∧ r = nI j) ∨ ((∀ j, j < J → hd j ≠ p1) ∧ r = -4))
  | 0, i, n, h1, h2, h3 => by
    obtain ⟨n, rfl⟩ : ∃ t, n = t + 1 := ⟨n - 1, by omega⟩
    rw [pu_w]
    unfold f_X8_bench_L64
    rw [pu_lit 3, pu_gd (by omega) (by omega), nI_clamp (by omega), eJ, if_pos (by rw [nI_leI (by omega) (by omega)]; omega)]
    exact ⟨_, rfl, Or.inr ⟨fun j hj => h3 j (by omega), rfl⟩⟩
  | d + 1, i, n, h1, h2, h3 => by
    obtain ⟨n, rfl⟩ : ∃ t, n = t + 1 := ⟨n - 1, by omega⟩
    have ih := pb_find (N := N) (hd := hd) (ak := ak) (p1 := p1) eJ hJ d (i + 1) n (by omega) (by omega)
    rw [pu_w]
    generalize pq_w (fun _ => none) (f_X8_bench_L64 N s p1 hd ak) n = kk at ih ⊢
    unfold f_X8_bench_L64
    rw [pu_lit 3, pu_gd (by omega) (by omega), nI_clamp (by omega), eJ, if_neg (by rw [nI_leI (by omega) (by omega)]; omega), pu_gd (by omega) (by omega), nI_clamp (by omega)]
    by_cases c : hd i = p1
    · rw [if_pos c]
      exact ⟨_, rfl, Or.inl ⟨i, by omega, c, rfl⟩⟩
    · rw [if_neg c, pu_l, nI_1]
      refine ih (fun j hj => ?_)
      by_cases e : j = i
      · rw [e]; exact c
      · exact h3 j (by omega)
set_option maxHeartbeats 2000000 in
theorem sim_bench {xI : Nat → Int32} {xA : Nat → Nat → Int32} {xL : Nat → Nat → Int64} {aw : Nat → Nat → Int32} {mI : Nat → Int32} {mA : Nat → Nat → Int32} {mL : Nat → Int64} (hR : pq_R xI xA xL aw mI mA mL) (p1 : Int32) : ∃ (zc : Int32 × (Nat → Int32) × (Nat → Int32) × (Nat → Int32)) (zm : Int32 × (Nat → Int32) × (Nat → Int32)), f_X7_bench pq_N (xA 42) (xA 43) (xA 44) (xI 10) (xI 11) (xA 18) (xA 19) (xA 21) (xA 22) p1 = some zc ∧ f_X8_bench pq_N (mA 6) (mA 20) (mA 21) p1 = some zm ∧ zc.1 = zm.1 ∧ pq_R xI (va_up (va_up (va_up xA 42 zc.2.1) 43 zc.2.2.1) 44 zc.2.2.2) xL aw mI (va_up (va_up mA 20 zm.2.1) 21 zm.2.2) mL := by
  obtain ⟨⟨r0, r1, r2, r3, r4⟩, k2, k3, k4⟩ := pu_now hR
  have hscr : ∀ (f g f' h h' : Nat → Int32), pq_R xI (va_up (va_up (va_up xA 42 f) 43 g) 44 f') xL aw mI (va_up (va_up mA 20 h) 21 h') mL := by
    intro f g f' h h'
    refine pq_kF hR ?_ ?_ ?_ ?_
    · intro k hk; rfl
    · intro k hk; simp (disch := omega) only [pu_vo]
    · intro k hk; rfl
    · intro k hk; simp (disch := omega) only [pu_vo]
  unfold f_X7_bench f_X8_bench
  rw [r0, pu_hasParty, pu_cs, pu_isParty k2, pu_cs]
  by_cases hv : 0 ≤ p1.toInt ∧ p1.toInt < (mA 6 2).toInt
  · rw [pu_f1 hv, pu_f1 hv]
    obtain ⟨P, J, C, X, S, hW, hC⟩ := pu_there hR (k := 2) (by omega) hv
    have hV := hW.v
    obtain ⟨⟨p1', p2'⟩, ⟨j1, j2⟩, ⟨c1, c2⟩, x2, s2, ⟨eP, eJ, eC, eX, eS⟩, -⟩ := id hV
    rw [eP, nI_toInt (by omega)] at hv
    obtain ⟨p, hp, ep⟩ := pu_of hv.1 hv.2
    have hN := pu_N2
    obtain ⟨k, h, jo, ak, po, e1, f1, f2, f3, f4⟩ := pb_bench7 (N := pq_N) (jo := xA 42) (ak := xA 43) (po := xA 44) (show 100 < pq_N by omega) hV hC hp
    have e1' : f_X3_benchOf pq_N (xA 42) (xA 43) (xA 44) (nI P) (nI J) (xA 18) (xA 19) (xA 21) (xA 22) (nI p) = some (jo p, jo, ak, po) := e1
    obtain ⟨hd0, ak0, e2, e3⟩ := pb_init (N := pq_N) (s := mA 6) (p1 := nI p) 6 0 pq_N (mA 20) (mA 21) (by omega) (by omega) (fun j hj => absurd hj (by omega))
    obtain ⟨k', h', hd, ak', e4, f5, f6, f7, f8⟩ := pb_outer (N := pq_N) (p1 := nI p) (show 100 < pq_N by omega) hV P 0 pq_N (fun _ => 0) (fun _ => none) hd0 ak0 (by omega) (by omega) (pb_I0 _ _ _ _) (pb_B0 _ _ _ _) ⟨fun q hq => by rw [(e3 q (by omega)).2, pb_m0], fun j hj => by rw [(e3 j (by omega)).1]; rfl⟩ (fun q hq => absurd hq (by omega)) (fun q _ _ j _ e => by cases e)
    obtain ⟨r, e5, e6⟩ := pb_find (N := pq_N) (hd := hd) (ak := ak') (p1 := nI p) eJ j2 J 0 pq_N (by omega) (by omega) (fun j hj => absurd hj (by omega))
    rw [nI_0] at e2 e4 e5
    rw [r1, eP, eJ, ep, e1', pu_cs, e2, e4, e5]
    refine ⟨_, _, rfl, rfl, ?_, hscr _ _ _ _ _⟩
    show jo p = r
    have ek : ∀ q, q < P → k q = k' q := fun q hq => Nat.le_antisymm (f3 k' h' f5 f8 q hq) (f6 k h f1 f2 q hq)
    have eh := pb_same (pb_as (mA 6)) f1 f5 ek
    have hin : ∀ j, j < J → (hd j = nI p ↔ h j = some p) := by
      intro j hj
      rw [f7.2 j hj, ← eh j hj]
      cases hh : h j with
      | none =>
        constructor
        · intro e; exact absurd e.symm (pu_ne4 (by omega))
        · intro e; cases e
      | some t =>
        have ht := (f1.2.2 j t hj hh).1
        show nI t = nI p ↔ some t = some p
        rw [nI_eq (by omega) (by omega)]
        exact ⟨fun e => by rw [e], fun e => Option.some.inj e⟩
    rcases f4.2.2 p hp with ⟨j, hj, g1, g2⟩ | ⟨g1, g2⟩
    · rcases e6 with ⟨i, hi, g3, g4⟩ | ⟨g3, -⟩
      · rw [g2, g4, pb_uq f1 hj hi g1 ((hin i hi).mp g3)]
      · exact absurd ((hin j hj).mpr g1) (g3 j hj)
    · rcases e6 with ⟨i, hi, g3, g4⟩ | ⟨g3, g4⟩
      · exact absurd ((hin i hi).mp g3) (g1 i hi)
      · rw [g2, g4]
  · rw [pu_f0 hv, pu_f0 hv]
    exact ⟨_, _, rfl, rfl, rfl, hscr _ _ _ _ _⟩
