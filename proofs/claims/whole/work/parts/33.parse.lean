/-! ===== the tape read as a circuit ===== -/
def pc_b (tp : Nat → Int32) (n p : Nat) : Int32 := if p < n then tp p else -1
section PCB
variable {N n p : Nat} {xb tp : Nat → Int32}
theorem pc_by6 (hn : n ≤ 130) (hp : p ≤ n) (hb : ∀ i, i < n → xb i = tp i) : f_X6_byteHere N (nI n) (nI p) xb = some (pc_b tp n p) := by
  unfold f_X6_byteHere pc_b
  by_cases h : p < n
  · rw [if_neg (show ¬ nI n ≤ nI p from fun e => by rw [nI_leI (by omega) (by omega)] at e; omega), if_neg (show ¬ (130 : Int32) ≤ nI p from fun e => by rw [pu_lit 130, nI_leI (by omega) (by omega)] at e; omega), pu_gd (by omega) (by omega), nI_clamp (by omega), hb p h, if_pos h]
  · rw [if_pos (show nI n ≤ nI p from (nI_leI (by omega) (by omega)).mpr (by omega)), if_neg h]
theorem pc_by8 (hn : n ≤ 130) (hp : p ≤ n) : f_X8_peek N (nI n) (nI p) tp = some (pc_b tp n p) := by
  unfold f_X8_peek pc_b
  by_cases h : p < n
  · rw [if_neg (show ¬ nI n ≤ nI p from fun e => by rw [nI_leI (by omega) (by omega)] at e; omega), pu_gd (by omega) (by omega), nI_clamp (by omega), if_pos h]
  · rw [if_pos (show nI n ≤ nI p from (nI_leI (by omega) (by omega)).mpr (by omega)), if_neg h]
theorem pc_lt {c : Int32} (h : pc_b tp n p = c) (hc : c ≠ -1) : p < n := by
  apply Classical.byContradiction
  intro hn
  unfold pc_b at h
  rw [if_neg hn] at h
  exact hc h.symm
theorem pc_t6 {c : Int32} (hn : n ≤ 130) (hp : p ≤ n) (hb : ∀ i, i < n → xb i = tp i) (h : pc_b tp n p = c) : f_X6_takes N (nI n) (nI p) xb c = some (1, nI (p + 1)) := by
  unfold f_X6_takes
  rw [pc_by6 hn hp hb, pu_cs, if_pos h, pu_l, pu_b1, nI_1]
theorem pc_u6 {c : Int32} (hn : n ≤ 130) (hp : p ≤ n) (hb : ∀ i, i < n → xb i = tp i) (h : ¬ pc_b tp n p = c) : f_X6_takes N (nI n) (nI p) xb c = some (0, nI p) := by
  unfold f_X6_takes
  rw [pc_by6 hn hp hb, pu_cs, if_neg h, pu_b0]
theorem pc_t8 {c : Int32} (hn : n ≤ 130) (hp : p ≤ n) (h : pc_b tp n p = c) : f_X8_isSign N (nI n) (nI p) tp c = some (1, nI (p + 1)) := by
  unfold f_X8_isSign
  rw [pc_by8 hn hp, pu_cs, if_pos h, pu_l, pu_b1, nI_1]
theorem pc_u8 {c : Int32} (hn : n ≤ 130) (hp : p ≤ n) (h : ¬ pc_b tp n p = c) : f_X8_isSign N (nI n) (nI p) tp c = some (0, nI p) := by
  unfold f_X8_isSign
  rw [pc_by8 hn hp, pu_cs, if_neg h, pu_b0]
def pc_kd (b : Int32) : Int32 := if b = 112 then 1 else if b = 98 then 2 else if b = 115 then 3 else if b = 108 then 4 else if b = 102 then 5 else 0
theorem pc_k6 (hn : n ≤ 130) (hp : p ≤ n) (hb : ∀ i, i < n → xb i = tp i) : f_X6_kindHere N (nI n) (nI p) xb = some (pc_kd (pc_b tp n p)) := by
  unfold f_X6_kindHere
  rw [pc_by6 hn hp hb, pu_cs]
  generalize pc_b tp n p = b
  unfold pc_kd
  by_cases h1 : b = 98
  · subst h1; rfl
  · by_cases h2 : b = 102
    · subst h2; rfl
    · by_cases h3 : b = 108
      · subst h3; rfl
      · by_cases h4 : b = 112
        · subst h4; rfl
        · by_cases h5 : b = 115
          · subst h5; rfl
          · simp only [h1, h2, h3, h4, h5, if_false]
theorem pc_k8 {b : Int32} : f_X8_kindBy N b = some (pc_kd b) := by
  unfold f_X8_kindBy pc_kd
  split
  · rfl
  split
  · rfl
  split
  · rfl
  split
  · rfl
  split <;> rfl
theorem pc_kd_in (b : Int32) : pc_kd b = 0 ∨ ∃ k, (1 ≤ k ∧ k ≤ 5) ∧ pc_kd b = nI k := by
  unfold pc_kd
  split
  · exact Or.inr ⟨1, by omega, rfl⟩
  split
  · exact Or.inr ⟨2, by omega, rfl⟩
  split
  · exact Or.inr ⟨3, by omega, rfl⟩
  split
  · exact Or.inr ⟨4, by omega, rfl⟩
  split
  · exact Or.inr ⟨5, by omega, rfl⟩
  · exact Or.inl rfl
theorem pc_kd_lt {k : Nat} (hk : 1 ≤ k ∧ k ≤ 5) (h : pc_kd (pc_b tp n p) = nI k) : p < n := by
  refine pc_lt (c := pc_b tp n p) rfl (fun e => ?_)
  rw [e] at h
  have e2 : pc_kd (-1) = nI 0 := rfl
  rw [e2] at h
  have := (nI_eq (by omega) (by omega)).mp h
  omega
/-- a figure that is k at most -/
def pc_fg (tp : Nat → Int32) (n p k : Nat) : Option Nat := if 0 ≤ (pc_b tp n p - 48).toInt ∧ (pc_b tp n p - 48).toInt ≤ (k : Int) then some (pc_b tp n p - 48).toNatClampNeg else none
theorem pc_fg_some {k d : Nat} (h : pc_fg tp n p k = some d) : d ≤ k ∧ p < n ∧ pc_b tp n p - 48 = nI d := by
  unfold pc_fg at h
  by_cases c : 0 ≤ (pc_b tp n p - 48).toInt ∧ (pc_b tp n p - 48).toInt ≤ (k : Int)
  · rw [if_pos c] at h
    have e := Option.some.inj h
    have e2 : (pc_b tp n p - 48).toNatClampNeg = (pc_b tp n p - 48).toInt.toNat := rfl
    refine ⟨by omega, ?_, by rw [← e]; exact pu_n c.1⟩
    refine pc_lt (c := pc_b tp n p) rfl (fun e3 => ?_)
    rw [e3] at c
    exact absurd c.1 (by decide)
  · rw [if_neg c] at h
    cases h
theorem pc_f6 {k m d : Nat} (hm : m = k + 1) (hk : k < 100) (hn : n ≤ 130) (hp : p ≤ n) (hb : ∀ i, i < n → xb i = tp i) (h : pc_fg tp n p k = some d) : f_X6_figureBelow N (nI n) (nI p) xb (nI m) = some (nI d, nI (p + 1)) := by
  obtain ⟨h1, h2, h3⟩ := pc_fg_some h
  unfold f_X6_figureBelow
  rw [pc_by6 hn hp hb, pu_cs, pu_l, h3, if_neg (nI_pos (by omega)), if_pos ((nI_ltI (by omega) (by omega)).mpr (by omega)), pu_l, nI_1]
theorem pc_g6 {k m : Nat} (hm : m = k + 1) (hk : k < 100) (hn : n ≤ 130) (hp : p ≤ n) (hb : ∀ i, i < n → xb i = tp i) (h : pc_fg tp n p k = none) : f_X6_figureBelow N (nI n) (nI p) xb (nI m) = some (-1, nI p) := by
  unfold pc_fg at h
  unfold f_X6_figureBelow
  rw [pc_by6 hn hp hb, pu_cs, pu_l]
  by_cases c : 0 ≤ (pc_b tp n p - 48).toInt ∧ (pc_b tp n p - 48).toInt ≤ (k : Int)
  · rw [if_pos c] at h
    cases h
  · have z0 : (0 : Int32).toInt = 0 := rfl
    by_cases c2 : pc_b tp n p - 48 < 0
    · rw [if_pos c2]
    · rw [if_neg c2, if_neg (fun e => by rw [pu_lt, nI_toInt (by omega)] at e; rw [pu_lt, z0] at c2; omega)]
theorem pc_f8 {k d : Nat} (hk : k < 100) (hn : n ≤ 130) (hp : p ≤ n) (h : pc_fg tp n p k = some d) : f_X8_figure N (nI n) (nI p) tp (nI k) = some (nI d, nI (p + 1)) := by
  obtain ⟨h1, h2, h3⟩ := pc_fg_some h
  have z0 : (0 : Int32).toInt = 0 := rfl
  unfold f_X8_figure
  rw [pc_by8 hn hp, pu_cs, pu_l, h3, pu_in, pu_cs, pu_f1 (by rw [z0, nI_toInt (by omega), nI_toInt (by omega)]; omega), pu_l, nI_1]
theorem pc_g8 {k : Nat} (hk : k < 100) (hn : n ≤ 130) (hp : p ≤ n) (h : pc_fg tp n p k = none) : f_X8_figure N (nI n) (nI p) tp (nI k) = some (-1, nI p) := by
  have z0 : (0 : Int32).toInt = 0 := rfl
  unfold pc_fg at h
  unfold f_X8_figure
  rw [pc_by8 hn hp, pu_cs, pu_l, pu_in, pu_cs]
  by_cases c : 0 ≤ (pc_b tp n p - 48).toInt ∧ (pc_b tp n p - 48).toInt ≤ (k : Int)
  · rw [if_pos c] at h
    cases h
  · rw [pu_f0 (by rw [z0, nI_toInt (by omega)]; exact c)]
end PCB
/-! parties -/
def pc_P (s : Nat → Int32) (i : Nat) (kd gr wi : Nat → Int32) : Prop :=
  s 2 = nI i ∧ ∀ q, q < i → (∃ k, (1 ≤ k ∧ k ≤ 5) ∧ s (5 + q) = nI k) ∧ kd q = s (5 + q) ∧ (∃ g, g ≤ 9 ∧ s (11 + q) = nI g) ∧ gr q = s (11 + q) ∧ wi q = 0
def pc_sP (s : Nat → Int32) (i : Nat) (k g : Int32) : Nat → Int32 := upd (upd (upd s (5 + i) k) (11 + i) g) 2 (nI (i + 1))
theorem pc_sP_o {s : Nat → Int32} {i : Nat} {k g : Int32} {q : Nat} (h1 : q ≠ 2) (h2 : q ≠ 5 + i) (h3 : q ≠ 11 + i) : pc_sP s i k g q = s q := by
  unfold pc_sP
  rw [pu_un h1, pu_un h3, pu_un h2]
theorem pc_P_s {s kd gr wi : Nat → Int32} {i k g : Nat} (hi : i < 6) (hk : 1 ≤ k ∧ k ≤ 5) (hg : g ≤ 9) (h : pc_P s i kd gr wi) : pc_P (pc_sP s i (nI k) (nI g)) (i + 1) (upd kd i (nI k)) (upd gr i (nI g)) (upd wi i 0) := by
  obtain ⟨h1, h2⟩ := h
  refine ⟨by unfold pc_sP; rw [pu_us], fun q hq => ?_⟩
  by_cases c : q = i
  · have e1 : pc_sP s i (nI k) (nI g) (5 + i) = nI k := by unfold pc_sP; rw [pu_un (by omega), pu_un (by omega), pu_us]
    have e2 : pc_sP s i (nI k) (nI g) (11 + i) = nI g := by unfold pc_sP; rw [pu_un (by omega), pu_us]
    rw [c, pu_us, pu_us, pu_us, e1, e2]
    exact ⟨⟨k, hk, rfl⟩, rfl, ⟨g, hg, rfl⟩, rfl, rfl⟩
  · rw [pu_un c, pu_un c, pu_un c, pc_sP_o (by omega) (by omega) (by omega), pc_sP_o (by omega) (by omega) (by omega)]
    exact h2 q (by omega)
theorem pc_r39 {N n p m : Nat} {tp s : Nat → Int32} {i : Nat} (hi : i ≤ 6) (es : s 2 = nI i) (hn : n ≤ 130) (hp : p ≤ n) : pq_w (fun _ _ _ => none) (f_X8_isRead_L39 N (nI n) tp) (m + 1) 0 (nI p) s = if i < 2 then some (0, nI p, s) else if pc_b tp n p = 59 then pq_w (fun _ _ _ => none) (f_X8_isRead_L104 N (nI n) tp) N 1 (nI (p + 1)) s else some (0, nI p, s) := by
  rw [pu_w]
  unfold f_X8_isRead_L39
  rw [if_pos rfl, pu_lit 2, pu_gd (by omega) (by omega), nI_clamp (by omega), es]
  by_cases c : i < 2
  · rw [if_pos ((nI_ltI (by omega) (by omega)).mpr c), if_pos c, pu_b0]
  · rw [if_neg (fun e => c ((nI_ltI (by omega) (by omega)).mp e)), if_neg c]
    by_cases c2 : pc_b tp n p = 59
    · rw [pc_t8 hn hp c2, pu_cs, if_pos c2]
      rfl
    · rw [pc_u8 hn hp c2, pu_cs, if_neg c2]
      rfl
theorem pc_par {N n : Nat} {xb tp : Nat → Int32} (hn : n ≤ 130) (hb : ∀ i, i < n → xb i = tp i) : ∀ (d i n1 n2 p : Nat) (kd gr wi s : Nat → Int32), i + d = 5 → d < n1 → d + 1 < n2 → p ≤ n → pc_P s i kd gr wi →
    (∃ p' P' kd' gr' wi' s', pq_w (fun _ _ _ _ _ _ => none) (f_X6_readParties_L2 N (nI n) xb) n1 (nI i) (nI p) (nI i) kd gr wi = some (0, nI p', P', kd', gr', wi') ∧ pq_w (fun _ _ _ => none) (f_X8_isRead_L39 N (nI n) tp) n2 1 (nI p) s = some (0, nI p', s')) ∨
    (∃ p' P kd' gr' wi' s', (2 ≤ P ∧ P ≤ 6) ∧ p' ≤ n ∧ pq_w (fun _ _ _ _ _ _ => none) (f_X6_readParties_L2 N (nI n) xb) n1 (nI i) (nI p) (nI i) kd gr wi = some (1, nI p', nI P, kd', gr', wi') ∧ pq_w (fun _ _ _ => none) (f_X8_isRead_L39 N (nI n) tp) n2 1 (nI p) s = pq_w (fun _ _ _ => none) (f_X8_isRead_L104 N (nI n) tp) N 1 (nI p') s' ∧ pc_P s' P kd' gr' wi' ∧ ∀ q, q ≠ 2 → (q < 5 ∨ 17 ≤ q) → s' q = s q)
  | d, i, n1, n2, p, kd, gr, wi, s, h1, h2, h3, hp, hP => by
    obtain ⟨n1, rfl⟩ : ∃ t, n1 = t + 1 := ⟨n1 - 1, by omega⟩
    obtain ⟨n2, rfl⟩ : ∃ t, n2 = t + 2 := ⟨n2 - 2, by omega⟩
    have hi6 : ((6 : Int32) ≤ nI i) = False := eq_false (by rw [pu_lit 6, nI_leI (by omega) (by omega)]; omega)
    have hs2 := hP.1
    have h10 : (1 : Int32) = 0 ↔ False := ⟨fun e => by revert e; decide, fun e => e.elim⟩
    rw [pu_w, show n2 + 2 = n2 + 1 + 1 from rfl, pu_w (n := n2 + 1)]
    have r39 := fun (q : Nat) (S : Nat → Int32) (j : Nat) (hj : j ≤ 6) (es : S 2 = nI j) (hq : q ≤ n) => pc_r39 (N := N) (m := n2) (tp := tp) hj es hn hq
    have ih := fun (hd : 0 < d) (q : Nat) (kd' gr' wi' s' : Nat → Int32) (hq : q ≤ n) (hP' : pc_P s' (i + 1) kd' gr' wi') => pc_par (N := N) hn hb (d - 1) (i + 1) n1 (n2 + 1) q kd' gr' wi' s' (by omega) (by omega) (by omega) hq hP'
    generalize pq_w (fun _ _ _ _ _ _ => none) (f_X6_readParties_L2 N (nI n) xb) n1 = k1 at ih ⊢
    generalize pq_w (fun _ _ _ => none) (f_X8_isRead_L39 N (nI n) tp) (n2 + 1) = k2 at ih r39 ⊢
    rcases pc_kd_in (pc_b tp n p) with hk | ⟨k, hk, ek⟩
    · left
      refine ⟨p, nI i, upd kd i 0, gr, wi, s, ?_, ?_⟩
      · unfold f_X6_readParties_L2
        simp (disch := omega) only [hi6, if_false, pc_k6 hn hp hb, hk, pu_cs, pu_gd, nI_clamp, pu_l, pu_us, if_true, pu_b0]
      · unfold f_X8_isRead_L39 f_X8_isPartyItem
        simp only [h10, if_false, pc_by8 hn hp, pu_cs, pc_k8, hk, if_true, pu_b0]
    · have hpl := pc_kd_lt hk ek
      have hk0 : (nI k = 0) = False := eq_false (nI_ne0 (by omega) (by omega))
      cases hf : pc_fg tp n (p + 1) 9 with
      | none =>
        have f6 : f_X6_figureBelow N (nI n) (nI (p + 1)) xb 10 = some (-1, nI (p + 1)) := pc_g6 (k := 9) (m := 10) rfl (by omega) hn (by omega) hb hf
        have f8 : f_X8_figure N (nI n) (nI (p + 1)) tp 9 = some (-1, nI (p + 1)) := pc_g8 (k := 9) (by omega) hn (by omega) hf
        have m1 : ((0 : Int32) ≤ -1) = False := eq_false (by decide)
        left
        refine ⟨p + 1, nI i, upd kd i (nI k), upd gr i (-1), wi, s, ?_, ?_⟩
        · unfold f_X6_readParties_L2
          simp (disch := omega) only [hi6, if_false, pc_k6 hn hp hb, ek, pu_cs, pu_gd, nI_clamp, pu_l, pu_us, hk0, nI_1, f6, m1, pu_b0]
        · unfold f_X8_isRead_L39 f_X8_isPartyItem
          simp only [h10, if_false, pc_by8 hn hp, pu_cs, pc_k8, ek, hk0, pu_l, nI_1, f8, m1, pu_b0, if_true]
      | some g =>
        obtain ⟨hg, hpl2, -⟩ := pc_fg_some hf
        have f6 : f_X6_figureBelow N (nI n) (nI (p + 1)) xb 10 = some (nI g, nI (p + 1 + 1)) := pc_f6 (k := 9) (m := 10) rfl (by omega) hn (by omega) hb hf
        have f8 : f_X8_figure N (nI n) (nI (p + 1)) tp 9 = some (nI g, nI (p + 1 + 1)) := pc_f8 (k := 9) (by omega) hn (by omega) hf
        have m1 : ((0 : Int32) ≤ nI g) = True := eq_true (nI_pos' (by omega))
        have hP' := pc_P_s (s := s) (kd := kd) (gr := gr) (wi := wi) (show i < 6 by omega) hk hg hP
        have hfr : ∀ q, q ≠ 2 → (q < 5 ∨ 17 ≤ q) → pc_sP s i (nI k) (nI g) q = s q := fun q h4 h5 => pc_sP_o h4 (by omega) (by omega)
        have item : f_X8_isPartyItem N (nI n) (nI p) tp s = some (1, nI (p + 1 + 1), pc_sP s i (nI k) (nI g)) := by
          unfold f_X8_isPartyItem
          simp (disch := omega) only [pc_by8 hn hp, pu_cs, pc_k8, ek, hk0, if_false, pu_l, nI_1, f8, m1, if_true, pu_lit 2, pu_lit 5, pu_lit 11, pu_gd, nI_clamp, hs2, nI_add, pu_un, pu_b1]
          rfl
        have c2i : (nI (i + 1) < (2 : Int32)) = (i + 1 < 2) := propext (by rw [pu_lit 2, nI_ltI (by omega) (by omega)])
        have c6i : ((6 : Int32) ≤ nI (i + 1)) = (6 ≤ i + 1) := propext (by rw [pu_lit 6, nI_leI (by omega) (by omega)])
        have ref : f_X8_isRead_L39 N (nI n) tp k2 1 (nI p) s = if 6 ≤ i + 1 then k2 0 (nI (p + 1 + 1)) (pc_sP s i (nI k) (nI g)) else if pc_b tp n (p + 1 + 1) = 44 then k2 1 (nI (p + 1 + 1 + 1)) (pc_sP s i (nI k) (nI g)) else k2 0 (nI (p + 1 + 1)) (pc_sP s i (nI k) (nI g)) := by
          unfold f_X8_isRead_L39
          simp (disch := omega) only [h10, if_false, item, pu_cs, pu_lit 2, pu_gd, nI_clamp, hP'.1, pu_j, c6i]
          by_cases c1 : 6 ≤ i + 1
          · rw [if_pos c1, if_pos c1]
          · rw [if_neg c1, if_neg c1]
            by_cases c3 : pc_b tp n (p + 1 + 1) = 44
            · rw [pc_t8 hn (by omega) c3, pu_cs, if_pos c3]
              rfl
            · rw [pc_u8 hn (by omega) c3, pu_cs, if_neg c3]
              rfl
        rw [ref]
        have e39 := r39 (p + 1 + 1) (pc_sP s i (nI k) (nI g)) (i + 1) (by omega) hP'.1 (by omega)
        by_cases c59 : pc_b tp n (p + 1 + 1) = 59
        · have hpl3 := pc_lt c59 (by decide)
          have n44 : ¬ pc_b tp n (p + 1 + 1) = 44 := by rw [c59]; decide
          have t59 := pc_t6 (N := N) (c := 59) hn (show p + 1 + 1 ≤ n by omega) hb c59
          have t44 := pc_u6 (N := N) (c := 44) hn (show p + 1 + 1 ≤ n by omega) hb n44
          have eref : (if 6 ≤ i + 1 then k2 0 (nI (p + 1 + 1)) (pc_sP s i (nI k) (nI g)) else if pc_b tp n (p + 1 + 1) = 44 then k2 1 (nI (p + 1 + 1 + 1)) (pc_sP s i (nI k) (nI g)) else k2 0 (nI (p + 1 + 1)) (pc_sP s i (nI k) (nI g))) = k2 0 (nI (p + 1 + 1)) (pc_sP s i (nI k) (nI g)) := by
            rw [if_neg n44]
            split <;> rfl
          rw [eref, e39]
          by_cases ci : i + 1 < 2
          · left
            have c6f : (6 ≤ i + 1) = False := eq_false (by omega)
            refine ⟨p + 1 + 1, nI (i + 1), upd kd i (nI k), upd gr i (nI g), upd wi i 0, pc_sP s i (nI k) (nI g), ?_, by rw [if_pos ci]⟩
            unfold f_X6_readParties_L2
            simp (disch := omega) only [hi6, if_false, pc_k6 hn hp hb, ek, pu_cs, pu_gd, nI_clamp, pu_l, pu_us, hk0, nI_1, f6, m1, if_true, pu_j, c2i, ci, c6i, c6f, t44, pu_b0]
          · right
            have cif : (i + 1 < 2) = False := eq_false ci
            refine ⟨p + 1 + 1 + 1, i + 1, upd kd i (nI k), upd gr i (nI g), upd wi i 0, pc_sP s i (nI k) (nI g), by omega, by omega, ?_, by rw [if_neg ci, if_pos c59], hP', hfr⟩
            unfold f_X6_readParties_L2
            simp (disch := omega) only [hi6, if_false, pc_k6 hn hp hb, ek, pu_cs, pu_gd, nI_clamp, pu_l, pu_us, hk0, nI_1, f6, m1, if_true, pu_j, c2i, cif, t59, h10, pu_b1]
        · have t59 := pc_u6 (N := N) (c := 59) hn (show p + 1 + 1 ≤ n by omega) hb c59
          have e39' : k2 0 (nI (p + 1 + 1)) (pc_sP s i (nI k) (nI g)) = some (0, nI (p + 1 + 1), pc_sP s i (nI k) (nI g)) := by
            rw [e39, if_neg c59]
            split <;> rfl
          rw [e39']
          have cls : f_X6_readParties_L2 N (nI n) xb k1 (nI i) (nI p) (nI i) kd gr wi = if 6 ≤ i + 1 then some (0, nI (p + 1 + 1), nI (i + 1), upd kd i (nI k), upd gr i (nI g), upd wi i 0) else if pc_b tp n (p + 1 + 1) = 44 then k1 (nI (i + 1)) (nI (p + 1 + 1 + 1)) (nI (i + 1)) (upd kd i (nI k)) (upd gr i (nI g)) (upd wi i 0) else some (0, nI (p + 1 + 1), nI (i + 1), upd kd i (nI k), upd gr i (nI g), upd wi i 0) := by
            unfold f_X6_readParties_L2
            simp (disch := omega) only [hi6, if_false, pc_k6 hn hp hb, ek, pu_cs, pu_gd, nI_clamp, pu_l, pu_us, hk0, nI_1, f6, m1, if_true, pu_j, c2i, c6i, t59, pu_b0, ite_self]
            by_cases c1 : 6 ≤ i + 1
            · rw [if_pos c1, if_pos c1]
            · rw [if_neg c1, if_neg c1]
              by_cases c3 : pc_b tp n (p + 1 + 1) = 44
              · rw [pc_t6 hn (by omega) hb c3, pu_cs, if_pos c3]
                rfl
              · rw [pc_u6 hn (by omega) hb c3, pu_cs, if_neg c3]
                rfl
          rw [cls]
          by_cases c1 : 6 ≤ i + 1
          · left
            exact ⟨p + 1 + 1, _, _, _, _, _, by rw [if_pos c1], by rw [if_pos c1]⟩
          · by_cases c3 : pc_b tp n (p + 1 + 1) = 44
            · have hpl3 := pc_lt c3 (by decide)
              rw [if_neg c1, if_neg c1, if_pos c3, if_pos c3]
              rcases ih (by omega) (p + 1 + 1 + 1) _ _ _ _ (by omega) hP' with h9 | ⟨p', P, kd', gr', wi', s', h9, h10', h11, h12, h13, h14⟩
              · exact Or.inl h9
              · exact Or.inr ⟨p', P, kd', gr', wi', s', h9, h10', h11, h12, h13, fun q h4 h5 => by rw [h14 q h4 h5]; exact hfr q h4 h5⟩
            · left
              exact ⟨p + 1 + 1, _, _, _, _, _, by rw [if_neg c1, if_neg c3], by rw [if_neg c1, if_neg c3]⟩
termination_by d => d
