/-! ===== orders: all of them, the first of the best ===== -/
def px_v (jst nxt : Nat → Nat → Nat) : List Nat → Nat → Nat
  | [], _ => 0
  | k :: l, j => jst k j + px_v jst nxt l (nxt k j)
/-- the orders of those that the set h doesn't hold (m of them), by their numbers -/
def px_p (n : Nat) : Nat → Nat → List (List Nat)
  | 0, _ => [[]]
  | m + 1, h => (List.range n).flatMap (fun k => if h.testBit k = true then [] else (px_p n m (h ||| 2 ^ k)).map (fun l => k :: l))
/-- the most that can still be had -/
def px_b (jst nxt : Nat → Nat → Nat) (n : Nat) : Nat → Nat → Nat → Nat
  | 0, _, _ => 0
  | m + 1, h, j => pn_gm (fun k => if h.testBit k = true then 0 else jst k j + px_b jst nxt n m (h ||| 2 ^ k) (nxt k j)) n
def px_ff (P : Nat → Bool) : Nat → Nat → Nat
  | _, 0 => 0
  | i, d + 1 => if P i = true then i else px_ff P (i + 1) d
def px_t (jst nxt : Nat → Nat → Nat) (n m h j : Nat) (k : Nat) : Bool := !h.testBit k && decide (jst k j + px_b jst nxt n m (h ||| 2 ^ k) (nxt k j) = px_b jst nxt n (m + 1) h j)
/-- the first of the best orders -/
def px_g (jst nxt : Nat → Nat → Nat) (n : Nat) : Nat → Nat → Nat → List Nat
  | 0, _, _ => []
  | m + 1, h, j => px_ff (px_t jst nxt n m h j) 0 n :: px_g jst nxt n m (h ||| 2 ^ px_ff (px_t jst nxt n m h j) 0 n) (nxt (px_ff (px_t jst nxt n m h j) 0 n) j)
theorem px_ff_at {P : Nat → Bool} {k : Nat} (hk : P k = true) : ∀ (d i : Nat), i ≤ k → k < i + d → (∀ q, i ≤ q → q < k → P q = false) → px_ff P i d = k
  | 0, i, h1, h2, _ => by omega
  | d + 1, i, h1, h2, h3 => by
    show (if P i = true then i else px_ff P (i + 1) d) = k
    by_cases e : i = k
    · rw [e, if_pos hk]
    · rw [h3 i (Nat.le_refl i) (by omega), if_neg (by decide)]
      exact px_ff_at hk d (i + 1) (by omega) (by omega) (fun q h4 h5 => h3 q (by omega) h5)
/-- how many the set h doesn't hold -/
def px_c (n h : Nat) : Nat := pn_cn (fun k => !h.testBit k) n
theorem px_c_del {q : Nat → Bool} {q' : Nat → Bool} {b : Nat} (hb : q b = true) (hq : ∀ k, q' k = (q k && decide (k ≠ b))) : ∀ n, pn_cn q' n + (if b < n then 1 else 0) = pn_cn q n
  | 0 => by rw [if_neg (Nat.not_lt_zero b)]; rfl
  | n + 1 => by
    have ih := px_c_del hb hq n
    rw [pn_cn_s, pn_cn_s, hq n]
    by_cases e : n = b
    · rw [e] at ih ⊢
      rw [if_neg (Nat.lt_irrefl b)] at ih
      rw [if_pos (Nat.lt_succ_self b), hb, if_neg (by simp), if_pos rfl]
      omega
    · have e2 : (q n && decide (n ≠ b)) = q n := by simp [e]
      rw [e2]
      by_cases l : b < n
      · rw [if_pos l] at ih
        rw [if_pos (show b < n + 1 by omega)]
        omega
      · rw [if_neg l] at ih
        rw [if_neg (show ¬ b < n + 1 by omega)]
        omega
theorem px_c_or {n h k : Nat} (hk : k < n) (hb : h.testBit k = false) : px_c n (h ||| 2 ^ k) + 1 = px_c n h := by
  have h1 := px_c_del (q := fun i => !h.testBit i) (q' := fun i => !(h ||| 2 ^ k).testBit i) (b := k) (by simp [hb]) (fun i => by
    rw [Nat.testBit_or, Nat.testBit_two_pow]
    by_cases e : i = k
    · simp [e]
    · have e2 : ¬ k = i := fun x => e x.symm
      simp [e, e2]) n
  rw [if_pos hk] at h1
  exact h1
theorem px_c_ex {n h m : Nat} (hc : px_c n h = m + 1) : ∃ k, k < n ∧ h.testBit k = false := by
  apply Classical.byContradiction
  intro hn
  have hz : pn_cn (fun k => !h.testBit k) n = pn_cn (fun k => !h.testBit k) 0 := pn_cn_end (i := 0) (Nat.zero_le n) (fun k _ hk => by
    cases e : h.testBit k with
    | true => rfl
    | false => exact absurd ⟨k, hk, e⟩ hn)
  have hz2 : px_c n h = 0 := hz
  omega
theorem px_c0 (n : Nat) : px_c n 0 = n := by
  have : ∀ n, pn_cn (fun k => !(0 : Nat).testBit k) n = n := by
    intro n
    induction n with
    | zero => rfl
    | succ n ih => rw [pn_cn_s, ih]; simp
  exact this n
theorem px_b_le {jst nxt : Nat → Nat → Nat} {n : Nat} (h1 : ∀ k j, jst k j ≤ 1) : ∀ (m h j : Nat), px_b jst nxt n m h j ≤ m
  | 0, h, j => Nat.le_refl 0
  | m + 1, h, j => by
    refine (pn_gm_le _ n _).mpr (fun k _ => ?_)
    split
    · omega
    · have a := h1 k j
      have b := px_b_le (nxt := nxt) (n := n) h1 m (h ||| 2 ^ k) (nxt k j)
      omega
def px_f (val : List Nat → Nat) : (Int × List Nat) → List (List Nat) → (Int × List Nat)
  | acc, [] => acc
  | acc, l :: r => px_f val (if acc.1 < (val l : Int) then ((val l : Int), l) else acc) r
theorem px_f_app (val : List Nat → Nat) : ∀ (a b : List (List Nat)) (acc : Int × List Nat), px_f val acc (a ++ b) = px_f val (px_f val acc a) b
  | [], b, acc => rfl
  | l :: r, b, acc => px_f_app val r b _
theorem px_gm_ex {f : Nat → Nat} {k : Nat} : ∀ n, k < n → (∀ i, i < n → f i ≤ f k) → pn_gm f n = f k := by
  intro n hk h
  have a := (pn_gm_le f n (f k)).mpr h
  have b := (pn_gm_le f n (pn_gm f n)).mp (Nat.le_refl _) k hk
  omega
/-- all orders gone through: the most, and the first that has it -/
theorem px_fold {jst nxt : Nat → Nat → Nat} {n : Nat} {val : List Nat → Nat} : ∀ (m h j c : Nat) (pre : List Nat → List Nat) (acc : Int × List Nat), px_c n h = m → (∀ l, val (pre l) = c + px_v jst nxt l j) →
    px_f val acc ((px_p n m h).map pre) = if acc.1 < ((c + px_b jst nxt n m h j : Nat) : Int) then (((c + px_b jst nxt n m h j : Nat) : Int), pre (px_g jst nxt n m h j)) else acc
  | 0, h, j, c, pre, acc, hc, hv => by
    show px_f val (if acc.1 < (val (pre []) : Int) then ((val (pre []) : Int), pre []) else acc) [] = _
    rw [hv []]
    rfl
  | m + 1, h, j, c, pre, acc, hc, hv => by
    obtain ⟨v, ev⟩ : ∃ v : Nat → Nat, ∀ k, v k = jst k j + px_b jst nxt n m (h ||| 2 ^ k) (nxt k j) := ⟨_, fun _ => rfl⟩
    have hmap : (px_p n (m + 1) h).map pre = (List.range n).flatMap (fun k => (if h.testBit k = true then [] else (px_p n m (h ||| 2 ^ k)).map (fun l => k :: l)).map pre) := by
      show ((List.range n).flatMap _).map pre = _
      rw [List.map_flatMap]
    have inv : ∀ i, i ≤ n → (px_f val acc ((List.range i).flatMap (fun k => (if h.testBit k = true then [] else (px_p n m (h ||| 2 ^ k)).map (fun l => k :: l)).map pre)) = acc ∧ ∀ k, k < i → h.testBit k = false → ((c + v k : Nat) : Int) ≤ acc.1) ∨
        ∃ k, k < i ∧ h.testBit k = false ∧ px_f val acc ((List.range i).flatMap (fun k => (if h.testBit k = true then [] else (px_p n m (h ||| 2 ^ k)).map (fun l => k :: l)).map pre)) = (((c + v k : Nat) : Int), pre (k :: px_g jst nxt n m (h ||| 2 ^ k) (nxt k j))) ∧ acc.1 < ((c + v k : Nat) : Int) ∧ (∀ q, q < i → h.testBit q = false → v q ≤ v k) ∧ (∀ q, q < k → h.testBit q = false → v q < v k) := by
      intro i
      induction i with
      | zero => intro _; exact Or.inl ⟨rfl, fun k hk => absurd hk (Nat.not_lt_zero k)⟩
      | succ i ih =>
        intro hi
        have ih := ih (by omega)
        rw [List.range_succ, List.flatMap_append, px_f_app, List.flatMap_singleton]
        generalize px_f val acc ((List.range i).flatMap (fun k => (if h.testBit k = true then [] else (px_p n m (h ||| 2 ^ k)).map (fun l => k :: l)).map pre)) = A at ih ⊢
        cases hb : h.testBit i with
        | true =>
          rw [if_pos rfl]
          show (A = acc ∧ _) ∨ _
          rcases ih with ⟨e1, e2⟩ | ⟨k, e0, e1, e2, e3, e4, e5⟩
          · refine Or.inl ⟨e1, fun k hk hkb => ?_⟩
            by_cases c1 : k = i
            · rw [c1, hb] at hkb; cases hkb
            · exact e2 k (by omega) hkb
          · refine Or.inr ⟨k, by omega, e1, e2, e3, fun q hq hqb => ?_, e5⟩
            by_cases c1 : q = i
            · rw [c1, hb] at hqb; cases hqb
            · exact e4 q (by omega) hqb
        | false =>
          rw [if_neg (by decide), List.map_map]
          have hcm : px_c n (h ||| 2 ^ i) = m := by have := px_c_or (n := n) (h := h) (k := i) (by omega) hb; omega
          have e := px_fold (jst := jst) (nxt := nxt) (n := n) (val := val) m (h ||| 2 ^ i) (nxt i j) (c + jst i j) (pre ∘ (fun l => i :: l)) A hcm (fun l => by
            show val (pre (i :: l)) = _
            rw [hv (i :: l)]
            show c + (jst i j + px_v jst nxt l (nxt i j)) = _
            omega)
          rw [e, show c + jst i j + px_b jst nxt n m (h ||| 2 ^ i) (nxt i j) = c + v i by rw [ev i]; omega]
          rcases ih with ⟨e1, e2⟩ | ⟨k, e0, e1, e2, e3, e4, e5⟩
          · rw [e1]
            by_cases c1 : acc.1 < ((c + v i : Nat) : Int)
            · rw [if_pos c1]
              refine Or.inr ⟨i, by omega, hb, rfl, c1, fun q hq hqb => ?_, fun q hq hqb => ?_⟩
              · by_cases c2 : q = i
                · rw [c2]; exact Nat.le_refl _
                · have := e2 q (by omega) hqb; omega
              · have := e2 q hq hqb; omega
            · rw [if_neg c1]
              refine Or.inl ⟨rfl, fun k hk hkb => ?_⟩
              by_cases c2 : k = i
              · rw [c2]; omega
              · exact e2 k (by omega) hkb
          · rw [e2]
            dsimp only
            by_cases c1 : ((c + v k : Nat) : Int) < ((c + v i : Nat) : Int)
            · rw [if_pos c1]
              refine Or.inr ⟨i, by omega, hb, rfl, by omega, fun q hq hqb => ?_, fun q hq hqb => ?_⟩
              · by_cases c2 : q = i
                · rw [c2]; exact Nat.le_refl _
                · have := e4 q (by omega) hqb; omega
              · have := e4 q hq hqb; omega
            · rw [if_neg c1]
              refine Or.inr ⟨k, by omega, e1, rfl, e3, fun q hq hqb => ?_, e5⟩
              by_cases c2 : q = i
              · rw [c2]; omega
              · exact e4 q (by omega) hqb
    rw [hmap]
    have hB : ∀ k, k < n → h.testBit k = false → (∀ q, q < n → h.testBit q = false → v q ≤ v k) → px_b jst nxt n (m + 1) h j = v k := by
      intro k hk hkb hall
      have e := px_gm_ex (f := fun k => if h.testBit k = true then 0 else jst k j + px_b jst nxt n m (h ||| 2 ^ k) (nxt k j)) (k := k) n hk (fun i hi => by
        cases hb : h.testBit i with
        | true => rw [if_pos rfl]; exact Nat.zero_le _
        | false =>
          rw [if_neg (by decide), hkb, if_neg (by decide), ← ev i, ← ev k]
          exact hall i hi hb)
      rw [hkb, if_neg (by decide), ← ev k] at e
      exact e
    rcases inv n (Nat.le_refl n) with ⟨e1, e2⟩ | ⟨k, e0, e1, e2, e3, e4, e5⟩
    · rw [e1]
      have : ¬ acc.1 < ((c + px_b jst nxt n (m + 1) h j : Nat) : Int) := by
        obtain ⟨k0, hk0, hb0⟩ := px_c_ex hc
        have hle : px_b jst nxt n (m + 1) h j ≤ (acc.1 - c).toNat := by
          refine (pn_gm_le _ n _).mpr (fun k hk => ?_)
          cases hb : h.testBit k with
          | true => rw [if_pos rfl]; exact Nat.zero_le _
          | false =>
            rw [if_neg (by decide), ← ev k]
            have := e2 k hk hb
            omega
        have := e2 k0 hk0 hb0
        omega
      rw [if_neg this]
    · have eB := hB k e0 e1 e4
      rw [e2, eB, if_pos e3]
      have ek : px_ff (px_t jst nxt n m h j) 0 n = k := by
        refine px_ff_at ?_ n 0 (by omega) (by omega) (fun q _ hq => ?_)
        · unfold px_t
          rw [e1, ← ev k, eB]
          simp
        · unfold px_t
          rw [← ev q, eB]
          cases hb : h.testBit q with
          | true => rfl
          | false =>
            have := e5 q hq hb
            have hne : ¬ v q = v k := by omega
            simp [hne]
      show _ = (_, pre (px_ff (px_t jst nxt n m h j) 0 n :: px_g jst nxt n m (h ||| 2 ^ px_ff (px_t jst nxt n m h j) 0 n) (nxt (px_ff (px_t jst nxt n m h j) 0 n) j)))
      rw [ek]
/-! the next order -/
def px_i (o : Nat → Nat) : Nat → Option Nat
  | 0 => none
  | m + 1 => if o m ≤ o (m + 1) then some m else px_i o m
def px_j (o : Nat → Nat) (v : Nat) : Nat → Nat
  | 0 => 0
  | j + 1 => if v ≤ o (j + 1) then j + 1 else px_j o v j
def px_s (o : Nat → Nat) (a b : Nat) : Nat → Nat := fun k => if k = b then o a else if k = a then o b else o k
def px_r : Nat → (Nat → Nat) → Nat → Nat → (Nat → Nat)
  | 0, o, _, _ => o
  | d + 1, o, a, b => if b ≤ a then o else px_r d (px_s o a b) (a + 1) (b - 1)
def px_n (n : Nat) (o : Nat → Nat) : Option (Nat → Nat) := match px_i o (n - 1) with
  | none => none
  | some i => some (px_r 3 (px_s o i (px_j o (o i) (n - 1))) (i + 1) (n - 1))
def px_nl (n : Nat) (l : List Nat) : Option (List Nat) := match px_n n (fun k => l.getD k 0) with
  | none => none
  | some o => some ((List.range n).map o)
def px_ck (n : Nat) : List Nat → List (List Nat) → Bool
  | l, [] => decide (px_nl n l = none)
  | l, l' :: r => decide (px_nl n l = some l') && px_ck n l' r
def px_ok (n : Nat) (l : List Nat) : Bool := decide (l.length = n) && l.all (fun k => decide (k < n))
theorem px_all : ∀ n : Fin 7, ((px_p n.val n.val 0).head? = some (List.range n.val) ∧ px_ck n.val (List.range n.val) (px_p n.val n.val 0).tail = true) ∧ (px_p n.val n.val 0).all (px_ok n.val) = true ∧ (px_p n.val n.val 0).length ≤ 720 := by decide +kernel
