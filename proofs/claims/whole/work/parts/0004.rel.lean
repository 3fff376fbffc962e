/-! ===== what the class holds against what the reference holds =====
x: the class' ints, a: its rows; s: the reference's row of 83 (NEXT 0, SITS 1, PARTIES 2, JUDGES 3, CASES 4, KIND 5, GRIEF 11, WINS 17, LEAN 23, FAVOURS 29, FOR 35, AGAINST 47, WEIGHT 59, WON 71) -/
def pq_rc (x : Nat → Int32) (a : Nat → Nat → Int32) (s : Nat → Int32) : Prop :=
  x 0 = s 2 ∧ x 1 = s 3 ∧ x 2 = s 4 ∧ x 3 = s 0 ∧ x 4 = s 1 ∧
  (∀ i : Nat, (i : Int) < (s 2).toInt → a 0 i = s (5 + i) ∧ a 1 i = s (11 + i) ∧ a 2 i = s (17 + i)) ∧
  (∀ i : Nat, (i : Int) < (s 3).toInt → a 3 i = s (23 + i) ∧ a 4 i = s (29 + i)) ∧
  (∀ i : Nat, (i : Int) < (s 4).toInt → a 5 i = s (35 + i) ∧ a 6 i = s (47 + i) ∧ a 7 i = s (59 + i) ∧ a 8 i = s (71 + i))
/-- a circuit is there, and in order -/
def pq_wf (s : Nat → Int32) : Prop :=
  (2 ≤ (s 2).toInt ∧ (s 2).toInt ≤ 6) ∧ (1 ≤ (s 3).toInt ∧ (s 3).toInt ≤ 6) ∧ (1 ≤ (s 4).toInt ∧ (s 4).toInt ≤ 12) ∧ (0 ≤ (s 0).toInt ∧ (s 0).toInt ≤ (s 4).toInt) ∧ (0 ≤ (s 1).toInt ∧ (s 1).toInt < (s 3).toInt) ∧
  (∀ i : Nat, (i : Int) < (s 2).toInt → (1 ≤ (s (5 + i)).toInt ∧ (s (5 + i)).toInt ≤ 5) ∧ (0 ≤ (s (11 + i)).toInt ∧ (s (11 + i)).toInt ≤ 20)) ∧
  (∀ i : Nat, (i : Int) < (s 3).toInt → (0 ≤ (s (23 + i)).toInt ∧ (s (23 + i)).toInt ≤ 9) ∧ (s (29 + i) = -4 ∨ (0 ≤ (s (29 + i)).toInt ∧ (s (29 + i)).toInt < (s 2).toInt))) ∧
  (∀ i : Nat, (i : Int) < (s 4).toInt → (0 ≤ (s (35 + i)).toInt ∧ (s (35 + i)).toInt < (s 2).toInt) ∧ (0 ≤ (s (47 + i)).toInt ∧ (s (47 + i)).toInt < (s 2).toInt) ∧ s (35 + i) ≠ s (47 + i) ∧ (0 ≤ (s (59 + i)).toInt ∧ (s (59 + i)).toInt ≤ 9) ∧ ((i : Int) < (s 0).toInt → s (71 + i) = s (35 + i) ∨ s (71 + i) = s (47 + i)) ∧ ((s 0).toInt ≤ (i : Int) → s (71 + i) = -4))
def pq_no (s : Nat → Int32) : Prop := s 0 = 0 ∧ s 1 = -4 ∧ s 2 = 0 ∧ s 3 = 0 ∧ s 4 = 0
/-- an act w (what, one, other, before, beforeOther, sat) taken back from t -/
def pq_un (w : Nat → Int32) (t : Nat → Int32) : Nat → Int32 := fun i =>
  if w 0 = 0 then
    (if i = 0 then w 1 else if i = 1 then w 5 else if i = 11 + (t (35 + (w 1).toNatClampNeg)).toNatClampNeg then w 3 else if i = 11 + (t (47 + (w 1).toNatClampNeg)).toNatClampNeg then w 4 else if i = 17 + (t (71 + (w 1).toNatClampNeg)).toNatClampNeg then t i - 1 else if i = 71 + (w 1).toNatClampNeg then -4 else t i)
  else if w 0 = 1 then
    (if i = 35 + (w 1).toNatClampNeg then t (35 + (w 2).toNatClampNeg) else if i = 35 + (w 2).toNatClampNeg then t (35 + (w 1).toNatClampNeg) else if i = 47 + (w 1).toNatClampNeg then t (47 + (w 2).toNatClampNeg) else if i = 47 + (w 2).toNatClampNeg then t (47 + (w 1).toNatClampNeg) else if i = 59 + (w 1).toNatClampNeg then t (59 + (w 2).toNatClampNeg) else if i = 59 + (w 2).toNatClampNeg then t (59 + (w 1).toNatClampNeg) else t i)
  else if w 0 = 2 then (if i = 11 + (w 1).toNatClampNeg then w 3 else t i)
  else if w 0 = 3 then (if i = 1 then w 5 else t i)
  else (if i = 23 + (w 1).toNatClampNeg then w 3 else t i)
/-- the act's numbers are in order, in t -/
def pq_av (w : Nat → Int32) (t : Nat → Int32) : Prop :=
  (w 0 = 0 ∧ 0 ≤ (w 1).toInt ∧ (w 1).toInt + 1 = (t 0).toInt) ∨
  (w 0 = 1 ∧ (0 ≤ (w 1).toInt ∧ (w 1).toInt < (t 4).toInt) ∧ (0 ≤ (w 2).toInt ∧ (w 2).toInt < (t 4).toInt) ∧ w 1 ≠ w 2) ∨
  (w 0 = 2 ∧ 0 ≤ (w 1).toInt ∧ (w 1).toInt < (t 2).toInt) ∨ w 0 = 3 ∨
  (w 0 = 4 ∧ 0 ≤ (w 1).toInt ∧ (w 1).toInt < (t 3).toInt)
/-- the reference's row before the j-th act from the end of n (0: the row now) -/
def pq_sn (now acts : Nat → Int32) (n j : Nat) : Nat → Int32 := if j = 0 then now else fun i => acts (83 * (n - j) + i)
def pq_hi (size newest : Int32) (aw : Nat → Nat → Int32) (now acts : Nat → Int32) : Prop :=
  (0 ≤ size.toInt ∧ size.toInt ≤ 24) ∧ (0 ≤ newest.toInt ∧ newest.toInt < 24) ∧
  ∀ j : Nat, (j : Int) < size.toInt → pq_wf (pq_sn now acts size.toInt.toNat j) ∧ pq_wf (pq_sn now acts size.toInt.toNat (j + 1)) ∧ pq_av (fun f => aw f ((newest.toInt.toNat + 24 - j) % 24)) (pq_sn now acts size.toInt.toNat j) ∧
    ∀ i, i < 83 → pq_sn now acts size.toInt.toNat (j + 1) i = pq_un (fun f => aw f ((newest.toInt.toNat + 24 - j) % 24)) (pq_sn now acts size.toInt.toNat j) i
def pq_sh (held lane size : Int32) (items : Nat → Int64) (ml ms : Int32) (mi : Nat → Int64) : Prop :=
  (held = 0 ∧ ml = -1) ∨ (held = 1 ∧ ml = lane ∧ (0 ≤ lane.toInt ∧ lane.toInt ≤ 3) ∧ ms = size ∧ (0 ≤ size.toInt ∧ size.toInt ≤ 24) ∧ ∀ i, i < 24 → items i = mi i)
/-- class (ints xI, rows xA, sheets xL, acts aw) and reference (ints mI, rows mA, items mL) hold the same -/
def pq_R (xI : Nat → Int32) (xA : Nat → Nat → Int32) (xL : Nat → Nat → Int64) (aw : Nat → Nat → Int32) (mI : Nat → Int32) (mA : Nat → Nat → Int32) (mL : Nat → Int64) : Prop :=
  (xI 20 = mI 3 ∧ (0 ≤ (mI 3).toInt ∧ (mI 3).toInt ≤ 130) ∧ ∀ i : Nat, (i : Int) < (mI 3).toInt → xA 36 i = mA 4 i) ∧
  (pq_rc (fun f => xI (10 + f)) (fun f => xA (18 + f)) (mA 6) ∧ (pq_no (mA 6) ∨ pq_wf (mA 6))) ∧
  (∀ k, k < 2 → (mA 10 k = 0 ∧ xI (5 * k + 2) = 0) ∨ (mA 10 k = 1 ∧ pq_rc (fun f => xI (5 * k + f)) (fun f => xA (9 * k + f)) (fun i => mA 9 (83 * k + i)) ∧ pq_wf (fun i => mA 9 (83 * k + i)))) ∧
  (xI 22 = mI 12 ∧ pq_hi (xI 22) (xI 23) aw (mA 6) (mA 11)) ∧
  (∀ k, k < 4 → pq_sh (xI (25 + 3 * k)) (xI (26 + 3 * k)) (xI (27 + 3 * k)) (xL k) (mA 0 k) (mA 1 k) (fun i => mL (24 * k + i)))
