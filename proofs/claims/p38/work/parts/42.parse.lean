/-! TEXTS: t the characters, n how many -/
/-- a number of k digits at most from a on, behind num (-1: none yet): the number, and where it ends -/
def pNum (t : Int → Int) (n : Int) : Nat → Int → Int → Int × Int
  | 0, num, a => (num, a)
  | k + 1, num, a => if a < n ∧ 48 ≤ t a ∧ t a ≤ 57 then pNum t n k (max num 0 * 10 + (t a - 48)) (a + 1) else (num, a)
theorem pNum_t {t : Int → Int} {n : Int} {k : Nat} {num a : Int} (h : a < n ∧ 48 ≤ t a ∧ t a ≤ 57) : pNum t n (k + 1) num a = pNum t n k (max num 0 * 10 + (t a - 48)) (a + 1) := if_pos h
theorem pNum_f {t : Int → Int} {n : Int} {k : Nat} {num a : Int} (h : ¬ (a < n ∧ 48 ≤ t a ∧ t a ≤ 57)) : pNum t n (k + 1) num a = (num, a) := if_neg h
theorem pNum_rg {t : Int → Int} {n : Int} : ∀ (k : Nat) (num a : Int), a ≤ n → a ≤ (pNum t n k num a).2 ∧ (pNum t n k num a).2 ≤ n ∧ (pNum t n k num a).2 ≤ a + k
  | 0, num, a, h => ⟨Int.le_refl _, h, by show a ≤ a + ((0 : Nat) : Int); omega⟩
  | k + 1, num, a, h => by
    by_cases hc : a < n ∧ 48 ≤ t a ∧ t a ≤ 57
    · rw [pNum_t hc]
      have := pNum_rg (t := t) (n := n) k (max num 0 * 10 + (t a - 48)) (a + 1) (by omega)
      omega
    · rw [pNum_f hc]
      exact ⟨Int.le_refl _, h, by show a ≤ _; omega⟩
theorem pNum_v2 {t : Int → Int} {n a : Int} : -1 ≤ (pNum t n 2 (-1) a).1 ∧ (pNum t n 2 (-1) a).1 ≤ 99 := by
  by_cases h1 : a < n ∧ 48 ≤ t a ∧ t a ≤ 57
  · rw [pNum_t h1]
    by_cases h2 : a + 1 < n ∧ 48 ≤ t (a + 1) ∧ t (a + 1) ≤ 57
    · rw [pNum_t h2]
      show -1 ≤ max (max (-1) 0 * 10 + (t a - 48)) 0 * 10 + (t (a + 1) - 48) ∧ max (max (-1) 0 * 10 + (t a - 48)) 0 * 10 + (t (a + 1) - 48) ≤ 99
      omega
    · rw [pNum_f h2]
      show -1 ≤ max (-1) 0 * 10 + (t a - 48) ∧ max (-1) 0 * 10 + (t a - 48) ≤ 99
      omega
  · rw [pNum_f h1]
    exact ⟨Int.le_refl _, by show (-1 : Int) ≤ 99; omega⟩
theorem pNum_v3 {t : Int → Int} {n a : Int} : -1 ≤ (pNum t n 3 (-1) a).1 ∧ (pNum t n 3 (-1) a).1 ≤ 999 := by
  by_cases h1 : a < n ∧ 48 ≤ t a ∧ t a ≤ 57
  · rw [pNum_t h1]
    by_cases h2 : a + 1 < n ∧ 48 ≤ t (a + 1) ∧ t (a + 1) ≤ 57
    · rw [pNum_t h2]
      by_cases h3 : a + 1 + 1 < n ∧ 48 ≤ t (a + 1 + 1) ∧ t (a + 1 + 1) ≤ 57
      · rw [pNum_t h3]
        show -1 ≤ max (max (max (-1) 0 * 10 + (t a - 48)) 0 * 10 + (t (a + 1) - 48)) 0 * 10 + (t (a + 1 + 1) - 48) ∧ max (max (max (-1) 0 * 10 + (t a - 48)) 0 * 10 + (t (a + 1) - 48)) 0 * 10 + (t (a + 1 + 1) - 48) ≤ 999
        omega
      · rw [pNum_f h3]
        show -1 ≤ max (max (-1) 0 * 10 + (t a - 48)) 0 * 10 + (t (a + 1) - 48) ∧ max (max (-1) 0 * 10 + (t a - 48)) 0 * 10 + (t (a + 1) - 48) ≤ 999
        omega
    · rw [pNum_f h2]
      show -1 ≤ max (-1) 0 * 10 + (t a - 48) ∧ max (-1) 0 * 10 + (t a - 48) ≤ 999
      omega
  · rw [pNum_f h1]
    exact ⟨Int.le_refl _, by show (-1 : Int) ≤ 999; omega⟩
/-- the state X is G but for the place in the text, and whether it is wrong -/
def mS (G X : fS) (a w : Int) : Prop := X 17 0 = a ∧ X 18 0 = w ∧ ∀ i, i ≠ 17 → i ≠ 18 → X i = G i
theorem mS.tr {G X Y : fS} {a w b v : Int} (h : mS G X a w) (h' : mS X Y b v) : mS G Y b v := ⟨h'.1, h'.2.1, fun i i1 i2 => (h'.2.2 i i1 i2).trans (h.2.2 i i1 i2)⟩
/-- the kinds of orders, by their letters; the signs; the letters -/
def kdOf (c : Int) : Int := if c = 102 then 0 else if c = 98 then 1 else if c = 103 then 2 else if c = 99 then 3 else if c = 109 then 4 else if c = 112 then 5 else if c = 113 then 6 else if c = 101 then 7 else if c = 100 then 8 else -1
def sgOf (kd : Int) : Int := if kd = 2 then 60 else if kd = 4 then 43 else if kd = 6 then 45 else if kd = 7 then 61 else 32
def dgOf (kd : Int) : Nat := if kd = 7 then 3 else 2
/-- an order from a on: its kind or -1, its numbers, and where it ends -/
def pOrd (t : Int → Int) (n a : Int) : Int × Int × Int × Int :=
  if kdOf (if a < n then t a else 0) = -1 then (-1, 0, 0, a)
  else if (if kdOf (if a < n then t a else 0) = 0 then (0, a + 1) else pNum t n 2 (-1) (a + 1)).1 = -1 then (-1, 0, 0, (if kdOf (if a < n then t a else 0) = 0 then (0, a + 1) else pNum t n 2 (-1) (a + 1)).2)
  else if sgOf (kdOf (if a < n then t a else 0)) = 32 then (kdOf (if a < n then t a else 0), (if kdOf (if a < n then t a else 0) = 0 then (0, a + 1) else pNum t n 2 (-1) (a + 1)).1, 0, (if kdOf (if a < n then t a else 0) = 0 then (0, a + 1) else pNum t n 2 (-1) (a + 1)).2)
  else if (pNum t n 2 (-1) (a + 1)).2 < n ∧ t (pNum t n 2 (-1) (a + 1)).2 = sgOf (kdOf (if a < n then t a else 0)) then
    (if (pNum t n (dgOf (kdOf (if a < n then t a else 0))) (-1) ((pNum t n 2 (-1) (a + 1)).2 + 1)).1 = -1 then (-1, 0, 0, (pNum t n (dgOf (kdOf (if a < n then t a else 0))) (-1) ((pNum t n 2 (-1) (a + 1)).2 + 1)).2)
     else (kdOf (if a < n then t a else 0), (pNum t n 2 (-1) (a + 1)).1, (pNum t n (dgOf (kdOf (if a < n then t a else 0))) (-1) ((pNum t n 2 (-1) (a + 1)).2 + 1)).1, (pNum t n (dgOf (kdOf (if a < n then t a else 0))) (-1) ((pNum t n 2 (-1) (a + 1)).2 + 1)).2))
  else (-1, 0, 0, (pNum t n 2 (-1) (a + 1)).2)
