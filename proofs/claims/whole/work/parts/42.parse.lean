/-! TEXTS: t the characters, n how many -/
def pIs (t : Int → Int) (n a lo hi : Int) : Prop := a < n ∧ lo ≤ t a ∧ t a ≤ hi
theorem pIs_dec (t : Int → Int) (n a lo hi : Int) : pIs t n a lo hi ∨ ¬ pIs t n a lo hi := Classical.em _
/-- a number of k digits at most from a on, behind num (-1: none yet): the number, and where it ends -/
def pNum (t : Int → Int) (n : Int) : Nat → Int → Int → Int × Int
  | 0, num, a => (num, a)
  | k + 1, num, a => if a < n ∧ 48 ≤ t a ∧ t a ≤ 57 then pNum t n k (max num 0 * 10 + (t a - 48)) (a + 1) else (num, a)
theorem pNum_t {t : Int → Int} {n : Int} {k : Nat} {num a : Int} (h : a < n ∧ 48 ≤ t a ∧ t a ≤ 57) : pNum t n (k + 1) num a = pNum t n k (max num 0 * 10 + (t a - 48)) (a + 1) := if_pos h
theorem pNum_f {t : Int → Int} {n : Int} {k : Nat} {num a : Int} (h : ¬ (a < n ∧ 48 ≤ t a ∧ t a ≤ 57)) : pNum t n (k + 1) num a = (num, a) := if_neg h
theorem pNum_rg {t : Int → Int} {n : Int} : ∀ (k : Nat) (num a : Int), a ≤ n → a ≤ (pNum t n k num a).2 ∧ (pNum t n k num a).2 ≤ n ∧ (pNum t n k num a).2 ≤ a + k
  | 0, num, a, h => ⟨Int.le_refl _, h, by show a ≤ a + ((0 : Nat) : Int); omega⟩
  | k + 1, num, a, h => by
    by_cases hc : a < n ∧ 48 ≤ t a ∧ t a ≤ 57
    · rw [pNum_t hc]
      have := pNum_rg (t := t) (n := n) k (max num 0 * 10 + (t a - 48)) (a + 1) (by omega)
      omega
    · rw [pNum_f hc]
      exact ⟨Int.le_refl _, h, by show a ≤ _; omega⟩
theorem pNum_v2 {t : Int → Int} {n a : Int} : -1 ≤ (pNum t n 2 (-1) a).1 ∧ (pNum t n 2 (-1) a).1 ≤ 99 := by
  by_cases h1 : a < n ∧ 48 ≤ t a ∧ t a ≤ 57
  · rw [pNum_t h1]
    by_cases h2 : a + 1 < n ∧ 48 ≤ t (a + 1) ∧ t (a + 1) ≤ 57
    · rw [pNum_t h2]
      show -1 ≤ max (max (-1) 0 * 10 + (t a - 48)) 0 * 10 + (t (a + 1) - 48) ∧ max (max (-1) 0 * 10 + (t a - 48)) 0 * 10 + (t (a + 1) - 48) ≤ 99
      omega
    · rw [pNum_f h2]
      show -1 ≤ max (-1) 0 * 10 + (t a - 48) ∧ max (-1) 0 * 10 + (t a - 48) ≤ 99
      omega
  · rw [pNum_f h1]
    exact ⟨Int.le_refl _, by show (-1 : Int) ≤ 99; omega⟩
theorem pNum_v3 {t : Int → Int} {n a : Int} : -1 ≤ (pNum t n 3 (-1) a).1 ∧ (pNum t n 3 (-1) a).1 ≤ 999 := by
  by_cases h1 : a < n ∧ 48 ≤ t a ∧ t a ≤ 57
  · rw [pNum_t h1]
    by_cases h2 : a + 1 < n ∧ 48 ≤ t (a + 1) ∧ t (a + 1) ≤ 57
    · rw [pNum_t h2]
      by_cases h3 : a + 1 + 1 < n ∧ 48 ≤ t (a + 1 + 1) ∧ t (a + 1 + 1) ≤ 57
      · rw [pNum_t h3]
        show -1 ≤ max (max (max (-1) 0 * 10 + (t a - 48)) 0 * 10 + (t (a + 1) - 48)) 0 * 10 + (t (a + 1 + 1) - 48) ∧ max (max (max (-1) 0 * 10 + (t a - 48)) 0 * 10 + (t (a + 1) - 48)) 0 * 10 + (t (a + 1 + 1) - 48) ≤ 999
        omega
      · rw [pNum_f h3]
        show -1 ≤ max (max (-1) 0 * 10 + (t a - 48)) 0 * 10 + (t (a + 1) - 48) ∧ max (max (-1) 0 * 10 + (t a - 48)) 0 * 10 + (t (a + 1) - 48) ≤ 999
        omega
    · rw [pNum_f h2]
      show -1 ≤ max (-1) 0 * 10 + (t a - 48) ∧ max (-1) 0 * 10 + (t a - 48) ≤ 999
      omega
  · rw [pNum_f h1]
    exact ⟨Int.le_refl _, by show (-1 : Int) ≤ 999; omega⟩
/-- the state X is G but for the place in the text, and whether it is wrong -/
def mS (G X : fS) (a w : Int) : Prop := X 17 0 = a ∧ X 18 0 = w ∧ ∀ i, i ≠ 17 → i ≠ 18 → X i = G i
theorem mS.tx {G X : fS} {a w : Int} (h : mS G X a w) (hT : mTx G) (ha : 0 ≤ a ∧ a ≤ 60) (hw : w = 0 ∨ w = 1) : mTx X := by
  obtain ⟨h1, h2, h3⟩ := h
  refine ⟨by rw [h1]; exact ha, by rw [h3 16 (by omega) (by omega)]; exact hT.2.1, by rw [h2]; exact hw, by rw [h3 15 (by omega) (by omega)]; exact hT.2.2.2⟩
theorem mS.tr {G X Y : fS} {a w b v : Int} (h : mS G X a w) (h' : mS X Y b v) : mS G Y b v := ⟨h'.1, h'.2.1, fun i i1 i2 => (h'.2.2 i i1 i2).trans (h.2.2 i i1 i2)⟩
theorem m_sign_t {G : fS} {lo hi : Int} (hw : G 18 0 = 0) (h : G 17 0 < G 16 0 ∧ lo ≤ G 15 (G 17 0) ∧ G 15 (G 17 0) ≤ hi) : (m_sign G lo hi).1 = G 15 (G 17 0) - lo ∧ mS G (m_sign G lo hi).2 (G 17 0 + 1) 0 := by
  unfold m_sign
  rw [if_bi0, if_pos ⟨hw, h⟩]
  refine ⟨by show G 15 (G 17 0 + 1 - 1) - lo = _; rw [show G 17 0 + 1 - 1 = G 17 0 by omega], rfl, rfl, fun i i1 i2 => (gs_n i1).trans (gs_n i2)⟩
theorem m_sign_f {G : fS} {lo hi : Int} (h : ¬ (G 18 0 = 0 ∧ G 17 0 < G 16 0 ∧ lo ≤ G 15 (G 17 0) ∧ G 15 (G 17 0) ≤ hi)) : (m_sign G lo hi).1 = 0 ∧ mS G (m_sign G lo hi).2 (G 17 0) 1 := by
  unfold m_sign
  rw [if_bi0, if_neg h]
  exact ⟨rfl, rfl, rfl, fun i i1 i2 => gs_n i2⟩
/-- a number where nothing is wrong yet -/
def mN (G : fS) (q : Int × fS) (r : Int × Int) : Prop := (r.1 = -1 ∧ q.1 = 0 ∧ mS G q.2 r.2 1) ∨ (r.1 ≠ -1 ∧ q.1 = r.1 ∧ mS G q.2 r.2 0)
theorem m_number2_K {G : fS} (hw : G 18 0 = 0) : mN G (m_number2 G) (pNum (G 15) (G 16 0) 2 (-1) (G 17 0)) := by
  unfold m_number2
  rw [if_pos hw, if_bi0]
  by_cases h1 : G 17 0 < G 16 0 ∧ 48 ≤ G 15 (G 17 0) ∧ G 15 (G 17 0) ≤ 57
  · obtain ⟨a1, a2, a3, a4⟩ := m_sign_t hw h1
    have e15 := a4 15 (by omega) (by omega)
    have e16 := a4 16 (by omega) (by omega)
    rw [pNum_t h1]
    by_cases h2 : (m_sign G 48 57).2 18 0 = 0 ∧ (m_sign G 48 57).2 17 0 < (m_sign G 48 57).2 16 0 ∧ 48 ≤ (m_sign G 48 57).2 15 ((m_sign G 48 57).2 17 0) ∧ (m_sign G 48 57).2 15 ((m_sign G 48 57).2 17 0) ≤ 57
    · rw [if_pos h2]
      obtain ⟨b1, b2⟩ := m_sign_t h2.1 h2.2
      have h2' := h2.2
      rw [e15, e16, a2] at h2'
      rw [pNum_t h2']
      rw [e15, a2] at b1
      rw [a2] at b2
      right
      have hv : max (max (-1) 0 * 10 + (G 15 (G 17 0) - 48)) 0 * 10 + (G 15 (G 17 0 + 1) - 48) = 10 * (G 15 (G 17 0) - 48) + (G 15 (G 17 0 + 1) - 48) := by omega
      refine ⟨?_, ?_, ?_⟩
      · show max (max (-1) 0 * 10 + (G 15 (G 17 0) - 48)) 0 * 10 + (G 15 (G 17 0 + 1) - 48) ≠ -1
        omega
      · show 10 * (m_sign G 48 57).1 + (m_sign (m_sign G 48 57).2 48 57).1 = max (max (-1) 0 * 10 + (G 15 (G 17 0) - 48)) 0 * 10 + (G 15 (G 17 0 + 1) - 48)
        rw [a1, b1, hv]
      · exact mS.tr ⟨a2, a3, a4⟩ b2
    · rw [if_neg h2]
      have h2' : ¬ (G 17 0 + 1 < G 16 0 ∧ 48 ≤ G 15 (G 17 0 + 1) ∧ G 15 (G 17 0 + 1) ≤ 57) := fun q => h2 ⟨a3, by rw [e15, e16, a2]; exact q⟩
      rw [pNum_f h2']
      right
      refine ⟨?_, ?_, ⟨a2, a3, a4⟩⟩
      · show max (-1) 0 * 10 + (G 15 (G 17 0) - 48) ≠ -1
        omega
      · show (m_sign G 48 57).1 = max (-1) 0 * 10 + (G 15 (G 17 0) - 48)
        rw [a1]
        omega
  · obtain ⟨a1, a2, a3, a4⟩ := m_sign_f (G := G) (lo := 48) (hi := 57) fun q => h1 q.2
    rw [if_neg (fun q => by rw [a3] at q; exact absurd q.1 (by decide)), pNum_f h1]
    exact Or.inl ⟨rfl, a1, a2, a3, a4⟩
theorem m_number3_K {G : fS} (hw : G 18 0 = 0) : mN G (m_number3 G) (pNum (G 15) (G 16 0) 3 (-1) (G 17 0)) := by
  unfold m_number3
  rw [if_pos hw, if_bi0, if_bi0]
  by_cases h1 : G 17 0 < G 16 0 ∧ 48 ≤ G 15 (G 17 0) ∧ G 15 (G 17 0) ≤ 57
  · obtain ⟨a1, a2, a3, a4⟩ := m_sign_t hw h1
    have e15 := a4 15 (by omega) (by omega)
    have e16 := a4 16 (by omega) (by omega)
    rw [pNum_t h1]
    by_cases h2 : (m_sign G 48 57).2 18 0 = 0 ∧ (m_sign G 48 57).2 17 0 < (m_sign G 48 57).2 16 0 ∧ 48 ≤ (m_sign G 48 57).2 15 ((m_sign G 48 57).2 17 0) ∧ (m_sign G 48 57).2 15 ((m_sign G 48 57).2 17 0) ≤ 57
    · rw [if_pos h2]
      obtain ⟨b1, b2, b3, b4⟩ := m_sign_t h2.1 h2.2
      have h2' := h2.2
      rw [e15, e16, a2] at h2'
      rw [pNum_t h2']
      rw [e15, a2] at b1
      rw [a2] at b2
      have f15 := (b4 15 (by omega) (by omega)).trans e15
      have f16 := (b4 16 (by omega) (by omega)).trans e16
      generalize hX : (m_sign (m_sign G 48 57).2 48 57) = X at b1 b2 b3 b4 f15 f16 ⊢
      by_cases h3 : X.2 18 0 = 0 ∧ X.2 17 0 < X.2 16 0 ∧ 48 ≤ X.2 15 (X.2 17 0) ∧ X.2 15 (X.2 17 0) ≤ 57
      · rw [if_pos h3]
        obtain ⟨c1, c2⟩ := m_sign_t h3.1 h3.2
        have h3' := h3.2
        rw [f15, f16, b2] at h3'
        rw [pNum_t h3']
        rw [f15, b2] at c1
        rw [b2] at c2
        right
        refine ⟨?_, ?_, ?_⟩
        · show max (max (max (-1) 0 * 10 + (G 15 (G 17 0) - 48)) 0 * 10 + (G 15 (G 17 0 + 1) - 48)) 0 * 10 + (G 15 (G 17 0 + 1 + 1) - 48) ≠ -1
          omega
        · show 10 * (10 * (m_sign G 48 57).1 + X.1) + (m_sign X.2 48 57).1 = max (max (max (-1) 0 * 10 + (G 15 (G 17 0) - 48)) 0 * 10 + (G 15 (G 17 0 + 1) - 48)) 0 * 10 + (G 15 (G 17 0 + 1 + 1) - 48)
          rw [a1, b1, c1]
          omega
        · exact mS.tr (mS.tr ⟨a2, a3, a4⟩ ⟨b2, b3, b4⟩) c2
      · rw [if_neg h3]
        have h3' : ¬ (G 17 0 + 1 + 1 < G 16 0 ∧ 48 ≤ G 15 (G 17 0 + 1 + 1) ∧ G 15 (G 17 0 + 1 + 1) ≤ 57) := fun q => h3 ⟨b3, by rw [f15, f16, b2]; exact q⟩
        rw [pNum_f h3']
        right
        refine ⟨?_, ?_, mS.tr ⟨a2, a3, a4⟩ ⟨b2, b3, b4⟩⟩
        · show max (max (-1) 0 * 10 + (G 15 (G 17 0) - 48)) 0 * 10 + (G 15 (G 17 0 + 1) - 48) ≠ -1
          omega
        · show 10 * (m_sign G 48 57).1 + X.1 = max (max (-1) 0 * 10 + (G 15 (G 17 0) - 48)) 0 * 10 + (G 15 (G 17 0 + 1) - 48)
          rw [a1, b1]
          omega
    · rw [if_neg h2]
      have h2' : ¬ (G 17 0 + 1 < G 16 0 ∧ 48 ≤ G 15 (G 17 0 + 1) ∧ G 15 (G 17 0 + 1) ≤ 57) := fun q => h2 ⟨a3, by rw [e15, e16, a2]; exact q⟩
      rw [pNum_f h2']
      right
      refine ⟨?_, ?_, ⟨a2, a3, a4⟩⟩
      · show max (-1) 0 * 10 + (G 15 (G 17 0) - 48) ≠ -1
        omega
      · show (m_sign G 48 57).1 = max (-1) 0 * 10 + (G 15 (G 17 0) - 48)
        rw [a1]
        omega
  · obtain ⟨a1, a2, a3, a4⟩ := m_sign_f (G := G) (lo := 48) (hi := 57) fun q => h1 q.2
    rw [if_neg (fun q => by rw [a3] at q; exact absurd q.1 (by decide)), pNum_f h1]
    exact Or.inl ⟨rfl, a1, a2, a3, a4⟩
/-- a number where something is wrong already -/
theorem m_number_w {G : fS} (hw : G 18 0 = 1) : m_number2 G = (0, G) ∧ m_number3 G = (0, G) := by
  have h : ¬ (G 18 0 = 0 ∧ G 17 0 < G 16 0 ∧ 48 ≤ G 15 (G 17 0) ∧ G 15 (G 17 0) ≤ 57) := fun q => by rw [hw] at q; exact absurd q.1 (by decide)
  unfold m_number2 m_number3
  have h0 : ¬ G 18 0 = 0 := by omega
  rw [if_neg h0, if_neg h0, if_bi0, if_neg h]
  refine ⟨rfl, ?_⟩
  rw [if_bi0, if_neg h]
/-- the kinds of orders, by their letters; the signs; the letters -/
def kdOf (c : Int) : Int := if c = 102 then 0 else if c = 98 then 1 else if c = 103 then 2 else if c = 99 then 3 else if c = 109 then 4 else if c = 112 then 5 else if c = 113 then 6 else if c = 101 then 7 else if c = 100 then 8 else -1
def sgOf (kd : Int) : Int := if kd = 2 then 60 else if kd = 4 then 43 else if kd = 6 then 45 else if kd = 7 then 61 else 32
def dgOf (kd : Int) : Nat := if kd = 7 then 3 else 2
/-- an order from a on: its kind or -1, its numbers, and where it ends -/
def pOrd (t : Int → Int) (n a : Int) : Int × Int × Int × Int :=
  if kdOf (if a < n then t a else 0) = -1 then (-1, 0, 0, a)
  else if (if kdOf (if a < n then t a else 0) = 0 then (0, a + 1) else pNum t n 2 (-1) (a + 1)).1 = -1 then (-1, 0, 0, (if kdOf (if a < n then t a else 0) = 0 then (0, a + 1) else pNum t n 2 (-1) (a + 1)).2)
  else if sgOf (kdOf (if a < n then t a else 0)) = 32 then (kdOf (if a < n then t a else 0), (if kdOf (if a < n then t a else 0) = 0 then (0, a + 1) else pNum t n 2 (-1) (a + 1)).1, 0, (if kdOf (if a < n then t a else 0) = 0 then (0, a + 1) else pNum t n 2 (-1) (a + 1)).2)
  else if (pNum t n 2 (-1) (a + 1)).2 < n ∧ t (pNum t n 2 (-1) (a + 1)).2 = sgOf (kdOf (if a < n then t a else 0)) then
    (if (pNum t n (dgOf (kdOf (if a < n then t a else 0))) (-1) ((pNum t n 2 (-1) (a + 1)).2 + 1)).1 = -1 then (-1, 0, 0, (pNum t n (dgOf (kdOf (if a < n then t a else 0))) (-1) ((pNum t n 2 (-1) (a + 1)).2 + 1)).2)
     else (kdOf (if a < n then t a else 0), (pNum t n 2 (-1) (a + 1)).1, (pNum t n (dgOf (kdOf (if a < n then t a else 0))) (-1) ((pNum t n 2 (-1) (a + 1)).2 + 1)).1, (pNum t n (dgOf (kdOf (if a < n then t a else 0))) (-1) ((pNum t n 2 (-1) (a + 1)).2 + 1)).2))
  else (-1, 0, 0, (pNum t n 2 (-1) (a + 1)).2)
