/-- the orders of a text from a on, behind acc, and where it is wrong, or -1 -/
def pAll (t : Int → Int) (n : Int) : Nat → Int → List (Int × Int × Int) → List (Int × Int × Int) × Int
  | 0, _, acc => (acc, -1)
  | k + 1, a, acc => if (pOrd t n a).1 = -1 then (acc, (pOrd t n a).2.2.2)
    else if (pOrd t n a).2.2.2 < n ∧ t (pOrd t n a).2.2.2 = 59 then pAll t n k ((pOrd t n a).2.2.2 + 1) (acc ++ [((pOrd t n a).1, (pOrd t n a).2.1, (pOrd t n a).2.2.1)])
    else (acc ++ [((pOrd t n a).1, (pOrd t n a).2.1, (pOrd t n a).2.2.1)], if (pOrd t n a).2.2.2 < n then (pOrd t n a).2.2.2 else -1)
theorem kdOf_0 : kdOf 0 = -1 := by decide
theorem pOrd_rg {t : Int → Int} {n a : Int} (ha : a ≤ n) : a ≤ (pOrd t n a).2.2.2 ∧ (pOrd t n a).2.2.2 ≤ n ∧ ((pOrd t n a).1 ≠ -1 → a + 1 ≤ (pOrd t n a).2.2.2) := by
  unfold pOrd
  generalize hc : kdOf (if a < n then t a else 0) = kd
  by_cases h1 : kd = -1
  · rw [if_pos h1]
    exact ⟨Int.le_refl _, ha, fun q => absurd rfl q⟩
  rw [if_neg h1]
  have han : a < n := by
    refine Decidable.not_not.mp fun q => h1 ?_
    rw [← hc, if_neg q]
    exact kdOf_0
  have r1 := pNum_rg (t := t) (n := n) 2 (-1) (a + 1) (by omega)
  have e1 : a + 1 ≤ (if kd = 0 then (0, a + 1) else pNum t n 2 (-1) (a + 1)).2 ∧ (if kd = 0 then (0, a + 1) else pNum t n 2 (-1) (a + 1)).2 ≤ n := by
    split
    · exact ⟨Int.le_refl _, by show a + 1 ≤ n; omega⟩
    · exact ⟨r1.1, r1.2.1⟩
  generalize (if kd = 0 then (0, a + 1) else pNum t n 2 (-1) (a + 1)) = q1 at e1 ⊢
  split
  · exact ⟨by dsimp only; omega, e1.2, fun q => absurd rfl q⟩
  split
  · exact ⟨by dsimp only; omega, e1.2, fun _ => e1.1⟩
  split
  · rename_i h3
    have r2 := pNum_rg (t := t) (n := n) (dgOf kd) (-1) ((pNum t n 2 (-1) (a + 1)).2 + 1) (by omega)
    split
    · exact ⟨by dsimp only; omega, r2.2.1, fun q => absurd rfl q⟩
    · exact ⟨by dsimp only; omega, r2.2.1, fun _ => by dsimp only; omega⟩
  · exact ⟨by dsimp only; omega, r1.2.1, fun q => absurd rfl q⟩
theorem kdOf_rg (c : Int) : -1 ≤ kdOf c ∧ kdOf c ≤ 8 := by
  unfold kdOf
  repeat' split
  all_goals omega
theorem pOrd_v {t : Int → Int} {n a : Int} : -1 ≤ (pOrd t n a).1 ∧ (pOrd t n a).1 ≤ 8 ∧ -1 ≤ (pOrd t n a).2.1 ∧ (pOrd t n a).2.1 ≤ 999 ∧ -1 ≤ (pOrd t n a).2.2.1 ∧ (pOrd t n a).2.2.1 ≤ 999 := by
  have k := kdOf_rg (if a < n then t a else 0)
  unfold pOrd
  generalize kdOf (if a < n then t a else 0) = kd at k ⊢
  have r1 := pNum_v2 (t := t) (n := n) (a := a + 1)
  have e1 : -1 ≤ (if kd = 0 then (0, a + 1) else pNum t n 2 (-1) (a + 1)).1 ∧ (if kd = 0 then (0, a + 1) else pNum t n 2 (-1) (a + 1)).1 ≤ 999 := by
    split
    · exact ⟨by show (-1 : Int) ≤ 0; omega, by show (0 : Int) ≤ 999; omega⟩
    · omega
  have r2 : ∀ b, -1 ≤ (pNum t n (dgOf kd) (-1) b).1 ∧ (pNum t n (dgOf kd) (-1) b).1 ≤ 999 := fun b => by
    have := pNum_v2 (t := t) (n := n) (a := b)
    have := pNum_v3 (t := t) (n := n) (a := b)
    unfold dgOf
    split <;> omega
  generalize (if kd = 0 then (0, a + 1) else pNum t n 2 (-1) (a + 1)) = q1 at e1 ⊢
  have r3 := r2 ((pNum t n 2 (-1) (a + 1)).2 + 1)
  repeat' split
  all_goals (refine ⟨?_, ?_, ?_, ?_, ?_, ?_⟩ <;> dsimp only <;> omega)
/-- the orders stand in the reference's row -/
def mOr (X : fS) (acc : List (Int × Int × Int)) : Prop := X 21 0 = (acc.length : Int) ∧ ∀ (i : Nat) (z : Int × Int × Int), acc[i]? = some z → kdOf (X 20 (3 * i)) = z.1 ∧ z.1 ≠ -1 ∧ (z.1 ≠ 0 → X 20 (3 * i + 1) = z.2.1) ∧ (sgOf z.1 ≠ 32 → X 20 (3 * i + 2) = z.2.2)
theorem mOr_app {G X : fS} {acc : List (Int × Int × Int)} {r : Int × Int × Int × Int} (h : mOr G acc) (hO : mO G X r) (hr : r.1 ≠ -1) : mOr X (acc ++ [(r.1, r.2.1, r.2.2.1)]) := by
  obtain ⟨h1, h2⟩ := h
  obtain ⟨_, _, _, o4, _, o6⟩ := hO
  rcases o6 with ⟨q, _⟩ | ⟨_, _, p3, p4, p5, p6⟩
  · exact absurd q hr
  refine ⟨by rw [p3, h1, List.length_append]; rfl, fun i z hz => ?_⟩
  by_cases hi : i < acc.length
  · rw [List.getElem?_append_left hi] at hz
    obtain ⟨z1, z2, z3, z4⟩ := h2 i z hz
    exact ⟨by rw [o4 _ (by omega)]; exact z1, z2, fun q => by rw [o4 _ (by omega)]; exact z3 q, fun q => by rw [o4 _ (by omega)]; exact z4 q⟩
  · have hi2 : i = acc.length := by
      have := (List.getElem?_eq_some_iff.mp hz).1
      rw [List.length_append] at this
      have : ([(r.1, r.2.1, r.2.2.1)] : List (Int × Int × Int)).length = 1 := rfl
      omega
    subst hi2
    have e : (r.1, r.2.1, r.2.2.1) = z := by simpa using hz
    subst e
    rw [← h1]
    exact ⟨p4, hr, p5, p6⟩
-- orders carried out, one after the other
noncomputable def kRuns : fS → List (Int × Int × Int) → kR
  | K, [] => (0, 0, 0, K)
  | K, z :: l => if (kTry K z.1 z.2.1 z.2.2).1 < -1 then kTry K z.1 z.2.1 z.2.2 else kRuns (kTry K z.1 z.2.1 z.2.2).2.2.2 l
theorem kRuns_n {K : fS} {z : Int × Int × Int} {l : List (Int × Int × Int)} (h : (kTry K z.1 z.2.1 z.2.2).1 < -1) : kRuns K (z :: l) = kTry K z.1 z.2.1 z.2.2 := if_pos h
theorem kRuns_y {K : fS} {z : Int × Int × Int} {l : List (Int × Int × Int)} (h : ¬ (kTry K z.1 z.2.1 z.2.2).1 < -1) : kRuns K (z :: l) = kRuns (kTry K z.1 z.2.1 z.2.2).2.2.2 l := if_neg h
/-- numbers that a kind doesn't have play no part -/
theorem kTry_re {K : fS} {kd a b a' b' : Int} (ha : kd ≠ 0 → a = a') (hb : sgOf kd ≠ 32 → b = b') : kTry K kd a b = kTry K kd a' b' := by
  unfold kTry
  by_cases h0 : kd = 0
  · rw [if_pos h0, if_pos h0]
  rw [ha h0]
  by_cases h1 : kd = 1
  · rw [if_neg h0, if_neg h0, if_pos h1, if_pos h1]
  by_cases h2 : kd = 2
  · rw [hb (by rw [h2]; decide)]
  by_cases h3 : kd = 3
  · rw [if_neg h0, if_neg h0, if_neg h1, if_neg h1, if_neg h2, if_neg h2, if_pos h3, if_pos h3]
  by_cases h4 : kd = 4
  · rw [hb (by rw [h4]; decide)]
  by_cases h5 : kd = 5
  · rw [if_neg h0, if_neg h0, if_neg h1, if_neg h1, if_neg h2, if_neg h2, if_neg h3, if_neg h3, if_neg h4, if_neg h4, if_pos h5, if_pos h5]
  by_cases h6 : kd = 6
  · rw [hb (by rw [h6]; decide)]
  by_cases h7 : kd = 7
  · rw [hb (by rw [h7]; decide)]
  rw [if_neg h0, if_neg h0, if_neg h1, if_neg h1, if_neg h2, if_neg h2, if_neg h3, if_neg h3, if_neg h4, if_neg h4, if_neg h5, if_neg h5, if_neg h6, if_neg h6, if_neg h7, if_neg h7]
theorem m_does_K {B : Int} {G : fS} {i kd : Int} (h : kI B (mK (G 0))) (hk : kdOf (G 20 (3 * i)) = kd) (hk1 : kd ≠ -1) : ∃ t x, 1 ≤ t ∧ t ≤ 3 ∧ x.2 = m_does G i ∧ mRes t (kTry (mK (G 0)) kd (G 20 (3 * i + 1)) (G 20 (3 * i + 2))) G x := by
  unfold kdOf at hk
  unfold m_does kTry
  generalize hc : G 20 (3 * i) = c at hk ⊢
  have fin : ∀ (t : Int) (q : kR) (x : Int × fS) (Y : fS) (q' : kR), x.2 = Y → q = q' → 1 ≤ t ∧ t ≤ 3 → mRes t q' G x → ∃ t x, 1 ≤ t ∧ t ≤ 3 ∧ x.2 = Y ∧ mRes t q G x := fun t q x Y q' hx hq ht hm => ⟨t, x, ht.1, ht.2, hx, by rw [hq]; exact hm⟩
  by_cases h0 : c = 102
  · subst h0
    have : kd = 0 := hk.symm
    subst this
    exact fin 1 _ (m_doFound G) _ _ rfl rfl (by omega) (m_doFound_K h)
  rw [if_neg h0] at hk
  by_cases h1 : c = 98
  · subst h1
    have : kd = 1 := hk.symm
    subst this
    exact fin 2 _ (m_doBorn G _) _ _ rfl rfl (by omega) (m_doBorn_K h)
  rw [if_neg h1] at hk
  by_cases h2 : c = 103
  · subst h2
    have : kd = 2 := hk.symm
    subst this
    exact fin 2 _ (m_doGraft G _ _) _ _ rfl rfl (by omega) (m_doGraft_K h)
  rw [if_neg h2] at hk
  by_cases h3 : c = 99
  · subst h3
    have : kd = 3 := hk.symm
    subst this
    exact fin 2 _ (m_doCut G _) _ _ rfl rfl (by omega) (m_doCut_K h)
  rw [if_neg h3] at hk
  by_cases h4 : c = 109
  · subst h4
    have : kd = 4 := hk.symm
    subst this
    exact fin 2 _ (m_doMarry G _ _) _ _ rfl rfl (by omega) (m_doMarry_K h)
  rw [if_neg h4] at hk
  by_cases h5 : c = 112
  · subst h5
    have : kd = 5 := hk.symm
    subst this
    exact fin 2 _ (m_doPart G _) _ _ rfl rfl (by omega) (m_doPart_K h)
  rw [if_neg h5] at hk
  by_cases h6 : c = 113
  · subst h6
    have : kd = 6 := hk.symm
    subst this
    exact fin 2 _ (m_doQuarrel G _ _) _ _ rfl rfl (by omega) (m_doQuarrel_K h)
  rw [if_neg h6] at hk
  by_cases h7 : c = 101
  · subst h7
    have : kd = 7 := hk.symm
    subst this
    exact fin 3 _ (m_doGive G _ _) _ _ rfl rfl (by omega) (m_doGive_K h)
  rw [if_neg h7] at hk
  by_cases h8 : c = 100
  · subst h8
    have : kd = 8 := hk.symm
    subst this
    exact fin 2 _ (m_doDie G _) _ _ rfl rfl (by omega) (m_doDie_K h)
  rw [if_neg h8] at hk
  exact absurd hk.symm hk1
theorem kdOf_c {c : Int} (h : kdOf c ≠ -1) : c = 102 ∨ c = 98 ∨ c = 103 ∨ c = 99 ∨ c = 109 ∨ c = 112 ∨ c = 113 ∨ c = 101 ∨ c = 100 := by
  unfold kdOf at h
  repeat' split at h
  all_goals first | omega | exact absurd rfl h
