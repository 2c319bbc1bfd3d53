/-! THE REFERENCE BESIDE THE CLASS -/
/-- the i-th row of the past -/
def mRow (f : Int → Int) (i : Int) : Int → Int := fun j => f (141 * i + j)
theorem mK_cg {B : Int} {f g : Int → Int} (hO : jOk B (mK g)) (h : ∀ j, 0 ≤ j → j < 141 → f j = g j) : mK f = mK g := by
  have hn := mK_n hO
  have hq := mK_q hO
  have e0 := h 0 (by decide) (by decide)
  have e1 := h 1 (by decide) (by decide)
  have e2 := h 2 (by decide) (by decide)
  have e3 := h 3 (by decide) (by decide)
  have e4 := h 4 (by decide) (by decide)
  funext i p
  match i with
  | 0 =>
    show (if 0 ≤ p ∧ p < f 0 then f (5 + p) else -1) = if 0 ≤ p ∧ p < g 0 then g (5 + p) else -1
    rw [e0]
    by_cases c : 0 ≤ p ∧ p < g 0
    · rw [if_pos c, if_pos c]; exact h _ (by omega) (by omega)
    · rw [if_neg c, if_neg c]
  | 1 =>
    show (if 0 ≤ p ∧ p < f 0 then f (29 + p) else -1) = if 0 ≤ p ∧ p < g 0 then g (29 + p) else -1
    rw [e0]
    by_cases c : 0 ≤ p ∧ p < g 0
    · rw [if_pos c, if_pos c]; exact h _ (by omega) (by omega)
    · rw [if_neg c, if_neg c]
  | 2 =>
    show (if 0 ≤ p ∧ p < f 0 then f (53 + p) else 0) = if 0 ≤ p ∧ p < g 0 then g (53 + p) else 0
    rw [e0]
    by_cases c : 0 ≤ p ∧ p < g 0
    · rw [if_pos c, if_pos c]; exact h _ (by omega) (by omega)
    · rw [if_neg c, if_neg c]
  | 3 =>
    show (if 0 ≤ p ∧ p < f 0 then f (77 + p) else 0) = if 0 ≤ p ∧ p < g 0 then g (77 + p) else 0
    rw [e0]
    by_cases c : 0 ≤ p ∧ p < g 0
    · rw [if_pos c, if_pos c]; exact h _ (by omega) (by omega)
    · rw [if_neg c, if_neg c]
  | 4 =>
    show (if 0 ≤ p ∧ p < f 1 then f (101 + 2 * p) else -1) = if 0 ≤ p ∧ p < g 1 then g (101 + 2 * p) else -1
    rw [e1]
    by_cases c : 0 ≤ p ∧ p < g 1
    · rw [if_pos c, if_pos c]; exact h _ (by omega) (by omega)
    · rw [if_neg c, if_neg c]
  | 5 =>
    show (if 0 ≤ p ∧ p < f 1 then f (102 + 2 * p) else -1) = if 0 ≤ p ∧ p < g 1 then g (102 + 2 * p) else -1
    rw [e1]
    by_cases c : 0 ≤ p ∧ p < g 1
    · rw [if_pos c, if_pos c]; exact h _ (by omega) (by omega)
    · rw [if_neg c, if_neg c]
  | 6 => exact e0
  | 7 => exact e1
  | 8 => exact e2
  | 9 => exact e3
  | 10 => exact e4
  | i + 11 => rfl
/-- how many are in the past when one more is kept, and which -/
theorem m_ends_ok {G Y : fS} {a B : Int} {P : Int → fS} (hq : mQ (m_keep G) Y) (h6 : Y 6 0 = 0) (h5 : 0 ≤ G 5 0 ∧ G 5 0 ≤ 8) (hO : jOk B (mK (G 0))) (hP : ∀ i, 0 ≤ i → i < G 5 0 → mK (mRow (G 4) i) = P i ∧ jOk B (P i)) :
    (m_ends Y a).1 = a ∧ (m_ends Y a).2 5 0 = xN (G 5 0) ∧ (∀ i, 0 ≤ i → i < xN (G 5 0) → mK (mRow ((m_ends Y a).2 4) i) = xP (G 5 0) P (mK (G 0)) i) ∧ ∀ i, i ≠ 4 → i ≠ 5 → (m_ends Y a).2 i = Y i := by
  have e1 : Y 1 = jcpy (G 0) (G 1) 0 0 141 := hq 1 (by omega)
  have e4 : Y 4 = G 4 := hq 4 (by omega)
  have e5 : Y 5 = G 5 := hq 5 (by omega)
  unfold m_ends
  rw [if_pos (show Y 6 0 ≤ 0 by omega)]
  by_cases h8 : G 5 0 = 8
  · rw [if_pos (show Y 5 0 = 8 by rw [e5]; exact h8)]
    have hN : xN (G 5 0) = 8 := if_pos h8
    refine ⟨rfl, ?_, fun i i0 i1 => ?_, fun i i4 i5 => (gs_n i5).trans ((gs_n i4).trans ((gs_n i5).trans (gs_n i4)))⟩
    · show Y 5 0 - 1 + 1 = _
      rw [e5, hN]; omega
    · rw [hN] at i1
      have eP : xP (G 5 0) P (mK (G 0)) = fun i => if i = 7 then mK (G 0) else P (i + 1) := if_pos h8
      rw [eP]
      show mK (mRow (jcpy (Y 1) (jcpy (Y 4) (Y 4) 141 0 987) 0 (141 * (Y 5 0 - 1)) 141) i) = if i = 7 then mK (G 0) else P (i + 1)
      rw [e1, e4, e5, h8]
      by_cases i7 : i = 7
      · rw [if_pos i7]
        refine mK_cg hO fun j j0 j1 => ?_
        show (if 141 * (8 - 1) ≤ 141 * i + j ∧ 141 * i + j < 141 * (8 - 1) + 141 then jcpy (G 0) (G 1) 0 0 141 (0 + (141 * i + j - 141 * (8 - 1))) else _) = G 0 j
        rw [if_pos (by omega)]
        unfold jcpy
        rw [if_pos (by omega)]
        exact congrArg (G 0) (by omega)
      · rw [if_neg i7]
        obtain ⟨p1, p2⟩ := hP (i + 1) (by omega) (by omega)
        rw [← p1] at p2 ⊢
        refine mK_cg p2 fun j j0 j1 => ?_
        show (if 141 * (8 - 1) ≤ 141 * i + j ∧ 141 * i + j < 141 * (8 - 1) + 141 then _ else jcpy (G 4) (G 4) 141 0 987 (141 * i + j)) = G 4 (141 * (i + 1) + j)
        rw [if_neg (by omega)]
        unfold jcpy
        rw [if_pos (by omega)]
        exact congrArg (G 4) (by omega)
  · rw [if_neg (show ¬ Y 5 0 = 8 by rw [e5]; exact h8)]
    have hN : xN (G 5 0) = G 5 0 + 1 := if_neg h8
    refine ⟨rfl, ?_, fun i i0 i1 => ?_, fun i i4 i5 => (gs_n i5).trans (gs_n i4)⟩
    · show Y 5 0 + 1 = _
      rw [e5, hN]
    · rw [hN] at i1
      have eP : xP (G 5 0) P (mK (G 0)) = fun i => if i = G 5 0 then mK (G 0) else P i := if_neg h8
      rw [eP]
      show mK (mRow (jcpy (Y 1) (Y 4) 0 (141 * Y 5 0) 141) i) = if i = G 5 0 then mK (G 0) else P i
      rw [e1, e4, e5]
      by_cases i7 : i = G 5 0
      · rw [if_pos i7]
        refine mK_cg hO fun j j0 j1 => ?_
        show (if 141 * G 5 0 ≤ 141 * i + j ∧ 141 * i + j < 141 * G 5 0 + 141 then jcpy (G 0) (G 1) 0 0 141 (0 + (141 * i + j - 141 * G 5 0)) else _) = G 0 j
        rw [i7, if_pos (by omega)]
        unfold jcpy
        rw [if_pos (by omega)]
        exact congrArg (G 0) (by omega)
      · rw [if_neg i7]
        obtain ⟨p1, p2⟩ := hP i i0 (by omega)
        rw [← p1] at p2 ⊢
        refine mK_cg p2 fun j j0 j1 => ?_
        show (if 141 * G 5 0 ≤ 141 * i + j ∧ 141 * i + j < 141 * G 5 0 + 141 then _ else G 4 (141 * i + j)) = G 4 (141 * i + j)
        rw [if_neg (by omega)]
/-- THE REFERENCE HOLDS WHAT THE CLASS HOLDS -/
def mR (B : Int) (K Ks : fS) (P : Int → fS) (X I : fS) (c : Int) (t : Int → Int) (G : fS) : Prop :=
  (mK (G 0) = K ∧ kI B K) ∧ (X 3 0 = G 3 0 ∧ (G 3 0 = 0 ∨ (G 3 0 = 1 ∧ mK (G 2) = Ks)) ∧ kI B Ks) ∧
  (X 5 0 = G 5 0 ∧ (0 ≤ G 5 0 ∧ G 5 0 ≤ 8) ∧ ∀ i, 0 ≤ i → i < G 5 0 → mK (mRow (G 4) i) = P i ∧ kI B (P i)) ∧
  (X 10 0 = G 19 0 ∧ X 11 0 = G 7 0 ∧ X 12 0 = G 8 0 ∧ (0 ≤ G 7 0 ∧ G 7 0 ≤ 10) ∧ (-2147483648 ≤ G 8 0 ∧ G 8 0 ≤ 2147483647) ∧ -1 ≤ G 19 0 ∧ G 19 0 ≤ 60) ∧
  (c = G 14 0 ∧ (0 ≤ c ∧ c ≤ 34) ∧ (∀ j, 0 ≤ j → j < c → t j = G 13 j) ∧ ∀ j, 0 ≤ G 13 j ∧ G 13 j < 65536) ∧ (I 0 = G 15 ∧ I 5 0 = G 16 0 ∧ mTx G ∧ mOb G)
theorem mR.up {B B' : Int} {K Ks : fS} {P : Int → fS} {X I : fS} {c : Int} {t : Int → Int} {G : fS} (w : mR B K Ks P X I c t G) (hB : B ≤ B' ∧ B' ≤ 20000000) : mR B' K Ks P X I c t G := by
  obtain ⟨⟨a1, a2⟩, ⟨b1, b2, b3⟩, ⟨c1, c2, c3⟩, w4⟩ := w
  exact ⟨⟨a1, a2.up hB⟩, ⟨b1, b2, b3.up hB⟩, ⟨c1, c2, fun i i0 i1 => ⟨(c3 i i0 i1).1, (c3 i i0 i1).2.up hB⟩⟩, w4⟩
theorem xN_le {n : Int} (h : 0 ≤ n ∧ n ≤ 8) : 0 ≤ xN n ∧ xN n ≤ 8 := by
  unfold xN
  split <;> omega
theorem xP_i {B n : Int} {P : Int → fS} {K : fS} (hn : 0 ≤ n ∧ n ≤ 8) (hK : kI B K) (hP : ∀ i, 0 ≤ i → i < n → kI B (P i)) : ∀ i, 0 ≤ i → i < xN n → kI B (xP n P K i) := fun i i0 i1 => by
  unfold xN at i1
  unfold xP
  by_cases h : n = 8
  · rw [if_pos h] at i1 ⊢
    show kI B (if i = 7 then K else P (i + 1))
    split
    · exact hK
    · exact hP _ (by omega) (by omega)
  · rw [if_neg h] at i1 ⊢
    show kI B (if i = n then K else P i)
    split
    · exact hK
    · exact hP _ i0 (by omega)
/-- an order, carried out -/
theorem mR.ok {B : Int} {K Ks : fS} {P : Int → fS} {X I : fS} {c : Int} {t : Int → Int} {G Y : fS} {a : Int} {K' : fS} (w : mR B K Ks P X I c t G) (hq : mQ (m_keep G) Y) (h6 : Y 6 0 = 0) (h7 : Y 7 0 = G 7 0) (h8 : Y 8 0 = G 8 0) (hK : mK (Y 0) = K') (hI : kI (B + 31000) K') (hB : B + 31000 ≤ 20000000) :
    (m_ends Y a).1 = a ∧ (m_ends Y a).2 6 0 = 0 ∧ mR (B + 31000) K' Ks (xP (X 5 0) P K) (gn X 5 (xN (X 5 0))) I c t (m_ends Y a).2 := by
  obtain ⟨⟨a1, a2⟩, ⟨b1, b2, b3⟩, ⟨c1, c2, c3⟩, ⟨d1, d2, d3, d4, d5, d6⟩, ⟨f1, f2, f3, f4⟩, g1, g2, g3, g4⟩ := w
  subst a1
  obtain ⟨r1, r2, r3, r4⟩ := m_ends_ok (a := a) hq h6 c2 a2.1 fun i i0 i1 => ⟨(c3 i i0 i1).1, (c3 i i0 i1).2.1⟩
  have k : ∀ i, i ≠ 0 → i ≠ 1 → i ≠ 4 → i ≠ 5 → ¬ (6 ≤ i ∧ i ≤ 12) → (m_ends Y a).2 i = G i := fun i i0 i1 i4 i5 i6 => (r4 i i4 i5).trans ((hq i (by omega)).trans ((gs_n i1).trans (gs_n (show i ≠ 6 by omega))))
  have k2 := k 2 (by decide) (by decide) (by decide) (by decide) (by decide)
  have k3 := k 3 (by decide) (by decide) (by decide) (by decide) (by decide)
  have k13 := k 13 (by decide) (by decide) (by decide) (by decide) (by decide)
  have k14 := k 14 (by decide) (by decide) (by decide) (by decide) (by decide)
  have k15 := k 15 (by decide) (by decide) (by decide) (by decide) (by decide)
  have k16 := k 16 (by decide) (by decide) (by decide) (by decide) (by decide)
  have k17 := k 17 (by decide) (by decide) (by decide) (by decide) (by decide)
  have k18 := k 18 (by decide) (by decide) (by decide) (by decide) (by decide)
  have k19 := k 19 (by decide) (by decide) (by decide) (by decide) (by decide)
  have k20 := k 20 (by decide) (by decide) (by decide) (by decide) (by decide)
  have hbb : B ≤ B + 31000 ∧ B + 31000 ≤ 20000000 := ⟨by omega, hB⟩
  refine ⟨r1, by rw [r4 6 (by decide) (by decide)]; exact h6, ?_⟩
  unfold mR mTx mOb
  rw [r4 0 (by decide) (by decide), r4 7 (by decide) (by decide), r4 8 (by decide) (by decide), h7, h8, k2, k3, k13, k14, k15, k16, k17, k18, k19, k20, r2, c1]
  refine ⟨⟨hK, hI⟩, ⟨b1, b2, b3.up hbb⟩, ⟨rfl, xN_le c2, fun i i0 i1 => ⟨r3 i i0 i1, (xP_i c2 a2 (fun i i0 i1 => (c3 i i0 i1).2) i i0 i1).up hbb⟩⟩, ⟨d1, d2, d3, d4, d5, d6⟩, ⟨f1, f2, f3, f4⟩, g1, g2, g3, g4⟩
