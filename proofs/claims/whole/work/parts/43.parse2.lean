/-- what an order's reading does, beside what it should -/
def mO (G X : fS) (r : Int × Int × Int × Int) : Prop :=
  X 17 0 = r.2.2.2 ∧ (∀ i, i ≠ 17 → i ≠ 18 → i ≠ 20 → i ≠ 21 → X i = G i) ∧ (∀ j, 0 ≤ X 20 j ∧ X 20 j ≤ 999) ∧ (∀ j, j < 3 * G 21 0 → X 20 j = G 20 j) ∧ (X 21 0 = G 21 0 ∨ X 21 0 = G 21 0 + 1) ∧
  ((r.1 = -1 ∧ X 18 0 = 1) ∨ (r.1 ≠ -1 ∧ X 18 0 = 0 ∧ X 21 0 = G 21 0 + 1 ∧ kdOf (X 20 (3 * G 21 0)) = r.1 ∧ (r.1 ≠ 0 → X 20 (3 * G 21 0 + 1) = r.2.1) ∧ (sgOf r.1 ≠ 32 → X 20 (3 * G 21 0 + 2) = r.2.2.1)))
def mG1 (G : fS) : fS := gs (gn G 17 (G 17 0 + 1)) 20 (jfu (G 20) (3 * G 21 0) (G 15 (G 17 0)))
def mG3 (G : fS) : fS := gs (m_number2 (mG1 G)).2 20 (jfu ((m_number2 (mG1 G)).2 20) (3 * G 21 0 + 1) (m_number2 (mG1 G)).1)
def mR1 (G : fS) : fS := gn (mG3 G) 21 ((m_number2 (mG1 G)).2 21 0 + 1)
def mR2 (N : fS → Int × fS) (s : Int) (G : fS) : fS := if (m_number2 (mG1 G)).2 18 0 = 0 then gn (gs (N (m_sign (mG3 G) s s).2).2 20 (jfu ((N (m_sign (mG3 G) s s).2).2 20) (3 * G 21 0 + 2) (N (m_sign (mG3 G) s s).2).1)) 21 ((N (m_sign (mG3 G) s s).2).2 21 0 + 1) else mR1 G
theorem m_readOrder_e (G : fS) : m_readOrder G = if G 18 0 = 0 then (if G 16 0 ≤ G 17 0 then gn G 18 1 else if G 15 (G 17 0) = 103 then mR2 m_number2 60 G else if G 15 (G 17 0) = 109 then mR2 m_number2 43 G else if G 15 (G 17 0) = 113 then mR2 m_number2 45 G else if G 15 (G 17 0) = 101 then mR2 m_number3 61 G
    else if G 15 (G 17 0) = 102 then gn (gs (mG1 G) 20 (jfu (jfu (G 20) (3 * G 21 0) (G 15 (G 17 0))) (3 * G 21 0 + 1) 0)) 21 (G 21 0 + 1) else if G 15 (G 17 0) = 98 then mR1 G else if G 15 (G 17 0) = 99 then mR1 G else if G 15 (G 17 0) = 112 then mR1 G else if G 15 (G 17 0) = 100 then mR1 G else gn G 18 1) else G := rfl
theorem jfu_b {f : Int → Int} {i x : Int} (h : ∀ j, 0 ≤ f j ∧ f j ≤ 999) (hx : 0 ≤ x ∧ x ≤ 999) : ∀ j, 0 ≤ jfu f i x j ∧ jfu f i x j ≤ 999 := fun j => by
  by_cases hj : j = i
  · rw [hj, jfu_s]; exact hx
  · rw [jfu_n hj]; exact h j
theorem kdOf_le {c : Int} (h : kdOf c ≠ -1) : 0 ≤ c ∧ c ≤ 999 := by
  unfold kdOf at h
  repeat' split at h
  all_goals first | omega | exact absurd rfl h
/-- the first number of an order -/
theorem mG1_n {G : fS} (hw : G 18 0 = 0) : mN (mG1 G) (m_number2 (mG1 G)) (pNum (G 15) (G 16 0) 2 (-1) (G 17 0 + 1)) := m_number2_K (G := mG1 G) hw
theorem mR1_K {G : fS} (hw : G 18 0 = 0) (ha : ∀ j, 0 ≤ G 20 j ∧ G 20 j ≤ 999) {kd : Int} (hk : kdOf (G 15 (G 17 0)) = kd) (hk1 : kd ≠ -1) : ∀ r, (r = if (pNum (G 15) (G 16 0) 2 (-1) (G 17 0 + 1)).1 = -1 then (-1, 0, 0, (pNum (G 15) (G 16 0) 2 (-1) (G 17 0 + 1)).2) else (kd, (pNum (G 15) (G 16 0) 2 (-1) (G 17 0 + 1)).1, 0, (pNum (G 15) (G 16 0) 2 (-1) (G 17 0 + 1)).2)) → (sgOf kd = 32 ∨ r.1 = -1) → mO G (mR1 G) r := by
  intro r hr hs
  have hc : 0 ≤ G 15 (G 17 0) ∧ G 15 (G 17 0) ≤ 999 := kdOf_le (by rw [hk]; exact hk1)
  have hv := pNum_v2 (t := G 15) (n := G 16 0) (a := G 17 0 + 1)
  have hb := jfu_b (i := 3 * G 21 0) ha hc
  rcases mG1_n hw with ⟨n1, n2, n3, n4, n5⟩ | ⟨n1, n2, n3, n4, n5⟩
  · rw [if_pos n1] at hr
    subst hr
    have e20 := n5 20 (by omega) (by omega)
    have e21 := n5 21 (by omega) (by omega)
    refine ⟨n3, fun i i1 i2 i3 i4 => ?_, ?_, fun j hj => ?_, Or.inr ?_, Or.inl ⟨rfl, n4⟩⟩
    · show gn (gs _ 20 _) 21 _ i = _
      unfold gn
      rw [gs_n i4, gs_n i3, n5 i i1 i2]
      exact (gs_n i3).trans (gs_n i1)
    · show ∀ j, 0 ≤ jfu ((m_number2 (mG1 G)).2 20) _ _ j ∧ jfu ((m_number2 (mG1 G)).2 20) _ _ j ≤ 999
      rw [e20, n2]
      exact jfu_b hb (by omega)
    · show jfu ((m_number2 (mG1 G)).2 20) _ _ j = _
      rw [jfu_n (by omega), e20]
      exact jfu_n (by omega)
    · show (m_number2 (mG1 G)).2 21 0 + 1 = _
      rw [e21]
      rfl
  · rw [if_neg n1] at hr
    subst hr
    have e20 := n5 20 (by omega) (by omega)
    have e21 := n5 21 (by omega) (by omega)
    have hs : sgOf kd = 32 := hs.resolve_right hk1
    refine ⟨n3, fun i i1 i2 i3 i4 => ?_, ?_, fun j hj => ?_, Or.inr ?_, Or.inr ⟨hk1, n4, ?_, ?_, fun _ => ?_, fun q => absurd hs q⟩⟩
    · show gn (gs _ 20 _) 21 _ i = _
      unfold gn
      rw [gs_n i4, gs_n i3, n5 i i1 i2]
      exact (gs_n i3).trans (gs_n i1)
    · show ∀ j, 0 ≤ jfu ((m_number2 (mG1 G)).2 20) _ _ j ∧ jfu ((m_number2 (mG1 G)).2 20) _ _ j ≤ 999
      rw [e20, n2]
      exact jfu_b hb (by omega)
    · show jfu ((m_number2 (mG1 G)).2 20) _ _ j = _
      rw [jfu_n (by omega), e20]
      exact jfu_n (by omega)
    · show (m_number2 (mG1 G)).2 21 0 + 1 = _
      rw [e21]
      rfl
    · show (m_number2 (mG1 G)).2 21 0 + 1 = _
      rw [e21]
      rfl
    · show kdOf (jfu ((m_number2 (mG1 G)).2 20) _ _ (3 * G 21 0)) = kd
      rw [jfu_n (by omega), e20]
      show kdOf (jfu (G 20) (3 * G 21 0) (G 15 (G 17 0)) (3 * G 21 0)) = kd
      rw [jfu_s, hk]
    · show jfu ((m_number2 (mG1 G)).2 20) (3 * G 21 0 + 1) (m_number2 (mG1 G)).1 (3 * G 21 0 + 1) = _
      rw [jfu_s, n2]
theorem mR2_K {G : fS} (hw : G 18 0 = 0) (ha : ∀ j, 0 ≤ G 20 j ∧ G 20 j ≤ 999) {kd s : Int} (hk : kdOf (G 15 (G 17 0)) = kd) (hk1 : kd ≠ -1) {N : fS → Int × fS}
    (hN : ∀ Y : fS, Y 18 0 = 0 → mN Y (N Y) (pNum (Y 15) (Y 16 0) (dgOf kd) (-1) (Y 17 0))) (hNw : ∀ Y : fS, Y 18 0 = 1 → N Y = (0, Y)) (hv2 : ∀ t n a, -1 ≤ (pNum t n (dgOf kd) (-1) a).1 ∧ (pNum t n (dgOf kd) (-1) a).1 ≤ 999) : ∀ r, (r = if (pNum (G 15) (G 16 0) 2 (-1) (G 17 0 + 1)).1 = -1 then (-1, 0, 0, (pNum (G 15) (G 16 0) 2 (-1) (G 17 0 + 1)).2)
      else if (pNum (G 15) (G 16 0) 2 (-1) (G 17 0 + 1)).2 < G 16 0 ∧ (G 15) (pNum (G 15) (G 16 0) 2 (-1) (G 17 0 + 1)).2 = s then (if (pNum (G 15) (G 16 0) (dgOf kd) (-1) ((pNum (G 15) (G 16 0) 2 (-1) (G 17 0 + 1)).2 + 1)).1 = -1 then (-1, 0, 0, (pNum (G 15) (G 16 0) (dgOf kd) (-1) ((pNum (G 15) (G 16 0) 2 (-1) (G 17 0 + 1)).2 + 1)).2) else (kd, (pNum (G 15) (G 16 0) 2 (-1) (G 17 0 + 1)).1, (pNum (G 15) (G 16 0) (dgOf kd) (-1) ((pNum (G 15) (G 16 0) 2 (-1) (G 17 0 + 1)).2 + 1)).1, (pNum (G 15) (G 16 0) (dgOf kd) (-1) ((pNum (G 15) (G 16 0) 2 (-1) (G 17 0 + 1)).2 + 1)).2))
      else (-1, 0, 0, (pNum (G 15) (G 16 0) 2 (-1) (G 17 0 + 1)).2)) → mO G (mR2 N s G) r := by
  intro r hr
  have hc : 0 ≤ G 15 (G 17 0) ∧ G 15 (G 17 0) ≤ 999 := kdOf_le (by rw [hk]; exact hk1)
  have hv := pNum_v2 (t := G 15) (n := G 16 0) (a := G 17 0 + 1)
  have hb := jfu_b (i := 3 * G 21 0) ha hc
  unfold mR2
  rcases mG1_n hw with ⟨n1, n2, n3, n4, n5⟩ | ⟨n1, n2, n3, n4, n5⟩
  · rw [if_neg (by omega)]
    refine mR1_K hw ha hk hk1 r ?_ (Or.inr ?_)
    · rw [if_pos n1] at hr ⊢
      exact hr
    · rw [if_pos n1] at hr
      rw [hr]
  · rw [if_pos n4]
    rw [if_neg n1] at hr
    have e15 := n5 15 (by omega) (by omega)
    have e16 := n5 16 (by omega) (by omega)
    have e20 := n5 20 (by omega) (by omega)
    have e21 := n5 21 (by omega) (by omega)
    -- the state behind the first number
    have k15 : mG3 G 15 = G 15 := e15
    have k16 : mG3 G 16 = G 16 := e16
    have k17 : mG3 G 17 0 = (pNum (G 15) (G 16 0) 2 (-1) (G 17 0 + 1)).2 := n3
    have k18 : mG3 G 18 0 = 0 := n4
    have k20 : mG3 G 20 = jfu (jfu (G 20) (3 * G 21 0) (G 15 (G 17 0))) (3 * G 21 0 + 1) (m_number2 (mG1 G)).1 := by
      show jfu ((m_number2 (mG1 G)).2 20) _ _ = _
      rw [e20]
      rfl
    have k21 : mG3 G 21 0 = G 21 0 := by
      show (m_number2 (mG1 G)).2 21 0 = _
      rw [e21]
      rfl
    have kf : ∀ i, i ≠ 17 → i ≠ 18 → i ≠ 20 → i ≠ 21 → mG3 G i = G i := fun i i1 i2 i3 i4 => by
      show gs _ 20 _ i = _
      rw [gs_n i3, n5 i i1 i2]
      exact (gs_n i3).trans (gs_n i1)
    have kb : ∀ j, 0 ≤ mG3 G 20 j ∧ mG3 G 20 j ≤ 999 := by
      rw [k20, n2]
      exact jfu_b hb (by omega)
    have klo : ∀ j, j < 3 * G 21 0 → mG3 G 20 j = G 20 j := fun j hj => by
      rw [k20, jfu_n (by omega), jfu_n (by omega)]
    have k0 : mG3 G 20 (3 * G 21 0) = G 15 (G 17 0) := by rw [k20, jfu_n (by omega), jfu_s]
    have k1 : mG3 G 20 (3 * G 21 0 + 1) = (pNum (G 15) (G 16 0) 2 (-1) (G 17 0 + 1)).1 := by rw [k20, jfu_s, n2]
    generalize mG3 G = Y at k15 k16 k17 k18 k20 k21 kf kb klo k0 k1 ⊢
    generalize pNum (G 15) (G 16 0) 2 (-1) (G 17 0 + 1) = q1 at hr k17 k1 n1
    by_cases h2 : q1.2 < G 16 0 ∧ (G 15) q1.2 = s
    · rw [if_pos h2] at hr
      obtain ⟨_, s2, s3, s4⟩ := m_sign_t (G := Y) (lo := s) (hi := s) k18 (by rw [k15, k16, k17]; exact ⟨h2.1, by omega, by omega⟩)
      have u15 := (s4 15 (by omega) (by omega)).trans k15
      have u16 := (s4 16 (by omega) (by omega)).trans k16
      have u20 := s4 20 (by omega) (by omega)
      have u21 := s4 21 (by omega) (by omega)
      have hN9 := hN _ s3
      rw [u15, u16, s2, k17] at hN9
      have hv9 := hv2 (G 15) (G 16 0) (q1.2 + 1)
      generalize pNum (G 15) (G 16 0) (dgOf kd) (-1) (q1.2 + 1) = q2 at hr hN9 hv9
      rcases hN9 with ⟨m1, m2, m3, m4, m5⟩ | ⟨m1, m2, m3, m4, m5⟩
      · rw [if_pos m1] at hr
        subst hr
        have w20 := (m5 20 (by omega) (by omega)).trans u20
        have w21 := (m5 21 (by omega) (by omega)).trans u21
        refine ⟨m3, fun i i1 i2 i3 i4 => ?_, ?_, fun j hj => ?_, Or.inr ?_, Or.inl ⟨rfl, m4⟩⟩
        · unfold gn
          rw [gs_n i4, gs_n i3, m5 i i1 i2, s4 i i1 i2]
          exact kf i i1 i2 i3 i4
        · show ∀ j, 0 ≤ jfu _ _ _ j ∧ jfu _ _ _ j ≤ 999
          rw [w20, m2]
          exact jfu_b kb (by omega)
        · show jfu _ _ _ j = _
          rw [jfu_n (by omega), w20]
          exact klo j hj
        · show _ + 1 = _
          rw [w21, k21]
      · rw [if_neg m1] at hr
        subst hr
        have w20 := (m5 20 (by omega) (by omega)).trans u20
        have w21 := (m5 21 (by omega) (by omega)).trans u21
        refine ⟨m3, fun i i1 i2 i3 i4 => ?_, ?_, fun j hj => ?_, Or.inr ?_, Or.inr ⟨hk1, m4, ?_, ?_, fun _ => ?_, fun _ => ?_⟩⟩
        · unfold gn
          rw [gs_n i4, gs_n i3, m5 i i1 i2, s4 i i1 i2]
          exact kf i i1 i2 i3 i4
        · show ∀ j, 0 ≤ jfu _ _ _ j ∧ jfu _ _ _ j ≤ 999
          rw [w20, m2]
          exact jfu_b kb (by omega)
        · show jfu _ _ _ j = _
          rw [jfu_n (by omega), w20]
          exact klo j hj
        · show _ + 1 = _
          rw [w21, k21]
        · show _ + 1 = _
          rw [w21, k21]
        · show kdOf (jfu _ _ _ (3 * G 21 0)) = kd
          rw [jfu_n (by omega), w20, k0, hk]
        · show jfu _ _ _ (3 * G 21 0 + 1) = _
          rw [jfu_n (by omega), w20, k1]
        · show jfu _ (3 * G 21 0 + 2) _ (3 * G 21 0 + 2) = _
          rw [jfu_s, m2]
    · rw [if_neg h2] at hr
      subst hr
      obtain ⟨_, s2, s3, s4⟩ := m_sign_f (G := Y) (lo := s) (hi := s) (by rw [k15, k16, k17]; exact fun q => h2 ⟨q.2.1, by omega⟩)
      have u20 := s4 20 (by omega) (by omega)
      have u21 := s4 21 (by omega) (by omega)
      rw [hNw _ s3]
      refine ⟨by show (m_sign Y s s).2 17 0 = _; rw [s2, k17], fun i i1 i2 i3 i4 => ?_, ?_, fun j hj => ?_, Or.inr ?_, Or.inl ⟨rfl, s3⟩⟩
      · unfold gn
        rw [gs_n i4, gs_n i3, s4 i i1 i2]
        exact kf i i1 i2 i3 i4
      · show ∀ j, 0 ≤ jfu ((m_sign Y s s).2 20) _ _ j ∧ jfu ((m_sign Y s s).2 20) _ _ j ≤ 999
        rw [u20]
        exact jfu_b kb (by omega)
      · show jfu ((m_sign Y s s).2 20) _ _ j = _
        rw [jfu_n (by omega), u20]
        exact klo j hj
      · show (m_sign Y s s).2 21 0 + 1 = _
        rw [u21, k21]
theorem m_readOrder_K {G : fS} (hw : G 18 0 = 0) (ha : ∀ j, 0 ≤ G 20 j ∧ G 20 j ≤ 999) : mO G (m_readOrder G) (pOrd (G 15) (G 16 0) (G 17 0)) := by
  rw [m_readOrder_e, if_pos hw]
  have hbad : mO G (gn G 18 1) (-1, 0, 0, G 17 0) := ⟨rfl, fun i _ i2 _ _ => gs_n i2, ha, fun _ _ => rfl, Or.inl rfl, Or.inl ⟨rfl, rfl⟩⟩
  by_cases h1 : G 16 0 ≤ G 17 0
  · rw [if_pos h1]
    have e : pOrd (G 15) (G 16 0) (G 17 0) = (-1, 0, 0, G 17 0) := by
      unfold pOrd
      rw [if_neg (show ¬ G 17 0 < G 16 0 by omega)]
      rfl
    rw [e]
    exact hbad
  · rw [if_neg h1]
    have ec : (if G 17 0 < G 16 0 then G 15 (G 17 0) else 0) = G 15 (G 17 0) := if_pos (by omega)
    unfold pOrd
    rw [ec]
    have v2 := fun t n a => pNum_v2 (t := t) (n := n) (a := a)
    have v3 := fun t n a => pNum_v3 (t := t) (n := n) (a := a)
    have d2 : ∀ kd : Int, kd ≠ 7 → ∀ Y : fS, Y 18 0 = 0 → mN Y (m_number2 Y) (pNum (Y 15) (Y 16 0) (dgOf kd) (-1) (Y 17 0)) := fun kd h7 Y hY => by
      have := m_number2_K hY
      unfold dgOf
      rw [if_neg h7]
      exact this
    have b2 : ∀ kd : Int, kd ≠ 7 → ∀ t n a, -1 ≤ (pNum t n (dgOf kd) (-1) a).1 ∧ (pNum t n (dgOf kd) (-1) a).1 ≤ 999 := fun kd h7 t n a => by
      have := v2 t n a
      unfold dgOf
      rw [if_neg h7]
      omega
    have w2 : ∀ Y : fS, Y 18 0 = 1 → m_number2 Y = (0, Y) := fun Y hY => (m_number_w hY).1
    have w3 : ∀ Y : fS, Y 18 0 = 1 → m_number3 Y = (0, Y) := fun Y hY => (m_number_w hY).2
    by_cases c103 : G 15 (G 17 0) = 103
    · rw [if_pos c103]
      have hk : kdOf (G 15 (G 17 0)) = 2 := by rw [c103]; rfl
      rw [hk, if_neg (show ¬ ((2 : Int) = -1) by decide), if_neg (show ¬ ((2 : Int) = 0) by decide), if_neg (show ¬ (sgOf 2 = 32) by decide)]
      exact mR2_K hw ha hk (by decide) (d2 2 (by decide)) w2 (b2 2 (by decide)) _ rfl
    rw [if_neg c103]
    by_cases c109 : G 15 (G 17 0) = 109
    · rw [if_pos c109]
      have hk : kdOf (G 15 (G 17 0)) = 4 := by rw [c109]; rfl
      rw [hk, if_neg (show ¬ ((4 : Int) = -1) by decide), if_neg (show ¬ ((4 : Int) = 0) by decide), if_neg (show ¬ (sgOf 4 = 32) by decide)]
      exact mR2_K hw ha hk (by decide) (d2 4 (by decide)) w2 (b2 4 (by decide)) _ rfl
    rw [if_neg c109]
    by_cases c113 : G 15 (G 17 0) = 113
    · rw [if_pos c113]
      have hk : kdOf (G 15 (G 17 0)) = 6 := by rw [c113]; rfl
      rw [hk, if_neg (show ¬ ((6 : Int) = -1) by decide), if_neg (show ¬ ((6 : Int) = 0) by decide), if_neg (show ¬ (sgOf 6 = 32) by decide)]
      exact mR2_K hw ha hk (by decide) (d2 6 (by decide)) w2 (b2 6 (by decide)) _ rfl
    rw [if_neg c113]
    by_cases c101 : G 15 (G 17 0) = 101
    · rw [if_pos c101]
      have hk : kdOf (G 15 (G 17 0)) = 7 := by rw [c101]; rfl
      rw [hk, if_neg (show ¬ ((7 : Int) = -1) by decide), if_neg (show ¬ ((7 : Int) = 0) by decide), if_neg (show ¬ (sgOf 7 = 32) by decide)]
      exact mR2_K hw ha hk (by decide) (fun Y hY => m_number3_K hY) w3 v3 _ rfl
    rw [if_neg c101]
    by_cases c102 : G 15 (G 17 0) = 102
    · rw [if_pos c102]
      have hk : kdOf (G 15 (G 17 0)) = 0 := by rw [c102]; rfl
      rw [hk, if_neg (show ¬ ((0 : Int) = -1) by decide), if_pos (show ((0 : Int) = 0) from rfl), if_neg (show ¬ (((0 : Int), G 17 0 + 1).1 = -1) from (show ¬ ((0 : Int) = -1) by decide)), if_pos (show sgOf 0 = 32 by decide)]
      have hb := jfu_b (i := 3 * G 21 0) ha (x := G 15 (G 17 0)) (by omega)
      refine ⟨rfl, fun i i1 i2 i3 i4 => ?_, ?_, fun j hj => ?_, Or.inr rfl, Or.inr ⟨(show (0 : Int) ≠ -1 by decide), hw, rfl, ?_, fun q => absurd rfl q, fun q => absurd rfl q⟩⟩
      · unfold gn mG1
        rw [gs_n i4, gs_n i3, gs_n i3]
        exact gs_n i1
      · show ∀ j, 0 ≤ jfu (jfu (G 20) _ _) _ 0 j ∧ jfu (jfu (G 20) _ _) _ 0 j ≤ 999
        exact jfu_b hb (by omega)
      · show jfu (jfu (G 20) _ _) _ 0 j = _
        rw [jfu_n (by omega), jfu_n (by omega)]
      · show kdOf (jfu (jfu (G 20) _ _) _ 0 (3 * G 21 0)) = 0
        rw [jfu_n (by omega), jfu_s]
        exact hk
    rw [if_neg c102]
    by_cases c98 : G 15 (G 17 0) = 98
    · rw [if_pos c98]
      have hk : kdOf (G 15 (G 17 0)) = 1 := by rw [c98]; rfl
      rw [hk, if_neg (show ¬ ((1 : Int) = -1) by decide), if_neg (show ¬ ((1 : Int) = 0) by decide), if_pos (show sgOf 1 = 32 by decide)]
      exact mR1_K hw ha hk (by decide) _ rfl (Or.inl rfl)
    rw [if_neg c98]
    by_cases c99 : G 15 (G 17 0) = 99
    · rw [if_pos c99]
      have hk : kdOf (G 15 (G 17 0)) = 3 := by rw [c99]; rfl
      rw [hk, if_neg (show ¬ ((3 : Int) = -1) by decide), if_neg (show ¬ ((3 : Int) = 0) by decide), if_pos (show sgOf 3 = 32 by decide)]
      exact mR1_K hw ha hk (by decide) _ rfl (Or.inl rfl)
    rw [if_neg c99]
    by_cases c112 : G 15 (G 17 0) = 112
    · rw [if_pos c112]
      have hk : kdOf (G 15 (G 17 0)) = 5 := by rw [c112]; rfl
      rw [hk, if_neg (show ¬ ((5 : Int) = -1) by decide), if_neg (show ¬ ((5 : Int) = 0) by decide), if_pos (show sgOf 5 = 32 by decide)]
      exact mR1_K hw ha hk (by decide) _ rfl (Or.inl rfl)
    rw [if_neg c112]
    by_cases c100 : G 15 (G 17 0) = 100
    · rw [if_pos c100]
      have hk : kdOf (G 15 (G 17 0)) = 8 := by rw [c100]; rfl
      rw [hk, if_neg (show ¬ ((8 : Int) = -1) by decide), if_neg (show ¬ ((8 : Int) = 0) by decide), if_pos (show sgOf 8 = 32 by decide)]
      exact mR1_K hw ha hk (by decide) _ rfl (Or.inl rfl)
    rw [if_neg c100]
    have hk : kdOf (G 15 (G 17 0)) = -1 := by
      unfold kdOf
      rw [if_neg c102, if_neg c98, if_neg c103, if_neg c99, if_neg c109, if_neg c112, if_neg c113, if_neg c101, if_neg c100]
    rw [hk, if_pos rfl]
    exact hbad
