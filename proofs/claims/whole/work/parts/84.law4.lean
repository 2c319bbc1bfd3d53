/-! RUN, DOUBLES -/
theorem kI_runs : ∀ (l : List (Int × Int × Int)) (B : Int) (K : fS), kI B K → B + 1000 * (l.length : Int) ≤ 20000000 → kI (B + 1000 * (l.length : Int)) (kRuns K l).2.2.2
  | [], B, K, h, hB => by
    show kI (B + 1000 * ((0 : Nat) : Int)) K
    rw [show B + 1000 * ((0 : Nat) : Int) = B by omega]
    exact h
  | z :: l, B, K, h, hB => by
    have e : ((z :: l).length : Int) = (l.length : Int) + 1 := by simp
    rw [e] at hB ⊢
    have hl := Int.natCast_nonneg l.length
    have h1 := kI_try h (by omega) z.1 z.2.1 z.2.2
    by_cases c : (kTry K z.1 z.2.1 z.2.2).1 < -1
    · rw [kRuns_n c]
      exact h1.up ⟨by omega, hB⟩
    · rw [kRuns_y c]
      have w := kI_runs l (B + 1000) _ h1 (by omega)
      rw [show B + 1000 * ((l.length : Int) + 1) = B + 1000 + 1000 * (l.length : Int) by omega]
      exact w
theorem kRuns_rf : ∀ (l : List (Int × Int × Int)) (B : Int) (K : fS), kI B K → B + 1000 * (l.length : Int) ≤ 20000000 → rOk (kRuns K l)
  | [], B, K, h, hB => rOk.z
  | z :: l, B, K, h, hB => by
    have e : ((z :: l).length : Int) = (l.length : Int) + 1 := by simp
    rw [e] at hB
    have hl := Int.natCast_nonneg l.length
    by_cases c : (kTry K z.1 z.2.1 z.2.2).1 < -1
    · rw [kRuns_n c]
      exact kTry_rf h _ _ _
    · rw [kRuns_y c]
      exact kRuns_rf l (B + 1000) _ (kI_try h (by omega) z.1 z.2.1 z.2.2) (by omega)
/-- the reference's state once a text has been read -/
theorem mR.rn {B : Int} {K Ks : fS} {P : Int → fS} {X I I' : fS} {c a w : Int} {t : Int → Int} {G Y : fS} (h : mR B K Ks P X I c t G) (hp : mPar G Y) (hT : mTx Y) (hO : mOb Y) (i0 : I' 0 = I 0) (i5 : I' 5 0 = 0) (ha : -1 ≤ a ∧ a ≤ 60) (hw : w = 0 ∨ w = 1) : mR B K Ks P (gn X 10 a) I' c t (gn (gn (gn Y 18 w) 19 a) 16 0) := by
  obtain ⟨a1, a2, a3, ⟨d1, d2, d3, d4, d5, d6⟩, a5, a6, a7, a8, a9⟩ := h
  have e : ∀ i, i ≠ 16 → i ≠ 17 → i ≠ 18 → i ≠ 19 → i ≠ 20 → i ≠ 21 → gn (gn (gn Y 18 w) 19 a) 16 0 i = G i := fun i h6 h7 h8 h9 h0 h1 => (gs_n h6).trans ((gs_n h9).trans ((gs_n h8).trans (hp i h7 h8 h0 h1)))
  have e0 := e 0 (by decide) (by decide) (by decide) (by decide) (by decide) (by decide)
  have e2 := e 2 (by decide) (by decide) (by decide) (by decide) (by decide) (by decide)
  have e3 := e 3 (by decide) (by decide) (by decide) (by decide) (by decide) (by decide)
  have e4 := e 4 (by decide) (by decide) (by decide) (by decide) (by decide) (by decide)
  have e5 := e 5 (by decide) (by decide) (by decide) (by decide) (by decide) (by decide)
  have e7 := e 7 (by decide) (by decide) (by decide) (by decide) (by decide) (by decide)
  have e8 := e 8 (by decide) (by decide) (by decide) (by decide) (by decide) (by decide)
  have e13 := e 13 (by decide) (by decide) (by decide) (by decide) (by decide) (by decide)
  have e14 := e 14 (by decide) (by decide) (by decide) (by decide) (by decide) (by decide)
  have e15 := e 15 (by decide) (by decide) (by decide) (by decide) (by decide) (by decide)
  unfold mR
  rw [e0, e2, e3, e4, e5, e7, e8, e13, e14, e15]
  refine ⟨a1, a2, a3, ⟨rfl, d2, d3, d4, d5, ha⟩, a5, i0.trans a6, i5, ⟨hT.1, ⟨Int.le_refl _, show (0 : Int) ≤ 60 by decide⟩, hw, hT.2.2.2⟩, hO⟩
set_option maxHeartbeats 2000000 in
theorem o_run {B : Int} {K Ks : fS} {P : Int → fS} {X I : fS} {c : Int} {t : Int → Int} {G : fS} {h : jH} {f : Int → Int} (hI : lI B K Ks P X I c t G h) (hB : B + 31000 ≤ 20000000) (hb : 0 ≤ B) (h220 : h 220 = some (jA 4 1 f))  : jM mL_run 11 1 6 [300] [.ref 0, .ref 220] h (fun r h1 => lK h h1 ∧ (∃ k, r = some (iv k)) ∧ ∀ x G', m_runQ G x G' → oP (B + 31000) h (x, G') r h1) jno := by
  obtain ⟨hK, hKI⟩ := hI.k
  obtain ⟨fs, h0⟩ := hI.1.o
  have h300 := hI.2.2.2.2
  have hup : B ≤ B + 31000 ∧ B + 31000 ≤ 20000000 := ⟨by omega, hB⟩
  have hR := hI.2.2.1
  obtain ⟨a1, a2, ⟨b1, b2, b3⟩, ⟨d1, d2, d3, d4, d5, d6⟩, a5, a6, a7, a8, a9⟩ := id hR
  have t1 : 0 ≤ I 5 0 ∧ I 5 0 ≤ 60 := by rw [a7]; exact a8.2.1
  have t2 : ∀ j, 0 ≤ I 0 j ∧ I 0 j < 65536 := by rw [a6]; exact a8.2.2.2
  have herr := pAll_rg 61 (I 0) (I 5 0) 0 [] (Int.le_refl _) t1.1 t1.2
  have k1 : ∀ r h', xRn K Ks P X I c t h r h' → ∀ j, 120 ≤ j → h' j = h j := fun r h' z j j0 => by
    obtain ⟨_, _, _, I', _, _, _, z⟩ := z
    exact z j (by omega)
  have k2 : ∀ E h', xRx K Ks P X I c t h E h' → ∀ j, 120 ≤ j → h' j = h j := fun E h' z j j0 => by
    obtain ⟨I', _, _, z, _⟩ := z
    exact z j (by omega)
  refine (w_run (f := f) (x_run hI.1 hKI hB t1 t2) h0 (fun r h' z => ?_) (fun E h' z => ?_)).mo fun r h' w => ⟨w.k k1 k2, w.r, fun x G' hm => ?_⟩
  · have e := (k1 r h' z 220 (by decide)).trans h220
    obtain ⟨_, rfl, _⟩ := z; exact ⟨⟨_, rfl⟩, e⟩
  · have e := (k2 E h' z 300 (by decide)).trans h300
    obtain ⟨I', _, _, _, ⟨_, rfl, _⟩ | ⟨_, ⟨_, rfl⟩ | ⟨_, rfl⟩, _⟩⟩ := z
    · exact ⟨e, .inl rfl⟩
    · exact ⟨e, .inr rfl⟩
    · exact ⟨e, .inl rfl⟩
  · unfold m_runQ at hm
    rw [← a6, ← a7, a1.1] at hm
    refine oP_of hI.2.2.2.1 h300 w k1 k2 h220 (fun v h' z => ?_) (fun k E h' hm2 z => ?_)
    · obtain ⟨z1, z2, z3, I', i0, i5, z4, _⟩ := z
      rcases hm with ⟨y1, _⟩ | ⟨y1, y2, Y0, Y, p1, p2, p3, hq, hm⟩
      · exact absurd z1 y1
      have hr := hR.rn (a := -1) (w := 0) p1 p2 p3 i0 i5 ⟨by decide, by decide⟩ (.inl rfl)
      have e7 : gn (gn (gn Y0 18 0) 19 (-1)) 16 0 7 0 = G 7 0 := congrFun (p1 7 (by decide) (by decide) (by decide) (by decide)) 0
      have e8 : gn (gn (gn Y0 18 0) 19 (-1)) 16 0 8 0 = G 8 0 := congrFun (p1 8 (by decide) (by decide) (by decide) (by decide)) 0
      rcases hm with ⟨y3, y4, y5, y6, y7, y8⟩ | ⟨y3, _⟩ | ⟨y3, _⟩
      · have hKr : kI (B + 31000) (kRuns K (pAll (I 0) (I 5 0) 61 0 []).1).2.2.2 := (kI_runs _ B K hKI (by omega)).up ⟨by omega, hB⟩
        have o := hr.ok (a := ((pAll (I 0) (I 5 0) 61 0 []).1.length : Int)) hq y4 (y5.trans e7.symm) (y6.trans e8.symm) y7 hKr hB
        rw [← y8] at o
        exact ⟨_, _, _, _, _, _, _, z4, o.2.2, o.2.1, (iv_i z2).trans (congrArg nz o.1.symm)⟩
      · exfalso; omega
      · exfalso; omega
    · obtain ⟨I', i0, i5, _, z⟩ := z
      simp only [List.mem_cons, List.not_mem_nil, or_false, Prod.mk.injEq] at hm2
      rcases z with ⟨z1, rfl, z4⟩ | ⟨z1, zE, z4⟩
      · rcases hm with ⟨y1, y2, Y0, p1, p2, p3, rfl⟩ | ⟨y1, _⟩
        rotate_left
        · exact absurd y1 z1
        have hr := hR.rn (a := (pAll (I 0) (I 5 0) 61 0 []).2) (w := 1) p1 p2 p3 i0 i5 herr (.inr rfl)
        have hk : k = 1 := by simpa using hm2
        exact ⟨_, _, _, _, _, _, _, z4, (hr.rd2 (G' := gn (gn (gn (gn Y0 18 1) 19 (pAll (I 0) (I 5 0) 61 0 []).2) 16 0) 6 1) (fun i hi => gs_n (by omega)) rfl rfl).up hup, by rw [hk]; rfl, by omega, by omega⟩
      · rcases hm with ⟨y1, _⟩ | ⟨y1, y2, Y0, Y, p1, p2, p3, hq, hm⟩
        · exact absurd z1 y1
        have hr := hR.rn (a := -1) (w := 0) p1 p2 p3 i0 i5 ⟨by decide, by decide⟩ (.inl rfl)
        have e7 : gn (gn (gn Y0 18 0) 19 (-1)) 16 0 7 0 = G 7 0 := congrFun (p1 7 (by decide) (by decide) (by decide) (by decide)) 0
        have e8 : gn (gn (gn Y0 18 0) 19 (-1)) 16 0 8 0 = G 8 0 := congrFun (p1 8 (by decide) (by decide) (by decide) (by decide)) 0
        have hrf := kRuns_rf (pAll (I 0) (I 5 0) 61 0 []).1 B K hKI (by omega)
        rcases zE with ⟨ze, rfl⟩ | ⟨ze, rfl⟩
        · have hk : k = 2 := by simpa using hm2
          rcases hm with ⟨y3, _⟩ | ⟨y3, _⟩ | ⟨y3, y4, y5, y6, y8⟩
          · exfalso; omega
          · exfalso; omega
          have o := hr.no (a := 0) (q := kRuns K (pAll (I 0) (I 5 0) 61 0 []).1) hq (by omega) (.inr ⟨ze, y5, y6, hrf.1, hrf.2⟩)
          rw [← y8] at o
          exact ⟨_, _, _, _, _, _, _, z4, o.2.up hup, (o.1.trans y4).trans hk.symm, by omega, by omega⟩
        · have hk : k = 1 := by simpa using hm2
          rcases hm with ⟨y3, _⟩ | ⟨y3, y4, y5, y6, y8⟩ | ⟨y3, _⟩
          · exfalso; omega
          · have o := hr.no (a := 0) (q := kRuns K (pAll (I 0) (I 5 0) 61 0 []).1) hq (by omega) (.inl ⟨by omega, y5.trans e7.symm, y6.trans e8.symm⟩)
            rw [← y8] at o
            exact ⟨_, _, _, _, _, _, _, z4, o.2.up hup, (o.1.trans y4).trans hk.symm, by omega, by omega⟩
          · exfalso; omega
