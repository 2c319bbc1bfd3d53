def mPar (G X : fS) : Prop := ∀ i, i ≠ 17 → i ≠ 18 → i ≠ 20 → i ≠ 21 → X i = G i
def mOb (X : fS) : Prop := ∀ j, 0 ≤ X 20 j ∧ X 20 j ≤ 999
/-- on the way through a text -/
def mPI (G X : fS) (k : Nat) (acc : List (Int × Int × Int)) : Prop :=
  mTx X ∧ mPar G X ∧ mOb X ∧ 60 ≤ (k : Int) + X 17 0 ∧ X 17 0 ≤ X 16 0 ∧
  ((X 18 0 = 1 ∧ (pAll (G 15) (G 16 0) 61 0 []).2 = X 17 0) ∨ (X 18 0 = 0 ∧ mOr X acc ∧ 2 * (acc.length : Int) ≤ X 17 0 + 1 ∧ pAll (G 15) (G 16 0) 61 0 [] = if X 17 0 < G 16 0 ∧ G 15 (X 17 0) = 59 then pAll (G 15) (G 16 0) k (X 17 0 + 1) acc else (acc, if X 17 0 < G 16 0 then X 17 0 else -1)))
theorem mPI_rd {G Y : fS} {k : Nat} {acc : List (Int × Int × Int)} (hT : mTx Y) (hP : mPar G Y) (hb : mOb Y) (hw : Y 18 0 = 0) (ho : mOr Y acc) (h2 : 2 * (acc.length : Int) ≤ Y 17 0) (hle : Y 17 0 ≤ Y 16 0) (hk : 60 ≤ (k : Int) + Y 17 0) (he : pAll (G 15) (G 16 0) 61 0 [] = pAll (G 15) (G 16 0) (k + 1) (Y 17 0) acc) : ∃ acc', mPI G (m_readOrder Y) k acc' ∧ Y 17 0 ≤ (m_readOrder Y) 17 0 := by
  have hO := m_readOrder_K hw hb
  have e15 := hP 15 (by omega) (by omega) (by omega) (by omega)
  have e16 := hP 16 (by omega) (by omega) (by omega) (by omega)
  rw [e15, e16] at hO
  rw [e16] at hle
  have hr := pOrd_rg (t := G 15) (n := G 16 0) hle
  have he2 : pAll (G 15) (G 16 0) (k + 1) (Y 17 0) acc = if (pOrd (G 15) (G 16 0) (Y 17 0)).1 = -1 then (acc, (pOrd (G 15) (G 16 0) (Y 17 0)).2.2.2)
    else if (pOrd (G 15) (G 16 0) (Y 17 0)).2.2.2 < G 16 0 ∧ (G 15) (pOrd (G 15) (G 16 0) (Y 17 0)).2.2.2 = 59 then pAll (G 15) (G 16 0) k ((pOrd (G 15) (G 16 0) (Y 17 0)).2.2.2 + 1) (acc ++ [((pOrd (G 15) (G 16 0) (Y 17 0)).1, (pOrd (G 15) (G 16 0) (Y 17 0)).2.1, (pOrd (G 15) (G 16 0) (Y 17 0)).2.2.1)])
    else (acc ++ [((pOrd (G 15) (G 16 0) (Y 17 0)).1, (pOrd (G 15) (G 16 0) (Y 17 0)).2.1, (pOrd (G 15) (G 16 0) (Y 17 0)).2.2.1)], if (pOrd (G 15) (G 16 0) (Y 17 0)).2.2.2 < G 16 0 then (pOrd (G 15) (G 16 0) (Y 17 0)).2.2.2 else -1) := rfl
  rw [he2] at he
  generalize hq : pOrd (G 15) (G 16 0) (Y 17 0) = r at hO hr he
  have hO' := hO
  obtain ⟨o1, o2, o3, o4, o5, o6⟩ := hO
  have hT2 := hT.2.1
  have hT1 := hT.1
  have x16 : (m_readOrder Y) 16 0 = G 16 0 := by rw [o2 16 (by omega) (by omega) (by omega) (by omega), e16]
  have x15 : (m_readOrder Y) 15 = G 15 := by rw [o2 15 (by omega) (by omega) (by omega) (by omega), e15]
  rw [e16] at hT2
  have hTx : ∀ w, (m_readOrder Y) 18 0 = w → w = 0 ∨ w = 1 → mTx (m_readOrder Y) := fun w hw1 hw2 => ⟨by rw [o1]; omega, by rw [x16]; exact hT2, by rw [hw1]; exact hw2, by rw [x15, ← e15]; exact hT.2.2.2⟩
  have hPar : mPar G (m_readOrder Y) := fun i i1 i2 i3 i4 => (o2 i i1 i2 i3 i4).trans (hP i i1 i2 i3 i4)
  by_cases h1 : r.1 = -1
  · rw [if_pos h1] at he
    rcases o6 with ⟨_, p⟩ | ⟨p, _⟩
    · exact ⟨acc, ⟨hTx 1 p (Or.inr rfl), hPar, o3, by rw [o1]; omega, by rw [o1, x16]; omega, Or.inl ⟨p, by rw [he, o1]⟩⟩, by rw [o1]; omega⟩
    · exact absurd h1 p
  · rw [if_neg h1] at he
    have ha := mOr_app ho hO' h1
    rcases o6 with ⟨p, _⟩ | ⟨_, p, _⟩
    · exact absurd p h1
    · refine ⟨_, ⟨hTx 0 p (Or.inl rfl), hPar, o3, by rw [o1]; omega, by rw [o1, x16]; omega, Or.inr ⟨p, ha, ?_, by rw [o1]; exact he⟩⟩, by rw [o1]; omega⟩
      rw [List.length_append, o1]
      have := hr.2.2 h1
      show 2 * ((acc.length + 1 : Nat) : Int) ≤ _
      omega
theorem mPI_0 {G : fS} (hT : mTx G) (hb : mOb G) : ∃ acc', mPI G (m_readOrder (gn (gn (gn G 17 0) 18 0) 21 0)) 60 acc' := by
  have hT2 := hT.2.1
  obtain ⟨acc, h, _⟩ := mPI_rd (G := G) (Y := gn (gn (gn G 17 0) 18 0) 21 0) (k := 60) (acc := []) ⟨⟨Int.le_refl _, by show (0 : Int) ≤ 60; omega⟩, hT2, Or.inl rfl, hT.2.2.2⟩ (fun i i1 i2 i3 i4 => by unfold gn; rw [gs_n i4, gs_n i2, gs_n i1]) hb rfl ⟨rfl, fun i z hz => by simp at hz⟩ (by show (2 : Int) * ((0 : Nat) : Int) ≤ 0; omega) (by show 0 ≤ G 16 0; omega) (by show (60 : Int) ≤ ((60 : Nat) : Int) + 0; omega) rfl
  exact ⟨acc, h⟩
theorem mPI_s {G X : fS} {k : Nat} {acc : List (Int × Int × Int)} (h : mPI G X k acc) (hw : X 18 0 = 0) (hn : X 17 0 < X 16 0) (hc : X 15 (X 17 0) = 59) : ∃ k' acc', mPI G (m_readOrder (gn X 17 (X 17 0 + 1))) k' acc' ∧ k' < k := by
  obtain ⟨h1, h2, h3, h4, h5, h6⟩ := h
  have e15 := h2 15 (by omega) (by omega) (by omega) (by omega)
  have e16 := h2 16 (by omega) (by omega) (by omega) (by omega)
  have hT2 := h1.2.1
  rcases h6 with ⟨q, _⟩ | ⟨_, q1, q2, q3⟩
  · omega
  rw [e16] at hn
  rw [e15] at hc
  rw [if_pos ⟨hn, hc⟩] at q3
  rw [e16] at hT2 h5
  obtain ⟨k', rfl⟩ : ∃ k', k = k' + 1 := ⟨k - 1, by omega⟩
  obtain ⟨acc', a1, a2⟩ := mPI_rd (G := G) (Y := gn X 17 (X 17 0 + 1)) (k := k') (acc := acc) (h1.at (by have := h1.1; omega)) (fun i i1 i2 i3 i4 => (gs_n i1).trans (h2 i i1 i2 i3 i4)) h3 hw q1 (by show _ ≤ X 17 0 + 1; omega) (by show X 17 0 + 1 ≤ X 16 0; rw [e16]; omega) (by show (60 : Int) ≤ (k' : Int) + (X 17 0 + 1); omega) q3
  exact ⟨k', acc', a1, Nat.lt_succ_self _⟩
def m_runQ (G : fS) (x : Int) (G' : fS) : Prop :=
  ((pAll (G 15) (G 16 0) 61 0 []).2 ≠ -1 ∧ x = 0 ∧ ∃ X, mPar G X ∧ mTx X ∧ mOb X ∧ G' = gn (gn (gn (gn X 18 1) 19 (pAll (G 15) (G 16 0) 61 0 []).2) 16 0) 6 1) ∨
  ((pAll (G 15) (G 16 0) 61 0 []).2 = -1 ∧ ((pAll (G 15) (G 16 0) 61 0 []).1.length : Int) ≤ 30 ∧ ∃ X Y, mPar G X ∧ mTx X ∧ mOb X ∧ mQ (m_keep (gn (gn (gn X 18 0) 19 (-1)) 16 0)) Y ∧
    ((-1 ≤ (kRuns (mK (G 0)) (pAll (G 15) (G 16 0) 61 0 []).1).1 ∧ Y 6 0 = 0 ∧ Y 7 0 = G 7 0 ∧ Y 8 0 = G 8 0 ∧ mK (Y 0) = (kRuns (mK (G 0)) (pAll (G 15) (G 16 0) 61 0 []).1).2.2.2 ∧ (x, G') = m_ends Y ((pAll (G 15) (G 16 0) 61 0 []).1.length : Int)) ∨
     (((kRuns (mK (G 0)) (pAll (G 15) (G 16 0) 61 0 []).1).1 = -2 ∨ (kRuns (mK (G 0)) (pAll (G 15) (G 16 0) 61 0 []).1).1 = -3) ∧ Y 6 0 = 1 ∧ Y 7 0 = G 7 0 ∧ Y 8 0 = G 8 0 ∧ (x, G') = m_ends Y 0) ∨
     ((kRuns (mK (G 0)) (pAll (G 15) (G 16 0) 61 0 []).1).1 = -4 ∧ Y 6 0 = 2 ∧ Y 7 0 = (kRuns (mK (G 0)) (pAll (G 15) (G 16 0) 61 0 []).1).2.1 ∧ Y 8 0 = (kRuns (mK (G 0)) (pAll (G 15) (G 16 0) 61 0 []).1).2.2.1 ∧ (x, G') = m_ends Y 0)))
set_option maxHeartbeats 4000000 in
/-- reference: run -/
theorem c5_run {k : Nat} {G : fS} {B : Int} {h : jH} (hG : jOb sM k G h) (hI : kI B (mK (G 0))) (hT : mTx G) (ha : mOb G) (hp9 : 0 ≤ G 5 0 ∧ G 5 0 ≤ 8) (h79 : (0 ≤ G 7 0 ∧ G 7 0 ≤ 10)) (hB3 : B + 31000 ≤ 20000000) : jM mX5_run 42 0 0 [] [.ref k] h (jWp sM k (m_runQ G) h) jno := by
  refine j_method (by decide +kernel) rfl (fun _ _ _ => trivial) (Nat.le_of_ble_eq_true rfl) ?_
  generalize hZ : jZ [] 0 0 _ _ = Z
  show J mX5_run (jR 42 0 0) [] Z 0 [(0, .ref k)] [] h 0 0
  have hT2 := hT.2.1
  have hE0 : jEx k 10 h h := jEx.rf
  refine j_aload_n dX5_run_0 rfl rfl ?_
  refine j_iconst dX5_run_1 ?_
  refine jo_put (S := sM) dX5_run_2 jf_X5_210 (fun q hq => by cases hq; exact ⟨rfl, rfl⟩) (jHold_int _) okM hG rfl (fun h1 hG1 hX1 => ?_)
  have hE2 := hE0.tr hX1
  have hT3 : mTx (gn G 17 0) := mTx.at hT (by omega)
  refine j_aload_n dX5_run_5 rfl rfl ?_
  refine j_iconst dX5_run_6 ?_
  refine jo_put (S := sM) dX5_run_7 jf_X5_207 (fun q hq => by cases hq; exact ⟨rfl, rfl⟩) (jHold_bool (by omega)) okM hG1 rfl (fun h4 hG4 hX4 => ?_)
  have hE5 := hE2.tr hX4
  have hT6 : mTx (gn (gn G 17 0) 18 0) := mTx.wr hT3 (by omega)
  refine j_aload_n dX5_run_10 rfl rfl ?_
  refine j_iconst dX5_run_11 ?_
  refine jo_put (S := sM) dX5_run_12 jf_X5_221 (fun q hq => by cases hq; exact ⟨rfl, rfl⟩) (jHold_int _) okM hG4 rfl (fun h7 hG7 hX7 => ?_)
  have hE8 := hE5.tr hX7
  have hT9 : mTx (gn (gn (gn G 17 0) 18 0) 21 0) := hT6
  refine j_aload_n dX5_run_15 rfl rfl ?_
  refine j_callV (c5_readOrder hG7 (by show (0 : Int) ≤ 0 ∧ (0 : Int) < 60; omega) hT9) dX5_run_16 jc_X5_227 jmV_X5_readOrder rfl rfl hG7.1 rfl rfl (by simp) jfr_nil (Nat.le_of_ble_eq_true rfl) ⟨Nat.le_of_ble_eq_true rfl, Nat.le_of_ble_eq_true rfl⟩ ⟨Nat.le_of_ble_eq_true rfl, Nat.le_of_ble_eq_true rfl⟩ (fun r h10 hp9 => ?_) (fun E h9 q => q.elim)
  obtain ⟨rfl, hG11, hX12⟩ := hp9
  have hE13 := hE8.tr hX12
  obtain ⟨acc0, hP0⟩ := mPI_0 (G := G) hT ha
  refine jloop (P := fun z9 : fS × Nat × List (Int × Int × Int) => ∀ h14 : jH, jOb sM k z9.1 h14 → jEx k 10 h h14 → J mX5_run (jR 42 0 0) [] Z 19 [(0, .ref k)] [] h14 0 0) (fun z9 => mPI G z9.1 z9.2.1 z9.2.2) (fun z9 => z9.2.1) ?_ (m_readOrder (gn (gn (gn G 17 0) 18 0) 21 0), 60, acc0) ?_ _ hG11 hE13
  · rintro ⟨X, kk, acc⟩ hP ihP
    dsimp only at hP ihP ⊢
    intro h15 hG16 hE17
    have e15 := hP.2.1 15 (by omega) (by omega) (by omega) (by omega)
    have e16 := congrFun (hP.2.1 16 (by omega) (by omega) (by omega) (by omega)) 0
    have hx16 := hP.1.2.1
    have hxw := hP.1.2.2.1
    have hx17 := hP.1.1
    refine j_aload_n dX5_run_19 rfl rfl ?_
    refine j_bipush dX5_run_20 (by decide +kernel) ?_
    refine j_bipush dX5_run_22 (by decide +kernel) ?_
    refine j_callV (c5_isHere hG16 (by omega) (by omega) hP.1.1 hP.1.2.1 hP.1.2.2.1 hP.1.2.2.2) dX5_run_24 jc_X5_213 jmV_X5_isHere rfl rfl hG16.1 rfl rfl (by simp) jfr_nil (Nat.le_of_ble_eq_true rfl) ⟨Nat.le_of_ble_eq_true rfl, Nat.le_of_ble_eq_true rfl⟩ ⟨Nat.le_of_ble_eq_true rfl, Nat.le_of_ble_eq_true rfl⟩ (fun r h18 hp9 => ?_) (fun E h9 q => q.elim)
    obtain ⟨rfl, rfl⟩ := hp9
    refine j_if_eq (tgt := 47) dX5_run_27 (by decide) (bi_r32 _) (fun c19 => ?_) (fun c19 => ?_)
    · have qc19 := bi_z c19
      refine j_aload_n dX5_run_47 rfl rfl ?_
      refine j_aload_n dX5_run_48 rfl rfl ?_
      refine j_getfield (v := iv (X 18 0)) dX5_run_49 jf_X5_207 hG16.1 rfl ?_
      refine j_if_ne (tgt := 66) dX5_run_52 (by decide) (by omega) (fun c20 => ?_) (fun c20 => ?_)
      · refine j_iconst dX5_run_66 ?_
        refine j_goto (tgt := 71) dX5_run_67 (by decide) ?_
        refine jo_put (S := sM) dX5_run_71 jf_X5_207 (fun q hq => by cases hq; exact ⟨rfl, rfl⟩) (jHold_bool (by omega)) okM hG16 rfl (fun h21 hG21 hX21 => ?_)
        have hE22 := hE17.tr hX21
        refine j_aload_n dX5_run_74 rfl rfl ?_
        refine j_aload_n dX5_run_75 rfl rfl ?_
        refine j_getfield (v := iv 1) dX5_run_76 jf_X5_207 hG21.1 rfl ?_
        refine j_if_eq (tgt := 89) dX5_run_79 (by decide) (by omega) (fun c23 => absurd c23 (by decide)) (fun c23 => ?_)
        refine j_aload_n dX5_run_82 rfl rfl ?_
        refine j_getfield (v := iv (X 17 0)) dX5_run_83 jf_X5_210 hG21.1 rfl ?_
        refine j_goto (tgt := 90) dX5_run_86 (by decide) ?_
        refine jo_put (S := sM) dX5_run_90 jf_X5_35 (fun q hq => by cases hq; exact ⟨rfl, rfl⟩) (jHold_int _) okM hG21 rfl (fun h24 hG24 hX24 => ?_)
        have hE25 := hE22.tr hX24
        refine j_aload_n dX5_run_93 rfl rfl ?_
        refine j_iconst dX5_run_94 ?_
        refine jo_put (S := sM) dX5_run_95 jf_X5_204 (fun q hq => by cases hq; exact ⟨rfl, rfl⟩) (jHold_int _) okM hG24 rfl (fun h26 hG26 hX26 => ?_)
        have hE27 := hE25.tr hX26
        refine j_aload_n dX5_run_98 rfl rfl ?_
        refine j_getfield (v := iv 1) dX5_run_99 jf_X5_207 hG26.1 rfl ?_
        refine j_if_eq (tgt := 111) dX5_run_102 (by decide) (by omega) (fun c28 => absurd c28 (by decide)) (fun c28 => ?_)
        refine j_aload_n dX5_run_105 rfl rfl ?_
        refine j_iconst dX5_run_106 ?_
        refine j_callV (c5_fails hG26) dX5_run_107 jc_X5_93 jmV_X5_fails rfl rfl hG26.1 rfl rfl (by simp) jfr_nil (Nat.le_of_ble_eq_true rfl) ⟨Nat.le_of_ble_eq_true rfl, Nat.le_of_ble_eq_true rfl⟩ ⟨Nat.le_of_ble_eq_true rfl, Nat.le_of_ble_eq_true rfl⟩ (fun r h29 hp9 => ?_) (fun E h9 q => q.elim)
        obtain ⟨rfl, hG30, hX31⟩ := hp9
        have hE32 := hE27.tr hX31
        subst hZ
        exact j_ireturn dX5_run_110 rfl rfl (jWp.i (Or.inl (by
      have q : (pAll (G 15) (G 16 0) 61 0 []).2 = X 17 0 := by
        rcases hP.2.2.2.2.2 with q | q
        · exact q.2
        · have q9 := q.2.2.2
          rw [q9]
          by_cases z : X 17 0 < G 16 0 ∧ G 15 (X 17 0) = 59
          · exfalso; have := q.1; first | omega | (rw [← e16, ← e15] at z; omega)
          · rw [if_neg z]; first | (exfalso; omega) | exact if_pos (by omega)
      exact ⟨by rw [q]; omega, rfl, X, hP.2.1, hP.1, hP.2.2.1, by rw [q]; rfl⟩)) hG30 hE32) (Nat.le_refl _) (Nat.le_refl _)
      · refine j_aload_n dX5_run_55 rfl rfl ?_
        refine j_getfield (v := iv (X 17 0)) dX5_run_56 jf_X5_210 hG16.1 rfl ?_
        refine j_aload_n dX5_run_59 rfl rfl ?_
        refine j_getfield (v := iv (X 16 0)) dX5_run_60 jf_X5_204 hG16.1 rfl ?_
        refine j_icmp_ge (tgt := 70) dX5_run_63 (by decide) (by omega) (fun c33 => ?_) (fun c33 => ?_)
        · refine j_iconst dX5_run_70 ?_
          refine jo_put (S := sM) dX5_run_71 jf_X5_207 (fun q hq => by cases hq; exact ⟨rfl, rfl⟩) (jHold_bool (by omega)) okM hG16 rfl (fun h34 hG34 hX34 => ?_)
          have hE35 := hE17.tr hX34
          refine j_aload_n dX5_run_74 rfl rfl ?_
          refine j_aload_n dX5_run_75 rfl rfl ?_
          refine j_getfield (v := iv 0) dX5_run_76 jf_X5_207 hG34.1 rfl ?_
          refine j_if_eq (tgt := 89) dX5_run_79 (by decide) (by omega) (fun c36 => ?_) (fun c36 => absurd (by decide) c36)
          refine j_iconst dX5_run_89 ?_
          refine jo_put (S := sM) dX5_run_90 jf_X5_35 (fun q hq => by cases hq; exact ⟨rfl, rfl⟩) (jHold_int _) okM hG34 rfl (fun h37 hG37 hX37 => ?_)
          have hE38 := hE35.tr hX37
          refine j_aload_n dX5_run_93 rfl rfl ?_
          refine j_iconst dX5_run_94 ?_
          refine jo_put (S := sM) dX5_run_95 jf_X5_204 (fun q hq => by cases hq; exact ⟨rfl, rfl⟩) (jHold_int _) okM hG37 rfl (fun h39 hG39 hX39 => ?_)
          have hE40 := hE38.tr hX39
          refine j_aload_n dX5_run_98 rfl rfl ?_
          refine j_getfield (v := iv 0) dX5_run_99 jf_X5_207 hG39.1 rfl ?_
          refine j_if_eq (tgt := 111) dX5_run_102 (by decide) (by omega) (fun c41 => ?_) (fun c41 => absurd (by decide) c41)
          refine j_aload_n dX5_run_111 rfl rfl ?_
          refine j_callV (c5_keep hG39) dX5_run_112 jc_X5_79 jmV_X5_keep rfl rfl hG39.1 rfl rfl (by simp) jfr_nil (Nat.le_of_ble_eq_true rfl) ⟨Nat.le_of_ble_eq_true rfl, Nat.le_of_ble_eq_true rfl⟩ ⟨Nat.le_of_ble_eq_true rfl, Nat.le_of_ble_eq_true rfl⟩ (fun r h42 hp9 => ?_) (fun E h9 q => q.elim)
          obtain ⟨rfl, hG43, hX44⟩ := hp9
          have hE45 := hE40.tr hX44
          have hok : X 18 0 = 0 ∧ mOr X acc ∧ 2 * (acc.length : Int) ≤ X 17 0 + 1 ∧ (pAll (G 15) (G 16 0) 61 0 []) = (acc, -1) := by
            rcases hP.2.2.2.2.2 with q | q
            · omega
            · exact ⟨q.1, q.2.1, q.2.2.1, by rw [q.2.2.2, if_neg (fun z => by rw [← e16] at z; omega), if_neg (by rw [← e16]; omega)]⟩
          obtain ⟨_, hor, hol, hpe⟩ := hok
          have hx0 := hP.2.1 0 (by omega) (by omega) (by omega) (by omega)
          have hx17 := hP.1.1
          have ho1 := hor.1
          refine j_iconst dX5_run_115 ?_
          refine j_istore_n (L' := [(0, _), (1, _)]) dX5_run_116 rfl (by decide) rfl ?_
          refine jloop (P := fun z9 : fS × Int => ∀ h46 : jH, jOb sM k z9.1 h46 → jEx k 10 h h46 → J mX5_run (jR 42 0 0) [] Z 117 [(0, .ref k), (1, iv z9.2)] [] h46 0 0) (fun z9 => 0 ≤ z9.2 ∧ z9.2 ≤ (acc.length : Int) ∧ mQ (m_keep (gn (gn (gn X 18 0) 19 (-1)) 16 0)) z9.1 ∧ z9.1 6 0 = 0 ∧ z9.1 7 0 = G 7 0 ∧ z9.1 8 0 = G 8 0 ∧ kI (B + 1000 * z9.2) (mK (z9.1 0)) ∧ kRuns (mK (G 0)) acc = kRuns (mK (z9.1 0)) (acc.drop z9.2.toNat)) (fun z9 => ((acc.length : Int) - z9.2).toNat) ?_ ((m_keep (gn (gn (gn X 18 0) 19 (-1)) 16 0)), 0) ?_ _ hG43 hE45
          · rintro ⟨Y, i⟩ hY ihY
            dsimp only at hY ihY ⊢
            intro h47 hG48 hE49
            obtain ⟨y0, y1, y2, y3, y4, y5, y6, y7⟩ := hY
            have hY5 : 0 ≤ Y 5 0 ∧ Y 5 0 ≤ 8 := by rw [y2 5 (by omega)]; show 0 ≤ X 5 0 ∧ X 5 0 ≤ 8; rw [hP.2.1 5 (by omega) (by omega) (by omega) (by omega)]; exact hp9
            have hY21 : Y 21 0 = (acc.length : Int) := by rw [y2 21 (by omega)]; exact ho1
            refine j_iload_n dX5_run_117 rfl rfl ?_
            refine j_aload_n dX5_run_118 rfl rfl ?_
            refine j_getfield (v := iv (Y 21 0)) dX5_run_119 jf_X5_221 hG48.1 rfl ?_
            refine j_icmp_ge (tgt := 170) dX5_run_122 (by decide) (by omega) (fun c50 => ?_) (fun c50 => ?_)
            · refine j_aload_n dX5_run_170 rfl rfl ?_
              refine j_aload_n dX5_run_171 rfl rfl ?_
              refine j_getfield (v := iv (Y 21 0)) dX5_run_172 jf_X5_221 hG48.1 rfl ?_
              refine j_callV (c5_ends hG48 hY5 (by rw [y3]; omega)) dX5_run_175 jc_X5_86 jmV_X5_ends rfl rfl hG48.1 rfl rfl (by simp) jfr_nil (Nat.le_of_ble_eq_true rfl) ⟨Nat.le_of_ble_eq_true rfl, Nat.le_of_ble_eq_true rfl⟩ ⟨Nat.le_of_ble_eq_true rfl, Nat.le_of_ble_eq_true rfl⟩ (fun r h51 hp9 => ?_) (fun E h9 q => q.elim)
              obtain ⟨rfl, hG52, hX53⟩ := hp9
              have hE54 := hE49.tr hX53
              subst hZ
              exact j_ireturn dX5_run_178 rfl rfl (jWp.i (Or.inr (by
      rw [hpe]
      have hd : acc.drop i.toNat = [] := List.drop_eq_nil_of_le (by omega)
      rw [y7, hd]
      exact ⟨rfl, by show (acc.length : Int) ≤ 30; omega, X, Y, hP.2.1, hP.1, hP.2.2.1, y2, Or.inl ⟨by show (-1 : Int) ≤ 0; omega, y3, y4, y5, rfl, by rw [hY21]⟩⟩)) hG52 hE54) (Nat.le_refl _) (Nat.le_refl _)
            · refine j_aload_n dX5_run_125 rfl rfl ?_
              refine j_iconst dX5_run_126 ?_
              refine jo_put (S := sM) dX5_run_127 jf_X5_54 (fun q hq => by cases hq; exact ⟨rfl, rfl⟩) (jHold_bool (by omega)) okM hG48 rfl (fun h55 hG55 hX55 => ?_)
              have hE56 := hE49.tr hX55
              refine j_aload_n dX5_run_130 rfl rfl ?_
              refine j_iload_n dX5_run_131 rfl rfl ?_
              have hin : i < (acc.length : Int) := by omega
              have hz := List.getElem?_eq_getElem (l := acc) (i := i.toNat) (by omega)
              obtain ⟨z1, z2, z3, z4⟩ := hor.2 i.toNat _ hz
              have hY20 : Y 20 = X 20 := y2 20 (by omega)
              rw [show ((i.toNat : Nat) : Int) = i by omega, ← hY20] at z1 z3 z4
              generalize acc[i.toNat] = z at hz z1 z2 z3 z4
              have hlt := kdOf_c (c := Y 20 (3 * i)) (by rw [z1]; exact z2)
              have hbY : ∀ j, 0 ≤ Y 20 j ∧ Y 20 j ≤ 999 := by rw [hY20]; exact hP.2.2.1
              obtain ⟨tt, xx, t1, t2, xe, hm⟩ := m_does_K (G := gn Y 9 0) (i := i) (B := B + 1000 * i) y6 z1 z2
              rw [show kTry (mK (gn Y 9 0 0)) z.1 (gn Y 9 0 20 (3 * i + 1)) (gn Y 9 0 20 (3 * i + 2)) = kTry (mK (Y 0)) z.1 z.2.1 z.2.2 from kTry_re z3 z4] at hm
              have hdr : acc.drop i.toNat = z :: acc.drop (i.toNat + 1) := by rw [List.drop_eq_getElem_cons (by omega), (List.getElem?_eq_some_iff.mp hz).2]
              obtain ⟨m1, m2, m3⟩ := hm
              rw [xe] at m1 m2 m3
              have g96 : gn Y 9 0 6 0 = 0 := y3
              have g99 : gn Y 9 0 9 0 = 0 := rfl
              have hmq : mQ (m_keep (gn (gn (gn X 18 0) 19 (-1)) 16 0)) (m_does (gn Y 9 0) i) := fun j hj => (m2 j hj).trans ((gs_n (show j ≠ 9 by omega)).trans (y2 j hj))
              have hIt := kI_try y6 (by omega) z.1 z.2.1 z.2.2
              refine j_callV (c5_does hG55 (f := Y 0) rfl (B := B + 1000 * i) y6 (by omega) (i := i) (by omega) hlt hbY) dX5_run_132 jc_X5_230 jmV_X5_does rfl rfl hG55.1 rfl rfl (by simp) jfr_nil (Nat.le_of_ble_eq_true rfl) ⟨Nat.le_of_ble_eq_true rfl, Nat.le_of_ble_eq_true rfl⟩ ⟨Nat.le_of_ble_eq_true rfl, Nat.le_of_ble_eq_true rfl⟩ (fun r h57 hp9 => ?_) (fun E h9 q => q.elim)
              obtain ⟨rfl, hG58, hX59⟩ := hp9
              have hE60 := hE56.tr hX59
              refine j_aload_n dX5_run_135 rfl rfl ?_
              refine j_getfield (v := iv ((m_does (gn Y 9 0) i) 6 0)) dX5_run_136 jf_X5_42 hG58.1 rfl ?_
              refine j_if_le (tgt := 164) dX5_run_139 (by decide) (by rcases m3 with q | q | q | q <;> (first | (have := q.2.2.1) | skip) <;> (have := q.2.1) <;> omega) (fun c61 => ?_) (fun c61 => ?_)
              · refine j_iinc (L' := [(0, _), (1, _)]) dX5_run_164 rfl (by decide) rfl ?_
                refine j_goto (tgt := 117) dX5_run_167 (by decide) ?_
                have hc9 := c61
                rcases m3 with ⟨r1, _, r3, r4, r5, _⟩ | ⟨_, r2, _⟩ | ⟨_, r2, _⟩ | ⟨_, r2, _⟩
                · refine ihY (m_does (gn Y 9 0) i, i + 1) ⟨by show 0 ≤ i + 1; omega, by show i + 1 ≤ _; omega, hmq, r3.trans y3, r4.trans y4, r5.trans y5, ?_, ?_⟩ (by show ((acc.length : Int) - (i + 1)).toNat < _; omega) _ hG58 hE60
                  · show kI (B + 1000 * (i + 1)) _; rw [m1, show B + 1000 * (i + 1) = B + 1000 * i + 1000 by omega]; exact hIt
                  · show _ = kRuns _ (acc.drop (i + 1).toNat); rw [y7, hdr, kRuns_y (by omega), m1, show (i + 1).toNat = i.toNat + 1 by omega]
                · omega
                · omega
                · omega
              · refine j_aload_n dX5_run_142 rfl rfl ?_
                refine j_aload_n dX5_run_143 rfl rfl ?_
                refine j_getfield (v := iv ((m_does (gn Y 9 0) i) 9 0)) dX5_run_144 jf_X5_54 hG58.1 rfl ?_
                refine j_if_eq (tgt := 154) dX5_run_147 (by decide) (by rcases m3 with q | q | q | q <;> (first | (have := q.2.2.2.2.2) | (have := q.2.2.2.2)) <;> (first | omega | (omega))) (fun c62 => ?_) (fun c62 => ?_)
                · refine j_iconst dX5_run_154 ?_
                  refine jo_put (S := sM) dX5_run_155 jf_X5_42 (fun q hq => by cases hq; exact ⟨rfl, rfl⟩) (jHold_int _) okM hG58 rfl (fun h63 hG63 hX63 => ?_)
                  have hE64 := hE60.tr hX63
                  refine j_aload_n dX5_run_158 rfl rfl ?_
                  refine j_iconst dX5_run_159 ?_
                  refine j_callV (c5_ends hG63 (by show 0 ≤ (m_does (gn Y 9 0) i) 5 0 ∧ (m_does (gn Y 9 0) i) 5 0 ≤ 8; rw [m2 5 (by omega)]; exact hY5) (by show 0 ≤ (1 : Int) ∧ (1 : Int) ≤ 3; omega)) dX5_run_160 jc_X5_86 jmV_X5_ends rfl rfl hG63.1 rfl rfl (by simp) jfr_nil (Nat.le_of_ble_eq_true rfl) ⟨Nat.le_of_ble_eq_true rfl, Nat.le_of_ble_eq_true rfl⟩ ⟨Nat.le_of_ble_eq_true rfl, Nat.le_of_ble_eq_true rfl⟩ (fun r h65 hp9 => ?_) (fun E h9 q => q.elim)
                  obtain ⟨rfl, hG66, hX67⟩ := hp9
                  have hE68 := hE64.tr hX67
                  subst hZ
                  exact j_ireturn dX5_run_163 rfl rfl (jWp.i (Or.inr (by
      have hc9 := c62
      rw [hpe]
      refine ⟨rfl, by show (acc.length : Int) ≤ 30; omega, X, gn (m_does (gn Y 9 0) i) 6 1, hP.2.1, hP.1, hP.2.2.1, hmq.gn (by omega), ?_⟩
      rw [y7, hdr]
      rcases m3 with ⟨_, _, r3, _⟩ | ⟨r1, _, r4, r5, r6⟩ | ⟨r1, _, r4, r5, r6⟩ | ⟨r1, _, r4, r5, r6⟩
      · exfalso; omega
      · rw [kRuns_n (by omega)]; first | exact Or.inr (Or.inl ⟨Or.inl r1, rfl, r4.trans y4, r5.trans y5, rfl⟩) | (exfalso; omega)
      · rw [kRuns_n (by omega)]; first | exact Or.inr (Or.inl ⟨Or.inr r1, rfl, r4.trans y4, r5.trans y5, rfl⟩) | (exfalso; omega)
      · rw [kRuns_n (by omega)]; first | exact Or.inr (Or.inr ⟨r1, rfl, r4, r5, rfl⟩) | (exfalso; omega))) hG66 hE68) (Nat.le_refl _) (Nat.le_refl _)
                · refine j_iconst dX5_run_150 ?_
                  refine j_goto (tgt := 155) dX5_run_151 (by decide) ?_
                  refine jo_put (S := sM) dX5_run_155 jf_X5_42 (fun q hq => by cases hq; exact ⟨rfl, rfl⟩) (jHold_int _) okM hG58 rfl (fun h69 hG69 hX69 => ?_)
                  have hE70 := hE60.tr hX69
                  refine j_aload_n dX5_run_158 rfl rfl ?_
                  refine j_iconst dX5_run_159 ?_
                  refine j_callV (c5_ends hG69 (by show 0 ≤ (m_does (gn Y 9 0) i) 5 0 ∧ (m_does (gn Y 9 0) i) 5 0 ≤ 8; rw [m2 5 (by omega)]; exact hY5) (by show 0 ≤ (2 : Int) ∧ (2 : Int) ≤ 3; omega)) dX5_run_160 jc_X5_86 jmV_X5_ends rfl rfl hG69.1 rfl rfl (by simp) jfr_nil (Nat.le_of_ble_eq_true rfl) ⟨Nat.le_of_ble_eq_true rfl, Nat.le_of_ble_eq_true rfl⟩ ⟨Nat.le_of_ble_eq_true rfl, Nat.le_of_ble_eq_true rfl⟩ (fun r h71 hp9 => ?_) (fun E h9 q => q.elim)
                  obtain ⟨rfl, hG72, hX73⟩ := hp9
                  have hE74 := hE70.tr hX73
                  subst hZ
                  exact j_ireturn dX5_run_163 rfl rfl (jWp.i (Or.inr (by
      have hc9 := c62
      rw [hpe]
      refine ⟨rfl, by show (acc.length : Int) ≤ 30; omega, X, gn (m_does (gn Y 9 0) i) 6 2, hP.2.1, hP.1, hP.2.2.1, hmq.gn (by omega), ?_⟩
      rw [y7, hdr]
      rcases m3 with ⟨_, _, r3, _⟩ | ⟨r1, _, r4, r5, r6⟩ | ⟨r1, _, r4, r5, r6⟩ | ⟨r1, _, r4, r5, r6⟩
      · exfalso; omega
      · rw [kRuns_n (by omega)]; first | exact Or.inr (Or.inl ⟨Or.inl r1, rfl, r4.trans y4, r5.trans y5, rfl⟩) | (exfalso; omega)
      · rw [kRuns_n (by omega)]; first | exact Or.inr (Or.inl ⟨Or.inr r1, rfl, r4.trans y4, r5.trans y5, rfl⟩) | (exfalso; omega)
      · rw [kRuns_n (by omega)]; first | exact Or.inr (Or.inr ⟨r1, rfl, r4, r5, rfl⟩) | (exfalso; omega))) hG72 hE74) (Nat.le_refl _) (Nat.le_refl _)
          · dsimp only
            have h7 := hP.2.1 7 (by omega) (by omega) (by omega) (by omega)
            have h8 := hP.2.1 8 (by omega) (by omega) (by omega) (by omega)
            exact ⟨Int.le_refl _, by omega, mQ.rf, rfl, congrFun h7 0, congrFun h8 0, by rw [Int.mul_zero, Int.add_zero]; show kI B (mK (X 0)); rw [hx0]; exact hI, by show kRuns _ acc = kRuns (mK (X 0)) acc; rw [hx0]⟩
        · refine j_iconst dX5_run_66 ?_
          refine j_goto (tgt := 71) dX5_run_67 (by decide) ?_
          refine jo_put (S := sM) dX5_run_71 jf_X5_207 (fun q hq => by cases hq; exact ⟨rfl, rfl⟩) (jHold_bool (by omega)) okM hG16 rfl (fun h75 hG75 hX75 => ?_)
          have hE76 := hE17.tr hX75
          refine j_aload_n dX5_run_74 rfl rfl ?_
          refine j_aload_n dX5_run_75 rfl rfl ?_
          refine j_getfield (v := iv 1) dX5_run_76 jf_X5_207 hG75.1 rfl ?_
          refine j_if_eq (tgt := 89) dX5_run_79 (by decide) (by omega) (fun c77 => absurd c77 (by decide)) (fun c77 => ?_)
          refine j_aload_n dX5_run_82 rfl rfl ?_
          refine j_getfield (v := iv (X 17 0)) dX5_run_83 jf_X5_210 hG75.1 rfl ?_
          refine j_goto (tgt := 90) dX5_run_86 (by decide) ?_
          refine jo_put (S := sM) dX5_run_90 jf_X5_35 (fun q hq => by cases hq; exact ⟨rfl, rfl⟩) (jHold_int _) okM hG75 rfl (fun h78 hG78 hX78 => ?_)
          have hE79 := hE76.tr hX78
          refine j_aload_n dX5_run_93 rfl rfl ?_
          refine j_iconst dX5_run_94 ?_
          refine jo_put (S := sM) dX5_run_95 jf_X5_204 (fun q hq => by cases hq; exact ⟨rfl, rfl⟩) (jHold_int _) okM hG78 rfl (fun h80 hG80 hX80 => ?_)
          have hE81 := hE79.tr hX80
          refine j_aload_n dX5_run_98 rfl rfl ?_
          refine j_getfield (v := iv 1) dX5_run_99 jf_X5_207 hG80.1 rfl ?_
          refine j_if_eq (tgt := 111) dX5_run_102 (by decide) (by omega) (fun c82 => absurd c82 (by decide)) (fun c82 => ?_)
          refine j_aload_n dX5_run_105 rfl rfl ?_
          refine j_iconst dX5_run_106 ?_
          refine j_callV (c5_fails hG80) dX5_run_107 jc_X5_93 jmV_X5_fails rfl rfl hG80.1 rfl rfl (by simp) jfr_nil (Nat.le_of_ble_eq_true rfl) ⟨Nat.le_of_ble_eq_true rfl, Nat.le_of_ble_eq_true rfl⟩ ⟨Nat.le_of_ble_eq_true rfl, Nat.le_of_ble_eq_true rfl⟩ (fun r h83 hp9 => ?_) (fun E h9 q => q.elim)
          obtain ⟨rfl, hG84, hX85⟩ := hp9
          have hE86 := hE81.tr hX85
          subst hZ
          exact j_ireturn dX5_run_110 rfl rfl (jWp.i (Or.inl (by
      have q : (pAll (G 15) (G 16 0) 61 0 []).2 = X 17 0 := by
        rcases hP.2.2.2.2.2 with q | q
        · exact q.2
        · have q9 := q.2.2.2
          rw [q9]
          by_cases z : X 17 0 < G 16 0 ∧ G 15 (X 17 0) = 59
          · exfalso; have := q.1; first | omega | (rw [← e16, ← e15] at z; omega)
          · rw [if_neg z]; first | (exfalso; omega) | exact if_pos (by omega)
      exact ⟨by rw [q]; omega, rfl, X, hP.2.1, hP.1, hP.2.2.1, by rw [q]; rfl⟩)) hG84 hE86) (Nat.le_refl _) (Nat.le_refl _)
    · have qc19 := bi_nz c19
      refine j_aload_n dX5_run_30 rfl rfl ?_
      refine j_dup dX5_run_31 rfl ?_
      refine j_getfield (v := iv (X 17 0)) dX5_run_32 jf_X5_210 hG16.1 rfl ?_
      refine j_iconst dX5_run_35 ?_
      refine j_iadd dX5_run_36 ?_
      refine jo_put (S := sM) dX5_run_37 jf_X5_210 (fun q hq => by cases hq; exact ⟨rfl, rfl⟩) (jHold_int _) okM hG16 rfl (fun h87 hG87 hX87 => ?_)
      have hE88 := hE17.tr hX87
      have hT89 : mTx (gn X 17 ((X 17 0) + 1)) := mTx.at hP.1 (by omega)
      refine j_aload_n dX5_run_40 rfl rfl ?_
      obtain ⟨k9, acc9, hP9, hk9⟩ := mPI_s hP qc19.1 qc19.2.1 (by have := qc19.2.2; omega)
      have hor : mOr X acc ∧ 2 * (acc.length : Int) ≤ X 17 0 + 1 := by
          rcases hP.2.2.2.2.2 with q | q
          · have := q.1; have := qc19.1; omega
          · exact ⟨q.2.1, q.2.2.1⟩
      obtain ⟨hor, hol⟩ := hor
      refine j_callV (c5_readOrder hG87 (by show 0 ≤ X 21 0 ∧ X 21 0 < 60; rw [hor.1]; omega) hT89) dX5_run_41 jc_X5_227 jmV_X5_readOrder rfl rfl hG87.1 rfl rfl (by simp) jfr_nil (Nat.le_of_ble_eq_true rfl) ⟨Nat.le_of_ble_eq_true rfl, Nat.le_of_ble_eq_true rfl⟩ ⟨Nat.le_of_ble_eq_true rfl, Nat.le_of_ble_eq_true rfl⟩ (fun r h90 hp9 => ?_) (fun E h9 q => q.elim)
      obtain ⟨rfl, hG91, hX92⟩ := hp9
      have hE93 := hE88.tr hX92
      refine j_goto (tgt := 19) dX5_run_44 (by decide) ?_
      exact ihP (_, k9, acc9) hP9 hk9 _ hG91 hE93
  · dsimp only
    exact hP0
