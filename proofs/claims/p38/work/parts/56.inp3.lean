/-- the orders stand in the rows -/
def iOr (X : fS) (acc : List (Int × Int × Int)) : Prop := X 6 0 = (acc.length : Int) ∧ ∀ (i : Nat) (z : Int × Int × Int), acc[i]? = some z → X 1 i = z.1 ∧ X 2 i = z.2.1 ∧ X 3 i = z.2.2 ∧ 0 ≤ z.1 ∧ z.1 < 9 ∧ (-1 ≤ z.2.1 ∧ z.2.1 ≤ 999) ∧ -1 ≤ z.2.2 ∧ z.2.2 ≤ 999
def iPI (G : fS) (i g : Int) (X : fS) (acc : List (Int × Int × Int)) : Prop := X 0 = G 0 ∧ X 5 0 = G 5 0 ∧ (0 ≤ X 4 0 ∧ X 4 0 ≤ G 5 0) ∧ ((g = 0 ∧ (pAll (G 0) (G 5 0) 61 0 []).2 = X 4 0) ∨ (g = 1 ∧ iOr X acc ∧ (acc.length : Int) = i + 1 ∧ 2 * (acc.length : Int) ≤ X 4 0 + 1 ∧ pAll (G 0) (G 5 0) 61 0 [] = if X 4 0 < G 5 0 ∧ G 0 (X 4 0) = 59 then pAll (G 0) (G 5 0) (60 - i).toNat (X 4 0 + 1) acc else (acc, if X 4 0 < G 5 0 then X 4 0 else -1)))
theorem iOr_app {Y : fS} {acc : List (Int × Int × Int)} {b : Int} {z : Int × Int × Int} (h : iOr Y acc) (hz : 0 ≤ z.1 ∧ z.1 < 9 ∧ (-1 ≤ z.2.1 ∧ z.2.1 ≤ 999) ∧ -1 ≤ z.2.2 ∧ z.2.2 ≤ 999) : iOr (iKeep (gn Y 4 b) z.1 z.2.1 z.2.2) (acc ++ [z]) := by
  obtain ⟨h1, h2⟩ := h
  refine ⟨?_, fun i w hw => ?_⟩
  · show Y 6 0 + 1 = _
    rw [h1, List.length_append]
    rfl
  · show jfu (Y 1) (Y 6 0) z.1 i = _ ∧ jfu (Y 2) (Y 6 0) z.2.1 i = _ ∧ jfu (Y 3) (Y 6 0) z.2.2 i = _ ∧ _
    by_cases hi : i < acc.length
    · rw [List.getElem?_append_left hi] at hw
      have e := h2 i w hw
      rw [jfu_n (by omega), jfu_n (by omega), jfu_n (by omega)]
      exact e
    · have hi2 : i = acc.length := by
        have := (List.getElem?_eq_some_iff.mp hw).1
        rw [List.length_append] at this
        have : ([z] : List (Int × Int × Int)).length = 1 := rfl
        omega
      subst hi2
      have e : z = w := by simpa using hw
      subst e
      rw [← h1, jfu_s, jfu_s, jfu_s]
      exact ⟨rfl, rfl, rfl, hz⟩
theorem iPI_rd {G Y : fS} {i : Int} {acc : List (Int × Int × Int)} {q : Int × fS} (h0 : Y 0 = G 0) (h5 : Y 5 0 = G 5 0) (h4 : 0 ≤ Y 4 0 ∧ Y 4 0 ≤ G 5 0) (ho : iOr Y acc) (hl : (acc.length : Int) = i) (h2 : 2 * (acc.length : Int) ≤ Y 4 0) (hi : i ≤ 60)
    (he : pAll (G 0) (G 5 0) 61 0 [] = pAll (G 0) (G 5 0) ((60 - i).toNat + 1) (Y 4 0) acc) (hq : i_ord Y = q) : ∃ acc', iPI G i q.1 q.2 acc' := by
  have hr := pOrd_rg (t := G 0) (n := G 5 0) h4.2
  have hv := pOrd_v (t := G 0) (n := G 5 0) (a := Y 4 0)
  have he2 : pAll (G 0) (G 5 0) ((60 - i).toNat + 1) (Y 4 0) acc = if (pOrd (G 0) (G 5 0) (Y 4 0)).1 = -1 then (acc, (pOrd (G 0) (G 5 0) (Y 4 0)).2.2.2)
    else if (pOrd (G 0) (G 5 0) (Y 4 0)).2.2.2 < G 5 0 ∧ (G 0) (pOrd (G 0) (G 5 0) (Y 4 0)).2.2.2 = 59 then pAll (G 0) (G 5 0) (60 - i).toNat ((pOrd (G 0) (G 5 0) (Y 4 0)).2.2.2 + 1) (acc ++ [((pOrd (G 0) (G 5 0) (Y 4 0)).1, (pOrd (G 0) (G 5 0) (Y 4 0)).2.1, (pOrd (G 0) (G 5 0) (Y 4 0)).2.2.1)])
    else (acc ++ [((pOrd (G 0) (G 5 0) (Y 4 0)).1, (pOrd (G 0) (G 5 0) (Y 4 0)).2.1, (pOrd (G 0) (G 5 0) (Y 4 0)).2.2.1)], if (pOrd (G 0) (G 5 0) (Y 4 0)).2.2.2 < G 5 0 then (pOrd (G 0) (G 5 0) (Y 4 0)).2.2.2 else -1) := rfl
  rw [he2] at he
  unfold i_ord at hq
  rw [h0, h5] at hq
  generalize pOrd (G 0) (G 5 0) (Y 4 0) = r at hr hv he hq
  subst hq
  by_cases h1 : r.1 = -1
  · rw [if_pos h1] at he ⊢
    exact ⟨acc, h0, h5, ⟨by show 0 ≤ r.2.2.2; omega, hr.2.1⟩, .inl ⟨rfl, by rw [he]; rfl⟩⟩
  · rw [if_neg h1] at he ⊢
    have a := iOr_app (b := r.2.2.2) (z := (r.1, r.2.1, r.2.2.1)) ho ⟨by show 0 ≤ r.1; omega, by show r.1 < 9; omega, ⟨by show -1 ≤ r.2.1; omega, by show r.2.1 ≤ 999; omega⟩, by show -1 ≤ r.2.2.1; omega, by show r.2.2.1 ≤ 999; omega⟩
    refine ⟨_, h0, h5, ⟨by show 0 ≤ r.2.2.2; omega, hr.2.1⟩, .inr ⟨rfl, a, ?_, ?_, he⟩⟩
    · rw [List.length_append, ← hl]
      rfl
    · rw [List.length_append]
      have := hr.2.2 h1
      show 2 * ((acc.length + 1 : Nat) : Int) ≤ r.2.2.2 + 1
      omega
theorem iPI_s {G X : fS} {i : Int} {acc : List (Int × Int × Int)} (h : iPI G i 1 X acc) (hi : i < 60) (hc : X 4 0 < G 5 0 ∧ G 0 (X 4 0) = 59) {q : Int × fS} (hn : G 5 0 ≤ 60) (hq : i_ord (gn X 4 (X 4 0 + 1)) = q) : ∃ acc', iPI G (i + 1) q.1 q.2 acc' := by
  obtain ⟨h1, h2, h3, h4⟩ := h
  rcases h4 with ⟨z, _⟩ | ⟨_, a1, a2, a3, a4⟩
  · exact absurd z (by decide)
  rw [if_pos hc, show (60 - i).toNat = (60 - (i + 1)).toNat + 1 by omega] at a4
  exact iPI_rd (Y := gn X 4 (X 4 0 + 1)) h1 h2 ⟨by show 0 ≤ X 4 0 + 1; omega, by show X 4 0 + 1 ≤ G 5 0; omega⟩ a1 a2 (by show _ ≤ X 4 0 + 1; omega) (by omega) a4 hq
theorem iPI_x {G X : fS} {i : Int} {acc : List (Int × Int × Int)} (h : iPI G i 1 X acc) (hc : X 4 0 < G 5 0 ∧ G 0 (X 4 0) ≠ 59) : (pAll (G 0) (G 5 0) 61 0 []).2 = X 4 0 := by
  obtain ⟨h1, h2, h3, h4⟩ := h
  rcases h4 with ⟨z, _⟩ | ⟨_, a1, a2, a3, a4⟩
  · exact absurd z (by decide)
  rw [if_neg (fun w => hc.2 w.2), if_pos hc.1] at a4
  rw [a4]
theorem take0 {G X : fS} {i g : Int} {acc : List (Int × Int × Int)} (h : iPI G i g X acc) (hg : g = 0) : (pAll (G 0) (G 5 0) 61 0 []).2 = X 4 0 := by
  obtain ⟨_, _, _, h4⟩ := h
  rcases h4 with ⟨_, z⟩ | ⟨z, _⟩
  · exact z
  · omega
theorem takeX {G X : fS} {i g : Int} {acc : List (Int × Int × Int)} (h : iPI G i g X acc) (hg : g ≠ 0) (hi : 60 ≤ i ∨ G 5 0 ≤ X 4 0) (hn : G 5 0 ≤ 60) : (pAll (G 0) (G 5 0) 61 0 []).2 = -1 ∧ iOr X (pAll (G 0) (G 5 0) 61 0 []).1 ∧ (pAll (G 0) (G 5 0) 61 0 []).1.length ≤ 30 := by
  obtain ⟨_, _, h3, h4⟩ := h
  rcases h4 with ⟨z, _⟩ | ⟨_, a1, a2, a3, a4⟩
  · omega
  rw [if_neg (by omega), if_neg (by omega)] at a4
  rw [a4]
  exact ⟨rfl, a1, by show acc.length ≤ 30; omega⟩
set_option maxHeartbeats 4000000 in
/-- Input.takeOrders -/
theorem c3_takeOrders {k : Nat} {G : fS} {h : jH} (hG : jOb sI k G h) (t1 : 0 ≤ G 5 0 ∧ G 5 0 ≤ 60) (t2 : ∀ j, 0 ≤ G 0 j ∧ G 0 j < 65536) : jM mX3_takeOrders 5 0 0 [] [.ref k] h (fun r h' => r = some (iv (pAll (G 0) (G 5 0) 61 0 []).2) ∧ ∃ X, jOb sI k X h' ∧ jEx k 5 h h' ∧ X 0 = G 0 ∧ X 5 0 = 0 ∧ ((pAll (G 0) (G 5 0) 61 0 []).2 = -1 → iOr X (pAll (G 0) (G 5 0) 61 0 []).1 ∧ (pAll (G 0) (G 5 0) 61 0 []).1.length ≤ 30)) jno := by
  refine j_method (by decide +kernel) rfl (fun _ _ _ => trivial) (Nat.le_of_ble_eq_true rfl) ?_
  generalize hZ : jZ [] 0 0 _ _ = Z
  show J mX3_takeOrders (jR 5 0 0) [] Z 0 [(0, .ref k)] [] h 0 0
  have hE0 : jEx k 5 h h := jEx.rf
  refine j_aload_n dX3_takeOrders_0 rfl rfl ?_
  refine j_iconst dX3_takeOrders_1 ?_
  refine jo_put (S := sI) dX3_takeOrders_2 jf_X3_32 (fun q hq => by cases hq; exact ⟨rfl, rfl⟩) (jHold_int _) okI hG rfl (fun h1 hG1 hX1 => ?_)
  have hE2 := hE0.tr hX1
  refine j_aload_n dX3_takeOrders_5 rfl rfl ?_
  refine j_iconst dX3_takeOrders_6 ?_
  refine jo_put (S := sI) dX3_takeOrders_7 jf_X3_25 (fun q hq => by cases hq; exact ⟨rfl, rfl⟩) (jHold_int _) okI hG1 rfl (fun h3 hG3 hX3 => ?_)
  have hE4 := hE2.tr hX3
  refine j_aload_n dX3_takeOrders_10 rfl rfl ?_
  obtain ⟨q1, hq1⟩ : ∃ q1, i_ord (gn (gn G 6 0) 4 0) = q1 := ⟨_, rfl⟩
  refine j_callV (c3_readOrder hG3 ⟨⟨Int.le_refl _, t1.1⟩, t1.2, t2⟩ (Int.le_refl _) (fun _ => by show (0 : Int) < 30; decide) hq1) dX3_takeOrders_11 jc_X3_35 jmV_X3_readOrder rfl rfl hG3.1 rfl rfl (by simp) jfr_nil (Nat.le_of_ble_eq_true rfl) ⟨Nat.le_of_ble_eq_true rfl, Nat.le_of_ble_eq_true rfl⟩ ⟨Nat.le_of_ble_eq_true rfl, Nat.le_of_ble_eq_true rfl⟩ (fun r h5 hp9 => ?_) (fun E h9 q => q.elim)
  obtain ⟨rfl, hMq1, eMq1⟩ := hp9
  have hE6 := hE4.tr eMq1
  obtain ⟨acc0, hP0⟩ := iPI_rd (G := G) (Y := gn (gn G 6 0) 4 0) (i := 0) (acc := []) rfl rfl ⟨Int.le_refl _, t1.1⟩ ⟨rfl, fun i z hz => by simp at hz⟩ rfl (Int.le_refl _) (by decide) rfl hq1
  refine j_istore_n (L' := [(0, _), (1, _)]) dX3_takeOrders_14 rfl (by decide) rfl ?_
  refine j_iconst dX3_takeOrders_15 ?_
  refine j_istore_n (L' := [(0, _), (1, _), (2, _)]) dX3_takeOrders_16 rfl (by decide) rfl ?_
  refine jloop (P := fun z9 : Int × Int × fS × (List (Int × Int × Int)) => ∀ h7 : jH, jOb sI k z9.2.2.1 h7 → jEx k 5 h h7 → J mX3_takeOrders (jR 5 0 0) [] Z 17 [(0, .ref k), (1, iv z9.1), (2, iv z9.2.1)] [] h7 0 0) (fun z9 => 0 ≤ z9.2.1 ∧ z9.2.1 ≤ 60 ∧ iPI G z9.2.1 z9.1 z9.2.2.1 z9.2.2.2) (fun z9 => (60 - z9.2.1).toNat) ?_ (q1.1, 0, q1.2, acc0) ?_ _ hMq1 hE6
  · rintro ⟨g, i, X, acc⟩ hinv ih
    dsimp only at hinv ih ⊢
    intro h8 hG9 hE10
    obtain ⟨i1, i2, hP⟩ := hinv
    have hP9 := hP
    obtain ⟨x0, x5, x4, xx⟩ := hP9
    have hg : g = 0 ∨ g = 1 := xx.elim (fun w => .inl w.1) (fun w => .inr w.1)
    have t12 := t1.2
    refine j_iload_n dX3_takeOrders_17 rfl rfl ?_
    refine j_bipush dX3_takeOrders_18 (by decide +kernel) ?_
    refine j_icmp_ge (tgt := 66) dX3_takeOrders_20 (by decide) (by omega) (fun c11 => ?_) (fun c11 => ?_)
    · refine j_aload_n dX3_takeOrders_66 rfl rfl ?_
      refine j_iconst dX3_takeOrders_67 ?_
      refine jo_put (S := sI) dX3_takeOrders_68 jf_X3_29 (fun q hq => by cases hq; exact ⟨rfl, rfl⟩) (jHold_int _) okI hG9 rfl (fun h12 hG12 hX12 => ?_)
      have hE13 := hE10.tr hX12
      refine j_iload_n dX3_takeOrders_71 rfl rfl ?_
      refine j_if_eq (tgt := 79) dX3_takeOrders_72 (by decide) (by omega) (fun c14 => ?_) (fun c14 => ?_)
      · refine j_aload_n dX3_takeOrders_79 rfl rfl ?_
        refine j_getfield (v := iv (X 4 0)) dX3_takeOrders_80 jf_X3_25 hG12.1 rfl ?_
        subst hZ
        exact j_ireturn dX3_takeOrders_83 rfl rfl ⟨congrArg (fun z => some (iv z)) (take0 hP (by omega)).symm, _, hG12, hE13, x0, rfl, fun w9 => absurd ((take0 hP (by omega)).symm.trans w9) (by omega)⟩ (Nat.le_refl _) (Nat.le_refl _)
      · refine j_iconst dX3_takeOrders_75 ?_
        refine j_goto (tgt := 83) dX3_takeOrders_76 (by decide) ?_
        subst hZ
        exact j_ireturn dX3_takeOrders_83 rfl rfl ⟨congrArg (fun z => some (iv z)) (takeX hP (by omega) (by omega) t12).1.symm, _, hG12, hE13, x0, rfl, fun _ => (takeX hP (by omega) (by omega) t12).2⟩ (Nat.le_refl _) (Nat.le_refl _)
    · refine j_iload_n dX3_takeOrders_23 rfl rfl ?_
      refine j_if_eq (tgt := 66) dX3_takeOrders_24 (by decide) (by omega) (fun c15 => ?_) (fun c15 => ?_)
      · refine j_aload_n dX3_takeOrders_66 rfl rfl ?_
        refine j_iconst dX3_takeOrders_67 ?_
        refine jo_put (S := sI) dX3_takeOrders_68 jf_X3_29 (fun q hq => by cases hq; exact ⟨rfl, rfl⟩) (jHold_int _) okI hG9 rfl (fun h16 hG16 hX16 => ?_)
        have hE17 := hE10.tr hX16
        refine j_iload_n dX3_takeOrders_71 rfl rfl ?_
        refine j_if_eq (tgt := 79) dX3_takeOrders_72 (by decide) (by omega) (fun c18 => ?_) (fun c18 => (False.elim (by omega)))
        refine j_aload_n dX3_takeOrders_79 rfl rfl ?_
        refine j_getfield (v := iv (X 4 0)) dX3_takeOrders_80 jf_X3_25 hG16.1 rfl ?_
        subst hZ
        exact j_ireturn dX3_takeOrders_83 rfl rfl ⟨congrArg (fun z => some (iv z)) (take0 hP (by omega)).symm, _, hG16, hE17, x0, rfl, fun w9 => absurd ((take0 hP (by omega)).symm.trans w9) (by omega)⟩ (Nat.le_refl _) (Nat.le_refl _)
      · refine j_aload_n dX3_takeOrders_27 rfl rfl ?_
        refine j_getfield (v := iv (X 4 0)) dX3_takeOrders_28 jf_X3_25 hG9.1 rfl ?_
        refine j_aload_n dX3_takeOrders_31 rfl rfl ?_
        refine j_getfield (v := iv (X 5 0)) dX3_takeOrders_32 jf_X3_29 hG9.1 rfl ?_
        refine j_icmp_ge (tgt := 66) dX3_takeOrders_35 (by decide) (by omega) (fun c19 => ?_) (fun c19 => ?_)
        · refine j_aload_n dX3_takeOrders_66 rfl rfl ?_
          refine j_iconst dX3_takeOrders_67 ?_
          refine jo_put (S := sI) dX3_takeOrders_68 jf_X3_29 (fun q hq => by cases hq; exact ⟨rfl, rfl⟩) (jHold_int _) okI hG9 rfl (fun h20 hG20 hX20 => ?_)
          have hE21 := hE10.tr hX20
          refine j_iload_n dX3_takeOrders_71 rfl rfl ?_
          refine j_if_eq (tgt := 79) dX3_takeOrders_72 (by decide) (by omega) (fun c22 => (False.elim (by omega))) (fun c22 => ?_)
          refine j_iconst dX3_takeOrders_75 ?_
          refine j_goto (tgt := 83) dX3_takeOrders_76 (by decide) ?_
          subst hZ
          exact j_ireturn dX3_takeOrders_83 rfl rfl ⟨congrArg (fun z => some (iv z)) (takeX hP (by omega) (by omega) t12).1.symm, _, hG20, hE21, x0, rfl, fun _ => (takeX hP (by omega) (by omega) t12).2⟩ (Nat.le_refl _) (Nat.le_refl _)
        · have hg1 : g = 1 := by omega
          subst hg1
          have xy : 0 ≤ X 6 0 ∧ 2 * X 6 0 ≤ X 4 0 + 1 := by
            rcases xx with w | ⟨_, w1, w2, w3, _⟩
            · exact absurd w.1 (by decide)
            · have := w1.1
              omega
          refine j_aload_n dX3_takeOrders_38 rfl rfl ?_
          refine j_bipush dX3_takeOrders_39 (by decide +kernel) ?_
          by_cases e9 : iHe (X) = 59
          · have hc9 : X 4 0 < G 5 0 ∧ G 0 (X 4 0) = 59 := by
              have w := iHe_n e9 (by decide)
              rw [x0, x5] at w
              exact w
            have w9 := c3_readSign hG9 ⟨by omega, by omega, by rw [x0]; exact t2⟩ (c := 59) (by decide)
            rw [if_pos e9] at w9
            refine j_callV (w9) dX3_takeOrders_41 jc_X3_39 jmV_X3_readSign rfl rfl hG9.1 rfl rfl (by simp) jfr_nil (Nat.le_of_ble_eq_true rfl) ⟨Nat.le_of_ble_eq_true rfl, Nat.le_of_ble_eq_true rfl⟩ ⟨Nat.le_of_ble_eq_true rfl, Nat.le_of_ble_eq_true rfl⟩ (fun r h23 hp9 => ?_) (fun E h9 q => q.elim)
            obtain ⟨rfl, hG24, hX25⟩ := hp9
            have hE26 := hE10.tr hX25
            have hG27 : jOb sI k (gn X 4 (X 4 0 + 1)) h23 := hG24
            show J _ _ _ _ _ _ (iv 1 :: _) _ _ _
            refine j_if_eq (tgt := 58) dX3_takeOrders_44 (by decide) (by omega) (fun c28 => absurd c28 (by decide)) (fun c28 => ?_)
            refine j_aload_n dX3_takeOrders_47 rfl rfl ?_
            obtain ⟨q2, hq2⟩ : ∃ q2, i_ord (gn X 4 (X 4 0 + 1)) = q2 := ⟨_, rfl⟩
            refine j_callV (c3_readOrder hG27 ⟨⟨by show 0 ≤ X 4 0 + 1; omega, by show X 4 0 + 1 ≤ X 5 0; omega⟩, by show X 5 0 ≤ 60; omega, fun j => by show 0 ≤ X 0 j ∧ X 0 j < 65536; rw [x0]; exact t2 j⟩ (by show 0 ≤ X 6 0; omega) (fun w => by have w : X 4 0 + 1 < X 5 0 := w; show X 6 0 < 30; omega) hq2) dX3_takeOrders_48 jc_X3_35 jmV_X3_readOrder rfl rfl hG27.1 rfl rfl (by simp) jfr_nil (Nat.le_of_ble_eq_true rfl) ⟨Nat.le_of_ble_eq_true rfl, Nat.le_of_ble_eq_true rfl⟩ ⟨Nat.le_of_ble_eq_true rfl, Nat.le_of_ble_eq_true rfl⟩ (fun r h29 hp9 => ?_) (fun E h9 q => q.elim)
            obtain ⟨rfl, hMq2, eMq2⟩ := hp9
            have hE30 := hE26.tr eMq2
            obtain ⟨acc2, hP2⟩ := iPI_s hP (by omega) hc9 t1.2 hq2
            have hg2 : q2.1 = 0 ∨ q2.1 = 1 := hP2.2.2.2.elim (fun w => .inl w.1) (fun w => .inr w.1)
            refine j_if_eq (tgt := 58) dX3_takeOrders_51 (by decide) (by omega) (fun c31 => ?_) (fun c31 => ?_)
            · refine j_iconst dX3_takeOrders_58 ?_
              refine j_istore_n (L' := [(0, _), (1, _), (2, _)]) dX3_takeOrders_59 rfl (by decide) rfl ?_
              refine j_iinc (L' := [(0, _), (1, _), (2, _)]) dX3_takeOrders_60 rfl (by decide) rfl ?_
              refine j_goto (tgt := 17) dX3_takeOrders_63 (by decide) ?_
              have e7 : q2.1 = 0 := by
                rcases hP2.2.2.2 with w | w <;> have := w.1 <;> omega
              rw [e7] at hP2
              exact ih (0, i + 1, q2.2, acc2) ⟨by show 0 ≤ i + 1; omega, by show i + 1 ≤ 60; omega, hP2⟩ (by show (60 - (i + 1)).toNat < (60 - i).toNat; omega) _ hMq2 hE30
            · refine j_iconst dX3_takeOrders_54 ?_
              refine j_goto (tgt := 59) dX3_takeOrders_55 (by decide) ?_
              refine j_istore_n (L' := [(0, _), (1, _), (2, _)]) dX3_takeOrders_59 rfl (by decide) rfl ?_
              refine j_iinc (L' := [(0, _), (1, _), (2, _)]) dX3_takeOrders_60 rfl (by decide) rfl ?_
              refine j_goto (tgt := 17) dX3_takeOrders_63 (by decide) ?_
              have e7 : q2.1 = 1 := by
                rcases hP2.2.2.2 with w | w <;> have := w.1 <;> omega
              rw [e7] at hP2
              exact ih (1, i + 1, q2.2, acc2) ⟨by show 0 ≤ i + 1; omega, by show i + 1 ≤ 60; omega, hP2⟩ (by show (60 - (i + 1)).toNat < (60 - i).toNat; omega) _ hMq2 hE30
          · have w9 := c3_readSign hG9 ⟨by omega, by omega, by rw [x0]; exact t2⟩ (c := 59) (by decide)
            rw [if_neg e9] at w9
            refine j_callV (w9) dX3_takeOrders_41 jc_X3_39 jmV_X3_readSign rfl rfl hG9.1 rfl rfl (by simp) jfr_nil (Nat.le_of_ble_eq_true rfl) ⟨Nat.le_of_ble_eq_true rfl, Nat.le_of_ble_eq_true rfl⟩ ⟨Nat.le_of_ble_eq_true rfl, Nat.le_of_ble_eq_true rfl⟩ (fun r h32 hp9 => ?_) (fun E h9 q => q.elim)
            obtain ⟨rfl, hG33, hX34⟩ := hp9
            have hE35 := hE10.tr hX34
            show J _ _ _ _ _ _ (iv 0 :: _) _ _ _
            refine j_if_eq (tgt := 58) dX3_takeOrders_44 (by decide) (by omega) (fun c36 => ?_) (fun c36 => absurd (by decide) c36)
            refine j_iconst dX3_takeOrders_58 ?_
            refine j_istore_n (L' := [(0, _), (1, _), (2, _)]) dX3_takeOrders_59 rfl (by decide) rfl ?_
            refine j_iinc (L' := [(0, _), (1, _), (2, _)]) dX3_takeOrders_60 rfl (by decide) rfl ?_
            refine j_goto (tgt := 17) dX3_takeOrders_63 (by decide) ?_
            exact ih (0, i + 1, X, acc) ⟨by show 0 ≤ i + 1; omega, by show i + 1 ≤ 60; omega, x0, x5, x4, .inl ⟨rfl, iPI_x (X := X) hP ⟨(show X 4 0 < G 5 0 by omega), fun w => e9 ((iHe_in (G := X) (by omega)).trans ((congrFun x0 _).trans w))⟩⟩⟩ (by show (60 - (i + 1)).toNat < (60 - i).toNat; omega) _ hG33 hE35
  · dsimp only
    exact ⟨by omega, by omega, hP0⟩
