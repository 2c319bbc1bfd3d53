theorem iRe {k : Nat} {G : fS} {h : jH} (hG : jOb sI k G h) : jOb sI k (gn G 4 (G 4 0)) h :=
  ⟨hG.1, fun i p t n hi => by
    rw [show gn G 4 (G 4 0) i = G i from gs_n (fun e => by rw [e] at hi; cases hi)]
    exact hG.2 i p t n hi⟩
theorem iHe_d {G : fS} (h : 48 ≤ iHe G) : G 4 0 < G 5 0 ∧ iHe G = G 0 (G 4 0) := by
  unfold iHe at h ⊢
  by_cases e : G 4 0 < G 5 0
  · rw [if_pos e]; exact ⟨e, rfl⟩
  · rw [if_neg e] at h; exact absurd h (by decide)
theorem iHe_x {G : fS} (h : G 4 0 < G 5 0 ∧ 48 ≤ G 0 (G 4 0) ∧ G 0 (G 4 0) ≤ 57) : 48 ≤ iHe G ∧ iHe G ≤ 57 := by
  rw [iHe_in h.1]; exact h.2
theorem pOrd_a {t : Int → Int} {n a : Int} (h : kdOf (if a < n then t a else 0) = -1) : pOrd t n a = (-1, 0, 0, a) := if_pos h
theorem pOrd_c {t : Int → Int} {n a : Int} (h : kdOf (if a < n then t a else 0) = 0) : pOrd t n a = (0, 0, 0, a + 1) := by
  unfold pOrd
  rw [h]
  rfl
theorem pOrd_b {t : Int → Int} {n a kd : Int} {p : Int × Int} (h : kdOf (if a < n then t a else 0) = kd) (h1 : kd ≠ -1) (h0 : kd ≠ 0) (hp : pNum t n 2 (-1) (a + 1) = p) : pOrd t n a = if p.1 = -1 then (-1, 0, 0, p.2) else if sgOf kd = 32 then (kd, p.1, 0, p.2) else if p.2 < n ∧ t p.2 = sgOf kd then (if (pNum t n (dgOf kd) (-1) (p.2 + 1)).1 = -1 then (-1, 0, 0, (pNum t n (dgOf kd) (-1) (p.2 + 1)).2) else (kd, p.1, (pNum t n (dgOf kd) (-1) (p.2 + 1)).1, (pNum t n (dgOf kd) (-1) (p.2 + 1)).2)) else (-1, 0, 0, p.2) := by
  unfold pOrd
  rw [h, if_neg h1, if_neg h0, hp]
def i_ord (G : fS) : Int × fS := if (pOrd (G 0) (G 5 0) (G 4 0)).1 = -1 then (0, gn G 4 (pOrd (G 0) (G 5 0) (G 4 0)).2.2.2) else (1, iKeep (gn G 4 (pOrd (G 0) (G 5 0) (G 4 0)).2.2.2) (pOrd (G 0) (G 5 0) (G 4 0)).1 (pOrd (G 0) (G 5 0) (G 4 0)).2.1 (pOrd (G 0) (G 5 0) (G 4 0)).2.2.1)
theorem i_ord_n {G : fS} {b : Int} (h : pOrd (G 0) (G 5 0) (G 4 0) = (-1, 0, 0, b)) : i_ord G = (0, gn G 4 b) := by
  unfold i_ord
  rw [h]
  rfl
theorem i_ord_y {G : fS} {kd x y b : Int} (h : pOrd (G 0) (G 5 0) (G 4 0) = (kd, x, y, b)) (hk : kd ≠ -1) : i_ord G = (1, iKeep (gn G 4 b) kd x y) := by
  unfold i_ord
  rw [h]
  exact if_neg hk
set_option maxHeartbeats 4000000 in
/-- Input.readNumber -/
theorem c3_readNumber {k : Nat} {G : fS} {h : jH} (hG : jOb sI k G h) (hT : iTx G) {n : Nat} {d : Int} (hd : d = (n : Int)) (hn : n ≤ 3) {q : Int × Int} (hq : pNum (G 0) (G 5 0) n (-1) (G 4 0) = q) : jM mX3_readNumber 2 0 0 [] [.ref k, iv d] h (jWi sI k (q.1, gn G 4 q.2) h) jno := by
  refine j_method (by decide +kernel) rfl (fun _ _ _ => trivial) (Nat.le_of_ble_eq_true rfl) ?_
  generalize hZ : jZ [] 0 0 _ _ = Z
  show J mX3_readNumber (jR 2 0 0) [] Z 0 [(0, .ref k), (1, iv d)] [] h 0 0
  obtain ⟨t1, t2, t3⟩ := hT
  have hE0 : jEx k 5 h h := jEx.rf
  refine j_iconst dX3_readNumber_0 ?_
  refine j_istore_n (L' := [(0, _), (1, _), (2, _)]) dX3_readNumber_1 rfl (by decide) rfl ?_
  refine j_iconst dX3_readNumber_2 ?_
  refine j_istore_n (L' := [(0, _), (1, _), (2, _), (3, _)]) dX3_readNumber_3 rfl (by decide) rfl ?_
  have hGr := iRe hG
  refine jloop (P := fun z9 : Int × Int × Int => ∀ h1 : jH, jOb sI k (gn G 4 z9.2.2) h1 → jEx k 5 h h1 → J mX3_readNumber (jR 2 0 0) [] Z 4 [(0, .ref k), (1, iv d), (2, iv z9.1), (3, iv z9.2.1)] [] h1 0 0) (fun z9 => 0 ≤ z9.2.1 ∧ z9.2.1 ≤ (n : Int) ∧ 0 ≤ z9.2.2 ∧ z9.2.2 ≤ G 5 0 ∧ -1 ≤ z9.1 ∧ z9.1 ≤ 999 ∧ (z9.2.1 = 0 → z9.1 = -1) ∧ (z9.2.1 = 1 → z9.1 ≤ 9) ∧ (z9.2.1 = 2 → z9.1 ≤ 99) ∧ pNum (G 0) (G 5 0) ((n : Int) - z9.2.1).toNat z9.1 z9.2.2 = q) (fun z9 => ((n : Int) - z9.2.1).toNat) ?_ (-1, 0, G 4 0) ?_ _ hGr hE0
  · rintro ⟨x, i, a⟩ hinv ih
    dsimp only at hinv ih ⊢
    intro h2 hG3 hE4
    obtain ⟨i1, i2, i3, i4, i5, i6, i7, i8, i9, i10⟩ := hinv
    have hT9 : iTx (gn G 4 a) := ⟨⟨i3, i4⟩, t2, t3⟩
    refine j_iload_n dX3_readNumber_4 rfl rfl ?_
    refine j_iload_n dX3_readNumber_5 rfl rfl ?_
    refine j_icmp_ge (tgt := 60) dX3_readNumber_6 (by decide) (by omega) (fun c5 => ?_) (fun c5 => ?_)
    · refine j_iload_n dX3_readNumber_60 rfl rfl ?_
      subst hZ
      exact j_ireturn dX3_readNumber_61 rfl rfl (jWi.i (by rw [← i10]; first | (rw [show ((n : Int) - i).toNat = 0 by omega]; rfl) | (rw [show ((n : Int) - i).toNat = ((n : Int) - (i + 1)).toNat + 1 by omega, pNum_f (fun w => by have := iHe_x (G := gn G 4 a) w; omega)])) hG3 hE4) (Nat.le_refl _) (Nat.le_refl _)
    · refine j_aload_n dX3_readNumber_9 rfl rfl ?_
      refine j_callV (c3_here hG3 hT9) dX3_readNumber_10 jc_X3_59 jmV_X3_here rfl rfl hG3.1 rfl rfl (by simp) jfr_nil (Nat.le_of_ble_eq_true rfl) ⟨Nat.le_of_ble_eq_true rfl, Nat.le_of_ble_eq_true rfl⟩ ⟨Nat.le_of_ble_eq_true rfl, Nat.le_of_ble_eq_true rfl⟩ (fun r h7 hp9 => ?_) (fun E h9 q => q.elim)
      obtain ⟨rfl, rfl⟩ := hp9
      have v6 := iHe_r (G := gn G 4 a) hT9.2.2
      refine j_bipush dX3_readNumber_13 (by decide +kernel) ?_
      refine j_icmp_lt (tgt := 60) dX3_readNumber_15 (by decide) (by omega) (fun c8 => ?_) (fun c8 => ?_)
      · refine j_iload_n dX3_readNumber_60 rfl rfl ?_
        subst hZ
        exact j_ireturn dX3_readNumber_61 rfl rfl (jWi.i (by rw [← i10]; first | (rw [show ((n : Int) - i).toNat = 0 by omega]; rfl) | (rw [show ((n : Int) - i).toNat = ((n : Int) - (i + 1)).toNat + 1 by omega, pNum_f (fun w => by have := iHe_x (G := gn G 4 a) w; omega)])) hG3 hE4) (Nat.le_refl _) (Nat.le_refl _)
      · refine j_aload_n dX3_readNumber_18 rfl rfl ?_
        refine j_callV (c3_here hG3 hT9) dX3_readNumber_19 jc_X3_59 jmV_X3_here rfl rfl hG3.1 rfl rfl (by simp) jfr_nil (Nat.le_of_ble_eq_true rfl) ⟨Nat.le_of_ble_eq_true rfl, Nat.le_of_ble_eq_true rfl⟩ ⟨Nat.le_of_ble_eq_true rfl, Nat.le_of_ble_eq_true rfl⟩ (fun r h10 hp9 => ?_) (fun E h9 q => q.elim)
        obtain ⟨rfl, rfl⟩ := hp9
        have v9 := iHe_r (G := gn G 4 a) hT9.2.2
        refine j_bipush dX3_readNumber_22 (by decide +kernel) ?_
        refine j_icmp_gt (tgt := 60) dX3_readNumber_24 (by decide) (by omega) (fun c11 => ?_) (fun c11 => ?_)
        · refine j_iload_n dX3_readNumber_60 rfl rfl ?_
          subst hZ
          exact j_ireturn dX3_readNumber_61 rfl rfl (jWi.i (by rw [← i10]; first | (rw [show ((n : Int) - i).toNat = 0 by omega]; rfl) | (rw [show ((n : Int) - i).toNat = ((n : Int) - (i + 1)).toNat + 1 by omega, pNum_f (fun w => by have := iHe_x (G := gn G 4 a) w; omega)])) hG3 hE4) (Nat.le_refl _) (Nat.le_refl _)
        · refine j_iload_n dX3_readNumber_27 rfl rfl ?_
          refine j_iconst dX3_readNumber_28 ?_
          refine j_mmax (jw_mem 1309 (by decide +kernel) (by decide +kernel)) (jw_mem 1003 (by decide +kernel) (by decide +kernel)) (jw_mem 111 (by decide +kernel) (by decide +kernel)) (jw_mem 1004 (by decide +kernel) (by decide +kernel)) (by omega) dX3_readNumber_29 (by decide) (by decide) (Nat.le_of_ble_eq_true rfl) ?_
          refine j_bipush dX3_readNumber_32 (by decide +kernel) ?_
          refine j_imul dX3_readNumber_34 ?_
          refine j_aload_n dX3_readNumber_35 rfl rfl ?_
          refine j_callV (c3_here hG3 hT9) dX3_readNumber_36 jc_X3_59 jmV_X3_here rfl rfl hG3.1 rfl rfl (by simp) jfr_nil (Nat.le_of_ble_eq_true rfl) ⟨Nat.le_of_ble_eq_true rfl, Nat.le_of_ble_eq_true rfl⟩ ⟨Nat.le_of_ble_eq_true rfl, Nat.le_of_ble_eq_true rfl⟩ (fun r h13 hp9 => ?_) (fun E h9 q => q.elim)
          obtain ⟨rfl, rfl⟩ := hp9
          have v12 := iHe_r (G := gn G 4 a) hT9.2.2
          refine j_bipush dX3_readNumber_39 (by decide +kernel) ?_
          refine j_isub dX3_readNumber_41 ?_
          refine j_iadd dX3_readNumber_42 ?_
          refine j_istore_n (L' := [(0, _), (1, _), (2, _), (3, _)]) dX3_readNumber_43 rfl (by decide) rfl ?_
          refine j_aload_n dX3_readNumber_44 rfl rfl ?_
          refine j_dup dX3_readNumber_45 rfl ?_
          refine j_getfield (v := iv a) dX3_readNumber_46 jf_X3_25 hG3.1 rfl ?_
          refine j_iconst dX3_readNumber_49 ?_
          refine j_iadd dX3_readNumber_50 ?_
          refine jo_put (S := sI) dX3_readNumber_51 jf_X3_25 (fun q hq => by cases hq; exact ⟨rfl, rfl⟩) (jHold_int _) okI hG3 rfl (fun h14 hG14 hX14 => ?_)
          have hE15 := hE4.tr hX14
          refine j_iinc (L' := [(0, _), (1, _), (2, _), (3, _)]) dX3_readNumber_54 rfl (by decide) rfl ?_
          refine j_goto (tgt := 4) dX3_readNumber_57 (by decide) ?_
          have z9 := iHe_d (G := gn G 4 a) (by omega)
          have z8 : a < G 5 0 ∧ iHe (gn G 4 a) = G 0 a := z9
          rw [show ((n : Int) - i).toNat = ((n : Int) - (i + 1)).toNat + 1 by omega, pNum_t ⟨z8.1, by omega, by omega⟩, ← z8.2] at i10
          exact ih (((max x 0) * 10) + ((iHe (gn G 4 a)) - 48), i + 1, a + 1) ⟨by show 0 ≤ i + 1; omega, by show i + 1 ≤ (n : Int); omega, by show 0 ≤ a + 1; omega, by show a + 1 ≤ G 5 0; omega, by show -1 ≤ ((max x 0) * 10) + ((iHe (gn G 4 a)) - 48); omega, by show ((max x 0) * 10) + ((iHe (gn G 4 a)) - 48) ≤ 999; omega, fun w => by have w : i + 1 = 0 := w; omega, fun w => by have w : i + 1 = 1 := w; show ((max x 0) * 10) + ((iHe (gn G 4 a)) - 48) ≤ 9; omega, fun w => by have w : i + 1 = 2 := w; show ((max x 0) * 10) + ((iHe (gn G 4 a)) - 48) ≤ 99; omega, i10⟩ (by show ((n : Int) - (i + 1)).toNat < ((n : Int) - i).toNat; omega) _ (Eq.mp (congrArg (fun z => jOb sI k z _) gs_gs) hG14) hE15
  · dsimp only
    exact ⟨by omega, by omega, by omega, by omega, by omega, by omega, fun _ => rfl, fun _ => by omega, fun _ => by omega, by show pNum (G 0) (G 5 0) ((n : Int) - 0).toNat (-1) (G 4 0) = q; rw [show ((n : Int) - 0).toNat = n by omega]; exact hq⟩
