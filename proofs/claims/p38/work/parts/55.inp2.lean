theorem iRe {k : Nat} {G : fS} {h : jH} (hG : jOb sI k G h) : jOb sI k (gn G 4 (G 4 0)) h :=
  ⟨hG.1, fun i p t n hi => by
    rw [show gn G 4 (G 4 0) i = G i from gs_n (fun e => by rw [e] at hi; cases hi)]
    exact hG.2 i p t n hi⟩
theorem iHe_d {G : fS} (h : 48 ≤ iHe G) : G 4 0 < G 5 0 ∧ iHe G = G 0 (G 4 0) := by
  unfold iHe at h ⊢
  by_cases e : G 4 0 < G 5 0
  · rw [if_pos e]; exact ⟨e, rfl⟩
  · rw [if_neg e] at h; exact absurd h (by decide)
theorem iHe_x {G : fS} (h : G 4 0 < G 5 0 ∧ 48 ≤ G 0 (G 4 0) ∧ G 0 (G 4 0) ≤ 57) : 48 ≤ iHe G ∧ iHe G ≤ 57 := by
  rw [iHe_in h.1]; exact h.2
theorem pOrd_a {t : Int → Int} {n a : Int} (h : kdOf (if a < n then t a else 0) = -1) : pOrd t n a = (-1, 0, 0, a) := if_pos h
theorem pOrd_c {t : Int → Int} {n a : Int} (h : kdOf (if a < n then t a else 0) = 0) : pOrd t n a = (0, 0, 0, a + 1) := by
  unfold pOrd
  rw [h]
  rfl
theorem pOrd_b {t : Int → Int} {n a kd : Int} {p : Int × Int} (h : kdOf (if a < n then t a else 0) = kd) (h1 : kd ≠ -1) (h0 : kd ≠ 0) (hp : pNum t n 2 (-1) (a + 1) = p) : pOrd t n a = if p.1 = -1 then (-1, 0, 0, p.2) else if sgOf kd = 32 then (kd, p.1, 0, p.2) else if p.2 < n ∧ t p.2 = sgOf kd then (if (pNum t n (dgOf kd) (-1) (p.2 + 1)).1 = -1 then (-1, 0, 0, (pNum t n (dgOf kd) (-1) (p.2 + 1)).2) else (kd, p.1, (pNum t n (dgOf kd) (-1) (p.2 + 1)).1, (pNum t n (dgOf kd) (-1) (p.2 + 1)).2)) else (-1, 0, 0, p.2) := by
  unfold pOrd
  rw [h, if_neg h1, if_neg h0, hp]
def i_ord (G : fS) : Int × fS := if (pOrd (G 0) (G 5 0) (G 4 0)).1 = -1 then (0, gn G 4 (pOrd (G 0) (G 5 0) (G 4 0)).2.2.2) else (1, iKeep (gn G 4 (pOrd (G 0) (G 5 0) (G 4 0)).2.2.2) (pOrd (G 0) (G 5 0) (G 4 0)).1 (pOrd (G 0) (G 5 0) (G 4 0)).2.1 (pOrd (G 0) (G 5 0) (G 4 0)).2.2.1)
theorem i_ord_n {G : fS} {b : Int} (h : pOrd (G 0) (G 5 0) (G 4 0) = (-1, 0, 0, b)) : i_ord G = (0, gn G 4 b) := by
  unfold i_ord
  rw [h]
  rfl
theorem i_ord_y {G : fS} {kd x y b : Int} (h : pOrd (G 0) (G 5 0) (G 4 0) = (kd, x, y, b)) (hk : kd ≠ -1) : i_ord G = (1, iKeep (gn G 4 b) kd x y) := by
  unfold i_ord
  rw [h]
  exact if_neg hk
set_option maxHeartbeats 4000000 in
/-- Input.readNumber -/
theorem c3_readNumber {k : Nat} {G : fS} {h : jH} (hG : jOb sI k G h) (hT : iTx G) {n : Nat} {d : Int} (hd : d = (n : Int)) (hn : n ≤ 3) {q : Int × Int} (hq : pNum (G 0) (G 5 0) n (-1) (G 4 0) = q) : jM mX3_readNumber 2 0 0 [] [.ref k, iv d] h (jWi sI k (q.1, gn G 4 q.2) h) jno := by
  refine j_method (by decide +kernel) rfl (fun _ _ _ => trivial) (Nat.le_of_ble_eq_true rfl) ?_
  generalize hZ : jZ [] 0 0 _ _ = Z
  show J mX3_readNumber (jR 2 0 0) [] Z 0 [(0, .ref k), (1, iv d)] [] h 0 0
  obtain ⟨t1, t2, t3⟩ := hT
  have hE0 : jEx k 5 h h := jEx.rf
  refine j_iconst dX3_readNumber_0 ?_
  refine j_istore_n (L' := [(0, _), (1, _), (2, _)]) dX3_readNumber_1 rfl (by decide) rfl ?_
  refine j_iconst dX3_readNumber_2 ?_
  refine j_istore_n (L' := [(0, _), (1, _), (2, _), (3, _)]) dX3_readNumber_3 rfl (by decide) rfl ?_
  have hGr := iRe hG
  refine jloop (P := fun z9 : Int × Int × Int => ∀ h1 : jH, jOb sI k (gn G 4 z9.2.2) h1 → jEx k 5 h h1 → J mX3_readNumber (jR 2 0 0) [] Z 4 [(0, .ref k), (1, iv d), (2, iv z9.1), (3, iv z9.2.1)] [] h1 0 0) (fun z9 => 0 ≤ z9.2.1 ∧ z9.2.1 ≤ (n : Int) ∧ 0 ≤ z9.2.2 ∧ z9.2.2 ≤ G 5 0 ∧ -1 ≤ z9.1 ∧ z9.1 ≤ 999 ∧ (z9.2.1 = 0 → z9.1 = -1) ∧ (z9.2.1 = 1 → z9.1 ≤ 9) ∧ (z9.2.1 = 2 → z9.1 ≤ 99) ∧ pNum (G 0) (G 5 0) ((n : Int) - z9.2.1).toNat z9.1 z9.2.2 = q) (fun z9 => ((n : Int) - z9.2.1).toNat) ?_ (-1, 0, G 4 0) ?_ _ hGr hE0
  · rintro ⟨x, i, a⟩ hinv ih
    dsimp only at hinv ih ⊢
    intro h2 hG3 hE4
    obtain ⟨i1, i2, i3, i4, i5, i6, i7, i8, i9, i10⟩ := hinv
    have hT9 : iTx (gn G 4 a) := ⟨⟨i3, i4⟩, t2, t3⟩
    refine j_iload_n dX3_readNumber_4 rfl rfl ?_
    refine j_iload_n dX3_readNumber_5 rfl rfl ?_
    refine j_icmp_ge (tgt := 60) dX3_readNumber_6 (by decide) (by omega) (fun c5 => ?_) (fun c5 => ?_)
    · refine j_iload_n dX3_readNumber_60 rfl rfl ?_
      subst hZ
      exact j_ireturn dX3_readNumber_61 rfl rfl (jWi.i (by rw [← i10]; first | (rw [show ((n : Int) - i).toNat = 0 by omega]; rfl) | (rw [show ((n : Int) - i).toNat = ((n : Int) - (i + 1)).toNat + 1 by omega, pNum_f (fun w => by have := iHe_x (G := gn G 4 a) w; omega)])) hG3 hE4) (Nat.le_refl _) (Nat.le_refl _)
    · refine j_aload_n dX3_readNumber_9 rfl rfl ?_
      refine j_callV (c3_here hG3 hT9) dX3_readNumber_10 jc_X3_59 jmV_X3_here rfl rfl hG3.1 rfl rfl (by simp) jfr_nil (Nat.le_of_ble_eq_true rfl) ⟨Nat.le_of_ble_eq_true rfl, Nat.le_of_ble_eq_true rfl⟩ ⟨Nat.le_of_ble_eq_true rfl, Nat.le_of_ble_eq_true rfl⟩ (fun r h7 hp9 => ?_) (fun E h9 q => q.elim)
      obtain ⟨rfl, rfl⟩ := hp9
      have v6 := iHe_r (G := gn G 4 a) hT9.2.2
      refine j_bipush dX3_readNumber_13 (by decide +kernel) ?_
      refine j_icmp_lt (tgt := 60) dX3_readNumber_15 (by decide) (by omega) (fun c8 => ?_) (fun c8 => ?_)
      · refine j_iload_n dX3_readNumber_60 rfl rfl ?_
        subst hZ
        exact j_ireturn dX3_readNumber_61 rfl rfl (jWi.i (by rw [← i10]; first | (rw [show ((n : Int) - i).toNat = 0 by omega]; rfl) | (rw [show ((n : Int) - i).toNat = ((n : Int) - (i + 1)).toNat + 1 by omega, pNum_f (fun w => by have := iHe_x (G := gn G 4 a) w; omega)])) hG3 hE4) (Nat.le_refl _) (Nat.le_refl _)
      · refine j_aload_n dX3_readNumber_18 rfl rfl ?_
        refine j_callV (c3_here hG3 hT9) dX3_readNumber_19 jc_X3_59 jmV_X3_here rfl rfl hG3.1 rfl rfl (by simp) jfr_nil (Nat.le_of_ble_eq_true rfl) ⟨Nat.le_of_ble_eq_true rfl, Nat.le_of_ble_eq_true rfl⟩ ⟨Nat.le_of_ble_eq_true rfl, Nat.le_of_ble_eq_true rfl⟩ (fun r h10 hp9 => ?_) (fun E h9 q => q.elim)
        obtain ⟨rfl, rfl⟩ := hp9
        have v9 := iHe_r (G := gn G 4 a) hT9.2.2
        refine j_bipush dX3_readNumber_22 (by decide +kernel) ?_
        refine j_icmp_gt (tgt := 60) dX3_readNumber_24 (by decide) (by omega) (fun c11 => ?_) (fun c11 => ?_)
        · refine j_iload_n dX3_readNumber_60 rfl rfl ?_
          subst hZ
          exact j_ireturn dX3_readNumber_61 rfl rfl (jWi.i (by rw [← i10]; first | (rw [show ((n : Int) - i).toNat = 0 by omega]; rfl) | (rw [show ((n : Int) - i).toNat = ((n : Int) - (i + 1)).toNat + 1 by omega, pNum_f (fun w => by have := iHe_x (G := gn G 4 a) w; omega)])) hG3 hE4) (Nat.le_refl _) (Nat.le_refl _)
        · refine j_iload_n dX3_readNumber_27 rfl rfl ?_
          refine j_iconst dX3_readNumber_28 ?_
          refine j_mmax (jw_mem 1363 (by decide +kernel) (by decide +kernel)) (jw_mem 306 (by decide +kernel) (by decide +kernel)) (jw_mem 56 (by decide +kernel) (by decide +kernel)) (jw_mem 307 (by decide +kernel) (by decide +kernel)) (by omega) dX3_readNumber_29 (by decide) (by decide) (Nat.le_of_ble_eq_true rfl) ?_
          refine j_bipush dX3_readNumber_32 (by decide +kernel) ?_
          refine j_imul dX3_readNumber_34 ?_
          refine j_aload_n dX3_readNumber_35 rfl rfl ?_
          refine j_callV (c3_here hG3 hT9) dX3_readNumber_36 jc_X3_59 jmV_X3_here rfl rfl hG3.1 rfl rfl (by simp) jfr_nil (Nat.le_of_ble_eq_true rfl) ⟨Nat.le_of_ble_eq_true rfl, Nat.le_of_ble_eq_true rfl⟩ ⟨Nat.le_of_ble_eq_true rfl, Nat.le_of_ble_eq_true rfl⟩ (fun r h13 hp9 => ?_) (fun E h9 q => q.elim)
          obtain ⟨rfl, rfl⟩ := hp9
          have v12 := iHe_r (G := gn G 4 a) hT9.2.2
          refine j_bipush dX3_readNumber_39 (by decide +kernel) ?_
          refine j_isub dX3_readNumber_41 ?_
          refine j_iadd dX3_readNumber_42 ?_
          refine j_istore_n (L' := [(0, _), (1, _), (2, _), (3, _)]) dX3_readNumber_43 rfl (by decide) rfl ?_
          refine j_aload_n dX3_readNumber_44 rfl rfl ?_
          refine j_dup dX3_readNumber_45 rfl ?_
          refine j_getfield (v := iv a) dX3_readNumber_46 jf_X3_25 hG3.1 rfl ?_
          refine j_iconst dX3_readNumber_49 ?_
          refine j_iadd dX3_readNumber_50 ?_
          refine jo_put (S := sI) dX3_readNumber_51 jf_X3_25 (fun q hq => by cases hq; exact ⟨rfl, rfl⟩) (jHold_int _) okI hG3 rfl (fun h14 hG14 hX14 => ?_)
          have hE15 := hE4.tr hX14
          refine j_iinc (L' := [(0, _), (1, _), (2, _), (3, _)]) dX3_readNumber_54 rfl (by decide) rfl ?_
          refine j_goto (tgt := 4) dX3_readNumber_57 (by decide) ?_
          have z9 := iHe_d (G := gn G 4 a) (by omega)
          have z8 : a < G 5 0 ∧ iHe (gn G 4 a) = G 0 a := z9
          rw [show ((n : Int) - i).toNat = ((n : Int) - (i + 1)).toNat + 1 by omega, pNum_t ⟨z8.1, by omega, by omega⟩, ← z8.2] at i10
          exact ih (((max x 0) * 10) + ((iHe (gn G 4 a)) - 48), i + 1, a + 1) ⟨by show 0 ≤ i + 1; omega, by show i + 1 ≤ (n : Int); omega, by show 0 ≤ a + 1; omega, by show a + 1 ≤ G 5 0; omega, by show -1 ≤ ((max x 0) * 10) + ((iHe (gn G 4 a)) - 48); omega, by show ((max x 0) * 10) + ((iHe (gn G 4 a)) - 48) ≤ 999; omega, fun w => by have w : i + 1 = 0 := w; omega, fun w => by have w : i + 1 = 1 := w; show ((max x 0) * 10) + ((iHe (gn G 4 a)) - 48) ≤ 9; omega, fun w => by have w : i + 1 = 2 := w; show ((max x 0) * 10) + ((iHe (gn G 4 a)) - 48) ≤ 99; omega, i10⟩ (by show ((n : Int) - (i + 1)).toNat < ((n : Int) - i).toNat; omega) _ (Eq.mp (congrArg (fun z => jOb sI k z _) gs_gs) hG14) hE15
  · dsimp only
    exact ⟨by omega, by omega, by omega, by omega, by omega, by omega, fun _ => rfl, fun _ => by omega, fun _ => by omega, by show pNum (G 0) (G 5 0) ((n : Int) - 0).toNat (-1) (G 4 0) = q; rw [show ((n : Int) - 0).toNat = n by omega]; exact hq⟩
set_option maxHeartbeats 4000000 in
/-- Input.readOrder -/
theorem c3_readOrder {k : Nat} {G : fS} {h : jH} (hG : jOb sI k G h) (hT : iTx G) (ho : 0 ≤ G 6 0) (ho2 : G 4 0 < G 5 0 → G 6 0 < 30) {q0 : Int × fS} (hq0 : i_ord G = q0) : jM mX3_readOrder 4 0 0 [] [.ref k] h (jWi sI k q0 h) jno := by
  refine j_method (by decide +kernel) rfl (fun _ _ _ => trivial) (Nat.le_of_ble_eq_true rfl) ?_
  generalize hZ : jZ [] 0 0 _ _ = Z
  show J mX3_readOrder (jR 4 0 0) [] Z 0 [(0, .ref k)] [] h 0 0
  obtain ⟨t1, t2, t3⟩ := id hT
  have hE0 : jEx k 5 h h := jEx.rf
  refine j_aload_n dX3_readOrder_0 rfl rfl ?_
  refine j_callV (c3_kindHere hG hT) dX3_readOrder_1 jc_X3_43 jmV_X3_kindHere rfl rfl hG.1 rfl rfl (by simp) jfr_nil (Nat.le_of_ble_eq_true rfl) ⟨Nat.le_of_ble_eq_true rfl, Nat.le_of_ble_eq_true rfl⟩ ⟨Nat.le_of_ble_eq_true rfl, Nat.le_of_ble_eq_true rfl⟩ (fun r h1 hp9 => ?_) (fun E h9 q => q.elim)
  obtain ⟨rfl, rfl⟩ := hp9
  obtain ⟨kd, hk⟩ : ∃ kd, kdOf (iHe G) = kd := ⟨_, rfl⟩
  have hkr := kdOf_rg (iHe G)
  rw [hk] at hkr ⊢
  refine j_istore_n (L' := [(0, _), (1, _)]) dX3_readOrder_4 rfl (by decide) rfl ?_
  refine j_iload_n dX3_readOrder_5 rfl rfl ?_
  refine j_iconst dX3_readOrder_6 ?_
  refine j_icmp_ne (tgt := 12) dX3_readOrder_7 (by decide) (by omega) (fun c2 => ?_) (fun c2 => ?_)
  · have hlt : G 4 0 < G 5 0 := by
      refine Decidable.not_not.mp fun w => ?_
      rw [show iHe G = 0 from if_neg w, kdOf_0] at hk
      omega
    have ho3 := ho2 hlt
    refine j_aload_n dX3_readOrder_12 rfl rfl ?_
    refine j_dup dX3_readOrder_13 rfl ?_
    refine j_getfield (v := iv (G 4 0)) dX3_readOrder_14 jf_X3_25 hG.1 rfl ?_
    refine j_iconst dX3_readOrder_17 ?_
    refine j_iadd dX3_readOrder_18 ?_
    refine jo_put (S := sI) dX3_readOrder_19 jf_X3_25 (fun q hq => by cases hq; exact ⟨rfl, rfl⟩) (jHold_int _) okI hG rfl (fun h3 hG3 hX3 => ?_)
    have hE4 := hE0.tr hX3
    refine j_iload_n dX3_readOrder_22 rfl rfl ?_
    refine j_if_ne (tgt := 30) dX3_readOrder_23 (by decide) (by omega) (fun c5 => ?_) (fun c5 => ?_)
    · refine j_aload_n dX3_readOrder_30 rfl rfl ?_
      refine j_iconst dX3_readOrder_31 ?_
      obtain ⟨p, hp⟩ : ∃ p, pNum (G 0) (G 5 0) 2 (-1) ((G 4 0) + 1) = p := ⟨_, rfl⟩
      have pr := pNum_rg (t := G 0) (n := G 5 0) 2 (-1) ((G 4 0) + 1) (by omega)
      have pv := pNum_v2 (t := G 0) (n := G 5 0) (a := (G 4 0) + 1)
      rw [hp] at pr pv
      have hTp : iTx (gn G 4 ((G 4 0) + 1)) := ⟨by show 0 ≤ (G 4 0) + 1 ∧ (G 4 0) + 1 ≤ G 5 0; omega, t2, t3⟩
      refine j_callV (c3_readNumber hG3 hTp (n := 2) rfl (by decide) hp) dX3_readOrder_32 jc_X3_47 jmV_X3_readNumber rfl rfl hG3.1 rfl rfl (by simp) jfr_nil (Nat.le_of_ble_eq_true rfl) ⟨Nat.le_of_ble_eq_true rfl, Nat.le_of_ble_eq_true rfl⟩ ⟨Nat.le_of_ble_eq_true rfl, Nat.le_of_ble_eq_true rfl⟩ (fun r h6 hp9 => ?_) (fun E h9 q => q.elim)
      obtain ⟨rfl, hG7, hX8⟩ := hp9
      have hE9 := hE4.tr hX8
      have hG10 : jOb sI k (gn G 4 p.2) h6 := Eq.mp (congrArg (fun z => jOb sI k z _) gs_gs) hG7
      refine j_istore_n (L' := [(0, _), (1, _), (2, _)]) dX3_readOrder_35 rfl (by decide) rfl ?_
      refine j_iload_n dX3_readOrder_36 rfl rfl ?_
      refine j_iconst dX3_readOrder_37 ?_
      refine j_icmp_ne (tgt := 43) dX3_readOrder_38 (by decide) (by omega) (fun c11 => ?_) (fun c11 => ?_)
      · refine j_iconst dX3_readOrder_43 ?_
        refine j_istore_n (L' := [(0, _), (1, _), (2, _), (3, _)]) dX3_readOrder_44 rfl (by decide) rfl ?_
        refine j_aload_n dX3_readOrder_45 rfl rfl ?_
        refine j_iload_n dX3_readOrder_46 rfl rfl ?_
        have sr := sgOf_r kd
        refine j_callV (c3_signOf hG10 (by omega)) dX3_readOrder_47 jc_X3_51 jmV_X3_signOf rfl rfl hG10.1 rfl rfl (by simp) jfr_nil (Nat.le_of_ble_eq_true rfl) ⟨Nat.le_of_ble_eq_true rfl, Nat.le_of_ble_eq_true rfl⟩ ⟨Nat.le_of_ble_eq_true rfl, Nat.le_of_ble_eq_true rfl⟩ (fun r h12 hp9 => ?_) (fun E h9 q => q.elim)
        obtain ⟨rfl, rfl⟩ := hp9
        refine j_bipush dX3_readOrder_50 (by decide +kernel) ?_
        refine j_icmp_eq (tgt := 87) dX3_readOrder_52 (by decide) (by omega) (fun c13 => ?_) (fun c13 => ?_)
        · refine j_iload_n dX3_readOrder_87 rfl rfl ?_
          refine j_iconst dX3_readOrder_88 ?_
          refine j_icmp_eq (tgt := 106) dX3_readOrder_89 (by decide) (by omega) (fun c14 => absurd c14 (by decide)) (fun c14 => ?_)
          refine j_aload_n dX3_readOrder_92 rfl rfl ?_
          refine j_iload_n dX3_readOrder_93 rfl rfl ?_
          refine j_iload_n dX3_readOrder_94 rfl rfl ?_
          refine j_iload_n dX3_readOrder_95 rfl rfl ?_
          refine j_callV (c3_keep hG10 (kd := kd) (a := p.1) (b := 0) (show 0 ≤ G 6 0 ∧ G 6 0 < 30 by omega)) dX3_readOrder_96 jc_X3_55 jmV_X3_keep rfl rfl hG10.1 rfl rfl (by simp) jfr_nil (Nat.le_of_ble_eq_true rfl) ⟨Nat.le_of_ble_eq_true rfl, Nat.le_of_ble_eq_true rfl⟩ ⟨Nat.le_of_ble_eq_true rfl, Nat.le_of_ble_eq_true rfl⟩ (fun r h15 hp9 => ?_) (fun E h9 q => q.elim)
          obtain ⟨rfl, hG16, hX17⟩ := hp9
          have hE18 := hE9.tr hX17
          show J _ _ _ _ _ _ (iv 1 :: _) _ _ _
          refine j_if_eq (tgt := 106) dX3_readOrder_99 (by decide) (by omega) (fun c19 => absurd c19 (by decide)) (fun c19 => ?_)
          refine j_iconst dX3_readOrder_102 ?_
          refine j_goto (tgt := 107) dX3_readOrder_103 (by decide) ?_
          subst hZ
          exact j_ireturn dX3_readOrder_107 rfl rfl (jWi.i (hq0.symm.trans (i_ord_y (by rw [pOrd_b hk (by omega) (by omega) hp, if_neg (by omega), if_pos (by omega)]) (by omega))) hG16 hE18) (Nat.le_refl _) (Nat.le_refl _)
        · refine j_aload_n dX3_readOrder_55 rfl rfl ?_
          refine j_aload_n dX3_readOrder_56 rfl rfl ?_
          refine j_iload_n dX3_readOrder_57 rfl rfl ?_
          refine j_callV (c3_signOf hG10 (by omega)) dX3_readOrder_58 jc_X3_51 jmV_X3_signOf rfl rfl hG10.1 rfl rfl (by simp) jfr_nil (Nat.le_of_ble_eq_true rfl) ⟨Nat.le_of_ble_eq_true rfl, Nat.le_of_ble_eq_true rfl⟩ ⟨Nat.le_of_ble_eq_true rfl, Nat.le_of_ble_eq_true rfl⟩ (fun r h20 hp9 => ?_) (fun E h9 q => q.elim)
          obtain ⟨rfl, rfl⟩ := hp9
          by_cases e9 : iHe (gn G 4 p.2) = sgOf kd
          · have hs9 : p.2 < G 5 0 ∧ G 0 p.2 = sgOf kd := iHe_n (G := gn G 4 p.2) e9 (by omega)
            have w9 := c3_readSign hG10 ⟨by show 0 ≤ p.2 ∧ p.2 ≤ G 5 0; omega, t2, t3⟩ (c := (sgOf kd)) (by omega)
            rw [if_pos e9] at w9
            refine j_callV (w9) dX3_readOrder_61 jc_X3_39 jmV_X3_readSign rfl rfl hG10.1 rfl rfl (by simp) jfr_nil (Nat.le_of_ble_eq_true rfl) ⟨Nat.le_of_ble_eq_true rfl, Nat.le_of_ble_eq_true rfl⟩ ⟨Nat.le_of_ble_eq_true rfl, Nat.le_of_ble_eq_true rfl⟩ (fun r h21 hp9 => ?_) (fun E h9 q => q.elim)
            obtain ⟨rfl, hG22, hX23⟩ := hp9
            have hE24 := hE9.tr hX23
            have hG25 : jOb sI k (gn G 4 (p.2 + 1)) h21 := Eq.mp (congrArg (fun z => jOb sI k z _) gs_gs) hG22
            show J _ _ _ _ _ _ (iv 1 :: _) _ _ _
            refine j_if_eq (tgt := 85) dX3_readOrder_64 (by decide) (by omega) (fun c26 => absurd c26 (by decide)) (fun c26 => ?_)
            refine j_aload_n dX3_readOrder_67 rfl rfl ?_
            refine j_iload_n dX3_readOrder_68 rfl rfl ?_
            refine j_bipush dX3_readOrder_69 (by decide +kernel) ?_
            refine j_icmp_ne (tgt := 78) dX3_readOrder_71 (by decide) (by omega) (fun c27 => ?_) (fun c27 => ?_)
            · refine j_iconst dX3_readOrder_78 ?_
              obtain ⟨q, hq⟩ : ∃ q, pNum (G 0) (G 5 0) 2 (-1) (p.2 + 1) = q := ⟨_, rfl⟩
              have qr := pNum_rg (t := G 0) (n := G 5 0) 2 (-1) (p.2 + 1) (by omega)
              have qv := pNum_v2 (t := G 0) (n := G 5 0) (a := p.2 + 1)
              rw [hq] at qr qv
              have hTq : iTx (gn G 4 (p.2 + 1)) := ⟨by show 0 ≤ p.2 + 1 ∧ p.2 + 1 ≤ G 5 0; omega, t2, t3⟩
              refine j_callV (c3_readNumber hG25 hTq (n := 2) rfl (by decide) hq) dX3_readOrder_79 jc_X3_47 jmV_X3_readNumber rfl rfl hG25.1 rfl rfl (by simp) jfr_nil (Nat.le_of_ble_eq_true rfl) ⟨Nat.le_of_ble_eq_true rfl, Nat.le_of_ble_eq_true rfl⟩ ⟨Nat.le_of_ble_eq_true rfl, Nat.le_of_ble_eq_true rfl⟩ (fun r h28 hp9 => ?_) (fun E h9 q => q.elim)
              obtain ⟨rfl, hG29, hX30⟩ := hp9
              have hE31 := hE24.tr hX30
              have hG32 : jOb sI k (gn G 4 q.2) h28 := Eq.mp (congrArg (fun z => jOb sI k z _) gs_gs) hG29
              refine j_goto (tgt := 86) dX3_readOrder_82 (by decide) ?_
              refine j_istore_n (L' := [(0, _), (1, _), (2, _), (3, _)]) dX3_readOrder_86 rfl (by decide) rfl ?_
              refine j_iload_n dX3_readOrder_87 rfl rfl ?_
              refine j_iconst dX3_readOrder_88 ?_
              refine j_icmp_eq (tgt := 106) dX3_readOrder_89 (by decide) (by omega) (fun c33 => ?_) (fun c33 => ?_)
              · refine j_iconst dX3_readOrder_106 ?_
                subst hZ
                exact j_ireturn dX3_readOrder_107 rfl rfl (jWi.i (hq0.symm.trans (i_ord_n (by rw [pOrd_b hk (by omega) (by omega) hp, if_neg (by omega), if_neg (by omega), if_pos hs9, show dgOf kd = 2 from (if_neg (by omega)), hq, if_pos (by omega)]))) hG32 hE31) (Nat.le_refl _) (Nat.le_refl _)
              · refine j_aload_n dX3_readOrder_92 rfl rfl ?_
                refine j_iload_n dX3_readOrder_93 rfl rfl ?_
                refine j_iload_n dX3_readOrder_94 rfl rfl ?_
                refine j_iload_n dX3_readOrder_95 rfl rfl ?_
                refine j_callV (c3_keep hG32 (kd := kd) (a := p.1) (b := q.1) (show 0 ≤ G 6 0 ∧ G 6 0 < 30 by omega)) dX3_readOrder_96 jc_X3_55 jmV_X3_keep rfl rfl hG32.1 rfl rfl (by simp) jfr_nil (Nat.le_of_ble_eq_true rfl) ⟨Nat.le_of_ble_eq_true rfl, Nat.le_of_ble_eq_true rfl⟩ ⟨Nat.le_of_ble_eq_true rfl, Nat.le_of_ble_eq_true rfl⟩ (fun r h34 hp9 => ?_) (fun E h9 q => q.elim)
                obtain ⟨rfl, hG35, hX36⟩ := hp9
                have hE37 := hE31.tr hX36
                show J _ _ _ _ _ _ (iv 1 :: _) _ _ _
                refine j_if_eq (tgt := 106) dX3_readOrder_99 (by decide) (by omega) (fun c38 => absurd c38 (by decide)) (fun c38 => ?_)
                refine j_iconst dX3_readOrder_102 ?_
                refine j_goto (tgt := 107) dX3_readOrder_103 (by decide) ?_
                subst hZ
                exact j_ireturn dX3_readOrder_107 rfl rfl (jWi.i (hq0.symm.trans (i_ord_y (by rw [pOrd_b hk (by omega) (by omega) hp, if_neg (by omega), if_neg (by omega), if_pos hs9, show dgOf kd = 2 from (if_neg (by omega)), hq, if_neg (by omega)]) (by omega))) hG35 hE37) (Nat.le_refl _) (Nat.le_refl _)
            · refine j_iconst dX3_readOrder_74 ?_
              refine j_goto (tgt := 79) dX3_readOrder_75 (by decide) ?_
              obtain ⟨q, hq⟩ : ∃ q, pNum (G 0) (G 5 0) 3 (-1) (p.2 + 1) = q := ⟨_, rfl⟩
              have qr := pNum_rg (t := G 0) (n := G 5 0) 3 (-1) (p.2 + 1) (by omega)
              have qv := pNum_v3 (t := G 0) (n := G 5 0) (a := p.2 + 1)
              rw [hq] at qr qv
              have hTq : iTx (gn G 4 (p.2 + 1)) := ⟨by show 0 ≤ p.2 + 1 ∧ p.2 + 1 ≤ G 5 0; omega, t2, t3⟩
              refine j_callV (c3_readNumber hG25 hTq (n := 3) rfl (by decide) hq) dX3_readOrder_79 jc_X3_47 jmV_X3_readNumber rfl rfl hG25.1 rfl rfl (by simp) jfr_nil (Nat.le_of_ble_eq_true rfl) ⟨Nat.le_of_ble_eq_true rfl, Nat.le_of_ble_eq_true rfl⟩ ⟨Nat.le_of_ble_eq_true rfl, Nat.le_of_ble_eq_true rfl⟩ (fun r h39 hp9 => ?_) (fun E h9 q => q.elim)
              obtain ⟨rfl, hG40, hX41⟩ := hp9
              have hE42 := hE24.tr hX41
              have hG43 : jOb sI k (gn G 4 q.2) h39 := Eq.mp (congrArg (fun z => jOb sI k z _) gs_gs) hG40
              refine j_goto (tgt := 86) dX3_readOrder_82 (by decide) ?_
              refine j_istore_n (L' := [(0, _), (1, _), (2, _), (3, _)]) dX3_readOrder_86 rfl (by decide) rfl ?_
              refine j_iload_n dX3_readOrder_87 rfl rfl ?_
              refine j_iconst dX3_readOrder_88 ?_
              refine j_icmp_eq (tgt := 106) dX3_readOrder_89 (by decide) (by omega) (fun c44 => ?_) (fun c44 => ?_)
              · refine j_iconst dX3_readOrder_106 ?_
                subst hZ
                exact j_ireturn dX3_readOrder_107 rfl rfl (jWi.i (hq0.symm.trans (i_ord_n (by rw [pOrd_b hk (by omega) (by omega) hp, if_neg (by omega), if_neg (by omega), if_pos hs9, show dgOf kd = 3 from (by rw [show kd = 7 by omega]; rfl), hq, if_pos (by omega)]))) hG43 hE42) (Nat.le_refl _) (Nat.le_refl _)
              · refine j_aload_n dX3_readOrder_92 rfl rfl ?_
                refine j_iload_n dX3_readOrder_93 rfl rfl ?_
                refine j_iload_n dX3_readOrder_94 rfl rfl ?_
                refine j_iload_n dX3_readOrder_95 rfl rfl ?_
                refine j_callV (c3_keep hG43 (kd := kd) (a := p.1) (b := q.1) (show 0 ≤ G 6 0 ∧ G 6 0 < 30 by omega)) dX3_readOrder_96 jc_X3_55 jmV_X3_keep rfl rfl hG43.1 rfl rfl (by simp) jfr_nil (Nat.le_of_ble_eq_true rfl) ⟨Nat.le_of_ble_eq_true rfl, Nat.le_of_ble_eq_true rfl⟩ ⟨Nat.le_of_ble_eq_true rfl, Nat.le_of_ble_eq_true rfl⟩ (fun r h45 hp9 => ?_) (fun E h9 q => q.elim)
                obtain ⟨rfl, hG46, hX47⟩ := hp9
                have hE48 := hE42.tr hX47
                show J _ _ _ _ _ _ (iv 1 :: _) _ _ _
                refine j_if_eq (tgt := 106) dX3_readOrder_99 (by decide) (by omega) (fun c49 => absurd c49 (by decide)) (fun c49 => ?_)
                refine j_iconst dX3_readOrder_102 ?_
                refine j_goto (tgt := 107) dX3_readOrder_103 (by decide) ?_
                subst hZ
                exact j_ireturn dX3_readOrder_107 rfl rfl (jWi.i (hq0.symm.trans (i_ord_y (by rw [pOrd_b hk (by omega) (by omega) hp, if_neg (by omega), if_neg (by omega), if_pos hs9, show dgOf kd = 3 from (by rw [show kd = 7 by omega]; rfl), hq, if_neg (by omega)]) (by omega))) hG46 hE48) (Nat.le_refl _) (Nat.le_refl _)
          · have w9 := c3_readSign hG10 ⟨by show 0 ≤ p.2 ∧ p.2 ≤ G 5 0; omega, t2, t3⟩ (c := (sgOf kd)) (by omega)
            rw [if_neg e9] at w9
            refine j_callV (w9) dX3_readOrder_61 jc_X3_39 jmV_X3_readSign rfl rfl hG10.1 rfl rfl (by simp) jfr_nil (Nat.le_of_ble_eq_true rfl) ⟨Nat.le_of_ble_eq_true rfl, Nat.le_of_ble_eq_true rfl⟩ ⟨Nat.le_of_ble_eq_true rfl, Nat.le_of_ble_eq_true rfl⟩ (fun r h50 hp9 => ?_) (fun E h9 q => q.elim)
            obtain ⟨rfl, hG51, hX52⟩ := hp9
            have hE53 := hE9.tr hX52
            show J _ _ _ _ _ _ (iv 0 :: _) _ _ _
            refine j_if_eq (tgt := 85) dX3_readOrder_64 (by decide) (by omega) (fun c54 => ?_) (fun c54 => absurd (by decide) c54)
            refine j_iconst dX3_readOrder_85 ?_
            refine j_istore_n (L' := [(0, _), (1, _), (2, _), (3, _)]) dX3_readOrder_86 rfl (by decide) rfl ?_
            refine j_iload_n dX3_readOrder_87 rfl rfl ?_
            refine j_iconst dX3_readOrder_88 ?_
            refine j_icmp_eq (tgt := 106) dX3_readOrder_89 (by decide) (by omega) (fun c55 => ?_) (fun c55 => absurd (by decide) c55)
            refine j_iconst dX3_readOrder_106 ?_
            subst hZ
            exact j_ireturn dX3_readOrder_107 rfl rfl (jWi.i (hq0.symm.trans (i_ord_n (by rw [pOrd_b hk (by omega) (by omega) hp, if_neg (by omega), if_neg (by omega), if_neg (fun w => e9 ((iHe_in (G := gn G 4 p.2) w.1).trans w.2))]))) hG51 hE53) (Nat.le_refl _) (Nat.le_refl _)
      · refine j_iconst dX3_readOrder_41 ?_
        subst hZ
        exact j_ireturn dX3_readOrder_42 rfl rfl (jWi.i (hq0.symm.trans (i_ord_n (by rw [pOrd_b hk (by omega) (by omega) hp, if_pos (by omega)]))) hG10 hE9) (Nat.le_refl _) (Nat.le_refl _)
    · refine j_iconst dX3_readOrder_26 ?_
      refine j_goto (tgt := 35) dX3_readOrder_27 (by decide) ?_
      refine j_istore_n (L' := [(0, _), (1, _), (2, _)]) dX3_readOrder_35 rfl (by decide) rfl ?_
      refine j_iload_n dX3_readOrder_36 rfl rfl ?_
      refine j_iconst dX3_readOrder_37 ?_
      refine j_icmp_ne (tgt := 43) dX3_readOrder_38 (by decide) (by omega) (fun c56 => ?_) (fun c56 => absurd c56 (by decide))
      refine j_iconst dX3_readOrder_43 ?_
      refine j_istore_n (L' := [(0, _), (1, _), (2, _), (3, _)]) dX3_readOrder_44 rfl (by decide) rfl ?_
      refine j_aload_n dX3_readOrder_45 rfl rfl ?_
      refine j_iload_n dX3_readOrder_46 rfl rfl ?_
      have sr := sgOf_r kd
      refine j_callV (c3_signOf hG3 (by omega)) dX3_readOrder_47 jc_X3_51 jmV_X3_signOf rfl rfl hG3.1 rfl rfl (by simp) jfr_nil (Nat.le_of_ble_eq_true rfl) ⟨Nat.le_of_ble_eq_true rfl, Nat.le_of_ble_eq_true rfl⟩ ⟨Nat.le_of_ble_eq_true rfl, Nat.le_of_ble_eq_true rfl⟩ (fun r h57 hp9 => ?_) (fun E h9 q => q.elim)
      obtain ⟨rfl, rfl⟩ := hp9
      refine j_bipush dX3_readOrder_50 (by decide +kernel) ?_
      refine j_icmp_eq (tgt := 87) dX3_readOrder_52 (by decide) (by omega) (fun c58 => ?_) (fun c58 => ?_)
      · refine j_iload_n dX3_readOrder_87 rfl rfl ?_
        refine j_iconst dX3_readOrder_88 ?_
        refine j_icmp_eq (tgt := 106) dX3_readOrder_89 (by decide) (by omega) (fun c59 => absurd c59 (by decide)) (fun c59 => ?_)
        refine j_aload_n dX3_readOrder_92 rfl rfl ?_
        refine j_iload_n dX3_readOrder_93 rfl rfl ?_
        refine j_iload_n dX3_readOrder_94 rfl rfl ?_
        refine j_iload_n dX3_readOrder_95 rfl rfl ?_
        refine j_callV (c3_keep hG3 (kd := kd) (a := 0) (b := 0) (show 0 ≤ G 6 0 ∧ G 6 0 < 30 by omega)) dX3_readOrder_96 jc_X3_55 jmV_X3_keep rfl rfl hG3.1 rfl rfl (by simp) jfr_nil (Nat.le_of_ble_eq_true rfl) ⟨Nat.le_of_ble_eq_true rfl, Nat.le_of_ble_eq_true rfl⟩ ⟨Nat.le_of_ble_eq_true rfl, Nat.le_of_ble_eq_true rfl⟩ (fun r h60 hp9 => ?_) (fun E h9 q => q.elim)
        obtain ⟨rfl, hG61, hX62⟩ := hp9
        have hE63 := hE4.tr hX62
        show J _ _ _ _ _ _ (iv 1 :: _) _ _ _
        refine j_if_eq (tgt := 106) dX3_readOrder_99 (by decide) (by omega) (fun c64 => absurd c64 (by decide)) (fun c64 => ?_)
        refine j_iconst dX3_readOrder_102 ?_
        refine j_goto (tgt := 107) dX3_readOrder_103 (by decide) ?_
        subst hZ
        exact j_ireturn dX3_readOrder_107 rfl rfl (jWi.i (hq0.symm.trans (i_ord_y (by rw [pOrd_c (hk.trans (by omega)), show kd = 0 by omega]) (by omega))) hG61 hE63) (Nat.le_refl _) (Nat.le_refl _)
      · exact absurd (show sgOf kd = 32 by rw [show kd = 0 by omega]; rfl) c58
  · refine j_iconst dX3_readOrder_10 ?_
    subst hZ
    exact j_ireturn dX3_readOrder_11 rfl rfl (jWi.i (hq0.symm.trans (i_ord_n (pOrd_a (hk.trans (by omega))))) (iRe hG) hE0) (Nat.le_refl _) (Nat.le_refl _)
