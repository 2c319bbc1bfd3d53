/-- how run ends -/
def xRn (K Ks : fS) (P : Int → fS) (X I : fS) (c : Int) (t : Int → Int) (h : jH) : jPn := fun r h' => (pAll (I 0) (I 5 0) 61 0 []).2 = -1 ∧ r = some (iv ((pAll (I 0) (I 5 0) 61 0 []).1.length : Int)) ∧ -1 ≤ (kRuns K (pAll (I 0) (I 5 0) 61 0 []).1).1 ∧ ∃ I' : fS, I' 0 = I 0 ∧ I' 5 0 = 0 ∧ xC (kRuns K (pAll (I 0) (I 5 0) 61 0 []).1).2.2.2 Ks (xP (X 5 0) P K) (gn (gn X 10 (-1)) 5 (xN (X 5 0))) I' c t h' ∧ jEx 0 120 h h'
def xRx (K Ks : fS) (P : Int → fS) (X I : fS) (c : Int) (t : Int → Int) (h : jH) : jPx := fun E h' => ∃ I' : fS, I' 0 = I 0 ∧ I' 5 0 = 0 ∧ jEx 0 120 h h' ∧ (((pAll (I 0) (I 5 0) 61 0 []).2 ≠ -1 ∧ E = "java/lang/IllegalArgumentException" ∧ xC K Ks P (gn X 10 (pAll (I 0) (I 5 0) 61 0 []).2) I' c t h') ∨
  ((pAll (I 0) (I 5 0) 61 0 []).2 = -1 ∧ (((kRuns K (pAll (I 0) (I 5 0) 61 0 []).1).1 = -4 ∧ E = "java/lang/UnsupportedOperationException") ∨ (((kRuns K (pAll (I 0) (I 5 0) 61 0 []).1).1 = -2 ∨ (kRuns K (pAll (I 0) (I 5 0) 61 0 []).1).1 = -3) ∧ E = "java/lang/IllegalArgumentException")) ∧ xC K Ks P (xX (gn X 10 (-1)) (kRuns K (pAll (I 0) (I 5 0) 61 0 []).1)) I' c t h'))
theorem pAll_rg : ∀ (k : Nat) (t : Int → Int) (n a : Int) (acc : List (Int × Int × Int)), 0 ≤ a → a ≤ n → n ≤ 60 → -1 ≤ (pAll t n k a acc).2 ∧ (pAll t n k a acc).2 ≤ 60
  | 0, t, n, a, acc, h0, h1, h2 => by unfold pAll; first | exact ⟨by show (-1 : Int) ≤ _; omega, by show _ ≤ (60 : Int); omega⟩ | (constructor <;> (simp only; omega))
  | k + 1, t, n, a, acc, h0, h1, h2 => by
    have hr := pOrd_rg (t := t) (n := n) h1
    have e : pAll t n (k + 1) a acc = if (pOrd t n a).1 = -1 then (acc, (pOrd t n a).2.2.2)
      else if (pOrd t n a).2.2.2 < n ∧ t (pOrd t n a).2.2.2 = 59 then pAll t n k ((pOrd t n a).2.2.2 + 1) (acc ++ [((pOrd t n a).1, (pOrd t n a).2.1, (pOrd t n a).2.2.1)])
      else (acc ++ [((pOrd t n a).1, (pOrd t n a).2.1, (pOrd t n a).2.2.1)], if (pOrd t n a).2.2.2 < n then (pOrd t n a).2.2.2 else -1) := rfl
    rw [e]
    split
    · exact ⟨by show -1 ≤ (pOrd t n a).2.2.2; omega, by show (pOrd t n a).2.2.2 ≤ 60; omega⟩
    · split
      · exact pAll_rg k t n _ _ (by omega) (by omega) h2
      · show -1 ≤ (if (pOrd t n a).2.2.2 < n then (pOrd t n a).2.2.2 else -1) ∧ (if (pOrd t n a).2.2.2 < n then (pOrd t n a).2.2.2 else -1) ≤ 60
        split <;> omega
set_option maxHeartbeats 8000000 in
theorem x_run {K Ks X I : fS} {P : Int → fS} {c B : Int} {t : Int → Int} {h : jH} (hC : xC K Ks P X I c t h) (hI : kI B K) (hB : B + 31000 ≤ 20000000) (t1 : 0 ≤ I 5 0 ∧ I 5 0 ≤ 60) (t2 : ∀ j, 0 ≤ I 0 j ∧ I 0 j < 65536) : jM mX4_run 10 1 6 [] [.ref 0] h (xRn K Ks P X I c t h) (xRx K Ks P X I c t h) := by
  refine j_method (by decide +kernel) rfl (fun _ _ _ => trivial) (Nat.le_of_ble_eq_true rfl) ?_
  generalize hZ : jZ [] 1 6 _ _ = Z
  show J mX4_run (jR 10 1 6) [] Z 0 [(0, .ref 0)] [] h 0 0
  obtain ⟨hS, ⟨Fb, hb⟩, ⟨hKs, hIn, hW⟩, hPa, hp5⟩ := hC
  have hX := hS.x
  have herr := pAll_rg 61 (I 0) (I 5 0) 0 [] (Int.le_refl _) t1.1 t1.2
  refine j_aload_n dX4_run_0 rfl rfl ?_
  refine j_aload_n dX4_run_1 rfl rfl ?_
  refine j_getfield (v := .ref 28) dX4_run_2 jf_X4_51 hX.1 rfl ?_
  refine j_callV (c3_takeOrders hIn t1 t2) dX4_run_5 jc_X4_232 jmV_X3_takeOrders rfl rfl hIn.1 rfl rfl (by simp) jfr_nil (Nat.le_of_ble_eq_true rfl) ⟨Nat.le_of_ble_eq_true rfl, Nat.le_of_ble_eq_true rfl⟩ ⟨Nat.le_of_ble_eq_true rfl, Nat.le_of_ble_eq_true rfl⟩ (fun r h1 hp9 => ?_) (fun E h9 q => q.elim)
  obtain ⟨rfl, I1, hI1, x1, e0, e5, hor⟩ := hp9
  have hX1 := hX.ex okX x1 (by decide)
  show J mX4_run _ _ _ 8 _ (iv (pAll (I 0) (I 5 0) 61 0 []).2 :: .ref 0 :: []) _ _ _
  refine jo_put (S := sX) dX4_run_8 jf_X4_62 (fun q hq => by cases hq; exact ⟨rfl, rfl⟩) (jHold_int _) okX hX1 rfl (fun h2 hX2 x2 => ?_)
  have hy2 : ∀ j, j ≠ 0 → (j < 28 ∨ 33 ≤ j) → h2 j = h j := fun j j0 j1 => (x2 j (.inr (by show 0 + 1 ≤ j; omega))).trans (x1 j (by omega))
  have hS2 : xS (gn X 10 (pAll (I 0) (I 5 0) 61 0 []).2) K h2 := (hS.ex x1 (by decide)).x2 hX2 x2
  have hI2 : jOb sI 28 I1 h2 := hI1.ex okI x2 (.inr (by decide))
  have hb2 : jOb sF 14 Fb h2 := hb.eq okF fun j j0 j1 => hy2 j (by omega) (by have j1 : j < 14 + 7 := j1; omega)
  have hKs2 := hKs.eq fun j j0 j1 => hy2 j (by omega) (by omega)
  have hW2 := hW.eq fun j j0 j1 => hy2 j (by omega) (by omega)
  have hPa2 := hPa.eq (fun j j0 _ => hy2 j (by omega) (by omega)) hp5.2
  have hT2 : xOt Ks I1 c t h2 := ⟨hKs2, hI2, hW2⟩
  have hex2 : ∀ j, 120 ≤ j → h2 j = h j := fun j j0 => hy2 j (by omega) (by omega)
  refine j_aload_n dX4_run_11 rfl rfl ?_
  refine j_getfield (v := iv (pAll (I 0) (I 5 0) 61 0 []).2) dX4_run_12 jf_X4_62 hX2.1 rfl ?_
  refine j_iconst dX4_run_15 ?_
  refine j_icmp_eq (tgt := 29) dX4_run_16 (by decide) (by omega) (fun c9 => ?_) (fun c9 => ?_)
  rotate_left
  · subst hZ
    exact j_throwY jth_117_235_121 rfl dX4_run_19 dX4_run_22 dX4_run_23 dX4_run_25 dX4_run_28 (by decide) (by decide) ⟨I1, e0, e5, jEx.of hex2, .inl ⟨c9, rfl, hS2, ⟨Fb, hb2⟩, hT2, hPa2, hp5⟩⟩ (by decide) (by decide)
  obtain ⟨hor, hlen⟩ := hor c9
  rw [c9] at hS2
  generalize hacc : (pAll (I 0) (I 5 0) 61 0 []).1 = acc at hor hlen
  have hlen0 := hor.1
  refine j_aload_n dX4_run_29 rfl rfl ?_
  refine j_callV (x_begin hS2 hb2 hI.1) dX4_run_30 jc_X4_71 jmV_X4_begin rfl rfl hX2.1 rfl rfl (by simp) jfr_nil (Nat.le_of_ble_eq_true rfl) ⟨Nat.le_of_ble_eq_true rfl, Nat.le_of_ble_eq_true rfl⟩ ⟨Nat.le_of_ble_eq_true rfl, Nat.le_of_ble_eq_true rfl⟩ (fun r h3 hp9 => ?_) (fun E h9 q => q.elim)
  obtain ⟨rfl, hb3, x3⟩ := hp9
  have hS3 := hS2.ex x3 (by decide)
  have hI3 := hI2.ex okI x3 (.inr (by decide))
  refine j_iconst dX4_run_33 ?_
  refine j_istore_n (L' := [(0, _), (1, _)]) dX4_run_34 rfl (by decide) rfl ?_
  refine j_iconst dX4_run_35 ?_
  refine j_istore_n (L' := [(0, _), (1, _), (2, _)]) dX4_run_36 rfl (by decide) rfl ?_
  refine jloop (P := fun z9 : Int × Int × fS × fS => ∀ h4 : jH, xS z9.2.2.2 z9.2.2.1 h4 → (∀ j, 14 ≤ j → h4 j = h3 j) → J mX4_run (jR 10 1 6) [] Z 37 [(0, .ref 0), (1, iv z9.2.1), (2, iv z9.1)] [] h4 0 0)
    (fun z9 => (0 ≤ z9.1 ∧ z9.1 ≤ (acc.length : Int)) ∧ ((-1 ≤ z9.2.1 ∧ z9.2.1 ≤ 21000000 ∧ kRuns K acc = kRuns z9.2.2.1 (acc.drop z9.1.toNat) ∧ z9.2.2.2 = gn X 10 (-1) ∧ kI (B + 1000 * z9.1) z9.2.2.1) ∨ ((z9.2.1 = -2 ∨ z9.2.1 = -3 ∨ z9.2.1 = -4) ∧ (kRuns K acc).1 = z9.2.1 ∧ z9.2.2.2 = xX (gn X 10 (-1)) (kRuns K acc)))) (fun z9 => ((acc.length : Int) - z9.1).toNat) ?_ (0, 0, K, gn X 10 (-1)) ?_ h3 hS3 (fun _ _ => rfl)
  rotate_left
  · exact ⟨⟨Int.le_refl _, by show (0 : Int) ≤ _; omega⟩, .inl ⟨by show (-1 : Int) ≤ 0; decide, by show (0 : Int) ≤ 21000000; decide, rfl, rfl, by rw [Int.mul_zero, Int.add_zero]; exact hI⟩⟩
  rintro ⟨i, an, K1, X1⟩ hinv ih
  dsimp only at hinv ih ⊢
  intro h4 hS4 hy4
  obtain ⟨⟨i1, i2⟩, hinv⟩ := hinv
  have hX4 := hS4.x
  have hI4 : jOb sI 28 I1 h4 := hI3.eq okI fun j j0 _ => hy4 j (by omega)
  have anr : -4 ≤ an ∧ an ≤ 21000000 := by rcases hinv with q | q <;> omega
  have hend : (i = (acc.length : Int) ∨ an < -1) → J mX4_run (jR 10 1 6) [] Z 88 [(0, .ref 0), (1, iv an), (2, iv i)] [] h4 0 0 := by
    intro hdone
    have hb4 := hb3.eq fun j j0 _ => hy4 j j0
    have hI4' : ∀ j, 21 ≤ j → h4 j = h2 j := fun j j0 => (hy4 j (by omega)).trans (x3 j (.inr (by omega)))
    refine j_iload_n dX4_run_88 rfl rfl ?_
    refine j_iconst dX4_run_89 ?_
    refine j_icmp_ge (tgt := 101) dX4_run_90 (by decide) (by omega) (fun c1 => ?_) (fun c1 => ?_)
    · rcases hinv with ⟨q1, q2, q3, q4, q5⟩ | ⟨q1, _⟩
      rotate_left
      · exfalso; omega
      have hi : i = (acc.length : Int) := by omega
      have hd : acc.drop i.toNat = [] := List.drop_eq_nil_of_le (by omega)
      rw [hd] at q3
      have q3 : kRuns K acc = (0, 0, 0, K1) := q3
      subst q4
      have hPa4 := hPa2.eq (fun j j0 _ => hI4' j (by omega)) hp5.2
      refine j_iload_n dX4_run_101 rfl rfl ?_
      refine j_bipush dX4_run_102 (by decide +kernel) ?_
      refine j_icmp_ne (tgt := 117) dX4_run_104 (by decide) (by omega) (fun c2 => ?_) (fun c2 => False.elim (by omega))
      refine j_iload_n dX4_run_117 rfl rfl ?_
      refine j_iconst dX4_run_118 ?_
      refine j_icmp_ge (tgt := 133) dX4_run_119 (by decide) (by omega) (fun c3 => ?_) (fun c3 => False.elim (by omega))
      refine j_aload_n dX4_run_133 rfl rfl ?_
      refine j_callV (x_keepBefore hX4 (show 0 ≤ gn X 10 (-1) 5 0 ∧ gn X 10 (-1) 5 0 ≤ 8 from hp5) (show xPa (gn X 10 (-1) 5 0) P h4 from hPa4) hb4 hI.1) dX4_run_134 jc_X4_260 jmV_X4_keepBefore rfl rfl hX4.1 rfl rfl (by simp) jfr_nil (Nat.le_of_ble_eq_true rfl) ⟨Nat.le_of_ble_eq_true rfl, Nat.le_of_ble_eq_true rfl⟩ ⟨Nat.le_of_ble_eq_true rfl, Nat.le_of_ble_eq_true rfl⟩ (fun r h5 hp9 => ?_) (fun E h9 q => q.elim)
      obtain ⟨rfl, w1, w2, w3⟩ := hp9
      have hI5 : jOb sI 28 I1 h5 := hI4.ey okI w3 (.inl ⟨by decide, by decide⟩)
      refine j_aload_n dX4_run_137 rfl rfl ?_
      refine j_getfield (v := .ref 28) dX4_run_138 jf_X4_51 w1.1 rfl ?_
      refine j_getfield (v := iv (I1 6 0)) dX4_run_141 jf_X4_237 hI5.1 rfl ?_
      have hex5 : ∀ j, 120 ≤ j → h5 j = h j := fun j j0 => (w3 j (.inr (by omega))).trans ((hI4' j (by omega)).trans (hex2 j j0))
      subst hZ
      refine j_ireturn dX4_run_144 rfl rfl ?_ (Nat.le_of_ble_eq_true rfl) (Nat.le_of_ble_eq_true rfl)
      refine ⟨c9, by rw [hacc, hlen0], by rw [hacc, q3]; show (-1 : Int) ≤ 0; decide, I1, e0, e5, ?_, jEx.of hex5⟩
      rw [hacc, q3]
      refine ⟨hS4.ey w3 w1, ?_, ⟨hKs2.eq fun j j0 j1 => (w3 j (.inl (by omega))).trans (hI4' j (by omega)), hI5, hW2.eq fun j j0 j1 => (w3 j (.inl (by omega))).trans (hI4' j (by omega))⟩, w2, xN_r hp5⟩
      obtain ⟨x9, y9, _, g9⟩ := hb4
      exact ⟨_, g9.ey okF w3 (.inl ⟨by decide, by decide⟩)⟩
    · rcases hinv with ⟨q1, _⟩ | ⟨q1, q2, q3⟩
      · exfalso; omega
      subst q3
      refine j_aload_n dX4_run_93 rfl rfl ?_
      refine j_aload_n dX4_run_94 rfl rfl ?_
      refine j_getfield (v := .ref 14) dX4_run_95 jf_X4_16 hX4.1 rfl ?_
      refine j_callV (x_goBackTo hS4 hb4 (by decide) hI.1) dX4_run_98 jc_X4_249 jmV_X4_goBackTo rfl rfl hX4.1 rfl rfl (by simp) jfr_nil (Nat.le_of_ble_eq_true rfl) ⟨Nat.le_of_ble_eq_true rfl, Nat.le_of_ble_eq_true rfl⟩ ⟨Nat.le_of_ble_eq_true rfl, Nat.le_of_ble_eq_true rfl⟩ (fun r h5 hp9 => ?_) (fun E h9 q => q.elim)
      obtain ⟨rfl, hS5, x5⟩ := hp9
      have hy5 : ∀ j, 21 ≤ j → h5 j = h2 j := fun j j0 => (x5 j (.inr (by omega))).trans (hI4' j j0)
      have hC5 : xC K Ks P (xX (gn X 10 (-1)) (kRuns K acc)) I1 c t h5 := by
        refine ⟨hS5, ?_, hT2.eq fun j j0 _ => hy5 j j0, ?_, ?_⟩
        · obtain ⟨x9, y9, _, g9⟩ := hb4
          exact ⟨_, g9.eq okF fun j j0 _ => x5 j (.inr (by omega))⟩
        · rw [xX_5]; exact hPa2.eq (fun j j0 _ => hy5 j (by omega)) hp5.2
        · rw [xX_5]; exact hp5
      have hex5 : ∀ j, 120 ≤ j → h5 j = h j := fun j j0 => (hy5 j (by omega)).trans (hex2 j j0)
      refine j_iload_n dX4_run_101 rfl rfl ?_
      refine j_bipush dX4_run_102 (by decide +kernel) ?_
      refine j_icmp_ne (tgt := 117) dX4_run_104 (by decide) (by omega) (fun c2 => ?_) (fun c2 => ?_)
      · refine j_iload_n dX4_run_117 rfl rfl ?_
        refine j_iconst dX4_run_118 ?_
        refine j_icmp_ge (tgt := 133) dX4_run_119 (by decide) (by omega) (fun c3 => False.elim (by omega)) (fun c3 => ?_)
        subst hZ
        exact j_throwYW jth_117_258_121 rfl dX4_run_122 dX4_run_125 dX4_run_126 dX4_run_129 dX4_run_132 (by decide) (by decide) ⟨I1, e0, e5, jEx.of hex5, .inr ⟨c9, .inr ⟨by rw [hacc, q2]; omega, rfl⟩, by rw [hacc]; exact hC5⟩⟩ (by decide) (by decide)
      · subst hZ
        exact j_throwY jth_253_255_257 rfl dX4_run_107 dX4_run_110 dX4_run_111 dX4_run_113 dX4_run_116 (by decide) (by decide) ⟨I1, e0, e5, jEx.of hex5, .inr ⟨c9, .inl ⟨by rw [hacc, q2]; omega, rfl⟩, by rw [hacc]; exact hC5⟩⟩ (by decide) (by decide)
  refine j_iload_n dX4_run_37 rfl rfl ?_
  refine j_aload_n dX4_run_38 rfl rfl ?_
  refine j_getfield (v := .ref 28) dX4_run_39 jf_X4_51 hX4.1 rfl ?_
  refine j_getfield (v := iv (I1 6 0)) dX4_run_42 jf_X4_237 hI4.1 rfl ?_
  refine j_icmp_ge (tgt := 88) dX4_run_45 (by decide) (by omega) (fun c1 => hend (.inl (by omega))) (fun c1 => ?_)
  refine j_iload_n dX4_run_48 rfl rfl ?_
  refine j_iconst dX4_run_49 ?_
  refine j_icmp_lt (tgt := 88) dX4_run_50 (by decide) (by omega) (fun c2 => hend (.inr c2)) (fun c2 => ?_)
  rcases hinv with ⟨q1, q2, q3, q4, q5⟩ | ⟨q1, _⟩
  rotate_left
  · exfalso; omega
  subst q4
  have hz := List.getElem?_eq_getElem (l := acc) (i := i.toNat) (by omega)
  obtain ⟨z1, z2, z3, z4, z5, z6, z7⟩ := hor.2 i.toNat _ hz
  rw [show ((i.toNat : Nat) : Int) = i by omega] at z1 z2 z3
  have hdr : acc.drop i.toNat = acc[i.toNat] :: acc.drop (i.toNat + 1) := List.drop_eq_getElem_cons (by omega)
  generalize acc[i.toNat]'(by omega) = z at hz z1 z2 z3 z4 z5 z6 z7 hdr
  refine j_aload_n dX4_run_53 rfl rfl ?_
  refine j_aload_n dX4_run_54 rfl rfl ?_
  refine j_getfield (v := .ref 28) dX4_run_55 jf_X4_51 hX4.1 rfl ?_
  refine j_iload_n dX4_run_58 rfl rfl ?_
  refine j_callV (c3_kindAt hI4 (p := i) (by omega)) dX4_run_59 jc_X4_240 jmV_X3_kindAt rfl rfl hI4.1 rfl rfl (by simp) jfr_nil (Nat.le_of_ble_eq_true rfl) ⟨Nat.le_of_ble_eq_true rfl, Nat.le_of_ble_eq_true rfl⟩ ⟨Nat.le_of_ble_eq_true rfl, Nat.le_of_ble_eq_true rfl⟩ (fun r h5 hp9 => ?_) (fun E h9 q => q.elim)
  obtain ⟨rfl, rfl⟩ := hp9
  refine j_aload_n dX4_run_62 rfl rfl ?_
  refine j_getfield (v := .ref 28) dX4_run_63 jf_X4_51 hX4.1 rfl ?_
  refine j_iload_n dX4_run_66 rfl rfl ?_
  refine j_callV (c3_firstAt hI4 (p := i) (by omega)) dX4_run_67 jc_X4_243 jmV_X3_firstAt rfl rfl hI4.1 rfl rfl (by simp) jfr_nil (Nat.le_of_ble_eq_true rfl) ⟨Nat.le_of_ble_eq_true rfl, Nat.le_of_ble_eq_true rfl⟩ ⟨Nat.le_of_ble_eq_true rfl, Nat.le_of_ble_eq_true rfl⟩ (fun r h5 hp9 => ?_) (fun E h9 q => q.elim)
  obtain ⟨rfl, rfl⟩ := hp9
  refine j_aload_n dX4_run_70 rfl rfl ?_
  refine j_getfield (v := .ref 28) dX4_run_71 jf_X4_51 hX4.1 rfl ?_
  refine j_iload_n dX4_run_74 rfl rfl ?_
  refine j_callV (c3_secondAt hI4 (p := i) (by omega)) dX4_run_75 jc_X4_246 jmV_X3_secondAt rfl rfl hI4.1 rfl rfl (by simp) jfr_nil (Nat.le_of_ble_eq_true rfl) ⟨Nat.le_of_ble_eq_true rfl, Nat.le_of_ble_eq_true rfl⟩ ⟨Nat.le_of_ble_eq_true rfl, Nat.le_of_ble_eq_true rfl⟩ (fun r h5 hp9 => ?_) (fun E h9 q => q.elim)
  obtain ⟨rfl, rfl⟩ := hp9
  rw [z1, z2, z3]
  have hlen2 : (acc.length : Int) ≤ 30 := by omega
  refine j_callV (x_attempt hS4 q5 (by omega) (kd := z.1) (u := z.2.1) (v := z.2.2) ⟨z4, z5⟩ (by omega) (by omega)) dX4_run_78 jc_X4_74 jmV_X4_attempt rfl rfl hX4.1 rfl rfl (by simp) jfr_nil (Nat.le_of_ble_eq_true rfl) ⟨Nat.le_of_ble_eq_true rfl, Nat.le_of_ble_eq_true rfl⟩ ⟨Nat.le_of_ble_eq_true rfl, Nat.le_of_ble_eq_true rfl⟩ (fun r h5 hp9 => ?_) (fun E h9 q => q.elim)
  obtain ⟨rfl, hS5, x5⟩ := hp9
  have hc := kTry_c q5 z.1 z.2.1 z.2.2
  have hIt := kI_try q5 (by omega) z.1 z.2.1 z.2.2
  show J mX4_run _ _ _ 81 _ (iv (kTry K1 z.1 z.2.1 z.2.2).1 :: []) _ _ _
  refine j_istore_n (L' := [(0, _), (1, _), (2, _)]) dX4_run_81 rfl (by decide) rfl ?_
  refine j_iinc (L' := [(0, _), (1, _), (2, _)]) dX4_run_82 rfl (by decide) rfl ?_
  refine j_goto (tgt := 37) dX4_run_85 (by decide) ?_
  rw [hdr] at q3
  refine ih (i + 1, (kTry K1 z.1 z.2.1 z.2.2).1, (kTry K1 z.1 z.2.1 z.2.2).2.2.2, xX (gn X 10 (-1)) (kTry K1 z.1 z.2.1 z.2.2)) ⟨⟨by show 0 ≤ i + 1; omega, by show i + 1 ≤ _; omega⟩, ?_⟩ (by show ((acc.length : Int) - (i + 1)).toNat < ((acc.length : Int) - i).toNat; omega) h5 hS5 (fun j j0 => (x5 j (.inr (by omega))).trans (hy4 j j0))
  rcases hc with c5 | ⟨c5, c6⟩
  · refine .inl ⟨c5.1, c5.2, ?_, if_neg (show ¬ (kTry K1 z.1 z.2.1 z.2.2).1 = -4 by omega), ?_⟩
    · show kRuns K acc = kRuns _ (acc.drop (i + 1).toNat)
      rw [q3, kRuns_y (by omega), show (i + 1).toNat = i.toNat + 1 by omega]
    · show kI (B + 1000 * (i + 1)) _
      rw [show B + 1000 * (i + 1) = B + 1000 * i + 1000 by omega]
      exact hIt
  · have e7 : kRuns K acc = kTry K1 z.1 z.2.1 z.2.2 := by rw [q3, kRuns_n (by omega)]
    exact .inr ⟨c5, by rw [e7], by rw [e7]⟩
