/-- the line is l -/
def jSL (l : List Int) (h : jH) : Prop := jSB 33 (l.length : Int) (fun j => (l[j.toNat]?).getD 0) h
theorem jSL_1 {l : List Int} {ch : Int} {h : jH} {f : Int → Int} (w : jSB 33 ((l.length : Int) + 1) (jfu f (l.length : Int) ch) h) (e : ∀ j, 0 ≤ j → j < (l.length : Int) → f j = (l[j.toNat]?).getD 0) : jSL (l ++ [ch]) h := by
  have e2 : ((l ++ [ch]).length : Int) = l.length + 1 := by rw [List.length_append]; rfl
  unfold jSL
  rw [e2]
  refine w.cg fun j j0 j1 => ?_
  by_cases hj : j = (l.length : Int)
  · rw [hj, jfu_s, Int.toNat_natCast, List.getElem?_append_right (Nat.le_refl _), Nat.sub_self]
    rfl
  · rw [jfu_n hj, e j j0 (by omega), List.getElem?_append_left (by omega)]
theorem jSL_n {l : List Int} {v : Int} {h : jH} {f : Int → Int} (hv : 0 ≤ v ∧ v ≤ 20000000) (w : jSB 33 ((l.length : Int) + dl v) f h) (e : ∀ j, 0 ≤ j → j < (l.length : Int) → f j = (l[j.toNat]?).getD 0) (e2 : ∀ j : Nat, (j : Int) < dl v → f ((l.length : Int) + dl v - 1 - j) = dgt v j) : jSL (l ++ dgs 7 v) h := by
  have hr := dl_r v
  obtain ⟨d1, d2⟩ := dgs_e 7 v hv.1 hv.2 (by omega)
  have e3 : ((l ++ dgs 7 v).length : Int) = l.length + dl v := by rw [List.length_append]; omega
  unfold jSL
  rw [e3]
  refine w.cg fun j j0 j1 => ?_
  by_cases hj : j < (l.length : Int)
  · rw [e j j0 hj, List.getElem?_append_left (by omega)]
  · rw [List.getElem?_append_right (by omega), d2 (j.toNat - l.length) (by omega)]
    have := e2 ((dl v).toNat - 1 - (j.toNat - l.length)) (by omega)
    rw [show (l.length : Int) + dl v - 1 - (((dl v).toNat - 1 - (j.toNat - l.length) : Nat) : Int) = j by omega] at this
    exact this
set_option maxHeartbeats 2000000 in
theorem x_writePart {X : fS} {l : List Int} {h : jH} (hX : jOb sX 0 X h) (hL : jSL l h) {ch v : Int} (hc : 0 ≤ ch ∧ ch < 128) (hv : 0 ≤ v ∧ v ≤ 20000000) (hl : (l.length : Int) + 1 + dl v ≤ 34) : jM mX4_writePart 7 2 68 [35] [.ref 0, iv ch, iv v] h (fun r h' => r = none ∧ jSL (l ++ [ch] ++ dgs 7 v) h' ∧ jEx 33 3 h h') jno := by
  refine j_method (by decide +kernel) rfl (fun _ _ _ => trivial) (Nat.le_of_ble_eq_true rfl) ?_
  generalize hZ : jZ [35] 2 68 _ _ = Z
  show J mX4_writePart (jR 7 2 68) [35] Z 0 [(0, .ref 0), (1, iv ch), (2, iv v)] [] h 0 0
  have hr := dl_r v
  obtain ⟨p, n, G, a1, a2, a3, a4, a5, a6, a7⟩ := hL
  refine j_aload_n dX4_writePart_0 rfl rfl ?_
  refine j_getfield (v := .ref 33) dX4_writePart_1 jf_X4_58 hX.1 rfl ?_
  refine j_iload_n dX4_writePart_4 rfl rfl ?_
  refine j_callV (cb4_append a1 a2 a3 a6 hc (by omega)) dX4_writePart_5 jc_X4_207 jmV_J4_append_cf468 rfl rfl a2.1 rfl rfl (fun _ z => z) (jfr_1 (by simp [iv]) (by simp [iv])) (Nat.le_of_ble_eq_true rfl) ⟨Nat.le_of_ble_eq_true rfl, Nat.le_of_ble_eq_true rfl⟩ ⟨Nat.le_of_ble_eq_true rfl, Nat.le_of_ble_eq_true rfl⟩ (fun r h1 hp9 => ?_) (fun E h9 q => q.elim)
  obtain ⟨rfl, w1, x1⟩ := hp9
  rw [a4] at w1
  have hL1 : jSL (l ++ [ch]) h1 := jSL_1 w1 a5
  have hX1 := hX.ex okX x1 (by decide)
  have el : ((l ++ [ch]).length : Int) = l.length + 1 := by rw [List.length_append]; rfl
  show J mX4_writePart _ _ _ 8 _ (.ref 33 :: []) _ _ _
  refine j_pop dX4_writePart_8 rfl ?_
  have hL1' := hL1
  obtain ⟨p2, n2, G2, b1, b2, b3, b4, b5, b6, b7⟩ := hL1'
  refine j_aload_n dX4_writePart_9 rfl rfl ?_
  refine j_getfield (v := .ref 33) dX4_writePart_10 jf_X4_58 hX1.1 rfl ?_
  refine j_iload_n dX4_writePart_13 rfl rfl ?_
  refine j_callV (cb4_appendInt b1 b2 b3 b6 hv (by omega)) dX4_writePart_14 jc_X4_413 jmV_J4_append_bf812 rfl rfl b2.1 rfl rfl (fun _ z => z) (jfr_1 (by simp [iv]) (by simp [iv])) (Nat.le_of_ble_eq_true rfl) ⟨Nat.le_of_ble_eq_true rfl, Nat.le_of_ble_eq_true rfl⟩ ⟨Nat.le_of_ble_eq_true rfl, Nat.le_of_ble_eq_true rfl⟩ (fun r h2 hp9 => ?_) (fun E h9 q => q.elim)
  obtain ⟨rfl, f, f1, f2, w2, x2⟩ := hp9
  rw [b4] at w2 f1 f2
  have hL2 : jSL (l ++ [ch] ++ dgs 7 v) h2 := jSL_n hv w2 (fun j j0 j1 => (f1 j j0 j1).trans (b5 j j0 j1)) f2
  show J mX4_writePart _ _ _ 17 _ (.ref 33 :: []) _ _ _
  refine j_pop dX4_writePart_17 rfl ?_
  subst hZ
  exact j_return dX4_writePart_18 rfl ⟨rfl, hL2, x1.tr x2⟩ (Nat.le_refl _) (Nat.le_refl _)
/-- the line of p -/
def kLine (K : fS) (p : Int) : List Int := [35] ++ dgs 7 p ++ (if K 0 p = -1 then [] else [60] ++ dgs 7 (K 0 p)) ++ (if K 1 p = -1 then [] else [43] ++ dgs 7 (K 1 p)) ++ (if K 2 p = 0 then [] else [61] ++ dgs 7 (K 2 p)) ++ (if K 3 p = 0 then [120] else [])
theorem dl_24 {v : Int} (h : v < 24) : dl v ≤ 2 := by
  unfold dl
  repeat' split
  all_goals omega
theorem dgs_len2 {v : Int} (h : 0 ≤ v ∧ v < 24) : (dgs 7 v).length ≤ 2 := by
  have := (dgs_e 7 v h.1 (by omega) (by have := dl_r v; omega)).1
  have := dl_24 h.2
  omega
theorem dgs_len8 {v : Int} : (dgs 7 v).length ≤ 8 := dgs_len 7 v
set_option maxHeartbeats 4000000 in
/-- FamilyOaks.line -/
theorem x_line {K Ks X I : fS} {P : Int → fS} {c B : Int} {t : Int → Int} {h : jH} (hC : xC K Ks P X I c t h) (hI : kI B K) {p : Int} (hp : -2147483648 ≤ p ∧ p ≤ 2147483647) : jM mX4_line 9 11 346 [35] [.ref 0, iv p] h (fun r h' => r = some (iv ((kLine K p).length : Int)) ∧ (0 ≤ p ∧ p < K 6 0) ∧ jSL (kLine K p) h' ∧ jEx 33 3 h h') (fun E h' => E = "java/lang/IndexOutOfBoundsException" ∧ h = h' ∧ ¬ (0 ≤ p ∧ p < K 6 0)) := by
  refine j_method (by decide +kernel) rfl (fun _ _ _ => trivial) (Nat.le_of_ble_eq_true rfl) ?_
  generalize hZ : jZ [35] 11 346 _ _ = Z
  show J mX4_line (jR 9 11 346) [35] Z 0 [(0, .ref 0), (1, iv p)] [] h 0 0
  obtain ⟨hS, ⟨Fb, hb⟩, ⟨hKs, hIn, hW⟩, hPa, hp5⟩ := hC
  obtain ⟨a, b, E, H, hX, hF, hL, hG, hq, hE9, hH⟩ := hS
  have hO := hI.1
  have hA := hI.2.1
  have hn := hO.n
  have hqn := hO.q
  obtain ⟨p9, n9, G9, a1, a2, a3, a4, a5, a6, a7⟩ := hW
  have z0 := hO.p p
  have z1 := hO.s p
  have z2 := hO.c p
  have zb := hO.b
  refine j_aload_n dX4_line_0 rfl rfl ?_
  refine j_iload_n dX4_line_1 rfl rfl ?_
  refine j_callV (x_needPerson hX hF hq hO (p := p) (by omega)) dX4_line_2 jc_X4_82 jmV_X4_needPerson rfl rfl hX.1 rfl rfl (by simp) jfr_nil (Nat.le_of_ble_eq_true rfl) ⟨Nat.le_of_ble_eq_true rfl, Nat.le_of_ble_eq_true rfl⟩ ⟨Nat.le_of_ble_eq_true rfl, Nat.le_of_ble_eq_true rfl⟩ (fun r h1 hp9 => ?_) (fun E9 h9 q9 => by obtain ⟨rfl, rfl, q9⟩ := q9; subst hZ; exact j_out rfl ⟨rfl, rfl, q9⟩ (by decide) (by decide))
  obtain ⟨rfl, rfl, qp2⟩ := hp9
  have y0 : (dgs 7 p).length ≤ 2 := dgs_len2 (by omega)
  have y1 : (dgs 7 (K 0 p)).length ≤ 8 ∧ (0 ≤ K 0 p → (dgs 7 (K 0 p)).length ≤ 2) := ⟨dgs_len8, fun z => dgs_len2 (by omega)⟩
  have y2 : (dgs 7 (K 1 p)).length ≤ 8 ∧ (0 ≤ K 1 p → (dgs 7 (K 1 p)).length ≤ 2) := ⟨dgs_len8, fun z => dgs_len2 (by omega)⟩
  have y3 : (dgs 7 (K 2 p)).length ≤ 8 := dgs_len8
  refine j_aload_n dX4_line_5 rfl rfl ?_
  refine j_getfield (v := .ref 33) dX4_line_6 jf_X4_58 hX.1 rfl ?_
  refine j_iconst dX4_line_9 ?_
  refine j_callV (cb4_setLength a1 a2 a3 a6 (by have := a1.o; omega)) dX4_line_10 jc_X4_200 jmV_J4_setLength_d00df rfl rfl a2.1 rfl rfl (fun _ z => z) (jfr_1 (by simp [iv]) (by simp [iv])) (Nat.le_of_ble_eq_true rfl) ⟨Nat.le_of_ble_eq_true rfl, Nat.le_of_ble_eq_true rfl⟩ ⟨Nat.le_of_ble_eq_true rfl, Nat.le_of_ble_eq_true rfl⟩ (fun r h2 hp9 => ?_) (fun E h9 q => q.elim)
  obtain ⟨rfl, hL0, hX3⟩ := hp9
  have hL1 : jSL [] h2 := hL0 _
  have hG4 := hX.ex okX hX3 (by decide)
  have hG5 := hF.ex okF hX3 (by decide)
  have hG6 := hL.ex okE hX3 (by decide)
  have hG7 := hG.ex okH hX3 (by decide)
  have hE8 : jEx 33 3 h h2 := hX3
  refine j_aload_n dX4_line_13 rfl rfl ?_
  refine j_bipush dX4_line_14 (by decide +kernel) ?_
  refine j_iload_n dX4_line_16 rfl rfl ?_
  refine j_callV (x_writePart hG4 hL1 (ch := 35) (v := p) (by decide) (by omega) (by have zz := dl_r (p); simp only [List.length_append, List.length_cons, List.length_nil]; first | (have z24 := dl_24 (v := p) (by omega); omega) | omega)) dX4_line_17 jc_X4_203 jmV_X4_writePart rfl rfl hG4.1 rfl rfl (fun _ z => z) (jfr_1 (by simp [iv]) (by simp [iv])) (Nat.le_of_ble_eq_true rfl) ⟨Nat.le_of_ble_eq_true rfl, Nat.le_of_ble_eq_true rfl⟩ ⟨Nat.le_of_ble_eq_true rfl, Nat.le_of_ble_eq_true rfl⟩ (fun r h9 hp9 => ?_) (fun E h9 q => q.elim)
  obtain ⟨rfl, hL10, hX11⟩ := hp9
  have hG12 := hG4.ex okX hX11 (by decide)
  have hG13 := hG5.ex okF hX11 (by decide)
  have hG14 := hG6.ex okE hX11 (by decide)
  have hG15 := hG7.ex okH hX11 (by decide)
  have hE16 : jEx 33 3 h h9 := hE8.tr hX11
  refine j_aload_n dX4_line_20 rfl rfl ?_
  refine j_getfield (v := .ref 1) dX4_line_21 jf_X4_10 hG12.1 rfl ?_
  refine j_iload_n dX4_line_24 rfl rfl ?_
  refine j_callV (k_parentOf hG13 hq hO  (by omega)) dX4_line_25 jc_X4_86 jmV_X1_parentOf rfl rfl hG13.1 rfl rfl (by simp) jfr_nil (Nat.le_of_ble_eq_true rfl) ⟨Nat.le_of_ble_eq_true rfl, Nat.le_of_ble_eq_true rfl⟩ ⟨Nat.le_of_ble_eq_true rfl, Nat.le_of_ble_eq_true rfl⟩ (fun r h17 hp9 => ?_) (fun E h9 q => q.elim)
  obtain ⟨rfl, rfl⟩ := hp9
  have zp := hO.p p
  refine j_iconst dX4_line_28 ?_
  refine j_icmp_eq (tgt := 46) dX4_line_29 (by decide) (by omega) (fun c18 => ?_) (fun c18 => ?_)
  · refine j_aload_n dX4_line_46 rfl rfl ?_
    refine j_getfield (v := .ref 1) dX4_line_47 jf_X4_10 hG12.1 rfl ?_
    refine j_iload_n dX4_line_50 rfl rfl ?_
    refine j_callV (k_spouseOf hG13 hq hO  (by omega)) dX4_line_51 jc_X4_98 jmV_X1_spouseOf rfl rfl hG13.1 rfl rfl (by simp) jfr_nil (Nat.le_of_ble_eq_true rfl) ⟨Nat.le_of_ble_eq_true rfl, Nat.le_of_ble_eq_true rfl⟩ ⟨Nat.le_of_ble_eq_true rfl, Nat.le_of_ble_eq_true rfl⟩ (fun r h19 hp9 => ?_) (fun E h9 q => q.elim)
    obtain ⟨rfl, rfl⟩ := hp9
    have zs := hO.s p
    refine j_iconst dX4_line_54 ?_
    refine j_icmp_eq (tgt := 72) dX4_line_55 (by decide) (by omega) (fun c20 => ?_) (fun c20 => ?_)
    · refine j_aload_n dX4_line_72 rfl rfl ?_
      refine j_getfield (v := .ref 1) dX4_line_73 jf_X4_10 hG12.1 rfl ?_
      refine j_iload_n dX4_line_76 rfl rfl ?_
      refine j_callV (k_coinsOf hG13 hq hO  (by omega)) dX4_line_77 jc_X4_101 jmV_X1_coinsOf rfl rfl hG13.1 rfl rfl (by simp) jfr_nil (Nat.le_of_ble_eq_true rfl) ⟨Nat.le_of_ble_eq_true rfl, Nat.le_of_ble_eq_true rfl⟩ ⟨Nat.le_of_ble_eq_true rfl, Nat.le_of_ble_eq_true rfl⟩ (fun r h21 hp9 => ?_) (fun E h9 q => q.elim)
      obtain ⟨rfl, rfl⟩ := hp9
      have zc := hO.c p
      refine j_if_eq (tgt := 97) dX4_line_80 (by decide) (by omega) (fun c22 => ?_) (fun c22 => ?_)
      · refine j_aload_n dX4_line_97 rfl rfl ?_
        refine j_getfield (v := .ref 1) dX4_line_98 jf_X4_10 hG12.1 rfl ?_
        refine j_iload_n dX4_line_101 rfl rfl ?_
        refine j_callV (k_lives hG13 hq hO  (by omega)) dX4_line_102 jc_X4_104 jmV_X1_lives rfl rfl hG13.1 rfl rfl (by simp) jfr_nil (Nat.le_of_ble_eq_true rfl) ⟨Nat.le_of_ble_eq_true rfl, Nat.le_of_ble_eq_true rfl⟩ ⟨Nat.le_of_ble_eq_true rfl, Nat.le_of_ble_eq_true rfl⟩ (fun r h23 hp9 => ?_) (fun E h9 q => q.elim)
        obtain ⟨rfl, rfl⟩ := hp9
        have zl := hO.l p
        refine j_if_ne (tgt := 118) dX4_line_105 (by decide) (by omega) (fun c24 => ?_) (fun c24 => ?_)
        · refine j_aload_n dX4_line_118 rfl rfl ?_
          refine j_getfield (v := .ref 33) dX4_line_119 jf_X4_58 hG12.1 rfl ?_
          have u26 := hL10
          obtain ⟨p6, n6, G6, e1, e2, e3, e4, e5, e6, e7⟩ := u26
          refine j_callV (cb4_length e2) dX4_line_122 jc_X4_211 jmV_J4_length_8abf5 rfl rfl e2.1 rfl rfl (by simp) jfr_nil (Nat.le_of_ble_eq_true rfl) ⟨Nat.le_of_ble_eq_true rfl, Nat.le_of_ble_eq_true rfl⟩ ⟨Nat.le_of_ble_eq_true rfl, Nat.le_of_ble_eq_true rfl⟩ (fun r h25 hp9 => ?_) (fun E h9 q => q.elim)
          obtain ⟨rfl, rfl⟩ := hp9
          subst hZ
          exact j_ireturn dX4_line_125 rfl rfl ⟨by rw [e4], qp2, (by have e9 : kLine K p = ([] ++ [35] ++ dgs 7 p) := (by unfold kLine; (repeat (first | rw [if_pos (by omega)] | rw [if_neg (by omega)])); simp only [List.append_assoc, List.nil_append, List.append_nil]); rw [e9]; exact hL10), hE16⟩ (by omega) (by omega)
        · refine j_aload_n dX4_line_108 rfl rfl ?_
          refine j_getfield (v := .ref 33) dX4_line_109 jf_X4_58 hG12.1 rfl ?_
          refine j_bipush dX4_line_112 (by decide +kernel) ?_
          have u28 := hL10
          obtain ⟨p5, n5, G5, c1, c2, c3, c4, c5, c6, c7⟩ := u28
          refine j_callV (cb4_append c1 c2 c3 c6 (c := 120) (by decide) (by rw [c4]; simp only [List.length_append, List.length_cons, List.length_nil] at c7 ⊢; omega)) dX4_line_114 jc_X4_207 jmV_J4_append_cf468 rfl rfl c2.1 rfl rfl (fun _ z => z) (jfr_1 (by simp [iv]) (by simp [iv])) (Nat.le_of_ble_eq_true rfl) ⟨Nat.le_of_ble_eq_true rfl, Nat.le_of_ble_eq_true rfl⟩ ⟨Nat.le_of_ble_eq_true rfl, Nat.le_of_ble_eq_true rfl⟩ (fun r h27 hp9 => ?_) (fun E h9 q => q.elim)
          obtain ⟨rfl, w9, hX29⟩ := hp9
          rw [c4] at w9
          have hL30 : jSL (([] ++ [35] ++ dgs 7 p) ++ [120]) h27 := jSL_1 w9 c5
          have hG31 := hG12.ex okX hX29 (by decide)
          have hG32 := hG13.ex okF hX29 (by decide)
          have hG33 := hG14.ex okE hX29 (by decide)
          have hG34 := hG15.ex okH hX29 (by decide)
          have hE35 : jEx 33 3 h h27 := hE16.tr hX29
          show J mX4_line _ _ _ 117 _ (.ref 33 :: []) _ _ _
          refine j_pop dX4_line_117 rfl ?_
          refine j_aload_n dX4_line_118 rfl rfl ?_
          refine j_getfield (v := .ref 33) dX4_line_119 jf_X4_58 hG31.1 rfl ?_
          have u37 := hL30
          obtain ⟨p6, n6, G6, e1, e2, e3, e4, e5, e6, e7⟩ := u37
          refine j_callV (cb4_length e2) dX4_line_122 jc_X4_211 jmV_J4_length_8abf5 rfl rfl e2.1 rfl rfl (by simp) jfr_nil (Nat.le_of_ble_eq_true rfl) ⟨Nat.le_of_ble_eq_true rfl, Nat.le_of_ble_eq_true rfl⟩ ⟨Nat.le_of_ble_eq_true rfl, Nat.le_of_ble_eq_true rfl⟩ (fun r h36 hp9 => ?_) (fun E h9 q => q.elim)
          obtain ⟨rfl, rfl⟩ := hp9
          subst hZ
          exact j_ireturn dX4_line_125 rfl rfl ⟨by rw [e4], qp2, (by have e9 : kLine K p = (([] ++ [35] ++ dgs 7 p) ++ [120]) := (by unfold kLine; (repeat (first | rw [if_pos (by omega)] | rw [if_neg (by omega)])); simp only [List.append_assoc, List.nil_append, List.append_nil]); rw [e9]; exact hL30), hE35⟩ (by omega) (by omega)
      · refine j_aload_n dX4_line_83 rfl rfl ?_
        refine j_bipush dX4_line_84 (by decide +kernel) ?_
        refine j_aload_n dX4_line_86 rfl rfl ?_
        refine j_getfield (v := .ref 1) dX4_line_87 jf_X4_10 hG12.1 rfl ?_
        refine j_iload_n dX4_line_90 rfl rfl ?_
        refine j_callV (k_coinsOf hG13 hq hO  (by omega)) dX4_line_91 jc_X4_101 jmV_X1_coinsOf rfl rfl hG13.1 rfl rfl (by simp) jfr_nil (Nat.le_of_ble_eq_true rfl) ⟨Nat.le_of_ble_eq_true rfl, Nat.le_of_ble_eq_true rfl⟩ ⟨Nat.le_of_ble_eq_true rfl, Nat.le_of_ble_eq_true rfl⟩ (fun r h38 hp9 => ?_) (fun E h9 q => q.elim)
        obtain ⟨rfl, rfl⟩ := hp9
        have zc := hO.c p
        refine j_callV (x_writePart hG12 hL10 (ch := 61) (v := K 2 p) (by decide) (by omega) (by have zz := dl_r (K 2 p); simp only [List.length_append, List.length_cons, List.length_nil]; first | (have z24 := dl_24 (v := K 2 p) (by omega); omega) | omega)) dX4_line_94 jc_X4_203 jmV_X4_writePart rfl rfl hG12.1 rfl rfl (fun _ z => z) (jfr_1 (by simp [iv]) (by simp [iv])) (Nat.le_of_ble_eq_true rfl) ⟨Nat.le_of_ble_eq_true rfl, Nat.le_of_ble_eq_true rfl⟩ ⟨Nat.le_of_ble_eq_true rfl, Nat.le_of_ble_eq_true rfl⟩ (fun r h39 hp9 => ?_) (fun E h9 q => q.elim)
        obtain ⟨rfl, hL40, hX41⟩ := hp9
        have hG42 := hG12.ex okX hX41 (by decide)
        have hG43 := hG13.ex okF hX41 (by decide)
        have hG44 := hG14.ex okE hX41 (by decide)
        have hG45 := hG15.ex okH hX41 (by decide)
        have hE46 : jEx 33 3 h h39 := hE16.tr hX41
        refine j_aload_n dX4_line_97 rfl rfl ?_
        refine j_getfield (v := .ref 1) dX4_line_98 jf_X4_10 hG42.1 rfl ?_
        refine j_iload_n dX4_line_101 rfl rfl ?_
        refine j_callV (k_lives hG43 hq hO  (by omega)) dX4_line_102 jc_X4_104 jmV_X1_lives rfl rfl hG43.1 rfl rfl (by simp) jfr_nil (Nat.le_of_ble_eq_true rfl) ⟨Nat.le_of_ble_eq_true rfl, Nat.le_of_ble_eq_true rfl⟩ ⟨Nat.le_of_ble_eq_true rfl, Nat.le_of_ble_eq_true rfl⟩ (fun r h47 hp9 => ?_) (fun E h9 q => q.elim)
        obtain ⟨rfl, rfl⟩ := hp9
        have zl := hO.l p
        refine j_if_ne (tgt := 118) dX4_line_105 (by decide) (by omega) (fun c48 => ?_) (fun c48 => ?_)
        · refine j_aload_n dX4_line_118 rfl rfl ?_
          refine j_getfield (v := .ref 33) dX4_line_119 jf_X4_58 hG42.1 rfl ?_
          have u50 := hL40
          obtain ⟨p6, n6, G6, e1, e2, e3, e4, e5, e6, e7⟩ := u50
          refine j_callV (cb4_length e2) dX4_line_122 jc_X4_211 jmV_J4_length_8abf5 rfl rfl e2.1 rfl rfl (by simp) jfr_nil (Nat.le_of_ble_eq_true rfl) ⟨Nat.le_of_ble_eq_true rfl, Nat.le_of_ble_eq_true rfl⟩ ⟨Nat.le_of_ble_eq_true rfl, Nat.le_of_ble_eq_true rfl⟩ (fun r h49 hp9 => ?_) (fun E h9 q => q.elim)
          obtain ⟨rfl, rfl⟩ := hp9
          subst hZ
          exact j_ireturn dX4_line_125 rfl rfl ⟨by rw [e4], qp2, (by have e9 : kLine K p = (([] ++ [35] ++ dgs 7 p) ++ [61] ++ dgs 7 (K 2 p)) := (by unfold kLine; (repeat (first | rw [if_pos (by omega)] | rw [if_neg (by omega)])); simp only [List.append_assoc, List.nil_append, List.append_nil]); rw [e9]; exact hL40), hE46⟩ (by omega) (by omega)
        · refine j_aload_n dX4_line_108 rfl rfl ?_
          refine j_getfield (v := .ref 33) dX4_line_109 jf_X4_58 hG42.1 rfl ?_
          refine j_bipush dX4_line_112 (by decide +kernel) ?_
          have u52 := hL40
          obtain ⟨p5, n5, G5, c1, c2, c3, c4, c5, c6, c7⟩ := u52
          refine j_callV (cb4_append c1 c2 c3 c6 (c := 120) (by decide) (by rw [c4]; simp only [List.length_append, List.length_cons, List.length_nil] at c7 ⊢; omega)) dX4_line_114 jc_X4_207 jmV_J4_append_cf468 rfl rfl c2.1 rfl rfl (fun _ z => z) (jfr_1 (by simp [iv]) (by simp [iv])) (Nat.le_of_ble_eq_true rfl) ⟨Nat.le_of_ble_eq_true rfl, Nat.le_of_ble_eq_true rfl⟩ ⟨Nat.le_of_ble_eq_true rfl, Nat.le_of_ble_eq_true rfl⟩ (fun r h51 hp9 => ?_) (fun E h9 q => q.elim)
          obtain ⟨rfl, w9, hX53⟩ := hp9
          rw [c4] at w9
          have hL54 : jSL ((([] ++ [35] ++ dgs 7 p) ++ [61] ++ dgs 7 (K 2 p)) ++ [120]) h51 := jSL_1 w9 c5
          have hG55 := hG42.ex okX hX53 (by decide)
          have hG56 := hG43.ex okF hX53 (by decide)
          have hG57 := hG44.ex okE hX53 (by decide)
          have hG58 := hG45.ex okH hX53 (by decide)
          have hE59 : jEx 33 3 h h51 := hE46.tr hX53
          show J mX4_line _ _ _ 117 _ (.ref 33 :: []) _ _ _
          refine j_pop dX4_line_117 rfl ?_
          refine j_aload_n dX4_line_118 rfl rfl ?_
          refine j_getfield (v := .ref 33) dX4_line_119 jf_X4_58 hG55.1 rfl ?_
          have u61 := hL54
          obtain ⟨p6, n6, G6, e1, e2, e3, e4, e5, e6, e7⟩ := u61
          refine j_callV (cb4_length e2) dX4_line_122 jc_X4_211 jmV_J4_length_8abf5 rfl rfl e2.1 rfl rfl (by simp) jfr_nil (Nat.le_of_ble_eq_true rfl) ⟨Nat.le_of_ble_eq_true rfl, Nat.le_of_ble_eq_true rfl⟩ ⟨Nat.le_of_ble_eq_true rfl, Nat.le_of_ble_eq_true rfl⟩ (fun r h60 hp9 => ?_) (fun E h9 q => q.elim)
          obtain ⟨rfl, rfl⟩ := hp9
          subst hZ
          exact j_ireturn dX4_line_125 rfl rfl ⟨by rw [e4], qp2, (by have e9 : kLine K p = ((([] ++ [35] ++ dgs 7 p) ++ [61] ++ dgs 7 (K 2 p)) ++ [120]) := (by unfold kLine; (repeat (first | rw [if_pos (by omega)] | rw [if_neg (by omega)])); simp only [List.append_assoc, List.nil_append, List.append_nil]); rw [e9]; exact hL54), hE59⟩ (by omega) (by omega)
    · refine j_aload_n dX4_line_58 rfl rfl ?_
      refine j_bipush dX4_line_59 (by decide +kernel) ?_
      refine j_aload_n dX4_line_61 rfl rfl ?_
      refine j_getfield (v := .ref 1) dX4_line_62 jf_X4_10 hG12.1 rfl ?_
      refine j_iload_n dX4_line_65 rfl rfl ?_
      refine j_callV (k_spouseOf hG13 hq hO  (by omega)) dX4_line_66 jc_X4_98 jmV_X1_spouseOf rfl rfl hG13.1 rfl rfl (by simp) jfr_nil (Nat.le_of_ble_eq_true rfl) ⟨Nat.le_of_ble_eq_true rfl, Nat.le_of_ble_eq_true rfl⟩ ⟨Nat.le_of_ble_eq_true rfl, Nat.le_of_ble_eq_true rfl⟩ (fun r h62 hp9 => ?_) (fun E h9 q => q.elim)
      obtain ⟨rfl, rfl⟩ := hp9
      have zs := hO.s p
      refine j_callV (x_writePart hG12 hL10 (ch := 43) (v := K 1 p) (by decide) (by omega) (by have zz := dl_r (K 1 p); simp only [List.length_append, List.length_cons, List.length_nil]; first | (have z24 := dl_24 (v := K 1 p) (by omega); omega) | omega)) dX4_line_69 jc_X4_203 jmV_X4_writePart rfl rfl hG12.1 rfl rfl (fun _ z => z) (jfr_1 (by simp [iv]) (by simp [iv])) (Nat.le_of_ble_eq_true rfl) ⟨Nat.le_of_ble_eq_true rfl, Nat.le_of_ble_eq_true rfl⟩ ⟨Nat.le_of_ble_eq_true rfl, Nat.le_of_ble_eq_true rfl⟩ (fun r h63 hp9 => ?_) (fun E h9 q => q.elim)
      obtain ⟨rfl, hL64, hX65⟩ := hp9
      have hG66 := hG12.ex okX hX65 (by decide)
      have hG67 := hG13.ex okF hX65 (by decide)
      have hG68 := hG14.ex okE hX65 (by decide)
      have hG69 := hG15.ex okH hX65 (by decide)
      have hE70 : jEx 33 3 h h63 := hE16.tr hX65
      refine j_aload_n dX4_line_72 rfl rfl ?_
      refine j_getfield (v := .ref 1) dX4_line_73 jf_X4_10 hG66.1 rfl ?_
      refine j_iload_n dX4_line_76 rfl rfl ?_
      refine j_callV (k_coinsOf hG67 hq hO  (by omega)) dX4_line_77 jc_X4_101 jmV_X1_coinsOf rfl rfl hG67.1 rfl rfl (by simp) jfr_nil (Nat.le_of_ble_eq_true rfl) ⟨Nat.le_of_ble_eq_true rfl, Nat.le_of_ble_eq_true rfl⟩ ⟨Nat.le_of_ble_eq_true rfl, Nat.le_of_ble_eq_true rfl⟩ (fun r h71 hp9 => ?_) (fun E h9 q => q.elim)
      obtain ⟨rfl, rfl⟩ := hp9
      have zc := hO.c p
      refine j_if_eq (tgt := 97) dX4_line_80 (by decide) (by omega) (fun c72 => ?_) (fun c72 => ?_)
      · refine j_aload_n dX4_line_97 rfl rfl ?_
        refine j_getfield (v := .ref 1) dX4_line_98 jf_X4_10 hG66.1 rfl ?_
        refine j_iload_n dX4_line_101 rfl rfl ?_
        refine j_callV (k_lives hG67 hq hO  (by omega)) dX4_line_102 jc_X4_104 jmV_X1_lives rfl rfl hG67.1 rfl rfl (by simp) jfr_nil (Nat.le_of_ble_eq_true rfl) ⟨Nat.le_of_ble_eq_true rfl, Nat.le_of_ble_eq_true rfl⟩ ⟨Nat.le_of_ble_eq_true rfl, Nat.le_of_ble_eq_true rfl⟩ (fun r h73 hp9 => ?_) (fun E h9 q => q.elim)
        obtain ⟨rfl, rfl⟩ := hp9
        have zl := hO.l p
        refine j_if_ne (tgt := 118) dX4_line_105 (by decide) (by omega) (fun c74 => ?_) (fun c74 => ?_)
        · refine j_aload_n dX4_line_118 rfl rfl ?_
          refine j_getfield (v := .ref 33) dX4_line_119 jf_X4_58 hG66.1 rfl ?_
          have u76 := hL64
          obtain ⟨p6, n6, G6, e1, e2, e3, e4, e5, e6, e7⟩ := u76
          refine j_callV (cb4_length e2) dX4_line_122 jc_X4_211 jmV_J4_length_8abf5 rfl rfl e2.1 rfl rfl (by simp) jfr_nil (Nat.le_of_ble_eq_true rfl) ⟨Nat.le_of_ble_eq_true rfl, Nat.le_of_ble_eq_true rfl⟩ ⟨Nat.le_of_ble_eq_true rfl, Nat.le_of_ble_eq_true rfl⟩ (fun r h75 hp9 => ?_) (fun E h9 q => q.elim)
          obtain ⟨rfl, rfl⟩ := hp9
          subst hZ
          exact j_ireturn dX4_line_125 rfl rfl ⟨by rw [e4], qp2, (by have e9 : kLine K p = (([] ++ [35] ++ dgs 7 p) ++ [43] ++ dgs 7 (K 1 p)) := (by unfold kLine; (repeat (first | rw [if_pos (by omega)] | rw [if_neg (by omega)])); simp only [List.append_assoc, List.nil_append, List.append_nil]); rw [e9]; exact hL64), hE70⟩ (by omega) (by omega)
        · refine j_aload_n dX4_line_108 rfl rfl ?_
          refine j_getfield (v := .ref 33) dX4_line_109 jf_X4_58 hG66.1 rfl ?_
          refine j_bipush dX4_line_112 (by decide +kernel) ?_
          have u78 := hL64
          obtain ⟨p5, n5, G5, c1, c2, c3, c4, c5, c6, c7⟩ := u78
          refine j_callV (cb4_append c1 c2 c3 c6 (c := 120) (by decide) (by rw [c4]; simp only [List.length_append, List.length_cons, List.length_nil] at c7 ⊢; omega)) dX4_line_114 jc_X4_207 jmV_J4_append_cf468 rfl rfl c2.1 rfl rfl (fun _ z => z) (jfr_1 (by simp [iv]) (by simp [iv])) (Nat.le_of_ble_eq_true rfl) ⟨Nat.le_of_ble_eq_true rfl, Nat.le_of_ble_eq_true rfl⟩ ⟨Nat.le_of_ble_eq_true rfl, Nat.le_of_ble_eq_true rfl⟩ (fun r h77 hp9 => ?_) (fun E h9 q => q.elim)
          obtain ⟨rfl, w9, hX79⟩ := hp9
          rw [c4] at w9
          have hL80 : jSL ((([] ++ [35] ++ dgs 7 p) ++ [43] ++ dgs 7 (K 1 p)) ++ [120]) h77 := jSL_1 w9 c5
          have hG81 := hG66.ex okX hX79 (by decide)
          have hG82 := hG67.ex okF hX79 (by decide)
          have hG83 := hG68.ex okE hX79 (by decide)
          have hG84 := hG69.ex okH hX79 (by decide)
          have hE85 : jEx 33 3 h h77 := hE70.tr hX79
          show J mX4_line _ _ _ 117 _ (.ref 33 :: []) _ _ _
          refine j_pop dX4_line_117 rfl ?_
          refine j_aload_n dX4_line_118 rfl rfl ?_
          refine j_getfield (v := .ref 33) dX4_line_119 jf_X4_58 hG81.1 rfl ?_
          have u87 := hL80
          obtain ⟨p6, n6, G6, e1, e2, e3, e4, e5, e6, e7⟩ := u87
          refine j_callV (cb4_length e2) dX4_line_122 jc_X4_211 jmV_J4_length_8abf5 rfl rfl e2.1 rfl rfl (by simp) jfr_nil (Nat.le_of_ble_eq_true rfl) ⟨Nat.le_of_ble_eq_true rfl, Nat.le_of_ble_eq_true rfl⟩ ⟨Nat.le_of_ble_eq_true rfl, Nat.le_of_ble_eq_true rfl⟩ (fun r h86 hp9 => ?_) (fun E h9 q => q.elim)
          obtain ⟨rfl, rfl⟩ := hp9
          subst hZ
          exact j_ireturn dX4_line_125 rfl rfl ⟨by rw [e4], qp2, (by have e9 : kLine K p = ((([] ++ [35] ++ dgs 7 p) ++ [43] ++ dgs 7 (K 1 p)) ++ [120]) := (by unfold kLine; (repeat (first | rw [if_pos (by omega)] | rw [if_neg (by omega)])); simp only [List.append_assoc, List.nil_append, List.append_nil]); rw [e9]; exact hL80), hE85⟩ (by omega) (by omega)
      · refine j_aload_n dX4_line_83 rfl rfl ?_
        refine j_bipush dX4_line_84 (by decide +kernel) ?_
        refine j_aload_n dX4_line_86 rfl rfl ?_
        refine j_getfield (v := .ref 1) dX4_line_87 jf_X4_10 hG66.1 rfl ?_
        refine j_iload_n dX4_line_90 rfl rfl ?_
        refine j_callV (k_coinsOf hG67 hq hO  (by omega)) dX4_line_91 jc_X4_101 jmV_X1_coinsOf rfl rfl hG67.1 rfl rfl (by simp) jfr_nil (Nat.le_of_ble_eq_true rfl) ⟨Nat.le_of_ble_eq_true rfl, Nat.le_of_ble_eq_true rfl⟩ ⟨Nat.le_of_ble_eq_true rfl, Nat.le_of_ble_eq_true rfl⟩ (fun r h88 hp9 => ?_) (fun E h9 q => q.elim)
        obtain ⟨rfl, rfl⟩ := hp9
        have zc := hO.c p
        refine j_callV (x_writePart hG66 hL64 (ch := 61) (v := K 2 p) (by decide) (by omega) (by have zz := dl_r (K 2 p); simp only [List.length_append, List.length_cons, List.length_nil]; first | (have z24 := dl_24 (v := K 2 p) (by omega); omega) | omega)) dX4_line_94 jc_X4_203 jmV_X4_writePart rfl rfl hG66.1 rfl rfl (fun _ z => z) (jfr_1 (by simp [iv]) (by simp [iv])) (Nat.le_of_ble_eq_true rfl) ⟨Nat.le_of_ble_eq_true rfl, Nat.le_of_ble_eq_true rfl⟩ ⟨Nat.le_of_ble_eq_true rfl, Nat.le_of_ble_eq_true rfl⟩ (fun r h89 hp9 => ?_) (fun E h9 q => q.elim)
        obtain ⟨rfl, hL90, hX91⟩ := hp9
        have hG92 := hG66.ex okX hX91 (by decide)
        have hG93 := hG67.ex okF hX91 (by decide)
        have hG94 := hG68.ex okE hX91 (by decide)
        have hG95 := hG69.ex okH hX91 (by decide)
        have hE96 : jEx 33 3 h h89 := hE70.tr hX91
        refine j_aload_n dX4_line_97 rfl rfl ?_
        refine j_getfield (v := .ref 1) dX4_line_98 jf_X4_10 hG92.1 rfl ?_
        refine j_iload_n dX4_line_101 rfl rfl ?_
        refine j_callV (k_lives hG93 hq hO  (by omega)) dX4_line_102 jc_X4_104 jmV_X1_lives rfl rfl hG93.1 rfl rfl (by simp) jfr_nil (Nat.le_of_ble_eq_true rfl) ⟨Nat.le_of_ble_eq_true rfl, Nat.le_of_ble_eq_true rfl⟩ ⟨Nat.le_of_ble_eq_true rfl, Nat.le_of_ble_eq_true rfl⟩ (fun r h97 hp9 => ?_) (fun E h9 q => q.elim)
        obtain ⟨rfl, rfl⟩ := hp9
        have zl := hO.l p
        refine j_if_ne (tgt := 118) dX4_line_105 (by decide) (by omega) (fun c98 => ?_) (fun c98 => ?_)
        · refine j_aload_n dX4_line_118 rfl rfl ?_
          refine j_getfield (v := .ref 33) dX4_line_119 jf_X4_58 hG92.1 rfl ?_
          have u100 := hL90
          obtain ⟨p6, n6, G6, e1, e2, e3, e4, e5, e6, e7⟩ := u100
          refine j_callV (cb4_length e2) dX4_line_122 jc_X4_211 jmV_J4_length_8abf5 rfl rfl e2.1 rfl rfl (by simp) jfr_nil (Nat.le_of_ble_eq_true rfl) ⟨Nat.le_of_ble_eq_true rfl, Nat.le_of_ble_eq_true rfl⟩ ⟨Nat.le_of_ble_eq_true rfl, Nat.le_of_ble_eq_true rfl⟩ (fun r h99 hp9 => ?_) (fun E h9 q => q.elim)
          obtain ⟨rfl, rfl⟩ := hp9
          subst hZ
          exact j_ireturn dX4_line_125 rfl rfl ⟨by rw [e4], qp2, (by have e9 : kLine K p = ((([] ++ [35] ++ dgs 7 p) ++ [43] ++ dgs 7 (K 1 p)) ++ [61] ++ dgs 7 (K 2 p)) := (by unfold kLine; (repeat (first | rw [if_pos (by omega)] | rw [if_neg (by omega)])); simp only [List.append_assoc, List.nil_append, List.append_nil]); rw [e9]; exact hL90), hE96⟩ (by omega) (by omega)
        · refine j_aload_n dX4_line_108 rfl rfl ?_
          refine j_getfield (v := .ref 33) dX4_line_109 jf_X4_58 hG92.1 rfl ?_
          refine j_bipush dX4_line_112 (by decide +kernel) ?_
          have u102 := hL90
          obtain ⟨p5, n5, G5, c1, c2, c3, c4, c5, c6, c7⟩ := u102
          refine j_callV (cb4_append c1 c2 c3 c6 (c := 120) (by decide) (by rw [c4]; simp only [List.length_append, List.length_cons, List.length_nil] at c7 ⊢; omega)) dX4_line_114 jc_X4_207 jmV_J4_append_cf468 rfl rfl c2.1 rfl rfl (fun _ z => z) (jfr_1 (by simp [iv]) (by simp [iv])) (Nat.le_of_ble_eq_true rfl) ⟨Nat.le_of_ble_eq_true rfl, Nat.le_of_ble_eq_true rfl⟩ ⟨Nat.le_of_ble_eq_true rfl, Nat.le_of_ble_eq_true rfl⟩ (fun r h101 hp9 => ?_) (fun E h9 q => q.elim)
          obtain ⟨rfl, w9, hX103⟩ := hp9
          rw [c4] at w9
          have hL104 : jSL (((([] ++ [35] ++ dgs 7 p) ++ [43] ++ dgs 7 (K 1 p)) ++ [61] ++ dgs 7 (K 2 p)) ++ [120]) h101 := jSL_1 w9 c5
          have hG105 := hG92.ex okX hX103 (by decide)
          have hG106 := hG93.ex okF hX103 (by decide)
          have hG107 := hG94.ex okE hX103 (by decide)
          have hG108 := hG95.ex okH hX103 (by decide)
          have hE109 : jEx 33 3 h h101 := hE96.tr hX103
          show J mX4_line _ _ _ 117 _ (.ref 33 :: []) _ _ _
          refine j_pop dX4_line_117 rfl ?_
          refine j_aload_n dX4_line_118 rfl rfl ?_
          refine j_getfield (v := .ref 33) dX4_line_119 jf_X4_58 hG105.1 rfl ?_
          have u111 := hL104
          obtain ⟨p6, n6, G6, e1, e2, e3, e4, e5, e6, e7⟩ := u111
          refine j_callV (cb4_length e2) dX4_line_122 jc_X4_211 jmV_J4_length_8abf5 rfl rfl e2.1 rfl rfl (by simp) jfr_nil (Nat.le_of_ble_eq_true rfl) ⟨Nat.le_of_ble_eq_true rfl, Nat.le_of_ble_eq_true rfl⟩ ⟨Nat.le_of_ble_eq_true rfl, Nat.le_of_ble_eq_true rfl⟩ (fun r h110 hp9 => ?_) (fun E h9 q => q.elim)
          obtain ⟨rfl, rfl⟩ := hp9
          subst hZ
          exact j_ireturn dX4_line_125 rfl rfl ⟨by rw [e4], qp2, (by have e9 : kLine K p = (((([] ++ [35] ++ dgs 7 p) ++ [43] ++ dgs 7 (K 1 p)) ++ [61] ++ dgs 7 (K 2 p)) ++ [120]) := (by unfold kLine; (repeat (first | rw [if_pos (by omega)] | rw [if_neg (by omega)])); simp only [List.append_assoc, List.nil_append, List.append_nil]); rw [e9]; exact hL104), hE109⟩ (by omega) (by omega)
  · refine j_aload_n dX4_line_32 rfl rfl ?_
    refine j_bipush dX4_line_33 (by decide +kernel) ?_
    refine j_aload_n dX4_line_35 rfl rfl ?_
    refine j_getfield (v := .ref 1) dX4_line_36 jf_X4_10 hG12.1 rfl ?_
    refine j_iload_n dX4_line_39 rfl rfl ?_
    refine j_callV (k_parentOf hG13 hq hO  (by omega)) dX4_line_40 jc_X4_86 jmV_X1_parentOf rfl rfl hG13.1 rfl rfl (by simp) jfr_nil (Nat.le_of_ble_eq_true rfl) ⟨Nat.le_of_ble_eq_true rfl, Nat.le_of_ble_eq_true rfl⟩ ⟨Nat.le_of_ble_eq_true rfl, Nat.le_of_ble_eq_true rfl⟩ (fun r h112 hp9 => ?_) (fun E h9 q => q.elim)
    obtain ⟨rfl, rfl⟩ := hp9
    have zp := hO.p p
    refine j_callV (x_writePart hG12 hL10 (ch := 60) (v := K 0 p) (by decide) (by omega) (by have zz := dl_r (K 0 p); simp only [List.length_append, List.length_cons, List.length_nil]; first | (have z24 := dl_24 (v := K 0 p) (by omega); omega) | omega)) dX4_line_43 jc_X4_203 jmV_X4_writePart rfl rfl hG12.1 rfl rfl (fun _ z => z) (jfr_1 (by simp [iv]) (by simp [iv])) (Nat.le_of_ble_eq_true rfl) ⟨Nat.le_of_ble_eq_true rfl, Nat.le_of_ble_eq_true rfl⟩ ⟨Nat.le_of_ble_eq_true rfl, Nat.le_of_ble_eq_true rfl⟩ (fun r h113 hp9 => ?_) (fun E h9 q => q.elim)
    obtain ⟨rfl, hL114, hX115⟩ := hp9
    have hG116 := hG12.ex okX hX115 (by decide)
    have hG117 := hG13.ex okF hX115 (by decide)
    have hG118 := hG14.ex okE hX115 (by decide)
    have hG119 := hG15.ex okH hX115 (by decide)
    have hE120 : jEx 33 3 h h113 := hE16.tr hX115
    refine j_aload_n dX4_line_46 rfl rfl ?_
    refine j_getfield (v := .ref 1) dX4_line_47 jf_X4_10 hG116.1 rfl ?_
    refine j_iload_n dX4_line_50 rfl rfl ?_
    refine j_callV (k_spouseOf hG117 hq hO  (by omega)) dX4_line_51 jc_X4_98 jmV_X1_spouseOf rfl rfl hG117.1 rfl rfl (by simp) jfr_nil (Nat.le_of_ble_eq_true rfl) ⟨Nat.le_of_ble_eq_true rfl, Nat.le_of_ble_eq_true rfl⟩ ⟨Nat.le_of_ble_eq_true rfl, Nat.le_of_ble_eq_true rfl⟩ (fun r h121 hp9 => ?_) (fun E h9 q => q.elim)
    obtain ⟨rfl, rfl⟩ := hp9
    have zs := hO.s p
    refine j_iconst dX4_line_54 ?_
    refine j_icmp_eq (tgt := 72) dX4_line_55 (by decide) (by omega) (fun c122 => ?_) (fun c122 => ?_)
    · refine j_aload_n dX4_line_72 rfl rfl ?_
      refine j_getfield (v := .ref 1) dX4_line_73 jf_X4_10 hG116.1 rfl ?_
      refine j_iload_n dX4_line_76 rfl rfl ?_
      refine j_callV (k_coinsOf hG117 hq hO  (by omega)) dX4_line_77 jc_X4_101 jmV_X1_coinsOf rfl rfl hG117.1 rfl rfl (by simp) jfr_nil (Nat.le_of_ble_eq_true rfl) ⟨Nat.le_of_ble_eq_true rfl, Nat.le_of_ble_eq_true rfl⟩ ⟨Nat.le_of_ble_eq_true rfl, Nat.le_of_ble_eq_true rfl⟩ (fun r h123 hp9 => ?_) (fun E h9 q => q.elim)
      obtain ⟨rfl, rfl⟩ := hp9
      have zc := hO.c p
      refine j_if_eq (tgt := 97) dX4_line_80 (by decide) (by omega) (fun c124 => ?_) (fun c124 => ?_)
      · refine j_aload_n dX4_line_97 rfl rfl ?_
        refine j_getfield (v := .ref 1) dX4_line_98 jf_X4_10 hG116.1 rfl ?_
        refine j_iload_n dX4_line_101 rfl rfl ?_
        refine j_callV (k_lives hG117 hq hO  (by omega)) dX4_line_102 jc_X4_104 jmV_X1_lives rfl rfl hG117.1 rfl rfl (by simp) jfr_nil (Nat.le_of_ble_eq_true rfl) ⟨Nat.le_of_ble_eq_true rfl, Nat.le_of_ble_eq_true rfl⟩ ⟨Nat.le_of_ble_eq_true rfl, Nat.le_of_ble_eq_true rfl⟩ (fun r h125 hp9 => ?_) (fun E h9 q => q.elim)
        obtain ⟨rfl, rfl⟩ := hp9
        have zl := hO.l p
        refine j_if_ne (tgt := 118) dX4_line_105 (by decide) (by omega) (fun c126 => ?_) (fun c126 => ?_)
        · refine j_aload_n dX4_line_118 rfl rfl ?_
          refine j_getfield (v := .ref 33) dX4_line_119 jf_X4_58 hG116.1 rfl ?_
          have u128 := hL114
          obtain ⟨p6, n6, G6, e1, e2, e3, e4, e5, e6, e7⟩ := u128
          refine j_callV (cb4_length e2) dX4_line_122 jc_X4_211 jmV_J4_length_8abf5 rfl rfl e2.1 rfl rfl (by simp) jfr_nil (Nat.le_of_ble_eq_true rfl) ⟨Nat.le_of_ble_eq_true rfl, Nat.le_of_ble_eq_true rfl⟩ ⟨Nat.le_of_ble_eq_true rfl, Nat.le_of_ble_eq_true rfl⟩ (fun r h127 hp9 => ?_) (fun E h9 q => q.elim)
          obtain ⟨rfl, rfl⟩ := hp9
          subst hZ
          exact j_ireturn dX4_line_125 rfl rfl ⟨by rw [e4], qp2, (by have e9 : kLine K p = (([] ++ [35] ++ dgs 7 p) ++ [60] ++ dgs 7 (K 0 p)) := (by unfold kLine; (repeat (first | rw [if_pos (by omega)] | rw [if_neg (by omega)])); simp only [List.append_assoc, List.nil_append, List.append_nil]); rw [e9]; exact hL114), hE120⟩ (by omega) (by omega)
        · refine j_aload_n dX4_line_108 rfl rfl ?_
          refine j_getfield (v := .ref 33) dX4_line_109 jf_X4_58 hG116.1 rfl ?_
          refine j_bipush dX4_line_112 (by decide +kernel) ?_
          have u130 := hL114
          obtain ⟨p5, n5, G5, c1, c2, c3, c4, c5, c6, c7⟩ := u130
          refine j_callV (cb4_append c1 c2 c3 c6 (c := 120) (by decide) (by rw [c4]; simp only [List.length_append, List.length_cons, List.length_nil] at c7 ⊢; omega)) dX4_line_114 jc_X4_207 jmV_J4_append_cf468 rfl rfl c2.1 rfl rfl (fun _ z => z) (jfr_1 (by simp [iv]) (by simp [iv])) (Nat.le_of_ble_eq_true rfl) ⟨Nat.le_of_ble_eq_true rfl, Nat.le_of_ble_eq_true rfl⟩ ⟨Nat.le_of_ble_eq_true rfl, Nat.le_of_ble_eq_true rfl⟩ (fun r h129 hp9 => ?_) (fun E h9 q => q.elim)
          obtain ⟨rfl, w9, hX131⟩ := hp9
          rw [c4] at w9
          have hL132 : jSL ((([] ++ [35] ++ dgs 7 p) ++ [60] ++ dgs 7 (K 0 p)) ++ [120]) h129 := jSL_1 w9 c5
          have hG133 := hG116.ex okX hX131 (by decide)
          have hG134 := hG117.ex okF hX131 (by decide)
          have hG135 := hG118.ex okE hX131 (by decide)
          have hG136 := hG119.ex okH hX131 (by decide)
          have hE137 : jEx 33 3 h h129 := hE120.tr hX131
          show J mX4_line _ _ _ 117 _ (.ref 33 :: []) _ _ _
          refine j_pop dX4_line_117 rfl ?_
          refine j_aload_n dX4_line_118 rfl rfl ?_
          refine j_getfield (v := .ref 33) dX4_line_119 jf_X4_58 hG133.1 rfl ?_
          have u139 := hL132
          obtain ⟨p6, n6, G6, e1, e2, e3, e4, e5, e6, e7⟩ := u139
          refine j_callV (cb4_length e2) dX4_line_122 jc_X4_211 jmV_J4_length_8abf5 rfl rfl e2.1 rfl rfl (by simp) jfr_nil (Nat.le_of_ble_eq_true rfl) ⟨Nat.le_of_ble_eq_true rfl, Nat.le_of_ble_eq_true rfl⟩ ⟨Nat.le_of_ble_eq_true rfl, Nat.le_of_ble_eq_true rfl⟩ (fun r h138 hp9 => ?_) (fun E h9 q => q.elim)
          obtain ⟨rfl, rfl⟩ := hp9
          subst hZ
          exact j_ireturn dX4_line_125 rfl rfl ⟨by rw [e4], qp2, (by have e9 : kLine K p = ((([] ++ [35] ++ dgs 7 p) ++ [60] ++ dgs 7 (K 0 p)) ++ [120]) := (by unfold kLine; (repeat (first | rw [if_pos (by omega)] | rw [if_neg (by omega)])); simp only [List.append_assoc, List.nil_append, List.append_nil]); rw [e9]; exact hL132), hE137⟩ (by omega) (by omega)
      · refine j_aload_n dX4_line_83 rfl rfl ?_
        refine j_bipush dX4_line_84 (by decide +kernel) ?_
        refine j_aload_n dX4_line_86 rfl rfl ?_
        refine j_getfield (v := .ref 1) dX4_line_87 jf_X4_10 hG116.1 rfl ?_
        refine j_iload_n dX4_line_90 rfl rfl ?_
        refine j_callV (k_coinsOf hG117 hq hO  (by omega)) dX4_line_91 jc_X4_101 jmV_X1_coinsOf rfl rfl hG117.1 rfl rfl (by simp) jfr_nil (Nat.le_of_ble_eq_true rfl) ⟨Nat.le_of_ble_eq_true rfl, Nat.le_of_ble_eq_true rfl⟩ ⟨Nat.le_of_ble_eq_true rfl, Nat.le_of_ble_eq_true rfl⟩ (fun r h140 hp9 => ?_) (fun E h9 q => q.elim)
        obtain ⟨rfl, rfl⟩ := hp9
        have zc := hO.c p
        refine j_callV (x_writePart hG116 hL114 (ch := 61) (v := K 2 p) (by decide) (by omega) (by have zz := dl_r (K 2 p); simp only [List.length_append, List.length_cons, List.length_nil]; first | (have z24 := dl_24 (v := K 2 p) (by omega); omega) | omega)) dX4_line_94 jc_X4_203 jmV_X4_writePart rfl rfl hG116.1 rfl rfl (fun _ z => z) (jfr_1 (by simp [iv]) (by simp [iv])) (Nat.le_of_ble_eq_true rfl) ⟨Nat.le_of_ble_eq_true rfl, Nat.le_of_ble_eq_true rfl⟩ ⟨Nat.le_of_ble_eq_true rfl, Nat.le_of_ble_eq_true rfl⟩ (fun r h141 hp9 => ?_) (fun E h9 q => q.elim)
        obtain ⟨rfl, hL142, hX143⟩ := hp9
        have hG144 := hG116.ex okX hX143 (by decide)
        have hG145 := hG117.ex okF hX143 (by decide)
        have hG146 := hG118.ex okE hX143 (by decide)
        have hG147 := hG119.ex okH hX143 (by decide)
        have hE148 : jEx 33 3 h h141 := hE120.tr hX143
        refine j_aload_n dX4_line_97 rfl rfl ?_
        refine j_getfield (v := .ref 1) dX4_line_98 jf_X4_10 hG144.1 rfl ?_
        refine j_iload_n dX4_line_101 rfl rfl ?_
        refine j_callV (k_lives hG145 hq hO  (by omega)) dX4_line_102 jc_X4_104 jmV_X1_lives rfl rfl hG145.1 rfl rfl (by simp) jfr_nil (Nat.le_of_ble_eq_true rfl) ⟨Nat.le_of_ble_eq_true rfl, Nat.le_of_ble_eq_true rfl⟩ ⟨Nat.le_of_ble_eq_true rfl, Nat.le_of_ble_eq_true rfl⟩ (fun r h149 hp9 => ?_) (fun E h9 q => q.elim)
        obtain ⟨rfl, rfl⟩ := hp9
        have zl := hO.l p
        refine j_if_ne (tgt := 118) dX4_line_105 (by decide) (by omega) (fun c150 => ?_) (fun c150 => ?_)
        · refine j_aload_n dX4_line_118 rfl rfl ?_
          refine j_getfield (v := .ref 33) dX4_line_119 jf_X4_58 hG144.1 rfl ?_
          have u152 := hL142
          obtain ⟨p6, n6, G6, e1, e2, e3, e4, e5, e6, e7⟩ := u152
          refine j_callV (cb4_length e2) dX4_line_122 jc_X4_211 jmV_J4_length_8abf5 rfl rfl e2.1 rfl rfl (by simp) jfr_nil (Nat.le_of_ble_eq_true rfl) ⟨Nat.le_of_ble_eq_true rfl, Nat.le_of_ble_eq_true rfl⟩ ⟨Nat.le_of_ble_eq_true rfl, Nat.le_of_ble_eq_true rfl⟩ (fun r h151 hp9 => ?_) (fun E h9 q => q.elim)
          obtain ⟨rfl, rfl⟩ := hp9
          subst hZ
          exact j_ireturn dX4_line_125 rfl rfl ⟨by rw [e4], qp2, (by have e9 : kLine K p = ((([] ++ [35] ++ dgs 7 p) ++ [60] ++ dgs 7 (K 0 p)) ++ [61] ++ dgs 7 (K 2 p)) := (by unfold kLine; (repeat (first | rw [if_pos (by omega)] | rw [if_neg (by omega)])); simp only [List.append_assoc, List.nil_append, List.append_nil]); rw [e9]; exact hL142), hE148⟩ (by omega) (by omega)
        · refine j_aload_n dX4_line_108 rfl rfl ?_
          refine j_getfield (v := .ref 33) dX4_line_109 jf_X4_58 hG144.1 rfl ?_
          refine j_bipush dX4_line_112 (by decide +kernel) ?_
          have u154 := hL142
          obtain ⟨p5, n5, G5, c1, c2, c3, c4, c5, c6, c7⟩ := u154
          refine j_callV (cb4_append c1 c2 c3 c6 (c := 120) (by decide) (by rw [c4]; simp only [List.length_append, List.length_cons, List.length_nil] at c7 ⊢; omega)) dX4_line_114 jc_X4_207 jmV_J4_append_cf468 rfl rfl c2.1 rfl rfl (fun _ z => z) (jfr_1 (by simp [iv]) (by simp [iv])) (Nat.le_of_ble_eq_true rfl) ⟨Nat.le_of_ble_eq_true rfl, Nat.le_of_ble_eq_true rfl⟩ ⟨Nat.le_of_ble_eq_true rfl, Nat.le_of_ble_eq_true rfl⟩ (fun r h153 hp9 => ?_) (fun E h9 q => q.elim)
          obtain ⟨rfl, w9, hX155⟩ := hp9
          rw [c4] at w9
          have hL156 : jSL (((([] ++ [35] ++ dgs 7 p) ++ [60] ++ dgs 7 (K 0 p)) ++ [61] ++ dgs 7 (K 2 p)) ++ [120]) h153 := jSL_1 w9 c5
          have hG157 := hG144.ex okX hX155 (by decide)
          have hG158 := hG145.ex okF hX155 (by decide)
          have hG159 := hG146.ex okE hX155 (by decide)
          have hG160 := hG147.ex okH hX155 (by decide)
          have hE161 : jEx 33 3 h h153 := hE148.tr hX155
          show J mX4_line _ _ _ 117 _ (.ref 33 :: []) _ _ _
          refine j_pop dX4_line_117 rfl ?_
          refine j_aload_n dX4_line_118 rfl rfl ?_
          refine j_getfield (v := .ref 33) dX4_line_119 jf_X4_58 hG157.1 rfl ?_
          have u163 := hL156
          obtain ⟨p6, n6, G6, e1, e2, e3, e4, e5, e6, e7⟩ := u163
          refine j_callV (cb4_length e2) dX4_line_122 jc_X4_211 jmV_J4_length_8abf5 rfl rfl e2.1 rfl rfl (by simp) jfr_nil (Nat.le_of_ble_eq_true rfl) ⟨Nat.le_of_ble_eq_true rfl, Nat.le_of_ble_eq_true rfl⟩ ⟨Nat.le_of_ble_eq_true rfl, Nat.le_of_ble_eq_true rfl⟩ (fun r h162 hp9 => ?_) (fun E h9 q => q.elim)
          obtain ⟨rfl, rfl⟩ := hp9
          subst hZ
          exact j_ireturn dX4_line_125 rfl rfl ⟨by rw [e4], qp2, (by have e9 : kLine K p = (((([] ++ [35] ++ dgs 7 p) ++ [60] ++ dgs 7 (K 0 p)) ++ [61] ++ dgs 7 (K 2 p)) ++ [120]) := (by unfold kLine; (repeat (first | rw [if_pos (by omega)] | rw [if_neg (by omega)])); simp only [List.append_assoc, List.nil_append, List.append_nil]); rw [e9]; exact hL156), hE161⟩ (by omega) (by omega)
    · refine j_aload_n dX4_line_58 rfl rfl ?_
      refine j_bipush dX4_line_59 (by decide +kernel) ?_
      refine j_aload_n dX4_line_61 rfl rfl ?_
      refine j_getfield (v := .ref 1) dX4_line_62 jf_X4_10 hG116.1 rfl ?_
      refine j_iload_n dX4_line_65 rfl rfl ?_
      refine j_callV (k_spouseOf hG117 hq hO  (by omega)) dX4_line_66 jc_X4_98 jmV_X1_spouseOf rfl rfl hG117.1 rfl rfl (by simp) jfr_nil (Nat.le_of_ble_eq_true rfl) ⟨Nat.le_of_ble_eq_true rfl, Nat.le_of_ble_eq_true rfl⟩ ⟨Nat.le_of_ble_eq_true rfl, Nat.le_of_ble_eq_true rfl⟩ (fun r h164 hp9 => ?_) (fun E h9 q => q.elim)
      obtain ⟨rfl, rfl⟩ := hp9
      have zs := hO.s p
      refine j_callV (x_writePart hG116 hL114 (ch := 43) (v := K 1 p) (by decide) (by omega) (by have zz := dl_r (K 1 p); simp only [List.length_append, List.length_cons, List.length_nil]; first | (have z24 := dl_24 (v := K 1 p) (by omega); omega) | omega)) dX4_line_69 jc_X4_203 jmV_X4_writePart rfl rfl hG116.1 rfl rfl (fun _ z => z) (jfr_1 (by simp [iv]) (by simp [iv])) (Nat.le_of_ble_eq_true rfl) ⟨Nat.le_of_ble_eq_true rfl, Nat.le_of_ble_eq_true rfl⟩ ⟨Nat.le_of_ble_eq_true rfl, Nat.le_of_ble_eq_true rfl⟩ (fun r h165 hp9 => ?_) (fun E h9 q => q.elim)
      obtain ⟨rfl, hL166, hX167⟩ := hp9
      have hG168 := hG116.ex okX hX167 (by decide)
      have hG169 := hG117.ex okF hX167 (by decide)
      have hG170 := hG118.ex okE hX167 (by decide)
      have hG171 := hG119.ex okH hX167 (by decide)
      have hE172 : jEx 33 3 h h165 := hE120.tr hX167
      refine j_aload_n dX4_line_72 rfl rfl ?_
      refine j_getfield (v := .ref 1) dX4_line_73 jf_X4_10 hG168.1 rfl ?_
      refine j_iload_n dX4_line_76 rfl rfl ?_
      refine j_callV (k_coinsOf hG169 hq hO  (by omega)) dX4_line_77 jc_X4_101 jmV_X1_coinsOf rfl rfl hG169.1 rfl rfl (by simp) jfr_nil (Nat.le_of_ble_eq_true rfl) ⟨Nat.le_of_ble_eq_true rfl, Nat.le_of_ble_eq_true rfl⟩ ⟨Nat.le_of_ble_eq_true rfl, Nat.le_of_ble_eq_true rfl⟩ (fun r h173 hp9 => ?_) (fun E h9 q => q.elim)
      obtain ⟨rfl, rfl⟩ := hp9
      have zc := hO.c p
      refine j_if_eq (tgt := 97) dX4_line_80 (by decide) (by omega) (fun c174 => ?_) (fun c174 => ?_)
      · refine j_aload_n dX4_line_97 rfl rfl ?_
        refine j_getfield (v := .ref 1) dX4_line_98 jf_X4_10 hG168.1 rfl ?_
        refine j_iload_n dX4_line_101 rfl rfl ?_
        refine j_callV (k_lives hG169 hq hO  (by omega)) dX4_line_102 jc_X4_104 jmV_X1_lives rfl rfl hG169.1 rfl rfl (by simp) jfr_nil (Nat.le_of_ble_eq_true rfl) ⟨Nat.le_of_ble_eq_true rfl, Nat.le_of_ble_eq_true rfl⟩ ⟨Nat.le_of_ble_eq_true rfl, Nat.le_of_ble_eq_true rfl⟩ (fun r h175 hp9 => ?_) (fun E h9 q => q.elim)
        obtain ⟨rfl, rfl⟩ := hp9
        have zl := hO.l p
        refine j_if_ne (tgt := 118) dX4_line_105 (by decide) (by omega) (fun c176 => ?_) (fun c176 => ?_)
        · refine j_aload_n dX4_line_118 rfl rfl ?_
          refine j_getfield (v := .ref 33) dX4_line_119 jf_X4_58 hG168.1 rfl ?_
          have u178 := hL166
          obtain ⟨p6, n6, G6, e1, e2, e3, e4, e5, e6, e7⟩ := u178
          refine j_callV (cb4_length e2) dX4_line_122 jc_X4_211 jmV_J4_length_8abf5 rfl rfl e2.1 rfl rfl (by simp) jfr_nil (Nat.le_of_ble_eq_true rfl) ⟨Nat.le_of_ble_eq_true rfl, Nat.le_of_ble_eq_true rfl⟩ ⟨Nat.le_of_ble_eq_true rfl, Nat.le_of_ble_eq_true rfl⟩ (fun r h177 hp9 => ?_) (fun E h9 q => q.elim)
          obtain ⟨rfl, rfl⟩ := hp9
          subst hZ
          exact j_ireturn dX4_line_125 rfl rfl ⟨by rw [e4], qp2, (by have e9 : kLine K p = ((([] ++ [35] ++ dgs 7 p) ++ [60] ++ dgs 7 (K 0 p)) ++ [43] ++ dgs 7 (K 1 p)) := (by unfold kLine; (repeat (first | rw [if_pos (by omega)] | rw [if_neg (by omega)])); simp only [List.append_assoc, List.nil_append, List.append_nil]); rw [e9]; exact hL166), hE172⟩ (by omega) (by omega)
        · refine j_aload_n dX4_line_108 rfl rfl ?_
          refine j_getfield (v := .ref 33) dX4_line_109 jf_X4_58 hG168.1 rfl ?_
          refine j_bipush dX4_line_112 (by decide +kernel) ?_
          have u180 := hL166
          obtain ⟨p5, n5, G5, c1, c2, c3, c4, c5, c6, c7⟩ := u180
          refine j_callV (cb4_append c1 c2 c3 c6 (c := 120) (by decide) (by rw [c4]; simp only [List.length_append, List.length_cons, List.length_nil] at c7 ⊢; omega)) dX4_line_114 jc_X4_207 jmV_J4_append_cf468 rfl rfl c2.1 rfl rfl (fun _ z => z) (jfr_1 (by simp [iv]) (by simp [iv])) (Nat.le_of_ble_eq_true rfl) ⟨Nat.le_of_ble_eq_true rfl, Nat.le_of_ble_eq_true rfl⟩ ⟨Nat.le_of_ble_eq_true rfl, Nat.le_of_ble_eq_true rfl⟩ (fun r h179 hp9 => ?_) (fun E h9 q => q.elim)
          obtain ⟨rfl, w9, hX181⟩ := hp9
          rw [c4] at w9
          have hL182 : jSL (((([] ++ [35] ++ dgs 7 p) ++ [60] ++ dgs 7 (K 0 p)) ++ [43] ++ dgs 7 (K 1 p)) ++ [120]) h179 := jSL_1 w9 c5
          have hG183 := hG168.ex okX hX181 (by decide)
          have hG184 := hG169.ex okF hX181 (by decide)
          have hG185 := hG170.ex okE hX181 (by decide)
          have hG186 := hG171.ex okH hX181 (by decide)
          have hE187 : jEx 33 3 h h179 := hE172.tr hX181
          show J mX4_line _ _ _ 117 _ (.ref 33 :: []) _ _ _
          refine j_pop dX4_line_117 rfl ?_
          refine j_aload_n dX4_line_118 rfl rfl ?_
          refine j_getfield (v := .ref 33) dX4_line_119 jf_X4_58 hG183.1 rfl ?_
          have u189 := hL182
          obtain ⟨p6, n6, G6, e1, e2, e3, e4, e5, e6, e7⟩ := u189
          refine j_callV (cb4_length e2) dX4_line_122 jc_X4_211 jmV_J4_length_8abf5 rfl rfl e2.1 rfl rfl (by simp) jfr_nil (Nat.le_of_ble_eq_true rfl) ⟨Nat.le_of_ble_eq_true rfl, Nat.le_of_ble_eq_true rfl⟩ ⟨Nat.le_of_ble_eq_true rfl, Nat.le_of_ble_eq_true rfl⟩ (fun r h188 hp9 => ?_) (fun E h9 q => q.elim)
          obtain ⟨rfl, rfl⟩ := hp9
          subst hZ
          exact j_ireturn dX4_line_125 rfl rfl ⟨by rw [e4], qp2, (by have e9 : kLine K p = (((([] ++ [35] ++ dgs 7 p) ++ [60] ++ dgs 7 (K 0 p)) ++ [43] ++ dgs 7 (K 1 p)) ++ [120]) := (by unfold kLine; (repeat (first | rw [if_pos (by omega)] | rw [if_neg (by omega)])); simp only [List.append_assoc, List.nil_append, List.append_nil]); rw [e9]; exact hL182), hE187⟩ (by omega) (by omega)
      · refine j_aload_n dX4_line_83 rfl rfl ?_
        refine j_bipush dX4_line_84 (by decide +kernel) ?_
        refine j_aload_n dX4_line_86 rfl rfl ?_
        refine j_getfield (v := .ref 1) dX4_line_87 jf_X4_10 hG168.1 rfl ?_
        refine j_iload_n dX4_line_90 rfl rfl ?_
        refine j_callV (k_coinsOf hG169 hq hO  (by omega)) dX4_line_91 jc_X4_101 jmV_X1_coinsOf rfl rfl hG169.1 rfl rfl (by simp) jfr_nil (Nat.le_of_ble_eq_true rfl) ⟨Nat.le_of_ble_eq_true rfl, Nat.le_of_ble_eq_true rfl⟩ ⟨Nat.le_of_ble_eq_true rfl, Nat.le_of_ble_eq_true rfl⟩ (fun r h190 hp9 => ?_) (fun E h9 q => q.elim)
        obtain ⟨rfl, rfl⟩ := hp9
        have zc := hO.c p
        refine j_callV (x_writePart hG168 hL166 (ch := 61) (v := K 2 p) (by decide) (by omega) (by have zz := dl_r (K 2 p); simp only [List.length_append, List.length_cons, List.length_nil]; first | (have z24 := dl_24 (v := K 2 p) (by omega); omega) | omega)) dX4_line_94 jc_X4_203 jmV_X4_writePart rfl rfl hG168.1 rfl rfl (fun _ z => z) (jfr_1 (by simp [iv]) (by simp [iv])) (Nat.le_of_ble_eq_true rfl) ⟨Nat.le_of_ble_eq_true rfl, Nat.le_of_ble_eq_true rfl⟩ ⟨Nat.le_of_ble_eq_true rfl, Nat.le_of_ble_eq_true rfl⟩ (fun r h191 hp9 => ?_) (fun E h9 q => q.elim)
        obtain ⟨rfl, hL192, hX193⟩ := hp9
        have hG194 := hG168.ex okX hX193 (by decide)
        have hG195 := hG169.ex okF hX193 (by decide)
        have hG196 := hG170.ex okE hX193 (by decide)
        have hG197 := hG171.ex okH hX193 (by decide)
        have hE198 : jEx 33 3 h h191 := hE172.tr hX193
        refine j_aload_n dX4_line_97 rfl rfl ?_
        refine j_getfield (v := .ref 1) dX4_line_98 jf_X4_10 hG194.1 rfl ?_
        refine j_iload_n dX4_line_101 rfl rfl ?_
        refine j_callV (k_lives hG195 hq hO  (by omega)) dX4_line_102 jc_X4_104 jmV_X1_lives rfl rfl hG195.1 rfl rfl (by simp) jfr_nil (Nat.le_of_ble_eq_true rfl) ⟨Nat.le_of_ble_eq_true rfl, Nat.le_of_ble_eq_true rfl⟩ ⟨Nat.le_of_ble_eq_true rfl, Nat.le_of_ble_eq_true rfl⟩ (fun r h199 hp9 => ?_) (fun E h9 q => q.elim)
        obtain ⟨rfl, rfl⟩ := hp9
        have zl := hO.l p
        refine j_if_ne (tgt := 118) dX4_line_105 (by decide) (by omega) (fun c200 => ?_) (fun c200 => ?_)
        · refine j_aload_n dX4_line_118 rfl rfl ?_
          refine j_getfield (v := .ref 33) dX4_line_119 jf_X4_58 hG194.1 rfl ?_
          have u202 := hL192
          obtain ⟨p6, n6, G6, e1, e2, e3, e4, e5, e6, e7⟩ := u202
          refine j_callV (cb4_length e2) dX4_line_122 jc_X4_211 jmV_J4_length_8abf5 rfl rfl e2.1 rfl rfl (by simp) jfr_nil (Nat.le_of_ble_eq_true rfl) ⟨Nat.le_of_ble_eq_true rfl, Nat.le_of_ble_eq_true rfl⟩ ⟨Nat.le_of_ble_eq_true rfl, Nat.le_of_ble_eq_true rfl⟩ (fun r h201 hp9 => ?_) (fun E h9 q => q.elim)
          obtain ⟨rfl, rfl⟩ := hp9
          subst hZ
          exact j_ireturn dX4_line_125 rfl rfl ⟨by rw [e4], qp2, (by have e9 : kLine K p = (((([] ++ [35] ++ dgs 7 p) ++ [60] ++ dgs 7 (K 0 p)) ++ [43] ++ dgs 7 (K 1 p)) ++ [61] ++ dgs 7 (K 2 p)) := (by unfold kLine; (repeat (first | rw [if_pos (by omega)] | rw [if_neg (by omega)])); simp only [List.append_assoc, List.nil_append, List.append_nil]); rw [e9]; exact hL192), hE198⟩ (by omega) (by omega)
        · refine j_aload_n dX4_line_108 rfl rfl ?_
          refine j_getfield (v := .ref 33) dX4_line_109 jf_X4_58 hG194.1 rfl ?_
          refine j_bipush dX4_line_112 (by decide +kernel) ?_
          have u204 := hL192
          obtain ⟨p5, n5, G5, c1, c2, c3, c4, c5, c6, c7⟩ := u204
          refine j_callV (cb4_append c1 c2 c3 c6 (c := 120) (by decide) (by rw [c4]; simp only [List.length_append, List.length_cons, List.length_nil] at c7 ⊢; omega)) dX4_line_114 jc_X4_207 jmV_J4_append_cf468 rfl rfl c2.1 rfl rfl (fun _ z => z) (jfr_1 (by simp [iv]) (by simp [iv])) (Nat.le_of_ble_eq_true rfl) ⟨Nat.le_of_ble_eq_true rfl, Nat.le_of_ble_eq_true rfl⟩ ⟨Nat.le_of_ble_eq_true rfl, Nat.le_of_ble_eq_true rfl⟩ (fun r h203 hp9 => ?_) (fun E h9 q => q.elim)
          obtain ⟨rfl, w9, hX205⟩ := hp9
          rw [c4] at w9
          have hL206 : jSL ((((([] ++ [35] ++ dgs 7 p) ++ [60] ++ dgs 7 (K 0 p)) ++ [43] ++ dgs 7 (K 1 p)) ++ [61] ++ dgs 7 (K 2 p)) ++ [120]) h203 := jSL_1 w9 c5
          have hG207 := hG194.ex okX hX205 (by decide)
          have hG208 := hG195.ex okF hX205 (by decide)
          have hG209 := hG196.ex okE hX205 (by decide)
          have hG210 := hG197.ex okH hX205 (by decide)
          have hE211 : jEx 33 3 h h203 := hE198.tr hX205
          show J mX4_line _ _ _ 117 _ (.ref 33 :: []) _ _ _
          refine j_pop dX4_line_117 rfl ?_
          refine j_aload_n dX4_line_118 rfl rfl ?_
          refine j_getfield (v := .ref 33) dX4_line_119 jf_X4_58 hG207.1 rfl ?_
          have u213 := hL206
          obtain ⟨p6, n6, G6, e1, e2, e3, e4, e5, e6, e7⟩ := u213
          refine j_callV (cb4_length e2) dX4_line_122 jc_X4_211 jmV_J4_length_8abf5 rfl rfl e2.1 rfl rfl (by simp) jfr_nil (Nat.le_of_ble_eq_true rfl) ⟨Nat.le_of_ble_eq_true rfl, Nat.le_of_ble_eq_true rfl⟩ ⟨Nat.le_of_ble_eq_true rfl, Nat.le_of_ble_eq_true rfl⟩ (fun r h212 hp9 => ?_) (fun E h9 q => q.elim)
          obtain ⟨rfl, rfl⟩ := hp9
          subst hZ
          exact j_ireturn dX4_line_125 rfl rfl ⟨by rw [e4], qp2, (by have e9 : kLine K p = ((((([] ++ [35] ++ dgs 7 p) ++ [60] ++ dgs 7 (K 0 p)) ++ [43] ++ dgs 7 (K 1 p)) ++ [61] ++ dgs 7 (K 2 p)) ++ [120]) := (by unfold kLine; (repeat (first | rw [if_pos (by omega)] | rw [if_neg (by omega)])); simp only [List.append_assoc, List.nil_append, List.append_nil]); rw [e9]; exact hL206), hE211⟩ (by omega) (by omega)
theorem xS.x2 {X X' K : fS} {h h' : jH} (w : xS X K h) (hX' : jOb sX 0 X' h') (he : jEx 0 1 h h') : xS X' K h' := by
  obtain ⟨x, y, E, H, hX, hF, hL, hG, hq, hE9, hH⟩ := w
  exact ⟨x, y, E, H, hX', hF.ex okF he (.inr (by decide)), hL.ex okE he (.inr (by decide)), hG.ex okH he (.inr (by decide)), hq, hE9, hH⟩
set_option maxHeartbeats 4000000 in
theorem x_undo {K Ks X I : fS} {P : Int → fS} {c B : Int} {t : Int → Int} {h : jH} (hC : xC K Ks P X I c t h) (hPi : ∀ i, 0 ≤ i → i < X 5 0 → kI B (P i)) : jM mX4_undo 7 1 6 [] [.ref 0] h (fun r h' => r = some (iv (X 5 0 - 1)) ∧ 0 < X 5 0 ∧ xC (P (X 5 0 - 1)) Ks P (gn X 5 (X 5 0 - 1)) I c t h' ∧ jEx 0 14 h h') (fun E h' => E = "java/lang/IllegalStateException" ∧ X 5 0 = 0 ∧ h = h') := by
  refine j_method (by decide +kernel) rfl (fun _ _ _ => trivial) (Nat.le_of_ble_eq_true rfl) ?_
  generalize hZ : jZ [] 1 6 _ _ = Z
  show J mX4_undo (jR 7 1 6) [] Z 0 [(0, .ref 0)] [] h 0 0
  obtain ⟨hS, ⟨Fb, hb⟩, hT, hPa, hp5⟩ := hC
  have hX := hS.x
  refine j_aload_n dX4_undo_0 rfl rfl ?_
  refine j_aload_n dX4_undo_1 rfl rfl ?_
  refine j_getfield (v := iv (X 5 0)) dX4_undo_2 jf_X4_30 hX.1 rfl ?_
  refine j_iconst dX4_undo_5 ?_
  refine j_isub dX4_undo_6 ?_
  by_cases h0 : X 5 0 = 0
  · refine j_callV (x_pastAtN hX (p := X 5 0 - 1) (by omega) (by omega)) dX4_undo_7 jc_X4_309 jmV_X4_pastAt rfl rfl hX.1 rfl rfl (by simp) jfr_nil (Nat.le_of_ble_eq_true rfl) ⟨Nat.le_of_ble_eq_true rfl, Nat.le_of_ble_eq_true rfl⟩ ⟨Nat.le_of_ble_eq_true rfl, Nat.le_of_ble_eq_true rfl⟩ (fun r h1 hp9 => ?_) (fun E h9 q => q.elim)
    obtain ⟨rfl, rfl⟩ := hp9
    show J mX4_undo _ _ _ 10 _ (.null :: []) _ _ _
    refine j_astore_nN (L' := [(0, _), (1, _)]) dX4_undo_10 rfl (by decide) rfl ?_
    refine j_aload_nN dX4_undo_11 rfl rfl ?_
    refine j_ifnonnullN dX4_undo_12 ?_
    subst hZ
    exact j_throwYW jth_177_313_181 rfl dX4_undo_15 dX4_undo_18 dX4_undo_19 dX4_undo_22 dX4_undo_25 (by decide) (by decide) ⟨rfl, h0, rfl⟩ (by decide) (by decide)
  · have hPa0 := hPa
    obtain ⟨pl, g, w1, w2, w3, w4, w5⟩ := hPa0
    have hq := w1.1 (X 5 0 - 1) (by omega) (by omega)
    refine j_callV (x_pastAt hX w2 (p := X 5 0 - 1) (by omega) (w3 _ (by omega) (by omega))) dX4_undo_7 jc_X4_309 jmV_X4_pastAt rfl rfl hX.1 rfl rfl (by simp) jfr_nil (Nat.le_of_ble_eq_true rfl) ⟨Nat.le_of_ble_eq_true rfl, Nat.le_of_ble_eq_true rfl⟩ ⟨Nat.le_of_ble_eq_true rfl, Nat.le_of_ble_eq_true rfl⟩ (fun r h1 hp9 => ?_) (fun E h9 q => q.elim)
    obtain ⟨rfl, rfl⟩ := hp9
    show J mX4_undo _ _ _ 10 _ (.ref (pl (X 5 0 - 1)) :: []) _ _ _
    refine j_astore_n (L' := [(0, _), (1, _)]) dX4_undo_10 rfl (by decide) rfl ?_
    refine j_aload_n dX4_undo_11 rfl rfl ?_
    refine j_ifnonnull (tgt := 26) dX4_undo_12 (by decide) ?_
    refine j_aload_n dX4_undo_26 rfl rfl ?_
    refine j_aload_n dX4_undo_27 rfl rfl ?_
    refine j_callV (x_goBackTo hS (w5 _ (by omega) (by omega)) (by omega) (hPi _ (by omega) (by omega)).1) dX4_undo_28 jc_X4_249 jmV_X4_goBackTo rfl rfl hX.1 rfl rfl (by simp) jfr_nil (Nat.le_of_ble_eq_true rfl) ⟨Nat.le_of_ble_eq_true rfl, Nat.le_of_ble_eq_true rfl⟩ ⟨Nat.le_of_ble_eq_true rfl, Nat.le_of_ble_eq_true rfl⟩ (fun r h1 hp9 => ?_) (fun E h9 q => q.elim)
    obtain ⟨rfl, hS1, x1⟩ := hp9
    have hX1 := hS1.x
    refine j_aload_n dX4_undo_31 rfl rfl ?_
    refine j_dup dX4_undo_32 rfl ?_
    refine j_getfield (v := iv (X 5 0)) dX4_undo_33 jf_X4_30 hX1.1 rfl ?_
    refine j_iconst dX4_undo_36 ?_
    refine j_isub dX4_undo_37 ?_
    refine jo_put (S := sX) dX4_undo_38 jf_X4_30 (fun q hq => by cases hq; exact ⟨rfl, rfl⟩) (jHold_int _) okX hX1 rfl (fun h3 hG3 hX3 => ?_)
    refine j_aload_n dX4_undo_41 rfl rfl ?_
    refine j_getfield (v := iv (X 5 0 - 1)) dX4_undo_42 jf_X4_30 hG3.1 rfl ?_
    have hy : ∀ j, 14 ≤ j → h3 j = h j := fun j j0 => (hX3 j (.inr (by show 0 + 1 ≤ j; omega))).trans (x1 j (.inr (by omega)))
    subst hZ
    refine j_ireturn dX4_undo_45 rfl rfl ⟨rfl, by omega, ⟨hS1.x2 hG3 hX3, ⟨Fb, hb.eq okF fun j j0 _ => hy j j0⟩, hT.eq fun j j0 _ => hy j (by omega), ?_, by show 0 ≤ X 5 0 - 1 ∧ X 5 0 - 1 ≤ 8; omega⟩, fun j hj => hy j (by omega)⟩ (Nat.le_of_ble_eq_true rfl) (Nat.le_of_ble_eq_true rfl)
    show xPa (X 5 0 - 1) P h3
    have w := hPa.eq (fun j j0 _ => hy j (by omega)) hp5.2
    obtain ⟨pl', g', v1, v2, v3, v4, v5⟩ := w
    exact ⟨pl', g', v1, v2, v3, v4, fun i i0 i1 => v5 i i0 (by omega)⟩
set_option maxHeartbeats 4000000 in
theorem x_save {K Ks X I : fS} {P : Int → fS} {c B : Int} {t : Int → Int} {h : jH} (hC : xC K Ks P X I c t h) (hI : kI B K) : jM mX4_save 2 0 0 [] [.ref 0] h (fun r h' => r = some (iv (K 6 0)) ∧ xC K K P (gn X 3 1) I c t h' ∧ jEx 0 28 h h') jno := by
  refine j_method (by decide +kernel) rfl (fun _ _ _ => trivial) (Nat.le_of_ble_eq_true rfl) ?_
  generalize hZ : jZ [] 0 0 _ _ = Z
  show J mX4_save (jR 2 0 0) [] Z 0 [(0, .ref 0)] [] h 0 0
  obtain ⟨hS, ⟨Fb, hb⟩, ⟨hKs, hIn, hW⟩, hPa, hp5⟩ := hC
  have hX := hS.x
  obtain ⟨as, bs9, hqs, hFs⟩ := hKs
  obtain ⟨a, b, E, H, _, hF, hL, hG, hq, hE9, hH⟩ := id hS
  refine j_aload_n dX4_save_0 rfl rfl ?_
  refine j_getfield (v := .ref 21) dX4_save_1 jf_X4_19 hX.1 rfl ?_
  refine j_aload_n dX4_save_4 rfl rfl ?_
  refine j_getfield (v := .ref 1) dX4_save_5 jf_X4_10 hX.1 rfl ?_
  refine j_callV (k_copyFrom hFs (k2 := 1) (.inr (by decide)) hF hI.1) dX4_save_8 jc_X4_315 jmV_X1_copyFrom rfl rfl hFs.1 rfl rfl (by simp) jfr_nil (Nat.le_of_ble_eq_true rfl) ⟨Nat.le_of_ble_eq_true rfl, Nat.le_of_ble_eq_true rfl⟩ ⟨Nat.le_of_ble_eq_true rfl, Nat.le_of_ble_eq_true rfl⟩ (fun r h1 hp9 => ?_) (fun E h9 q => q.elim)
  obtain ⟨rfl, hK1, x1⟩ := hp9
  have hS1 := hS.ex x1 (by decide)
  have hX1 := hS1.x
  refine j_aload_n dX4_save_11 rfl rfl ?_
  refine j_iconst dX4_save_12 ?_
  refine jo_put (S := sX) dX4_save_13 jf_X4_22 (fun q hq => by cases hq; exact ⟨rfl, rfl⟩) (jHold_bool (.inr rfl)) okX hX1 rfl (fun h3 hG3 hX3 => ?_)
  have hK3 := hK1.ex okF hX3 (.inr (by decide))
  refine j_aload_n dX4_save_16 rfl rfl ?_
  refine j_getfield (v := .ref 21) dX4_save_17 jf_X4_19 hG3.1 rfl ?_
  refine j_getfield (v := iv (K 6 0)) dX4_save_20 jf_X4_150 hK3.1 rfl ?_
  have hy : ∀ j, 28 ≤ j → h3 j = h j := fun j j0 => (hX3 j (.inr (by show 0 + 1 ≤ j; omega))).trans (x1 j (.inr (by omega)))
  have hy2 : ∀ j, 14 ≤ j → j < 21 → h3 j = h j := fun j j0 j1 => (hX3 j (.inr (by show 0 + 1 ≤ j; omega))).trans (x1 j (.inl (by omega)))
  subst hZ
  exact j_ireturn dX4_save_23 rfl rfl ⟨rfl, ⟨hS1.x2 hG3 hX3, ⟨Fb, hb.eq okF fun j j0 j1 => hy2 j j0 (by have j1 : j < 14 + 7 := j1; omega)⟩, ⟨⟨a, b, hq, hK3⟩, hIn.eq okI fun j j0 _ => hy j j0, hW.eq fun j j0 _ => hy j (by omega)⟩, hPa.eq (fun j j0 _ => hy j (by omega)) hp5.2, hp5⟩, fun j hj => hy j (by omega)⟩ (Nat.le_refl _) (Nat.le_refl _)
set_option maxHeartbeats 4000000 in
theorem x_restore {K Ks X I : fS} {P : Int → fS} {c B : Int} {t : Int → Int} {h : jH} (hC : xC K Ks P X I c t h) (hIs : kI B Ks) (h3 : X 3 0 = 0 ∨ X 3 0 = 1) : jM mX4_restore 7 1 6 [] [.ref 0] h (fun r h' => r = some (iv (Ks 6 0)) ∧ X 3 0 = 1 ∧ xC Ks Ks P (gn X 5 0) I c t h' ∧ jEx 0 14 h h') (fun E h' => E = "java/lang/IllegalStateException" ∧ X 3 0 = 0 ∧ h = h') := by
  refine j_method (by decide +kernel) rfl (fun _ _ _ => trivial) (Nat.le_of_ble_eq_true rfl) ?_
  generalize hZ : jZ [] 1 6 _ _ = Z
  show J mX4_restore (jR 7 1 6) [] Z 0 [(0, .ref 0)] [] h 0 0
  obtain ⟨hS, ⟨Fb, hb⟩, hT, hPa, hp5⟩ := hC
  have hX := hS.x
  refine j_aload_n dX4_restore_0 rfl rfl ?_
  refine j_getfield (v := iv (X 3 0)) dX4_restore_1 jf_X4_22 hX.1 rfl ?_
  refine j_if_ne (tgt := 18) dX4_restore_4 (by decide) (by omega) (fun c9 => ?_) (fun c9 => ?_)
  · refine j_aload_n dX4_restore_18 rfl rfl ?_
    refine j_aload_n dX4_restore_19 rfl rfl ?_
    refine j_getfield (v := .ref 21) dX4_restore_20 jf_X4_19 hX.1 rfl ?_
    refine j_callV (x_goBackTo hS hT.1 (by decide) hIs.1) dX4_restore_23 jc_X4_249 jmV_X4_goBackTo rfl rfl hX.1 rfl rfl (by simp) jfr_nil (Nat.le_of_ble_eq_true rfl) ⟨Nat.le_of_ble_eq_true rfl, Nat.le_of_ble_eq_true rfl⟩ ⟨Nat.le_of_ble_eq_true rfl, Nat.le_of_ble_eq_true rfl⟩ (fun r h1 hp9 => ?_) (fun E h9 q => q.elim)
    obtain ⟨rfl, hS1, x1⟩ := hp9
    have hX1 := hS1.x
    refine j_aload_n dX4_restore_26 rfl rfl ?_
    refine j_iconst dX4_restore_27 ?_
    refine jo_put (S := sX) dX4_restore_28 jf_X4_30 (fun q hq => by cases hq; exact ⟨rfl, rfl⟩) (jHold_int _) okX hX1 rfl (fun h4 hG3 hX3 => ?_)
    have hS4 := hS1.x2 hG3 hX3
    obtain ⟨a2, b2, E2, H2, _, hF2, _⟩ := id hS4
    refine j_aload_n dX4_restore_31 rfl rfl ?_
    refine j_getfield (v := .ref 1) dX4_restore_32 jf_X4_10 hG3.1 rfl ?_
    refine j_getfield (v := iv (Ks 6 0)) dX4_restore_35 jf_X4_150 hF2.1 rfl ?_
    have hy : ∀ j, 14 ≤ j → h4 j = h j := fun j j0 => (hX3 j (.inr (by show 0 + 1 ≤ j; omega))).trans (x1 j (.inr (by omega)))
    subst hZ
    refine j_ireturn dX4_restore_38 rfl rfl ⟨rfl, by omega, ⟨hS4, ⟨Fb, hb.eq okF fun j j0 _ => hy j j0⟩, hT.eq fun j j0 _ => hy j (by omega), ?_, by show (0 : Int) ≤ 0 ∧ (0 : Int) ≤ 8; decide⟩, fun j hj => hy j (by omega)⟩ (Nat.le_of_ble_eq_true rfl) (Nat.le_of_ble_eq_true rfl)
    show xPa 0 P h4
    have w := hPa.eq (fun j j0 _ => hy j (by omega)) hp5.2
    obtain ⟨pl', g', v1, v2, v3, v4, v5⟩ := w
    exact ⟨pl', g', v1, v2, v3, v4, fun i i0 i1 => absurd i1 (by omega)⟩
  · subst hZ
    exact j_throwYW jth_177_318_181 rfl dX4_restore_7 dX4_restore_10 dX4_restore_11 dX4_restore_14 dX4_restore_17 (by decide) (by decide) ⟨rfl, c9, rfl⟩ (by decide) (by decide)
