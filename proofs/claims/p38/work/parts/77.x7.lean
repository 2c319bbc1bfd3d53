/-- the line is l -/
def jSL (l : List Int) (h : jH) : Prop := jSB 33 (l.length : Int) (fun j => (l[j.toNat]?).getD 0) h
theorem jSL_1 {l : List Int} {ch : Int} {h : jH} {f : Int → Int} (w : jSB 33 ((l.length : Int) + 1) (jfu f (l.length : Int) ch) h) (e : ∀ j, 0 ≤ j → j < (l.length : Int) → f j = (l[j.toNat]?).getD 0) : jSL (l ++ [ch]) h := by
  have e2 : ((l ++ [ch]).length : Int) = l.length + 1 := by rw [List.length_append]; rfl
  unfold jSL
  rw [e2]
  refine w.cg fun j j0 j1 => ?_
  by_cases hj : j = (l.length : Int)
  · rw [hj, jfu_s, Int.toNat_natCast, List.getElem?_append_right (Nat.le_refl _), Nat.sub_self]
    rfl
  · rw [jfu_n hj, e j j0 (by omega), List.getElem?_append_left (by omega)]
theorem jSL_n {l : List Int} {v : Int} {h : jH} {f : Int → Int} (hv : 0 ≤ v ∧ v ≤ 20000000) (w : jSB 33 ((l.length : Int) + dl v) f h) (e : ∀ j, 0 ≤ j → j < (l.length : Int) → f j = (l[j.toNat]?).getD 0) (e2 : ∀ j : Nat, (j : Int) < dl v → f ((l.length : Int) + dl v - 1 - j) = dgt v j) : jSL (l ++ dgs 7 v) h := by
  have hr := dl_r v
  obtain ⟨d1, d2⟩ := dgs_e 7 v hv.1 hv.2 (by omega)
  have e3 : ((l ++ dgs 7 v).length : Int) = l.length + dl v := by rw [List.length_append]; omega
  unfold jSL
  rw [e3]
  refine w.cg fun j j0 j1 => ?_
  by_cases hj : j < (l.length : Int)
  · rw [e j j0 hj, List.getElem?_append_left (by omega)]
  · rw [List.getElem?_append_right (by omega), d2 (j.toNat - l.length) (by omega)]
    have := e2 ((dl v).toNat - 1 - (j.toNat - l.length)) (by omega)
    rw [show (l.length : Int) + dl v - 1 - (((dl v).toNat - 1 - (j.toNat - l.length) : Nat) : Int) = j by omega] at this
    exact this
set_option maxHeartbeats 2000000 in
theorem x_writePart {X : fS} {l : List Int} {h : jH} (hX : jOb sX 0 X h) (hL : jSL l h) {ch v : Int} (hc : 0 ≤ ch ∧ ch < 128) (hv : 0 ≤ v ∧ v ≤ 20000000) (hl : (l.length : Int) + 1 + dl v ≤ 34) : jM mX4_writePart 7 2 68 [35] [.ref 0, iv ch, iv v] h (fun r h' => r = none ∧ jSL (l ++ [ch] ++ dgs 7 v) h' ∧ jEx 33 3 h h') jno := by
  refine j_method (by decide +kernel) rfl (fun _ _ _ => trivial) (Nat.le_of_ble_eq_true rfl) ?_
  generalize hZ : jZ [35] 2 68 _ _ = Z
  show J mX4_writePart (jR 7 2 68) [35] Z 0 [(0, .ref 0), (1, iv ch), (2, iv v)] [] h 0 0
  have hr := dl_r v
  obtain ⟨p, n, G, a1, a2, a3, a4, a5, a6, a7⟩ := hL
  refine j_aload_n dX4_writePart_0 rfl rfl ?_
  refine j_getfield (v := .ref 33) dX4_writePart_1 jf_X4_58 hX.1 rfl ?_
  refine j_iload_n dX4_writePart_4 rfl rfl ?_
  refine j_callV (cb4_append a1 a2 a3 a6 hc (by omega)) dX4_writePart_5 jc_X4_207 jmV_J4_append_cf468 rfl rfl a2.1 rfl rfl (fun _ z => z) (jfr_1 (by simp [iv]) (by simp [iv])) (Nat.le_of_ble_eq_true rfl) ⟨Nat.le_of_ble_eq_true rfl, Nat.le_of_ble_eq_true rfl⟩ ⟨Nat.le_of_ble_eq_true rfl, Nat.le_of_ble_eq_true rfl⟩ (fun r h1 hp9 => ?_) (fun E h9 q => q.elim)
  obtain ⟨rfl, w1, x1⟩ := hp9
  rw [a4] at w1
  have hL1 : jSL (l ++ [ch]) h1 := jSL_1 w1 a5
  have hX1 := hX.ex okX x1 (by decide)
  have el : ((l ++ [ch]).length : Int) = l.length + 1 := by rw [List.length_append]; rfl
  show J mX4_writePart _ _ _ 8 _ (.ref 33 :: []) _ _ _
  refine j_pop dX4_writePart_8 rfl ?_
  have hL1' := hL1
  obtain ⟨p2, n2, G2, b1, b2, b3, b4, b5, b6, b7⟩ := hL1'
  refine j_aload_n dX4_writePart_9 rfl rfl ?_
  refine j_getfield (v := .ref 33) dX4_writePart_10 jf_X4_58 hX1.1 rfl ?_
  refine j_iload_n dX4_writePart_13 rfl rfl ?_
  refine j_callV (cb4_appendInt b1 b2 b3 b6 hv (by omega)) dX4_writePart_14 jc_X4_413 jmV_J4_append_bf812 rfl rfl b2.1 rfl rfl (fun _ z => z) (jfr_1 (by simp [iv]) (by simp [iv])) (Nat.le_of_ble_eq_true rfl) ⟨Nat.le_of_ble_eq_true rfl, Nat.le_of_ble_eq_true rfl⟩ ⟨Nat.le_of_ble_eq_true rfl, Nat.le_of_ble_eq_true rfl⟩ (fun r h2 hp9 => ?_) (fun E h9 q => q.elim)
  obtain ⟨rfl, f, f1, f2, w2, x2⟩ := hp9
  rw [b4] at w2 f1 f2
  have hL2 : jSL (l ++ [ch] ++ dgs 7 v) h2 := jSL_n hv w2 (fun j j0 j1 => (f1 j j0 j1).trans (b5 j j0 j1)) f2
  show J mX4_writePart _ _ _ 17 _ (.ref 33 :: []) _ _ _
  refine j_pop dX4_writePart_17 rfl ?_
  subst hZ
  exact j_return dX4_writePart_18 rfl ⟨rfl, hL2, x1.tr x2⟩ (Nat.le_refl _) (Nat.le_refl _)
/-- the line of p -/
def kLine (K : fS) (p : Int) : List Int := [35] ++ dgs 7 p ++ (if K 0 p = -1 then [] else [60] ++ dgs 7 (K 0 p)) ++ (if K 1 p = -1 then [] else [43] ++ dgs 7 (K 1 p)) ++ (if K 2 p = 0 then [] else [61] ++ dgs 7 (K 2 p)) ++ (if K 3 p = 0 then [120] else [])
theorem dl_24 {v : Int} (h : v < 24) : dl v ≤ 2 := by
  unfold dl
  repeat' split
  all_goals omega
theorem dgs_len2 {v : Int} (h : 0 ≤ v ∧ v < 24) : (dgs 7 v).length ≤ 2 := by
  have := (dgs_e 7 v h.1 (by omega) (by have := dl_r v; omega)).1
  have := dl_24 h.2
  omega
theorem dgs_len8 {v : Int} : (dgs 7 v).length ≤ 8 := dgs_len 7 v
set_option maxHeartbeats 4000000 in
/-- FamilyOaks.line -/
theorem x_line {K Ks X I : fS} {P : Int → fS} {c B : Int} {t : Int → Int} {h : jH} (hC : xC K Ks P X I c t h) (hI : kI B K) {p : Int} (hp : -2147483648 ≤ p ∧ p ≤ 2147483647) : jM mX4_line 9 11 346 [35] [.ref 0, iv p] h (fun r h' => r = some (iv ((kLine K p).length : Int)) ∧ (0 ≤ p ∧ p < K 6 0) ∧ jSL (kLine K p) h' ∧ jEx 33 3 h h') (fun E h' => E = "java/lang/IndexOutOfBoundsException" ∧ h = h' ∧ ¬ (0 ≤ p ∧ p < K 6 0)) := by
  refine j_method (by decide +kernel) rfl (fun _ _ _ => trivial) (Nat.le_of_ble_eq_true rfl) ?_
  generalize hZ : jZ [35] 11 346 _ _ = Z
  show J mX4_line (jR 9 11 346) [35] Z 0 [(0, .ref 0), (1, iv p)] [] h 0 0
  obtain ⟨hS, ⟨Fb, hb⟩, ⟨hKs, hIn, hW⟩, hPa, hp5⟩ := hC
  obtain ⟨a, b, E, H, hX, hF, hL, hG, hq, hE9, hH⟩ := hS
  have hO := hI.1
  have hA := hI.2.1
  have hn := hO.n
  have hqn := hO.q
  obtain ⟨p9, n9, G9, a1, a2, a3, a4, a5, a6, a7⟩ := hW
  have z0 := hO.p p
  have z1 := hO.s p
  have z2 := hO.c p
  have zb := hO.b
  refine j_aload_n dX4_line_0 rfl rfl ?_
  refine j_iload_n dX4_line_1 rfl rfl ?_
  refine j_callV (x_needPerson hX hF hq hO (p := p) (by omega)) dX4_line_2 jc_X4_82 jmV_X4_needPerson rfl rfl hX.1 rfl rfl (by simp) jfr_nil (Nat.le_of_ble_eq_true rfl) ⟨Nat.le_of_ble_eq_true rfl, Nat.le_of_ble_eq_true rfl⟩ ⟨Nat.le_of_ble_eq_true rfl, Nat.le_of_ble_eq_true rfl⟩ (fun r h1 hp9 => ?_) (fun E9 h9 q9 => by obtain ⟨rfl, rfl, q9⟩ := q9; subst hZ; exact j_out rfl ⟨rfl, rfl, q9⟩ (by decide) (by decide))
  obtain ⟨rfl, rfl, qp2⟩ := hp9
  have y0 : (dgs 7 p).length ≤ 2 := dgs_len2 (by omega)
  have y1 : (dgs 7 (K 0 p)).length ≤ 8 ∧ (0 ≤ K 0 p → (dgs 7 (K 0 p)).length ≤ 2) := ⟨dgs_len8, fun z => dgs_len2 (by omega)⟩
  have y2 : (dgs 7 (K 1 p)).length ≤ 8 ∧ (0 ≤ K 1 p → (dgs 7 (K 1 p)).length ≤ 2) := ⟨dgs_len8, fun z => dgs_len2 (by omega)⟩
  have y3 : (dgs 7 (K 2 p)).length ≤ 8 := dgs_len8
  refine j_aload_n dX4_line_5 rfl rfl ?_
  refine j_getfield (v := .ref 33) dX4_line_6 jf_X4_58 hX.1 rfl ?_
  refine j_iconst dX4_line_9 ?_
  refine j_callV (cb4_setLength a1 a2 a3 a6 (by have := a1.o; omega)) dX4_line_10 jc_X4_200 jmV_J4_setLength_d00df rfl rfl a2.1 rfl rfl (fun _ z => z) (jfr_1 (by simp [iv]) (by simp [iv])) (Nat.le_of_ble_eq_true rfl) ⟨Nat.le_of_ble_eq_true rfl, Nat.le_of_ble_eq_true rfl⟩ ⟨Nat.le_of_ble_eq_true rfl, Nat.le_of_ble_eq_true rfl⟩ (fun r h2 hp9 => ?_) (fun E h9 q => q.elim)
  obtain ⟨rfl, hL0, hX3⟩ := hp9
  have hL1 : jSL [] h2 := hL0 _
  have hG4 := hX.ex okX hX3 (by decide)
  have hG5 := hF.ex okF hX3 (by decide)
  have hG6 := hL.ex okE hX3 (by decide)
  have hG7 := hG.ex okH hX3 (by decide)
  have hE8 : jEx 33 3 h h2 := hX3
  refine j_aload_n dX4_line_13 rfl rfl ?_
  refine j_bipush dX4_line_14 (by decide +kernel) ?_
  refine j_iload_n dX4_line_16 rfl rfl ?_
  refine j_callV (x_writePart hG4 hL1 (ch := 35) (v := p) (by decide) (by omega) (by have zz := dl_r (p); simp only [List.length_append, List.length_cons, List.length_nil]; first | (have z24 := dl_24 (v := p) (by omega); omega) | omega)) dX4_line_17 jc_X4_203 jmV_X4_writePart rfl rfl hG4.1 rfl rfl (fun _ z => z) (jfr_1 (by simp [iv]) (by simp [iv])) (Nat.le_of_ble_eq_true rfl) ⟨Nat.le_of_ble_eq_true rfl, Nat.le_of_ble_eq_true rfl⟩ ⟨Nat.le_of_ble_eq_true rfl, Nat.le_of_ble_eq_true rfl⟩ (fun r h10 hp9 => ?_) (fun E h9 q => q.elim)
  obtain ⟨rfl, hL11, hX12⟩ := hp9
  have hG13 := hG4.ex okX hX12 (by decide)
  have hG14 := hG5.ex okF hX12 (by decide)
  have hG15 := hG6.ex okE hX12 (by decide)
  have hG16 := hG7.ex okH hX12 (by decide)
  have hE17 : jEx 33 3 h h10 := hE8.tr hX12
  refine j_aload_n dX4_line_20 rfl rfl ?_
  refine j_getfield (v := .ref 1) dX4_line_21 jf_X4_10 hG13.1 rfl ?_
  refine j_iload_n dX4_line_24 rfl rfl ?_
  refine j_callV (k_parentOf hG14 hq hO  (by omega)) dX4_line_25 jc_X4_86 jmV_X1_parentOf rfl rfl hG14.1 rfl rfl (by simp) jfr_nil (Nat.le_of_ble_eq_true rfl) ⟨Nat.le_of_ble_eq_true rfl, Nat.le_of_ble_eq_true rfl⟩ ⟨Nat.le_of_ble_eq_true rfl, Nat.le_of_ble_eq_true rfl⟩ (fun r h18 hp9 => ?_) (fun E h9 q => q.elim)
  obtain ⟨rfl, rfl⟩ := hp9
  have zp := hO.p p
  refine j_iconst dX4_line_28 ?_
  refine j_icmp_eq (tgt := 46) dX4_line_29 (by decide) (by omega) (fun c19 => ?_) (fun c19 => ?_)
  · refine j_aload_n dX4_line_46 rfl rfl ?_
    refine j_getfield (v := .ref 1) dX4_line_47 jf_X4_10 hG13.1 rfl ?_
    refine j_iload_n dX4_line_50 rfl rfl ?_
    refine j_callV (k_spouseOf hG14 hq hO  (by omega)) dX4_line_51 jc_X4_98 jmV_X1_spouseOf rfl rfl hG14.1 rfl rfl (by simp) jfr_nil (Nat.le_of_ble_eq_true rfl) ⟨Nat.le_of_ble_eq_true rfl, Nat.le_of_ble_eq_true rfl⟩ ⟨Nat.le_of_ble_eq_true rfl, Nat.le_of_ble_eq_true rfl⟩ (fun r h20 hp9 => ?_) (fun E h9 q => q.elim)
    obtain ⟨rfl, rfl⟩ := hp9
    have zs := hO.s p
    refine j_iconst dX4_line_54 ?_
    refine j_icmp_eq (tgt := 72) dX4_line_55 (by decide) (by omega) (fun c21 => ?_) (fun c21 => ?_)
    · refine j_aload_n dX4_line_72 rfl rfl ?_
      refine j_getfield (v := .ref 1) dX4_line_73 jf_X4_10 hG13.1 rfl ?_
      refine j_iload_n dX4_line_76 rfl rfl ?_
      refine j_callV (k_coinsOf hG14 hq hO  (by omega)) dX4_line_77 jc_X4_101 jmV_X1_coinsOf rfl rfl hG14.1 rfl rfl (by simp) jfr_nil (Nat.le_of_ble_eq_true rfl) ⟨Nat.le_of_ble_eq_true rfl, Nat.le_of_ble_eq_true rfl⟩ ⟨Nat.le_of_ble_eq_true rfl, Nat.le_of_ble_eq_true rfl⟩ (fun r h22 hp9 => ?_) (fun E h9 q => q.elim)
      obtain ⟨rfl, rfl⟩ := hp9
      have zc := hO.c p
      refine j_if_eq (tgt := 97) dX4_line_80 (by decide) (by omega) (fun c23 => ?_) (fun c23 => ?_)
      · refine j_aload_n dX4_line_97 rfl rfl ?_
        refine j_getfield (v := .ref 1) dX4_line_98 jf_X4_10 hG13.1 rfl ?_
        refine j_iload_n dX4_line_101 rfl rfl ?_
        refine j_callV (k_lives hG14 hq hO  (by omega)) dX4_line_102 jc_X4_104 jmV_X1_lives rfl rfl hG14.1 rfl rfl (by simp) jfr_nil (Nat.le_of_ble_eq_true rfl) ⟨Nat.le_of_ble_eq_true rfl, Nat.le_of_ble_eq_true rfl⟩ ⟨Nat.le_of_ble_eq_true rfl, Nat.le_of_ble_eq_true rfl⟩ (fun r h24 hp9 => ?_) (fun E h9 q => q.elim)
        obtain ⟨rfl, rfl⟩ := hp9
        have zl := hO.l p
        refine j_if_ne (tgt := 118) dX4_line_105 (by decide) (by omega) (fun c25 => ?_) (fun c25 => ?_)
        · refine j_aload_n dX4_line_118 rfl rfl ?_
          refine j_getfield (v := .ref 33) dX4_line_119 jf_X4_58 hG13.1 rfl ?_
          have u27 := hL11
          obtain ⟨p6, n6, G6, e1, e2, e3, e4, e5, e6, e7⟩ := u27
          refine j_callV (cb4_length e2) dX4_line_122 jc_X4_211 jmV_J4_length_8abf5 rfl rfl e2.1 rfl rfl (by simp) jfr_nil (Nat.le_of_ble_eq_true rfl) ⟨Nat.le_of_ble_eq_true rfl, Nat.le_of_ble_eq_true rfl⟩ ⟨Nat.le_of_ble_eq_true rfl, Nat.le_of_ble_eq_true rfl⟩ (fun r h26 hp9 => ?_) (fun E h9 q => q.elim)
          obtain ⟨rfl, rfl⟩ := hp9
          subst hZ
          exact j_ireturn dX4_line_125 rfl rfl (by have e9 : kLine K p = ([] ++ [35] ++ dgs 7 p) := (by unfold kLine; (repeat (first | rw [if_pos (by omega)] | rw [if_neg (by omega)])); simp only [List.append_assoc, List.nil_append, List.append_nil]); rw [e9]; exact ⟨by rw [e4], qp2, hL11, hE17⟩) (by omega) (by omega)
        · refine j_aload_n dX4_line_108 rfl rfl ?_
          refine j_getfield (v := .ref 33) dX4_line_109 jf_X4_58 hG13.1 rfl ?_
          refine j_bipush dX4_line_112 (by decide +kernel) ?_
          have u29 := hL11
          obtain ⟨p5, n5, G5, c1, c2, c3, c4, c5, c6, c7⟩ := u29
          refine j_callV (cb4_append c1 c2 c3 c6 (c := 120) (by decide) (by rw [c4]; simp only [List.length_append, List.length_cons, List.length_nil] at c7 ⊢; omega)) dX4_line_114 jc_X4_207 jmV_J4_append_cf468 rfl rfl c2.1 rfl rfl (fun _ z => z) (jfr_1 (by simp [iv]) (by simp [iv])) (Nat.le_of_ble_eq_true rfl) ⟨Nat.le_of_ble_eq_true rfl, Nat.le_of_ble_eq_true rfl⟩ ⟨Nat.le_of_ble_eq_true rfl, Nat.le_of_ble_eq_true rfl⟩ (fun r h28 hp9 => ?_) (fun E h9 q => q.elim)
          obtain ⟨rfl, w9, hX30⟩ := hp9
          rw [c4] at w9
          have hL31 : jSL (([] ++ [35] ++ dgs 7 p) ++ [120]) h28 := jSL_1 w9 c5
          have hG32 := hG13.ex okX hX30 (by decide)
          have hG33 := hG14.ex okF hX30 (by decide)
          have hG34 := hG15.ex okE hX30 (by decide)
          have hG35 := hG16.ex okH hX30 (by decide)
          have hE36 : jEx 33 3 h h28 := hE17.tr hX30
          show J mX4_line _ _ _ 117 _ (.ref 33 :: []) _ _ _
          refine j_pop dX4_line_117 rfl ?_
          refine j_aload_n dX4_line_118 rfl rfl ?_
          refine j_getfield (v := .ref 33) dX4_line_119 jf_X4_58 hG32.1 rfl ?_
          have u38 := hL31
          obtain ⟨p6, n6, G6, e1, e2, e3, e4, e5, e6, e7⟩ := u38
          refine j_callV (cb4_length e2) dX4_line_122 jc_X4_211 jmV_J4_length_8abf5 rfl rfl e2.1 rfl rfl (by simp) jfr_nil (Nat.le_of_ble_eq_true rfl) ⟨Nat.le_of_ble_eq_true rfl, Nat.le_of_ble_eq_true rfl⟩ ⟨Nat.le_of_ble_eq_true rfl, Nat.le_of_ble_eq_true rfl⟩ (fun r h37 hp9 => ?_) (fun E h9 q => q.elim)
          obtain ⟨rfl, rfl⟩ := hp9
          subst hZ
          exact j_ireturn dX4_line_125 rfl rfl (by have e9 : kLine K p = (([] ++ [35] ++ dgs 7 p) ++ [120]) := (by unfold kLine; (repeat (first | rw [if_pos (by omega)] | rw [if_neg (by omega)])); simp only [List.append_assoc, List.nil_append, List.append_nil]); rw [e9]; exact ⟨by rw [e4], qp2, hL31, hE36⟩) (by omega) (by omega)
      · refine j_aload_n dX4_line_83 rfl rfl ?_
        refine j_bipush dX4_line_84 (by decide +kernel) ?_
        refine j_aload_n dX4_line_86 rfl rfl ?_
        refine j_getfield (v := .ref 1) dX4_line_87 jf_X4_10 hG13.1 rfl ?_
        refine j_iload_n dX4_line_90 rfl rfl ?_
        refine j_callV (k_coinsOf hG14 hq hO  (by omega)) dX4_line_91 jc_X4_101 jmV_X1_coinsOf rfl rfl hG14.1 rfl rfl (by simp) jfr_nil (Nat.le_of_ble_eq_true rfl) ⟨Nat.le_of_ble_eq_true rfl, Nat.le_of_ble_eq_true rfl⟩ ⟨Nat.le_of_ble_eq_true rfl, Nat.le_of_ble_eq_true rfl⟩ (fun r h39 hp9 => ?_) (fun E h9 q => q.elim)
        obtain ⟨rfl, rfl⟩ := hp9
        have zc := hO.c p
        refine j_callV (x_writePart hG13 hL11 (ch := 61) (v := K 2 p) (by decide) (by omega) (by have zz := dl_r (K 2 p); simp only [List.length_append, List.length_cons, List.length_nil]; first | (have z24 := dl_24 (v := K 2 p) (by omega); omega) | omega)) dX4_line_94 jc_X4_203 jmV_X4_writePart rfl rfl hG13.1 rfl rfl (fun _ z => z) (jfr_1 (by simp [iv]) (by simp [iv])) (Nat.le_of_ble_eq_true rfl) ⟨Nat.le_of_ble_eq_true rfl, Nat.le_of_ble_eq_true rfl⟩ ⟨Nat.le_of_ble_eq_true rfl, Nat.le_of_ble_eq_true rfl⟩ (fun r h40 hp9 => ?_) (fun E h9 q => q.elim)
        obtain ⟨rfl, hL41, hX42⟩ := hp9
        have hG43 := hG13.ex okX hX42 (by decide)
        have hG44 := hG14.ex okF hX42 (by decide)
        have hG45 := hG15.ex okE hX42 (by decide)
        have hG46 := hG16.ex okH hX42 (by decide)
        have hE47 : jEx 33 3 h h40 := hE17.tr hX42
        refine j_aload_n dX4_line_97 rfl rfl ?_
        refine j_getfield (v := .ref 1) dX4_line_98 jf_X4_10 hG43.1 rfl ?_
        refine j_iload_n dX4_line_101 rfl rfl ?_
        refine j_callV (k_lives hG44 hq hO  (by omega)) dX4_line_102 jc_X4_104 jmV_X1_lives rfl rfl hG44.1 rfl rfl (by simp) jfr_nil (Nat.le_of_ble_eq_true rfl) ⟨Nat.le_of_ble_eq_true rfl, Nat.le_of_ble_eq_true rfl⟩ ⟨Nat.le_of_ble_eq_true rfl, Nat.le_of_ble_eq_true rfl⟩ (fun r h48 hp9 => ?_) (fun E h9 q => q.elim)
        obtain ⟨rfl, rfl⟩ := hp9
        have zl := hO.l p
        refine j_if_ne (tgt := 118) dX4_line_105 (by decide) (by omega) (fun c49 => ?_) (fun c49 => ?_)
        · refine j_aload_n dX4_line_118 rfl rfl ?_
          refine j_getfield (v := .ref 33) dX4_line_119 jf_X4_58 hG43.1 rfl ?_
          have u51 := hL41
          obtain ⟨p6, n6, G6, e1, e2, e3, e4, e5, e6, e7⟩ := u51
          refine j_callV (cb4_length e2) dX4_line_122 jc_X4_211 jmV_J4_length_8abf5 rfl rfl e2.1 rfl rfl (by simp) jfr_nil (Nat.le_of_ble_eq_true rfl) ⟨Nat.le_of_ble_eq_true rfl, Nat.le_of_ble_eq_true rfl⟩ ⟨Nat.le_of_ble_eq_true rfl, Nat.le_of_ble_eq_true rfl⟩ (fun r h50 hp9 => ?_) (fun E h9 q => q.elim)
          obtain ⟨rfl, rfl⟩ := hp9
          subst hZ
          exact j_ireturn dX4_line_125 rfl rfl (by have e9 : kLine K p = (([] ++ [35] ++ dgs 7 p) ++ [61] ++ dgs 7 (K 2 p)) := (by unfold kLine; (repeat (first | rw [if_pos (by omega)] | rw [if_neg (by omega)])); simp only [List.append_assoc, List.nil_append, List.append_nil]); rw [e9]; exact ⟨by rw [e4], qp2, hL41, hE47⟩) (by omega) (by omega)
        · refine j_aload_n dX4_line_108 rfl rfl ?_
          refine j_getfield (v := .ref 33) dX4_line_109 jf_X4_58 hG43.1 rfl ?_
          refine j_bipush dX4_line_112 (by decide +kernel) ?_
          have u53 := hL41
          obtain ⟨p5, n5, G5, c1, c2, c3, c4, c5, c6, c7⟩ := u53
          refine j_callV (cb4_append c1 c2 c3 c6 (c := 120) (by decide) (by rw [c4]; simp only [List.length_append, List.length_cons, List.length_nil] at c7 ⊢; omega)) dX4_line_114 jc_X4_207 jmV_J4_append_cf468 rfl rfl c2.1 rfl rfl (fun _ z => z) (jfr_1 (by simp [iv]) (by simp [iv])) (Nat.le_of_ble_eq_true rfl) ⟨Nat.le_of_ble_eq_true rfl, Nat.le_of_ble_eq_true rfl⟩ ⟨Nat.le_of_ble_eq_true rfl, Nat.le_of_ble_eq_true rfl⟩ (fun r h52 hp9 => ?_) (fun E h9 q => q.elim)
          obtain ⟨rfl, w9, hX54⟩ := hp9
          rw [c4] at w9
          have hL55 : jSL ((([] ++ [35] ++ dgs 7 p) ++ [61] ++ dgs 7 (K 2 p)) ++ [120]) h52 := jSL_1 w9 c5
          have hG56 := hG43.ex okX hX54 (by decide)
          have hG57 := hG44.ex okF hX54 (by decide)
          have hG58 := hG45.ex okE hX54 (by decide)
          have hG59 := hG46.ex okH hX54 (by decide)
          have hE60 : jEx 33 3 h h52 := hE47.tr hX54
          show J mX4_line _ _ _ 117 _ (.ref 33 :: []) _ _ _
          refine j_pop dX4_line_117 rfl ?_
          refine j_aload_n dX4_line_118 rfl rfl ?_
          refine j_getfield (v := .ref 33) dX4_line_119 jf_X4_58 hG56.1 rfl ?_
          have u62 := hL55
          obtain ⟨p6, n6, G6, e1, e2, e3, e4, e5, e6, e7⟩ := u62
          refine j_callV (cb4_length e2) dX4_line_122 jc_X4_211 jmV_J4_length_8abf5 rfl rfl e2.1 rfl rfl (by simp) jfr_nil (Nat.le_of_ble_eq_true rfl) ⟨Nat.le_of_ble_eq_true rfl, Nat.le_of_ble_eq_true rfl⟩ ⟨Nat.le_of_ble_eq_true rfl, Nat.le_of_ble_eq_true rfl⟩ (fun r h61 hp9 => ?_) (fun E h9 q => q.elim)
          obtain ⟨rfl, rfl⟩ := hp9
          subst hZ
          exact j_ireturn dX4_line_125 rfl rfl (by have e9 : kLine K p = ((([] ++ [35] ++ dgs 7 p) ++ [61] ++ dgs 7 (K 2 p)) ++ [120]) := (by unfold kLine; (repeat (first | rw [if_pos (by omega)] | rw [if_neg (by omega)])); simp only [List.append_assoc, List.nil_append, List.append_nil]); rw [e9]; exact ⟨by rw [e4], qp2, hL55, hE60⟩) (by omega) (by omega)
    · refine j_aload_n dX4_line_58 rfl rfl ?_
      refine j_bipush dX4_line_59 (by decide +kernel) ?_
      refine j_aload_n dX4_line_61 rfl rfl ?_
      refine j_getfield (v := .ref 1) dX4_line_62 jf_X4_10 hG13.1 rfl ?_
      refine j_iload_n dX4_line_65 rfl rfl ?_
      refine j_callV (k_spouseOf hG14 hq hO  (by omega)) dX4_line_66 jc_X4_98 jmV_X1_spouseOf rfl rfl hG14.1 rfl rfl (by simp) jfr_nil (Nat.le_of_ble_eq_true rfl) ⟨Nat.le_of_ble_eq_true rfl, Nat.le_of_ble_eq_true rfl⟩ ⟨Nat.le_of_ble_eq_true rfl, Nat.le_of_ble_eq_true rfl⟩ (fun r h63 hp9 => ?_) (fun E h9 q => q.elim)
      obtain ⟨rfl, rfl⟩ := hp9
      have zs := hO.s p
      refine j_callV (x_writePart hG13 hL11 (ch := 43) (v := K 1 p) (by decide) (by omega) (by have zz := dl_r (K 1 p); simp only [List.length_append, List.length_cons, List.length_nil]; first | (have z24 := dl_24 (v := K 1 p) (by omega); omega) | omega)) dX4_line_69 jc_X4_203 jmV_X4_writePart rfl rfl hG13.1 rfl rfl (fun _ z => z) (jfr_1 (by simp [iv]) (by simp [iv])) (Nat.le_of_ble_eq_true rfl) ⟨Nat.le_of_ble_eq_true rfl, Nat.le_of_ble_eq_true rfl⟩ ⟨Nat.le_of_ble_eq_true rfl, Nat.le_of_ble_eq_true rfl⟩ (fun r h64 hp9 => ?_) (fun E h9 q => q.elim)
      obtain ⟨rfl, hL65, hX66⟩ := hp9
      have hG67 := hG13.ex okX hX66 (by decide)
      have hG68 := hG14.ex okF hX66 (by decide)
      have hG69 := hG15.ex okE hX66 (by decide)
      have hG70 := hG16.ex okH hX66 (by decide)
      have hE71 : jEx 33 3 h h64 := hE17.tr hX66
      refine j_aload_n dX4_line_72 rfl rfl ?_
      refine j_getfield (v := .ref 1) dX4_line_73 jf_X4_10 hG67.1 rfl ?_
      refine j_iload_n dX4_line_76 rfl rfl ?_
      refine j_callV (k_coinsOf hG68 hq hO  (by omega)) dX4_line_77 jc_X4_101 jmV_X1_coinsOf rfl rfl hG68.1 rfl rfl (by simp) jfr_nil (Nat.le_of_ble_eq_true rfl) ⟨Nat.le_of_ble_eq_true rfl, Nat.le_of_ble_eq_true rfl⟩ ⟨Nat.le_of_ble_eq_true rfl, Nat.le_of_ble_eq_true rfl⟩ (fun r h72 hp9 => ?_) (fun E h9 q => q.elim)
      obtain ⟨rfl, rfl⟩ := hp9
      have zc := hO.c p
      refine j_if_eq (tgt := 97) dX4_line_80 (by decide) (by omega) (fun c73 => ?_) (fun c73 => ?_)
      · refine j_aload_n dX4_line_97 rfl rfl ?_
        refine j_getfield (v := .ref 1) dX4_line_98 jf_X4_10 hG67.1 rfl ?_
        refine j_iload_n dX4_line_101 rfl rfl ?_
        refine j_callV (k_lives hG68 hq hO  (by omega)) dX4_line_102 jc_X4_104 jmV_X1_lives rfl rfl hG68.1 rfl rfl (by simp) jfr_nil (Nat.le_of_ble_eq_true rfl) ⟨Nat.le_of_ble_eq_true rfl, Nat.le_of_ble_eq_true rfl⟩ ⟨Nat.le_of_ble_eq_true rfl, Nat.le_of_ble_eq_true rfl⟩ (fun r h74 hp9 => ?_) (fun E h9 q => q.elim)
        obtain ⟨rfl, rfl⟩ := hp9
        have zl := hO.l p
        refine j_if_ne (tgt := 118) dX4_line_105 (by decide) (by omega) (fun c75 => ?_) (fun c75 => ?_)
        · refine j_aload_n dX4_line_118 rfl rfl ?_
          refine j_getfield (v := .ref 33) dX4_line_119 jf_X4_58 hG67.1 rfl ?_
          have u77 := hL65
          obtain ⟨p6, n6, G6, e1, e2, e3, e4, e5, e6, e7⟩ := u77
          refine j_callV (cb4_length e2) dX4_line_122 jc_X4_211 jmV_J4_length_8abf5 rfl rfl e2.1 rfl rfl (by simp) jfr_nil (Nat.le_of_ble_eq_true rfl) ⟨Nat.le_of_ble_eq_true rfl, Nat.le_of_ble_eq_true rfl⟩ ⟨Nat.le_of_ble_eq_true rfl, Nat.le_of_ble_eq_true rfl⟩ (fun r h76 hp9 => ?_) (fun E h9 q => q.elim)
          obtain ⟨rfl, rfl⟩ := hp9
          subst hZ
          exact j_ireturn dX4_line_125 rfl rfl (by have e9 : kLine K p = (([] ++ [35] ++ dgs 7 p) ++ [43] ++ dgs 7 (K 1 p)) := (by unfold kLine; (repeat (first | rw [if_pos (by omega)] | rw [if_neg (by omega)])); simp only [List.append_assoc, List.nil_append, List.append_nil]); rw [e9]; exact ⟨by rw [e4], qp2, hL65, hE71⟩) (by omega) (by omega)
        · refine j_aload_n dX4_line_108 rfl rfl ?_
          refine j_getfield (v := .ref 33) dX4_line_109 jf_X4_58 hG67.1 rfl ?_
          refine j_bipush dX4_line_112 (by decide +kernel) ?_
          have u79 := hL65
          obtain ⟨p5, n5, G5, c1, c2, c3, c4, c5, c6, c7⟩ := u79
          refine j_callV (cb4_append c1 c2 c3 c6 (c := 120) (by decide) (by rw [c4]; simp only [List.length_append, List.length_cons, List.length_nil] at c7 ⊢; omega)) dX4_line_114 jc_X4_207 jmV_J4_append_cf468 rfl rfl c2.1 rfl rfl (fun _ z => z) (jfr_1 (by simp [iv]) (by simp [iv])) (Nat.le_of_ble_eq_true rfl) ⟨Nat.le_of_ble_eq_true rfl, Nat.le_of_ble_eq_true rfl⟩ ⟨Nat.le_of_ble_eq_true rfl, Nat.le_of_ble_eq_true rfl⟩ (fun r h78 hp9 => ?_) (fun E h9 q => q.elim)
          obtain ⟨rfl, w9, hX80⟩ := hp9
          rw [c4] at w9
          have hL81 : jSL ((([] ++ [35] ++ dgs 7 p) ++ [43] ++ dgs 7 (K 1 p)) ++ [120]) h78 := jSL_1 w9 c5
          have hG82 := hG67.ex okX hX80 (by decide)
          have hG83 := hG68.ex okF hX80 (by decide)
          have hG84 := hG69.ex okE hX80 (by decide)
          have hG85 := hG70.ex okH hX80 (by decide)
          have hE86 : jEx 33 3 h h78 := hE71.tr hX80
          show J mX4_line _ _ _ 117 _ (.ref 33 :: []) _ _ _
          refine j_pop dX4_line_117 rfl ?_
          refine j_aload_n dX4_line_118 rfl rfl ?_
          refine j_getfield (v := .ref 33) dX4_line_119 jf_X4_58 hG82.1 rfl ?_
          have u88 := hL81
          obtain ⟨p6, n6, G6, e1, e2, e3, e4, e5, e6, e7⟩ := u88
          refine j_callV (cb4_length e2) dX4_line_122 jc_X4_211 jmV_J4_length_8abf5 rfl rfl e2.1 rfl rfl (by simp) jfr_nil (Nat.le_of_ble_eq_true rfl) ⟨Nat.le_of_ble_eq_true rfl, Nat.le_of_ble_eq_true rfl⟩ ⟨Nat.le_of_ble_eq_true rfl, Nat.le_of_ble_eq_true rfl⟩ (fun r h87 hp9 => ?_) (fun E h9 q => q.elim)
          obtain ⟨rfl, rfl⟩ := hp9
          subst hZ
          exact j_ireturn dX4_line_125 rfl rfl (by have e9 : kLine K p = ((([] ++ [35] ++ dgs 7 p) ++ [43] ++ dgs 7 (K 1 p)) ++ [120]) := (by unfold kLine; (repeat (first | rw [if_pos (by omega)] | rw [if_neg (by omega)])); simp only [List.append_assoc, List.nil_append, List.append_nil]); rw [e9]; exact ⟨by rw [e4], qp2, hL81, hE86⟩) (by omega) (by omega)
      · refine j_aload_n dX4_line_83 rfl rfl ?_
        refine j_bipush dX4_line_84 (by decide +kernel) ?_
        refine j_aload_n dX4_line_86 rfl rfl ?_
        refine j_getfield (v := .ref 1) dX4_line_87 jf_X4_10 hG67.1 rfl ?_
        refine j_iload_n dX4_line_90 rfl rfl ?_
        refine j_callV (k_coinsOf hG68 hq hO  (by omega)) dX4_line_91 jc_X4_101 jmV_X1_coinsOf rfl rfl hG68.1 rfl rfl (by simp) jfr_nil (Nat.le_of_ble_eq_true rfl) ⟨Nat.le_of_ble_eq_true rfl, Nat.le_of_ble_eq_true rfl⟩ ⟨Nat.le_of_ble_eq_true rfl, Nat.le_of_ble_eq_true rfl⟩ (fun r h89 hp9 => ?_) (fun E h9 q => q.elim)
        obtain ⟨rfl, rfl⟩ := hp9
        have zc := hO.c p
        refine j_callV (x_writePart hG67 hL65 (ch := 61) (v := K 2 p) (by decide) (by omega) (by have zz := dl_r (K 2 p); simp only [List.length_append, List.length_cons, List.length_nil]; first | (have z24 := dl_24 (v := K 2 p) (by omega); omega) | omega)) dX4_line_94 jc_X4_203 jmV_X4_writePart rfl rfl hG67.1 rfl rfl (fun _ z => z) (jfr_1 (by simp [iv]) (by simp [iv])) (Nat.le_of_ble_eq_true rfl) ⟨Nat.le_of_ble_eq_true rfl, Nat.le_of_ble_eq_true rfl⟩ ⟨Nat.le_of_ble_eq_true rfl, Nat.le_of_ble_eq_true rfl⟩ (fun r h90 hp9 => ?_) (fun E h9 q => q.elim)
        obtain ⟨rfl, hL91, hX92⟩ := hp9
        have hG93 := hG67.ex okX hX92 (by decide)
        have hG94 := hG68.ex okF hX92 (by decide)
        have hG95 := hG69.ex okE hX92 (by decide)
        have hG96 := hG70.ex okH hX92 (by decide)
        have hE97 : jEx 33 3 h h90 := hE71.tr hX92
        refine j_aload_n dX4_line_97 rfl rfl ?_
        refine j_getfield (v := .ref 1) dX4_line_98 jf_X4_10 hG93.1 rfl ?_
        refine j_iload_n dX4_line_101 rfl rfl ?_
        refine j_callV (k_lives hG94 hq hO  (by omega)) dX4_line_102 jc_X4_104 jmV_X1_lives rfl rfl hG94.1 rfl rfl (by simp) jfr_nil (Nat.le_of_ble_eq_true rfl) ⟨Nat.le_of_ble_eq_true rfl, Nat.le_of_ble_eq_true rfl⟩ ⟨Nat.le_of_ble_eq_true rfl, Nat.le_of_ble_eq_true rfl⟩ (fun r h98 hp9 => ?_) (fun E h9 q => q.elim)
        obtain ⟨rfl, rfl⟩ := hp9
        have zl := hO.l p
        refine j_if_ne (tgt := 118) dX4_line_105 (by decide) (by omega) (fun c99 => ?_) (fun c99 => ?_)
        · refine j_aload_n dX4_line_118 rfl rfl ?_
          refine j_getfield (v := .ref 33) dX4_line_119 jf_X4_58 hG93.1 rfl ?_
          have u101 := hL91
          obtain ⟨p6, n6, G6, e1, e2, e3, e4, e5, e6, e7⟩ := u101
          refine j_callV (cb4_length e2) dX4_line_122 jc_X4_211 jmV_J4_length_8abf5 rfl rfl e2.1 rfl rfl (by simp) jfr_nil (Nat.le_of_ble_eq_true rfl) ⟨Nat.le_of_ble_eq_true rfl, Nat.le_of_ble_eq_true rfl⟩ ⟨Nat.le_of_ble_eq_true rfl, Nat.le_of_ble_eq_true rfl⟩ (fun r h100 hp9 => ?_) (fun E h9 q => q.elim)
          obtain ⟨rfl, rfl⟩ := hp9
          subst hZ
          exact j_ireturn dX4_line_125 rfl rfl (by have e9 : kLine K p = ((([] ++ [35] ++ dgs 7 p) ++ [43] ++ dgs 7 (K 1 p)) ++ [61] ++ dgs 7 (K 2 p)) := (by unfold kLine; (repeat (first | rw [if_pos (by omega)] | rw [if_neg (by omega)])); simp only [List.append_assoc, List.nil_append, List.append_nil]); rw [e9]; exact ⟨by rw [e4], qp2, hL91, hE97⟩) (by omega) (by omega)
        · refine j_aload_n dX4_line_108 rfl rfl ?_
          refine j_getfield (v := .ref 33) dX4_line_109 jf_X4_58 hG93.1 rfl ?_
          refine j_bipush dX4_line_112 (by decide +kernel) ?_
          have u103 := hL91
          obtain ⟨p5, n5, G5, c1, c2, c3, c4, c5, c6, c7⟩ := u103
          refine j_callV (cb4_append c1 c2 c3 c6 (c := 120) (by decide) (by rw [c4]; simp only [List.length_append, List.length_cons, List.length_nil] at c7 ⊢; omega)) dX4_line_114 jc_X4_207 jmV_J4_append_cf468 rfl rfl c2.1 rfl rfl (fun _ z => z) (jfr_1 (by simp [iv]) (by simp [iv])) (Nat.le_of_ble_eq_true rfl) ⟨Nat.le_of_ble_eq_true rfl, Nat.le_of_ble_eq_true rfl⟩ ⟨Nat.le_of_ble_eq_true rfl, Nat.le_of_ble_eq_true rfl⟩ (fun r h102 hp9 => ?_) (fun E h9 q => q.elim)
          obtain ⟨rfl, w9, hX104⟩ := hp9
          rw [c4] at w9
          have hL105 : jSL (((([] ++ [35] ++ dgs 7 p) ++ [43] ++ dgs 7 (K 1 p)) ++ [61] ++ dgs 7 (K 2 p)) ++ [120]) h102 := jSL_1 w9 c5
          have hG106 := hG93.ex okX hX104 (by decide)
          have hG107 := hG94.ex okF hX104 (by decide)
          have hG108 := hG95.ex okE hX104 (by decide)
          have hG109 := hG96.ex okH hX104 (by decide)
          have hE110 : jEx 33 3 h h102 := hE97.tr hX104
          show J mX4_line _ _ _ 117 _ (.ref 33 :: []) _ _ _
          refine j_pop dX4_line_117 rfl ?_
          refine j_aload_n dX4_line_118 rfl rfl ?_
          refine j_getfield (v := .ref 33) dX4_line_119 jf_X4_58 hG106.1 rfl ?_
          have u112 := hL105
          obtain ⟨p6, n6, G6, e1, e2, e3, e4, e5, e6, e7⟩ := u112
          refine j_callV (cb4_length e2) dX4_line_122 jc_X4_211 jmV_J4_length_8abf5 rfl rfl e2.1 rfl rfl (by simp) jfr_nil (Nat.le_of_ble_eq_true rfl) ⟨Nat.le_of_ble_eq_true rfl, Nat.le_of_ble_eq_true rfl⟩ ⟨Nat.le_of_ble_eq_true rfl, Nat.le_of_ble_eq_true rfl⟩ (fun r h111 hp9 => ?_) (fun E h9 q => q.elim)
          obtain ⟨rfl, rfl⟩ := hp9
          subst hZ
          exact j_ireturn dX4_line_125 rfl rfl (by have e9 : kLine K p = (((([] ++ [35] ++ dgs 7 p) ++ [43] ++ dgs 7 (K 1 p)) ++ [61] ++ dgs 7 (K 2 p)) ++ [120]) := (by unfold kLine; (repeat (first | rw [if_pos (by omega)] | rw [if_neg (by omega)])); simp only [List.append_assoc, List.nil_append, List.append_nil]); rw [e9]; exact ⟨by rw [e4], qp2, hL105, hE110⟩) (by omega) (by omega)
  · refine j_aload_n dX4_line_32 rfl rfl ?_
    refine j_bipush dX4_line_33 (by decide +kernel) ?_
    refine j_aload_n dX4_line_35 rfl rfl ?_
    refine j_getfield (v := .ref 1) dX4_line_36 jf_X4_10 hG13.1 rfl ?_
    refine j_iload_n dX4_line_39 rfl rfl ?_
    refine j_callV (k_parentOf hG14 hq hO  (by omega)) dX4_line_40 jc_X4_86 jmV_X1_parentOf rfl rfl hG14.1 rfl rfl (by simp) jfr_nil (Nat.le_of_ble_eq_true rfl) ⟨Nat.le_of_ble_eq_true rfl, Nat.le_of_ble_eq_true rfl⟩ ⟨Nat.le_of_ble_eq_true rfl, Nat.le_of_ble_eq_true rfl⟩ (fun r h113 hp9 => ?_) (fun E h9 q => q.elim)
    obtain ⟨rfl, rfl⟩ := hp9
    have zp := hO.p p
    refine j_callV (x_writePart hG13 hL11 (ch := 60) (v := K 0 p) (by decide) (by omega) (by have zz := dl_r (K 0 p); simp only [List.length_append, List.length_cons, List.length_nil]; first | (have z24 := dl_24 (v := K 0 p) (by omega); omega) | omega)) dX4_line_43 jc_X4_203 jmV_X4_writePart rfl rfl hG13.1 rfl rfl (fun _ z => z) (jfr_1 (by simp [iv]) (by simp [iv])) (Nat.le_of_ble_eq_true rfl) ⟨Nat.le_of_ble_eq_true rfl, Nat.le_of_ble_eq_true rfl⟩ ⟨Nat.le_of_ble_eq_true rfl, Nat.le_of_ble_eq_true rfl⟩ (fun r h114 hp9 => ?_) (fun E h9 q => q.elim)
    obtain ⟨rfl, hL115, hX116⟩ := hp9
    have hG117 := hG13.ex okX hX116 (by decide)
    have hG118 := hG14.ex okF hX116 (by decide)
    have hG119 := hG15.ex okE hX116 (by decide)
    have hG120 := hG16.ex okH hX116 (by decide)
    have hE121 : jEx 33 3 h h114 := hE17.tr hX116
    refine j_aload_n dX4_line_46 rfl rfl ?_
    refine j_getfield (v := .ref 1) dX4_line_47 jf_X4_10 hG117.1 rfl ?_
    refine j_iload_n dX4_line_50 rfl rfl ?_
    refine j_callV (k_spouseOf hG118 hq hO  (by omega)) dX4_line_51 jc_X4_98 jmV_X1_spouseOf rfl rfl hG118.1 rfl rfl (by simp) jfr_nil (Nat.le_of_ble_eq_true rfl) ⟨Nat.le_of_ble_eq_true rfl, Nat.le_of_ble_eq_true rfl⟩ ⟨Nat.le_of_ble_eq_true rfl, Nat.le_of_ble_eq_true rfl⟩ (fun r h122 hp9 => ?_) (fun E h9 q => q.elim)
    obtain ⟨rfl, rfl⟩ := hp9
    have zs := hO.s p
    refine j_iconst dX4_line_54 ?_
    refine j_icmp_eq (tgt := 72) dX4_line_55 (by decide) (by omega) (fun c123 => ?_) (fun c123 => ?_)
    · refine j_aload_n dX4_line_72 rfl rfl ?_
      refine j_getfield (v := .ref 1) dX4_line_73 jf_X4_10 hG117.1 rfl ?_
      refine j_iload_n dX4_line_76 rfl rfl ?_
      refine j_callV (k_coinsOf hG118 hq hO  (by omega)) dX4_line_77 jc_X4_101 jmV_X1_coinsOf rfl rfl hG118.1 rfl rfl (by simp) jfr_nil (Nat.le_of_ble_eq_true rfl) ⟨Nat.le_of_ble_eq_true rfl, Nat.le_of_ble_eq_true rfl⟩ ⟨Nat.le_of_ble_eq_true rfl, Nat.le_of_ble_eq_true rfl⟩ (fun r h124 hp9 => ?_) (fun E h9 q => q.elim)
      obtain ⟨rfl, rfl⟩ := hp9
      have zc := hO.c p
      refine j_if_eq (tgt := 97) dX4_line_80 (by decide) (by omega) (fun c125 => ?_) (fun c125 => ?_)
      · refine j_aload_n dX4_line_97 rfl rfl ?_
        refine j_getfield (v := .ref 1) dX4_line_98 jf_X4_10 hG117.1 rfl ?_
        refine j_iload_n dX4_line_101 rfl rfl ?_
        refine j_callV (k_lives hG118 hq hO  (by omega)) dX4_line_102 jc_X4_104 jmV_X1_lives rfl rfl hG118.1 rfl rfl (by simp) jfr_nil (Nat.le_of_ble_eq_true rfl) ⟨Nat.le_of_ble_eq_true rfl, Nat.le_of_ble_eq_true rfl⟩ ⟨Nat.le_of_ble_eq_true rfl, Nat.le_of_ble_eq_true rfl⟩ (fun r h126 hp9 => ?_) (fun E h9 q => q.elim)
        obtain ⟨rfl, rfl⟩ := hp9
        have zl := hO.l p
        refine j_if_ne (tgt := 118) dX4_line_105 (by decide) (by omega) (fun c127 => ?_) (fun c127 => ?_)
        · refine j_aload_n dX4_line_118 rfl rfl ?_
          refine j_getfield (v := .ref 33) dX4_line_119 jf_X4_58 hG117.1 rfl ?_
          have u129 := hL115
          obtain ⟨p6, n6, G6, e1, e2, e3, e4, e5, e6, e7⟩ := u129
          refine j_callV (cb4_length e2) dX4_line_122 jc_X4_211 jmV_J4_length_8abf5 rfl rfl e2.1 rfl rfl (by simp) jfr_nil (Nat.le_of_ble_eq_true rfl) ⟨Nat.le_of_ble_eq_true rfl, Nat.le_of_ble_eq_true rfl⟩ ⟨Nat.le_of_ble_eq_true rfl, Nat.le_of_ble_eq_true rfl⟩ (fun r h128 hp9 => ?_) (fun E h9 q => q.elim)
          obtain ⟨rfl, rfl⟩ := hp9
          subst hZ
          exact j_ireturn dX4_line_125 rfl rfl (by have e9 : kLine K p = (([] ++ [35] ++ dgs 7 p) ++ [60] ++ dgs 7 (K 0 p)) := (by unfold kLine; (repeat (first | rw [if_pos (by omega)] | rw [if_neg (by omega)])); simp only [List.append_assoc, List.nil_append, List.append_nil]); rw [e9]; exact ⟨by rw [e4], qp2, hL115, hE121⟩) (by omega) (by omega)
        · refine j_aload_n dX4_line_108 rfl rfl ?_
          refine j_getfield (v := .ref 33) dX4_line_109 jf_X4_58 hG117.1 rfl ?_
          refine j_bipush dX4_line_112 (by decide +kernel) ?_
          have u131 := hL115
          obtain ⟨p5, n5, G5, c1, c2, c3, c4, c5, c6, c7⟩ := u131
          refine j_callV (cb4_append c1 c2 c3 c6 (c := 120) (by decide) (by rw [c4]; simp only [List.length_append, List.length_cons, List.length_nil] at c7 ⊢; omega)) dX4_line_114 jc_X4_207 jmV_J4_append_cf468 rfl rfl c2.1 rfl rfl (fun _ z => z) (jfr_1 (by simp [iv]) (by simp [iv])) (Nat.le_of_ble_eq_true rfl) ⟨Nat.le_of_ble_eq_true rfl, Nat.le_of_ble_eq_true rfl⟩ ⟨Nat.le_of_ble_eq_true rfl, Nat.le_of_ble_eq_true rfl⟩ (fun r h130 hp9 => ?_) (fun E h9 q => q.elim)
          obtain ⟨rfl, w9, hX132⟩ := hp9
          rw [c4] at w9
          have hL133 : jSL ((([] ++ [35] ++ dgs 7 p) ++ [60] ++ dgs 7 (K 0 p)) ++ [120]) h130 := jSL_1 w9 c5
          have hG134 := hG117.ex okX hX132 (by decide)
          have hG135 := hG118.ex okF hX132 (by decide)
          have hG136 := hG119.ex okE hX132 (by decide)
          have hG137 := hG120.ex okH hX132 (by decide)
          have hE138 : jEx 33 3 h h130 := hE121.tr hX132
          show J mX4_line _ _ _ 117 _ (.ref 33 :: []) _ _ _
          refine j_pop dX4_line_117 rfl ?_
          refine j_aload_n dX4_line_118 rfl rfl ?_
          refine j_getfield (v := .ref 33) dX4_line_119 jf_X4_58 hG134.1 rfl ?_
          have u140 := hL133
          obtain ⟨p6, n6, G6, e1, e2, e3, e4, e5, e6, e7⟩ := u140
          refine j_callV (cb4_length e2) dX4_line_122 jc_X4_211 jmV_J4_length_8abf5 rfl rfl e2.1 rfl rfl (by simp) jfr_nil (Nat.le_of_ble_eq_true rfl) ⟨Nat.le_of_ble_eq_true rfl, Nat.le_of_ble_eq_true rfl⟩ ⟨Nat.le_of_ble_eq_true rfl, Nat.le_of_ble_eq_true rfl⟩ (fun r h139 hp9 => ?_) (fun E h9 q => q.elim)
          obtain ⟨rfl, rfl⟩ := hp9
          subst hZ
          exact j_ireturn dX4_line_125 rfl rfl (by have e9 : kLine K p = ((([] ++ [35] ++ dgs 7 p) ++ [60] ++ dgs 7 (K 0 p)) ++ [120]) := (by unfold kLine; (repeat (first | rw [if_pos (by omega)] | rw [if_neg (by omega)])); simp only [List.append_assoc, List.nil_append, List.append_nil]); rw [e9]; exact ⟨by rw [e4], qp2, hL133, hE138⟩) (by omega) (by omega)
      · refine j_aload_n dX4_line_83 rfl rfl ?_
        refine j_bipush dX4_line_84 (by decide +kernel) ?_
        refine j_aload_n dX4_line_86 rfl rfl ?_
        refine j_getfield (v := .ref 1) dX4_line_87 jf_X4_10 hG117.1 rfl ?_
        refine j_iload_n dX4_line_90 rfl rfl ?_
        refine j_callV (k_coinsOf hG118 hq hO  (by omega)) dX4_line_91 jc_X4_101 jmV_X1_coinsOf rfl rfl hG118.1 rfl rfl (by simp) jfr_nil (Nat.le_of_ble_eq_true rfl) ⟨Nat.le_of_ble_eq_true rfl, Nat.le_of_ble_eq_true rfl⟩ ⟨Nat.le_of_ble_eq_true rfl, Nat.le_of_ble_eq_true rfl⟩ (fun r h141 hp9 => ?_) (fun E h9 q => q.elim)
        obtain ⟨rfl, rfl⟩ := hp9
        have zc := hO.c p
        refine j_callV (x_writePart hG117 hL115 (ch := 61) (v := K 2 p) (by decide) (by omega) (by have zz := dl_r (K 2 p); simp only [List.length_append, List.length_cons, List.length_nil]; first | (have z24 := dl_24 (v := K 2 p) (by omega); omega) | omega)) dX4_line_94 jc_X4_203 jmV_X4_writePart rfl rfl hG117.1 rfl rfl (fun _ z => z) (jfr_1 (by simp [iv]) (by simp [iv])) (Nat.le_of_ble_eq_true rfl) ⟨Nat.le_of_ble_eq_true rfl, Nat.le_of_ble_eq_true rfl⟩ ⟨Nat.le_of_ble_eq_true rfl, Nat.le_of_ble_eq_true rfl⟩ (fun r h142 hp9 => ?_) (fun E h9 q => q.elim)
        obtain ⟨rfl, hL143, hX144⟩ := hp9
        have hG145 := hG117.ex okX hX144 (by decide)
        have hG146 := hG118.ex okF hX144 (by decide)
        have hG147 := hG119.ex okE hX144 (by decide)
        have hG148 := hG120.ex okH hX144 (by decide)
        have hE149 : jEx 33 3 h h142 := hE121.tr hX144
        refine j_aload_n dX4_line_97 rfl rfl ?_
        refine j_getfield (v := .ref 1) dX4_line_98 jf_X4_10 hG145.1 rfl ?_
        refine j_iload_n dX4_line_101 rfl rfl ?_
        refine j_callV (k_lives hG146 hq hO  (by omega)) dX4_line_102 jc_X4_104 jmV_X1_lives rfl rfl hG146.1 rfl rfl (by simp) jfr_nil (Nat.le_of_ble_eq_true rfl) ⟨Nat.le_of_ble_eq_true rfl, Nat.le_of_ble_eq_true rfl⟩ ⟨Nat.le_of_ble_eq_true rfl, Nat.le_of_ble_eq_true rfl⟩ (fun r h150 hp9 => ?_) (fun E h9 q => q.elim)
        obtain ⟨rfl, rfl⟩ := hp9
        have zl := hO.l p
        refine j_if_ne (tgt := 118) dX4_line_105 (by decide) (by omega) (fun c151 => ?_) (fun c151 => ?_)
        · refine j_aload_n dX4_line_118 rfl rfl ?_
          refine j_getfield (v := .ref 33) dX4_line_119 jf_X4_58 hG145.1 rfl ?_
          have u153 := hL143
          obtain ⟨p6, n6, G6, e1, e2, e3, e4, e5, e6, e7⟩ := u153
          refine j_callV (cb4_length e2) dX4_line_122 jc_X4_211 jmV_J4_length_8abf5 rfl rfl e2.1 rfl rfl (by simp) jfr_nil (Nat.le_of_ble_eq_true rfl) ⟨Nat.le_of_ble_eq_true rfl, Nat.le_of_ble_eq_true rfl⟩ ⟨Nat.le_of_ble_eq_true rfl, Nat.le_of_ble_eq_true rfl⟩ (fun r h152 hp9 => ?_) (fun E h9 q => q.elim)
          obtain ⟨rfl, rfl⟩ := hp9
          subst hZ
          exact j_ireturn dX4_line_125 rfl rfl (by have e9 : kLine K p = ((([] ++ [35] ++ dgs 7 p) ++ [60] ++ dgs 7 (K 0 p)) ++ [61] ++ dgs 7 (K 2 p)) := (by unfold kLine; (repeat (first | rw [if_pos (by omega)] | rw [if_neg (by omega)])); simp only [List.append_assoc, List.nil_append, List.append_nil]); rw [e9]; exact ⟨by rw [e4], qp2, hL143, hE149⟩) (by omega) (by omega)
        · refine j_aload_n dX4_line_108 rfl rfl ?_
          refine j_getfield (v := .ref 33) dX4_line_109 jf_X4_58 hG145.1 rfl ?_
          refine j_bipush dX4_line_112 (by decide +kernel) ?_
          have u155 := hL143
          obtain ⟨p5, n5, G5, c1, c2, c3, c4, c5, c6, c7⟩ := u155
          refine j_callV (cb4_append c1 c2 c3 c6 (c := 120) (by decide) (by rw [c4]; simp only [List.length_append, List.length_cons, List.length_nil] at c7 ⊢; omega)) dX4_line_114 jc_X4_207 jmV_J4_append_cf468 rfl rfl c2.1 rfl rfl (fun _ z => z) (jfr_1 (by simp [iv]) (by simp [iv])) (Nat.le_of_ble_eq_true rfl) ⟨Nat.le_of_ble_eq_true rfl, Nat.le_of_ble_eq_true rfl⟩ ⟨Nat.le_of_ble_eq_true rfl, Nat.le_of_ble_eq_true rfl⟩ (fun r h154 hp9 => ?_) (fun E h9 q => q.elim)
          obtain ⟨rfl, w9, hX156⟩ := hp9
          rw [c4] at w9
          have hL157 : jSL (((([] ++ [35] ++ dgs 7 p) ++ [60] ++ dgs 7 (K 0 p)) ++ [61] ++ dgs 7 (K 2 p)) ++ [120]) h154 := jSL_1 w9 c5
          have hG158 := hG145.ex okX hX156 (by decide)
          have hG159 := hG146.ex okF hX156 (by decide)
          have hG160 := hG147.ex okE hX156 (by decide)
          have hG161 := hG148.ex okH hX156 (by decide)
          have hE162 : jEx 33 3 h h154 := hE149.tr hX156
          show J mX4_line _ _ _ 117 _ (.ref 33 :: []) _ _ _
          refine j_pop dX4_line_117 rfl ?_
          refine j_aload_n dX4_line_118 rfl rfl ?_
          refine j_getfield (v := .ref 33) dX4_line_119 jf_X4_58 hG158.1 rfl ?_
          have u164 := hL157
          obtain ⟨p6, n6, G6, e1, e2, e3, e4, e5, e6, e7⟩ := u164
          refine j_callV (cb4_length e2) dX4_line_122 jc_X4_211 jmV_J4_length_8abf5 rfl rfl e2.1 rfl rfl (by simp) jfr_nil (Nat.le_of_ble_eq_true rfl) ⟨Nat.le_of_ble_eq_true rfl, Nat.le_of_ble_eq_true rfl⟩ ⟨Nat.le_of_ble_eq_true rfl, Nat.le_of_ble_eq_true rfl⟩ (fun r h163 hp9 => ?_) (fun E h9 q => q.elim)
          obtain ⟨rfl, rfl⟩ := hp9
          subst hZ
          exact j_ireturn dX4_line_125 rfl rfl (by have e9 : kLine K p = (((([] ++ [35] ++ dgs 7 p) ++ [60] ++ dgs 7 (K 0 p)) ++ [61] ++ dgs 7 (K 2 p)) ++ [120]) := (by unfold kLine; (repeat (first | rw [if_pos (by omega)] | rw [if_neg (by omega)])); simp only [List.append_assoc, List.nil_append, List.append_nil]); rw [e9]; exact ⟨by rw [e4], qp2, hL157, hE162⟩) (by omega) (by omega)
    · refine j_aload_n dX4_line_58 rfl rfl ?_
      refine j_bipush dX4_line_59 (by decide +kernel) ?_
      refine j_aload_n dX4_line_61 rfl rfl ?_
      refine j_getfield (v := .ref 1) dX4_line_62 jf_X4_10 hG117.1 rfl ?_
      refine j_iload_n dX4_line_65 rfl rfl ?_
      refine j_callV (k_spouseOf hG118 hq hO  (by omega)) dX4_line_66 jc_X4_98 jmV_X1_spouseOf rfl rfl hG118.1 rfl rfl (by simp) jfr_nil (Nat.le_of_ble_eq_true rfl) ⟨Nat.le_of_ble_eq_true rfl, Nat.le_of_ble_eq_true rfl⟩ ⟨Nat.le_of_ble_eq_true rfl, Nat.le_of_ble_eq_true rfl⟩ (fun r h165 hp9 => ?_) (fun E h9 q => q.elim)
      obtain ⟨rfl, rfl⟩ := hp9
      have zs := hO.s p
      refine j_callV (x_writePart hG117 hL115 (ch := 43) (v := K 1 p) (by decide) (by omega) (by have zz := dl_r (K 1 p); simp only [List.length_append, List.length_cons, List.length_nil]; first | (have z24 := dl_24 (v := K 1 p) (by omega); omega) | omega)) dX4_line_69 jc_X4_203 jmV_X4_writePart rfl rfl hG117.1 rfl rfl (fun _ z => z) (jfr_1 (by simp [iv]) (by simp [iv])) (Nat.le_of_ble_eq_true rfl) ⟨Nat.le_of_ble_eq_true rfl, Nat.le_of_ble_eq_true rfl⟩ ⟨Nat.le_of_ble_eq_true rfl, Nat.le_of_ble_eq_true rfl⟩ (fun r h166 hp9 => ?_) (fun E h9 q => q.elim)
      obtain ⟨rfl, hL167, hX168⟩ := hp9
      have hG169 := hG117.ex okX hX168 (by decide)
      have hG170 := hG118.ex okF hX168 (by decide)
      have hG171 := hG119.ex okE hX168 (by decide)
      have hG172 := hG120.ex okH hX168 (by decide)
      have hE173 : jEx 33 3 h h166 := hE121.tr hX168
      refine j_aload_n dX4_line_72 rfl rfl ?_
      refine j_getfield (v := .ref 1) dX4_line_73 jf_X4_10 hG169.1 rfl ?_
      refine j_iload_n dX4_line_76 rfl rfl ?_
      refine j_callV (k_coinsOf hG170 hq hO  (by omega)) dX4_line_77 jc_X4_101 jmV_X1_coinsOf rfl rfl hG170.1 rfl rfl (by simp) jfr_nil (Nat.le_of_ble_eq_true rfl) ⟨Nat.le_of_ble_eq_true rfl, Nat.le_of_ble_eq_true rfl⟩ ⟨Nat.le_of_ble_eq_true rfl, Nat.le_of_ble_eq_true rfl⟩ (fun r h174 hp9 => ?_) (fun E h9 q => q.elim)
      obtain ⟨rfl, rfl⟩ := hp9
      have zc := hO.c p
      refine j_if_eq (tgt := 97) dX4_line_80 (by decide) (by omega) (fun c175 => ?_) (fun c175 => ?_)
      · refine j_aload_n dX4_line_97 rfl rfl ?_
        refine j_getfield (v := .ref 1) dX4_line_98 jf_X4_10 hG169.1 rfl ?_
        refine j_iload_n dX4_line_101 rfl rfl ?_
        refine j_callV (k_lives hG170 hq hO  (by omega)) dX4_line_102 jc_X4_104 jmV_X1_lives rfl rfl hG170.1 rfl rfl (by simp) jfr_nil (Nat.le_of_ble_eq_true rfl) ⟨Nat.le_of_ble_eq_true rfl, Nat.le_of_ble_eq_true rfl⟩ ⟨Nat.le_of_ble_eq_true rfl, Nat.le_of_ble_eq_true rfl⟩ (fun r h176 hp9 => ?_) (fun E h9 q => q.elim)
        obtain ⟨rfl, rfl⟩ := hp9
        have zl := hO.l p
        refine j_if_ne (tgt := 118) dX4_line_105 (by decide) (by omega) (fun c177 => ?_) (fun c177 => ?_)
        · refine j_aload_n dX4_line_118 rfl rfl ?_
          refine j_getfield (v := .ref 33) dX4_line_119 jf_X4_58 hG169.1 rfl ?_
          have u179 := hL167
          obtain ⟨p6, n6, G6, e1, e2, e3, e4, e5, e6, e7⟩ := u179
          refine j_callV (cb4_length e2) dX4_line_122 jc_X4_211 jmV_J4_length_8abf5 rfl rfl e2.1 rfl rfl (by simp) jfr_nil (Nat.le_of_ble_eq_true rfl) ⟨Nat.le_of_ble_eq_true rfl, Nat.le_of_ble_eq_true rfl⟩ ⟨Nat.le_of_ble_eq_true rfl, Nat.le_of_ble_eq_true rfl⟩ (fun r h178 hp9 => ?_) (fun E h9 q => q.elim)
          obtain ⟨rfl, rfl⟩ := hp9
          subst hZ
          exact j_ireturn dX4_line_125 rfl rfl (by have e9 : kLine K p = ((([] ++ [35] ++ dgs 7 p) ++ [60] ++ dgs 7 (K 0 p)) ++ [43] ++ dgs 7 (K 1 p)) := (by unfold kLine; (repeat (first | rw [if_pos (by omega)] | rw [if_neg (by omega)])); simp only [List.append_assoc, List.nil_append, List.append_nil]); rw [e9]; exact ⟨by rw [e4], qp2, hL167, hE173⟩) (by omega) (by omega)
        · refine j_aload_n dX4_line_108 rfl rfl ?_
          refine j_getfield (v := .ref 33) dX4_line_109 jf_X4_58 hG169.1 rfl ?_
          refine j_bipush dX4_line_112 (by decide +kernel) ?_
          have u181 := hL167
          obtain ⟨p5, n5, G5, c1, c2, c3, c4, c5, c6, c7⟩ := u181
          refine j_callV (cb4_append c1 c2 c3 c6 (c := 120) (by decide) (by rw [c4]; simp only [List.length_append, List.length_cons, List.length_nil] at c7 ⊢; omega)) dX4_line_114 jc_X4_207 jmV_J4_append_cf468 rfl rfl c2.1 rfl rfl (fun _ z => z) (jfr_1 (by simp [iv]) (by simp [iv])) (Nat.le_of_ble_eq_true rfl) ⟨Nat.le_of_ble_eq_true rfl, Nat.le_of_ble_eq_true rfl⟩ ⟨Nat.le_of_ble_eq_true rfl, Nat.le_of_ble_eq_true rfl⟩ (fun r h180 hp9 => ?_) (fun E h9 q => q.elim)
          obtain ⟨rfl, w9, hX182⟩ := hp9
          rw [c4] at w9
          have hL183 : jSL (((([] ++ [35] ++ dgs 7 p) ++ [60] ++ dgs 7 (K 0 p)) ++ [43] ++ dgs 7 (K 1 p)) ++ [120]) h180 := jSL_1 w9 c5
          have hG184 := hG169.ex okX hX182 (by decide)
          have hG185 := hG170.ex okF hX182 (by decide)
          have hG186 := hG171.ex okE hX182 (by decide)
          have hG187 := hG172.ex okH hX182 (by decide)
          have hE188 : jEx 33 3 h h180 := hE173.tr hX182
          show J mX4_line _ _ _ 117 _ (.ref 33 :: []) _ _ _
          refine j_pop dX4_line_117 rfl ?_
          refine j_aload_n dX4_line_118 rfl rfl ?_
          refine j_getfield (v := .ref 33) dX4_line_119 jf_X4_58 hG184.1 rfl ?_
          have u190 := hL183
          obtain ⟨p6, n6, G6, e1, e2, e3, e4, e5, e6, e7⟩ := u190
          refine j_callV (cb4_length e2) dX4_line_122 jc_X4_211 jmV_J4_length_8abf5 rfl rfl e2.1 rfl rfl (by simp) jfr_nil (Nat.le_of_ble_eq_true rfl) ⟨Nat.le_of_ble_eq_true rfl, Nat.le_of_ble_eq_true rfl⟩ ⟨Nat.le_of_ble_eq_true rfl, Nat.le_of_ble_eq_true rfl⟩ (fun r h189 hp9 => ?_) (fun E h9 q => q.elim)
          obtain ⟨rfl, rfl⟩ := hp9
          subst hZ
          exact j_ireturn dX4_line_125 rfl rfl (by have e9 : kLine K p = (((([] ++ [35] ++ dgs 7 p) ++ [60] ++ dgs 7 (K 0 p)) ++ [43] ++ dgs 7 (K 1 p)) ++ [120]) := (by unfold kLine; (repeat (first | rw [if_pos (by omega)] | rw [if_neg (by omega)])); simp only [List.append_assoc, List.nil_append, List.append_nil]); rw [e9]; exact ⟨by rw [e4], qp2, hL183, hE188⟩) (by omega) (by omega)
      · refine j_aload_n dX4_line_83 rfl rfl ?_
        refine j_bipush dX4_line_84 (by decide +kernel) ?_
        refine j_aload_n dX4_line_86 rfl rfl ?_
        refine j_getfield (v := .ref 1) dX4_line_87 jf_X4_10 hG169.1 rfl ?_
        refine j_iload_n dX4_line_90 rfl rfl ?_
        refine j_callV (k_coinsOf hG170 hq hO  (by omega)) dX4_line_91 jc_X4_101 jmV_X1_coinsOf rfl rfl hG170.1 rfl rfl (by simp) jfr_nil (Nat.le_of_ble_eq_true rfl) ⟨Nat.le_of_ble_eq_true rfl, Nat.le_of_ble_eq_true rfl⟩ ⟨Nat.le_of_ble_eq_true rfl, Nat.le_of_ble_eq_true rfl⟩ (fun r h191 hp9 => ?_) (fun E h9 q => q.elim)
        obtain ⟨rfl, rfl⟩ := hp9
        have zc := hO.c p
        refine j_callV (x_writePart hG169 hL167 (ch := 61) (v := K 2 p) (by decide) (by omega) (by have zz := dl_r (K 2 p); simp only [List.length_append, List.length_cons, List.length_nil]; first | (have z24 := dl_24 (v := K 2 p) (by omega); omega) | omega)) dX4_line_94 jc_X4_203 jmV_X4_writePart rfl rfl hG169.1 rfl rfl (fun _ z => z) (jfr_1 (by simp [iv]) (by simp [iv])) (Nat.le_of_ble_eq_true rfl) ⟨Nat.le_of_ble_eq_true rfl, Nat.le_of_ble_eq_true rfl⟩ ⟨Nat.le_of_ble_eq_true rfl, Nat.le_of_ble_eq_true rfl⟩ (fun r h192 hp9 => ?_) (fun E h9 q => q.elim)
        obtain ⟨rfl, hL193, hX194⟩ := hp9
        have hG195 := hG169.ex okX hX194 (by decide)
        have hG196 := hG170.ex okF hX194 (by decide)
        have hG197 := hG171.ex okE hX194 (by decide)
        have hG198 := hG172.ex okH hX194 (by decide)
        have hE199 : jEx 33 3 h h192 := hE173.tr hX194
        refine j_aload_n dX4_line_97 rfl rfl ?_
        refine j_getfield (v := .ref 1) dX4_line_98 jf_X4_10 hG195.1 rfl ?_
        refine j_iload_n dX4_line_101 rfl rfl ?_
        refine j_callV (k_lives hG196 hq hO  (by omega)) dX4_line_102 jc_X4_104 jmV_X1_lives rfl rfl hG196.1 rfl rfl (by simp) jfr_nil (Nat.le_of_ble_eq_true rfl) ⟨Nat.le_of_ble_eq_true rfl, Nat.le_of_ble_eq_true rfl⟩ ⟨Nat.le_of_ble_eq_true rfl, Nat.le_of_ble_eq_true rfl⟩ (fun r h200 hp9 => ?_) (fun E h9 q => q.elim)
        obtain ⟨rfl, rfl⟩ := hp9
        have zl := hO.l p
        refine j_if_ne (tgt := 118) dX4_line_105 (by decide) (by omega) (fun c201 => ?_) (fun c201 => ?_)
        · refine j_aload_n dX4_line_118 rfl rfl ?_
          refine j_getfield (v := .ref 33) dX4_line_119 jf_X4_58 hG195.1 rfl ?_
          have u203 := hL193
          obtain ⟨p6, n6, G6, e1, e2, e3, e4, e5, e6, e7⟩ := u203
          refine j_callV (cb4_length e2) dX4_line_122 jc_X4_211 jmV_J4_length_8abf5 rfl rfl e2.1 rfl rfl (by simp) jfr_nil (Nat.le_of_ble_eq_true rfl) ⟨Nat.le_of_ble_eq_true rfl, Nat.le_of_ble_eq_true rfl⟩ ⟨Nat.le_of_ble_eq_true rfl, Nat.le_of_ble_eq_true rfl⟩ (fun r h202 hp9 => ?_) (fun E h9 q => q.elim)
          obtain ⟨rfl, rfl⟩ := hp9
          subst hZ
          exact j_ireturn dX4_line_125 rfl rfl (by have e9 : kLine K p = (((([] ++ [35] ++ dgs 7 p) ++ [60] ++ dgs 7 (K 0 p)) ++ [43] ++ dgs 7 (K 1 p)) ++ [61] ++ dgs 7 (K 2 p)) := (by unfold kLine; (repeat (first | rw [if_pos (by omega)] | rw [if_neg (by omega)])); simp only [List.append_assoc, List.nil_append, List.append_nil]); rw [e9]; exact ⟨by rw [e4], qp2, hL193, hE199⟩) (by omega) (by omega)
        · refine j_aload_n dX4_line_108 rfl rfl ?_
          refine j_getfield (v := .ref 33) dX4_line_109 jf_X4_58 hG195.1 rfl ?_
          refine j_bipush dX4_line_112 (by decide +kernel) ?_
          have u205 := hL193
          obtain ⟨p5, n5, G5, c1, c2, c3, c4, c5, c6, c7⟩ := u205
          refine j_callV (cb4_append c1 c2 c3 c6 (c := 120) (by decide) (by rw [c4]; simp only [List.length_append, List.length_cons, List.length_nil] at c7 ⊢; omega)) dX4_line_114 jc_X4_207 jmV_J4_append_cf468 rfl rfl c2.1 rfl rfl (fun _ z => z) (jfr_1 (by simp [iv]) (by simp [iv])) (Nat.le_of_ble_eq_true rfl) ⟨Nat.le_of_ble_eq_true rfl, Nat.le_of_ble_eq_true rfl⟩ ⟨Nat.le_of_ble_eq_true rfl, Nat.le_of_ble_eq_true rfl⟩ (fun r h204 hp9 => ?_) (fun E h9 q => q.elim)
          obtain ⟨rfl, w9, hX206⟩ := hp9
          rw [c4] at w9
          have hL207 : jSL ((((([] ++ [35] ++ dgs 7 p) ++ [60] ++ dgs 7 (K 0 p)) ++ [43] ++ dgs 7 (K 1 p)) ++ [61] ++ dgs 7 (K 2 p)) ++ [120]) h204 := jSL_1 w9 c5
          have hG208 := hG195.ex okX hX206 (by decide)
          have hG209 := hG196.ex okF hX206 (by decide)
          have hG210 := hG197.ex okE hX206 (by decide)
          have hG211 := hG198.ex okH hX206 (by decide)
          have hE212 : jEx 33 3 h h204 := hE199.tr hX206
          show J mX4_line _ _ _ 117 _ (.ref 33 :: []) _ _ _
          refine j_pop dX4_line_117 rfl ?_
          refine j_aload_n dX4_line_118 rfl rfl ?_
          refine j_getfield (v := .ref 33) dX4_line_119 jf_X4_58 hG208.1 rfl ?_
          have u214 := hL207
          obtain ⟨p6, n6, G6, e1, e2, e3, e4, e5, e6, e7⟩ := u214
          refine j_callV (cb4_length e2) dX4_line_122 jc_X4_211 jmV_J4_length_8abf5 rfl rfl e2.1 rfl rfl (by simp) jfr_nil (Nat.le_of_ble_eq_true rfl) ⟨Nat.le_of_ble_eq_true rfl, Nat.le_of_ble_eq_true rfl⟩ ⟨Nat.le_of_ble_eq_true rfl, Nat.le_of_ble_eq_true rfl⟩ (fun r h213 hp9 => ?_) (fun E h9 q => q.elim)
          obtain ⟨rfl, rfl⟩ := hp9
          subst hZ
          exact j_ireturn dX4_line_125 rfl rfl (by have e9 : kLine K p = ((((([] ++ [35] ++ dgs 7 p) ++ [60] ++ dgs 7 (K 0 p)) ++ [43] ++ dgs 7 (K 1 p)) ++ [61] ++ dgs 7 (K 2 p)) ++ [120]) := (by unfold kLine; (repeat (first | rw [if_pos (by omega)] | rw [if_neg (by omega)])); simp only [List.append_assoc, List.nil_append, List.append_nil]); rw [e9]; exact ⟨by rw [e4], qp2, hL207, hE212⟩) (by omega) (by omega)
theorem xS.x2 {X X' K : fS} {h h' : jH} (w : xS X K h) (hX' : jOb sX 0 X' h') (he : jEx 0 1 h h') : xS X' K h' := by
  obtain ⟨x, y, E, H, hX, hF, hL, hG, hq, hE9, hH⟩ := w
  exact ⟨x, y, E, H, hX', hF.ex okF he (.inr (by decide)), hL.ex okE he (.inr (by decide)), hG.ex okH he (.inr (by decide)), hq, hE9, hH⟩
set_option maxHeartbeats 4000000 in
theorem x_undo {K Ks X I : fS} {P : Int → fS} {c B : Int} {t : Int → Int} {h : jH} (hC : xC K Ks P X I c t h) (hPi : ∀ i, 0 ≤ i → i < X 5 0 → kI B (P i)) : jM mX4_undo 7 1 6 [] [.ref 0] h (fun r h' => r = some (iv (X 5 0 - 1)) ∧ 0 < X 5 0 ∧ xC (P (X 5 0 - 1)) Ks P (gn X 5 (X 5 0 - 1)) I c t h' ∧ jEx 0 14 h h') (fun E h' => E = "java/lang/IllegalStateException" ∧ X 5 0 = 0 ∧ h = h') := by
  refine j_method (by decide +kernel) rfl (fun _ _ _ => trivial) (Nat.le_of_ble_eq_true rfl) ?_
  generalize hZ : jZ [] 1 6 _ _ = Z
  show J mX4_undo (jR 7 1 6) [] Z 0 [(0, .ref 0)] [] h 0 0
  obtain ⟨hS, ⟨Fb, hb⟩, hT, hPa, hp5⟩ := hC
  have hX := hS.x
  refine j_aload_n dX4_undo_0 rfl rfl ?_
  refine j_aload_n dX4_undo_1 rfl rfl ?_
  refine j_getfield (v := iv (X 5 0)) dX4_undo_2 jf_X4_30 hX.1 rfl ?_
  refine j_iconst dX4_undo_5 ?_
  refine j_isub dX4_undo_6 ?_
  by_cases h0 : X 5 0 = 0
  · refine j_callV (x_pastAtN hX (p := X 5 0 - 1) (by omega) (by omega)) dX4_undo_7 jc_X4_309 jmV_X4_pastAt rfl rfl hX.1 rfl rfl (by simp) jfr_nil (Nat.le_of_ble_eq_true rfl) ⟨Nat.le_of_ble_eq_true rfl, Nat.le_of_ble_eq_true rfl⟩ ⟨Nat.le_of_ble_eq_true rfl, Nat.le_of_ble_eq_true rfl⟩ (fun r h1 hp9 => ?_) (fun E h9 q => q.elim)
    obtain ⟨rfl, rfl⟩ := hp9
    show J mX4_undo _ _ _ 10 _ (.null :: []) _ _ _
    refine j_astore_nN (L' := [(0, _), (1, _)]) dX4_undo_10 rfl (by decide) rfl ?_
    refine j_aload_nN dX4_undo_11 rfl rfl ?_
    refine j_ifnonnullN dX4_undo_12 ?_
    subst hZ
    exact j_throwYW jth_177_313_181 rfl dX4_undo_15 dX4_undo_18 dX4_undo_19 dX4_undo_22 dX4_undo_25 (by decide) (by decide) ⟨rfl, h0, rfl⟩ (by decide) (by decide)
  · have hPa0 := hPa
    obtain ⟨pl, g, w1, w2, w3, w4, w5⟩ := hPa0
    have hq := w1.1 (X 5 0 - 1) (by omega) (by omega)
    refine j_callV (x_pastAt hX w2 (p := X 5 0 - 1) (by omega) (w3 _ (by omega) (by omega))) dX4_undo_7 jc_X4_309 jmV_X4_pastAt rfl rfl hX.1 rfl rfl (by simp) jfr_nil (Nat.le_of_ble_eq_true rfl) ⟨Nat.le_of_ble_eq_true rfl, Nat.le_of_ble_eq_true rfl⟩ ⟨Nat.le_of_ble_eq_true rfl, Nat.le_of_ble_eq_true rfl⟩ (fun r h1 hp9 => ?_) (fun E h9 q => q.elim)
    obtain ⟨rfl, rfl⟩ := hp9
    show J mX4_undo _ _ _ 10 _ (.ref (pl (X 5 0 - 1)) :: []) _ _ _
    refine j_astore_n (L' := [(0, _), (1, _)]) dX4_undo_10 rfl (by decide) rfl ?_
    refine j_aload_n dX4_undo_11 rfl rfl ?_
    refine j_ifnonnull (tgt := 26) dX4_undo_12 (by decide) ?_
    refine j_aload_n dX4_undo_26 rfl rfl ?_
    refine j_aload_n dX4_undo_27 rfl rfl ?_
    refine j_callV (x_goBackTo hS (w5 _ (by omega) (by omega)) (by omega) (hPi _ (by omega) (by omega)).1) dX4_undo_28 jc_X4_249 jmV_X4_goBackTo rfl rfl hX.1 rfl rfl (by simp) jfr_nil (Nat.le_of_ble_eq_true rfl) ⟨Nat.le_of_ble_eq_true rfl, Nat.le_of_ble_eq_true rfl⟩ ⟨Nat.le_of_ble_eq_true rfl, Nat.le_of_ble_eq_true rfl⟩ (fun r h1 hp9 => ?_) (fun E h9 q => q.elim)
    obtain ⟨rfl, hS1, x1⟩ := hp9
    have hX1 := hS1.x
    refine j_aload_n dX4_undo_31 rfl rfl ?_
    refine j_dup dX4_undo_32 rfl ?_
    refine j_getfield (v := iv (X 5 0)) dX4_undo_33 jf_X4_30 hX1.1 rfl ?_
    refine j_iconst dX4_undo_36 ?_
    refine j_isub dX4_undo_37 ?_
    refine jo_put (S := sX) dX4_undo_38 jf_X4_30 (fun q hq => by cases hq; exact ⟨rfl, rfl⟩) (jHold_int _) okX hX1 rfl (fun h3 hG3 hX3 => ?_)
    refine j_aload_n dX4_undo_41 rfl rfl ?_
    refine j_getfield (v := iv (X 5 0 - 1)) dX4_undo_42 jf_X4_30 hG3.1 rfl ?_
    have hy : ∀ j, 14 ≤ j → h3 j = h j := fun j j0 => (hX3 j (.inr (by show 0 + 1 ≤ j; omega))).trans (x1 j (.inr (by omega)))
    subst hZ
    refine j_ireturn dX4_undo_45 rfl rfl ⟨rfl, by omega, ⟨hS1.x2 hG3 hX3, ⟨Fb, hb.eq okF fun j j0 _ => hy j j0⟩, hT.eq fun j j0 _ => hy j (by omega), ?_, by show 0 ≤ X 5 0 - 1 ∧ X 5 0 - 1 ≤ 8; omega⟩, fun j hj => hy j (by omega)⟩ (Nat.le_of_ble_eq_true rfl) (Nat.le_of_ble_eq_true rfl)
    show xPa (X 5 0 - 1) P h3
    have w := hPa.eq (fun j j0 _ => hy j (by omega)) hp5.2
    obtain ⟨pl', g', v1, v2, v3, v4, v5⟩ := w
    exact ⟨pl', g', v1, v2, v3, v4, fun i i0 i1 => v5 i i0 (by omega)⟩
