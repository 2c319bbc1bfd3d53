/-- a call that changes nothing: q is (0, the answer) or (which exception, 0) -/
def jOn (q : Int × Int) (h : jH) : jPn := fun r h' => r = some (iv q.2) ∧ q.1 = 0 ∧ h = h'
def jOx (es : List (Int × String)) (q : Int × Int) (h : jH) : jPx := fun E h' => (q.1, E) ∈ es ∧ h = h'
theorem jOn.i {q : Int × Int} {x : Int} {h : jH} (e : q = (0, x)) : jOn q h (some (iv x)) h := by
  subst e
  exact ⟨rfl, rfl, rfl⟩
theorem jOx.i {es : List (Int × String)} {q : Int × Int} {x : Int} {E : String} {h : jH} (e : q = (x, 0)) (m : (x, E) ∈ es) : jOx es q h E h := by
  subst e
  exact ⟨m, rfl⟩
def y_per (K : fS) (p w : Int) : Int := if w = 0 then K 0 p else if w = 1 then fdep K p else if w = 2 then csum (fun c => bi (K 0 c = p)) (K 6 0).toNat else if w = 3 then ((des K 24 p).length : Int) else if w = 4 then K 1 p else if w = 5 then K 2 p else if w = 6 then K 3 p else if w = 7 then frt K p else 0
noncomputable def y_personOf (K : fS) (p w : Int) : Int × Int := if 0 ≤ p ∧ p < K 6 0 then (if 0 ≤ w ∧ w ≤ 9 then (0, if w = 8 then fho K p else if w = 9 then csum (fun z => bi (K 4 z = p ∨ K 5 z = p)) (K 7 0).toNat else y_per K p w) else (2, 0)) else (1, 0)
def y_elder (K : fS) (p e : Int) : Int × Int := if 0 ≤ p ∧ p < K 6 0 then (if 0 ≤ e ∧ e ≤ fdep K p then (0, fup K p e) else (2, 0)) else (1, 0)
def y_common (K : fS) (p o : Int) : Int × Int := if (0 ≤ p ∧ p < K 6 0) ∧ (0 ≤ o ∧ o < K 6 0) then (if frt K p = frt K o then (0, flc K p o) else (2, 0)) else (1, 0)
def y_degree (K : fS) (p o : Int) : Int × Int := if (0 ≤ p ∧ p < K 6 0) ∧ (0 ≤ o ∧ o < K 6 0) then (if frt K p = frt K o then (0, faw K p o) else (2, 0)) else (1, 0)
def y_leaps (K : fS) (p e : Int) : Int × Int := if 0 ≤ p ∧ p < K 6 0 then (if 0 ≤ e ∧ e ≤ fdep K p then (0, mlp 5 e) else (2, 0)) else (1, 0)
def y_descendant (K : fS) (p q : Int) : Int × Int := if 0 ≤ p ∧ p < K 6 0 then (if 0 ≤ q ∧ q < ((des K 24 p).length : Int) then (0, ((des K 24 p)[q.toNat]?).getD 0) else (2, 0)) else (1, 0)
def y_quarrelAt (K : fS) (q d : Int) : Int × Int := if 0 ≤ q ∧ q < K 7 0 then (0, if d = 0 then K 4 q else K 5 q) else (1, 0)
noncomputable def y_wouldEnd (K : fS) (p o : Int) : Int × Int := if (0 ≤ p ∧ p < K 6 0) ∧ (0 ≤ o ∧ o < K 6 0) then (if (kWhy K p o).1 = 0 then (0, csum (fun z => bi ((fho K (K 4 z) = fho K p ∧ fho K (K 5 z) = fho K o) ∨ (fho K (K 4 z) = fho K o ∧ fho K (K 5 z) = fho K p))) (K 7 0).toNat) else (2, 0)) else (1, 0)
def y_heir (K : fS) (p : Int) : Int × Int := if 0 ≤ p ∧ p < K 6 0 then (if K 3 p = 0 then (2, 0) else (0, fhe K p)) else (1, 0)
def y_refusal (X : fS) (d : Int) : Int × Int := if X 11 0 = 0 then (1, 0) else (0, if d = 0 then X 11 0 else X 12 0)
def y_account (K X I : fS) (w : Int) : Int × Int := if 0 ≤ w ∧ w ≤ 11 then (0, if w = 0 then K 6 0 else if w = 1 then csum (fun c => bi (K 3 c ≠ 0)) (K 6 0).toNat else if w = 2 then kOaks K else if w = 3 then csum (fun c => bi (K 1 c > c)) (K 6 0).toNat else if w = 4 then K 7 0 else if w = 5 then K 8 0 else if w = 6 then cmax (fun c => fdep K c) (K 6 0).toNat else if w = 7 then csum (fun c => K 2 c) (K 6 0).toNat else if w = 8 then K 9 0 else if w = 9 then K 10 0 else if w = 10 then I 5 0 else X 5 0) else (1, 0)
theorem fup_e {K : fS} {p e : Int} (h : 0 ≤ e ∧ e ≤ fdep K p) : upk (K 0) (Int.toNat e) p = fup K p e := by
  have := fdep_rg K p
  unfold fup
  rw [show (min e 24).toNat = Int.toNat e by omega]
set_option maxHeartbeats 4000000 in
/-- FamilyOaks.personOf -/
theorem x_personOf {K Ks X I : fS} {P : Int → fS} {c B : Int} {t : Int → Int} {h : jH} (hC : xC K Ks P X I c t h) (hI : kI B K) {p w : Int} (hp : -2147483648 ≤ p ∧ p ≤ 2147483647) (hw : -2147483648 ≤ w ∧ w ≤ 2147483647) : jM mX4_personOf 7 2 12 [] [.ref 0, iv p, iv w] h (jOn (y_personOf K p w) h) (jOx [(1, "java/lang/IndexOutOfBoundsException"), (2, "java/lang/IllegalArgumentException")] (y_personOf K p w) h) := by
  refine j_method (by decide +kernel) rfl (fun _ _ _ => trivial) (Nat.le_of_ble_eq_true rfl) ?_
  generalize hZ : jZ [] 2 12 _ _ = Z
  show J mX4_personOf (jR 7 2 12) [] Z 0 [(0, .ref 0), (1, iv p), (2, iv w)] [] h 0 0
  obtain ⟨hS, ⟨Fb, hb⟩, ⟨hKs, hIn, hW⟩, hPa, hp5⟩ := hC
  obtain ⟨a, b, E, H, hX, hF, hL, hG, hq, hE9, hH⟩ := hS
  have hO := hI.1
  have hA := hI.2.1
  have hn := hO.n
  have hqn := hO.q
  refine j_aload_n dX4_personOf_0 rfl rfl ?_
  refine j_iload_n dX4_personOf_1 rfl rfl ?_
  refine j_callV (x_needPerson hX hF hq hO (p := p) (by omega)) dX4_personOf_2 jc_X4_82 jmV_X4_needPerson rfl rfl hX.1 rfl rfl (by simp) jfr_nil (Nat.le_of_ble_eq_true rfl) ⟨Nat.le_of_ble_eq_true rfl, Nat.le_of_ble_eq_true rfl⟩ ⟨Nat.le_of_ble_eq_true rfl, Nat.le_of_ble_eq_true rfl⟩ (fun r h1 hp9 => ?_) (fun E9 h9 q9 => by obtain ⟨rfl, rfl, q9⟩ := q9; subst hZ; exact j_out rfl (jOx.i (x := 1) (by unfold y_personOf; (repeat (first | rw [if_pos (by first | omega | assumption)] | rw [if_neg (by first | omega | assumption)])); all_goals (first | rfl | omega)) (.head _)) (by decide) (by decide))
  obtain ⟨rfl, rfl, qp2⟩ := hp9
  refine j_iload_n dX4_personOf_5 rfl rfl ?_
  by_cases c2 : w = 0
  · refine j_tabIn (tgt := 60) 0 dX4_personOf_6 c2 (by decide) (by decide) (by decide) rfl (by decide) ?_
    refine j_aload_n dX4_personOf_60 rfl rfl ?_
    refine j_getfield (v := .ref 1) dX4_personOf_61 jf_X4_10 hX.1 rfl ?_
    refine j_iload_n dX4_personOf_64 rfl rfl ?_
    refine j_callV (k_parentOf hF hq hO  (by omega)) dX4_personOf_65 jc_X4_86 jmV_X1_parentOf rfl rfl hF.1 rfl rfl (by simp) jfr_nil (Nat.le_of_ble_eq_true rfl) ⟨Nat.le_of_ble_eq_true rfl, Nat.le_of_ble_eq_true rfl⟩ ⟨Nat.le_of_ble_eq_true rfl, Nat.le_of_ble_eq_true rfl⟩ (fun r h3 hp9 => ?_) (fun E h9 q => q.elim)
    obtain ⟨rfl, rfl⟩ := hp9
    have zp := hO.p p
    subst hZ
    exact j_ireturn dX4_personOf_68 rfl rfl (jOn.i (by unfold y_personOf; rw [if_pos (by omega), if_pos (by omega)]; first | (rw [if_pos (by omega)]; done) | (rw [if_neg (by omega), if_pos (by omega)]; done) | (rw [if_neg (by omega), if_neg (by omega)]; unfold y_per; (repeat (first | rw [if_pos (by omega)] | rw [if_neg (by omega)])); all_goals (first | rfl | omega | exact congrArg (Prod.mk 0) (by omega))))) (by omega) (by omega)
  by_cases c4 : w = 1
  · refine j_tabIn (tgt := 69) 1 dX4_personOf_6 c4 (by decide) (by decide) (by decide) rfl (by decide) ?_
    refine j_aload_n dX4_personOf_69 rfl rfl ?_
    refine j_getfield (v := .ref 1) dX4_personOf_70 jf_X4_10 hX.1 rfl ?_
    refine j_iload_n dX4_personOf_73 rfl rfl ?_
    refine j_callV (k_depthOf hF hq hO  (by omega)) dX4_personOf_74 jc_X4_89 jmV_X1_depthOf rfl rfl hF.1 rfl rfl (by simp) jfr_nil (Nat.le_of_ble_eq_true rfl) ⟨Nat.le_of_ble_eq_true rfl, Nat.le_of_ble_eq_true rfl⟩ ⟨Nat.le_of_ble_eq_true rfl, Nat.le_of_ble_eq_true rfl⟩ (fun r h5 hp9 => ?_) (fun E h9 q => q.elim)
    obtain ⟨rfl, rfl⟩ := hp9
    have zd := fdep_rg K p
    subst hZ
    exact j_ireturn dX4_personOf_77 rfl rfl (jOn.i (by unfold y_personOf; rw [if_pos (by omega), if_pos (by omega)]; first | (rw [if_pos (by omega)]; done) | (rw [if_neg (by omega), if_pos (by omega)]; done) | (rw [if_neg (by omega), if_neg (by omega)]; unfold y_per; (repeat (first | rw [if_pos (by omega)] | rw [if_neg (by omega)])); all_goals (first | rfl | omega | exact congrArg (Prod.mk 0) (by omega))))) (by omega) (by omega)
  by_cases c6 : w = 2
  · refine j_tabIn (tgt := 78) 2 dX4_personOf_6 c6 (by decide) (by decide) (by decide) rfl (by decide) ?_
    refine j_aload_n dX4_personOf_78 rfl rfl ?_
    refine j_getfield (v := .ref 1) dX4_personOf_79 jf_X4_10 hX.1 rfl ?_
    refine j_iload_n dX4_personOf_82 rfl rfl ?_
    refine j_callV (k_childrenOf hF hq hO  (by omega)) dX4_personOf_83 jc_X4_92 jmV_X1_childrenOf rfl rfl hF.1 rfl rfl (by simp) jfr_nil (Nat.le_of_ble_eq_true rfl) ⟨Nat.le_of_ble_eq_true rfl, Nat.le_of_ble_eq_true rfl⟩ ⟨Nat.le_of_ble_eq_true rfl, Nat.le_of_ble_eq_true rfl⟩ (fun r h7 hp9 => ?_) (fun E h9 q => q.elim)
    obtain ⟨rfl, rfl⟩ := hp9
    subst hZ
    exact j_ireturn dX4_personOf_86 rfl rfl (jOn.i (by unfold y_personOf; rw [if_pos (by omega), if_pos (by omega)]; first | (rw [if_pos (by omega)]; done) | (rw [if_neg (by omega), if_pos (by omega)]; done) | (rw [if_neg (by omega), if_neg (by omega)]; unfold y_per; (repeat (first | rw [if_pos (by omega)] | rw [if_neg (by omega)])); all_goals (first | rfl | omega | exact congrArg (Prod.mk 0) (by omega))))) (by omega) (by omega)
  by_cases c8 : w = 3
  · refine j_tabIn (tgt := 87) 3 dX4_personOf_6 c8 (by decide) (by decide) (by decide) rfl (by decide) ?_
    refine j_aload_n dX4_personOf_87 rfl rfl ?_
    refine j_getfield (v := .ref 1) dX4_personOf_88 jf_X4_10 hX.1 rfl ?_
    refine j_iload_n dX4_personOf_91 rfl rfl ?_
    refine j_callV (k_descendantsOf hF hq hO hA (by omega)) dX4_personOf_92 jc_X4_95 jmV_X1_descendantsOf rfl rfl hF.1 rfl rfl (by simp) jfr_nil (Nat.le_of_ble_eq_true rfl) ⟨Nat.le_of_ble_eq_true rfl, Nat.le_of_ble_eq_true rfl⟩ ⟨Nat.le_of_ble_eq_true rfl, Nat.le_of_ble_eq_true rfl⟩ (fun r h9 hp9 => ?_) (fun E h9 q => q.elim)
    obtain ⟨rfl, rfl⟩ := hp9
    have zdl := des_len hO hA 24 (p := p) (by omega)
    subst hZ
    exact j_ireturn dX4_personOf_95 rfl rfl (jOn.i (by unfold y_personOf; rw [if_pos (by omega), if_pos (by omega)]; first | (rw [if_pos (by omega)]; done) | (rw [if_neg (by omega), if_pos (by omega)]; done) | (rw [if_neg (by omega), if_neg (by omega)]; unfold y_per; (repeat (first | rw [if_pos (by omega)] | rw [if_neg (by omega)])); all_goals (first | rfl | omega | exact congrArg (Prod.mk 0) (by omega))))) (by omega) (by omega)
  by_cases c10 : w = 4
  · refine j_tabIn (tgt := 96) 4 dX4_personOf_6 c10 (by decide) (by decide) (by decide) rfl (by decide) ?_
    refine j_aload_n dX4_personOf_96 rfl rfl ?_
    refine j_getfield (v := .ref 1) dX4_personOf_97 jf_X4_10 hX.1 rfl ?_
    refine j_iload_n dX4_personOf_100 rfl rfl ?_
    refine j_callV (k_spouseOf hF hq hO  (by omega)) dX4_personOf_101 jc_X4_98 jmV_X1_spouseOf rfl rfl hF.1 rfl rfl (by simp) jfr_nil (Nat.le_of_ble_eq_true rfl) ⟨Nat.le_of_ble_eq_true rfl, Nat.le_of_ble_eq_true rfl⟩ ⟨Nat.le_of_ble_eq_true rfl, Nat.le_of_ble_eq_true rfl⟩ (fun r h11 hp9 => ?_) (fun E h9 q => q.elim)
    obtain ⟨rfl, rfl⟩ := hp9
    have zs := hO.s p
    subst hZ
    exact j_ireturn dX4_personOf_104 rfl rfl (jOn.i (by unfold y_personOf; rw [if_pos (by omega), if_pos (by omega)]; first | (rw [if_pos (by omega)]; done) | (rw [if_neg (by omega), if_pos (by omega)]; done) | (rw [if_neg (by omega), if_neg (by omega)]; unfold y_per; (repeat (first | rw [if_pos (by omega)] | rw [if_neg (by omega)])); all_goals (first | rfl | omega | exact congrArg (Prod.mk 0) (by omega))))) (by omega) (by omega)
  by_cases c12 : w = 5
  · refine j_tabIn (tgt := 105) 5 dX4_personOf_6 c12 (by decide) (by decide) (by decide) rfl (by decide) ?_
    refine j_aload_n dX4_personOf_105 rfl rfl ?_
    refine j_getfield (v := .ref 1) dX4_personOf_106 jf_X4_10 hX.1 rfl ?_
    refine j_iload_n dX4_personOf_109 rfl rfl ?_
    refine j_callV (k_coinsOf hF hq hO  (by omega)) dX4_personOf_110 jc_X4_101 jmV_X1_coinsOf rfl rfl hF.1 rfl rfl (by simp) jfr_nil (Nat.le_of_ble_eq_true rfl) ⟨Nat.le_of_ble_eq_true rfl, Nat.le_of_ble_eq_true rfl⟩ ⟨Nat.le_of_ble_eq_true rfl, Nat.le_of_ble_eq_true rfl⟩ (fun r h13 hp9 => ?_) (fun E h9 q => q.elim)
    obtain ⟨rfl, rfl⟩ := hp9
    have zc := hO.c p
    subst hZ
    exact j_ireturn dX4_personOf_113 rfl rfl (jOn.i (by unfold y_personOf; rw [if_pos (by omega), if_pos (by omega)]; first | (rw [if_pos (by omega)]; done) | (rw [if_neg (by omega), if_pos (by omega)]; done) | (rw [if_neg (by omega), if_neg (by omega)]; unfold y_per; (repeat (first | rw [if_pos (by omega)] | rw [if_neg (by omega)])); all_goals (first | rfl | omega | exact congrArg (Prod.mk 0) (by omega))))) (by omega) (by omega)
  by_cases c14 : w = 6
  · refine j_tabIn (tgt := 114) 6 dX4_personOf_6 c14 (by decide) (by decide) (by decide) rfl (by decide) ?_
    refine j_aload_n dX4_personOf_114 rfl rfl ?_
    refine j_getfield (v := .ref 1) dX4_personOf_115 jf_X4_10 hX.1 rfl ?_
    refine j_iload_n dX4_personOf_118 rfl rfl ?_
    refine j_callV (k_lives hF hq hO  (by omega)) dX4_personOf_119 jc_X4_104 jmV_X1_lives rfl rfl hF.1 rfl rfl (by simp) jfr_nil (Nat.le_of_ble_eq_true rfl) ⟨Nat.le_of_ble_eq_true rfl, Nat.le_of_ble_eq_true rfl⟩ ⟨Nat.le_of_ble_eq_true rfl, Nat.le_of_ble_eq_true rfl⟩ (fun r h15 hp9 => ?_) (fun E h9 q => q.elim)
    obtain ⟨rfl, rfl⟩ := hp9
    have zl := hO.l p
    refine j_if_eq (tgt := 129) dX4_personOf_122 (by decide) (by omega) (fun c16 => ?_) (fun c16 => ?_)
    · refine j_iconst dX4_personOf_129 ?_
      subst hZ
      exact j_ireturn dX4_personOf_130 rfl rfl (jOn.i (by unfold y_personOf; rw [if_pos (by omega), if_pos (by omega)]; first | (rw [if_pos (by omega)]; done) | (rw [if_neg (by omega), if_pos (by omega)]; done) | (rw [if_neg (by omega), if_neg (by omega)]; unfold y_per; (repeat (first | rw [if_pos (by omega)] | rw [if_neg (by omega)])); all_goals (first | rfl | omega | exact congrArg (Prod.mk 0) (by omega))))) (by omega) (by omega)
    · refine j_iconst dX4_personOf_125 ?_
      refine j_goto (tgt := 130) dX4_personOf_126 (by decide) ?_
      subst hZ
      exact j_ireturn dX4_personOf_130 rfl rfl (jOn.i (by unfold y_personOf; rw [if_pos (by omega), if_pos (by omega)]; first | (rw [if_pos (by omega)]; done) | (rw [if_neg (by omega), if_pos (by omega)]; done) | (rw [if_neg (by omega), if_neg (by omega)]; unfold y_per; (repeat (first | rw [if_pos (by omega)] | rw [if_neg (by omega)])); all_goals (first | rfl | omega | exact congrArg (Prod.mk 0) (by omega))))) (by omega) (by omega)
  by_cases c17 : w = 7
  · refine j_tabIn (tgt := 131) 7 dX4_personOf_6 c17 (by decide) (by decide) (by decide) rfl (by decide) ?_
    refine j_aload_n dX4_personOf_131 rfl rfl ?_
    refine j_getfield (v := .ref 1) dX4_personOf_132 jf_X4_10 hX.1 rfl ?_
    refine j_iload_n dX4_personOf_135 rfl rfl ?_
    refine j_callV (k_rootOf hF hq hO  (by omega)) dX4_personOf_136 jc_X4_108 jmV_X1_rootOf rfl rfl hF.1 rfl rfl (by simp) jfr_nil (Nat.le_of_ble_eq_true rfl) ⟨Nat.le_of_ble_eq_true rfl, Nat.le_of_ble_eq_true rfl⟩ ⟨Nat.le_of_ble_eq_true rfl, Nat.le_of_ble_eq_true rfl⟩ (fun r h18 hp9 => ?_) (fun E h9 q => q.elim)
    obtain ⟨rfl, rfl⟩ := hp9
    have zr := frt_r24 hO (p := p) (by omega)
    subst hZ
    exact j_ireturn dX4_personOf_139 rfl rfl (jOn.i (by unfold y_personOf; rw [if_pos (by omega), if_pos (by omega)]; first | (rw [if_pos (by omega)]; done) | (rw [if_neg (by omega), if_pos (by omega)]; done) | (rw [if_neg (by omega), if_neg (by omega)]; unfold y_per; (repeat (first | rw [if_pos (by omega)] | rw [if_neg (by omega)])); all_goals (first | rfl | omega | exact congrArg (Prod.mk 0) (by omega))))) (by omega) (by omega)
  by_cases c19 : w = 8
  · refine j_tabIn (tgt := 140) 8 dX4_personOf_6 c19 (by decide) (by decide) (by decide) rfl (by decide) ?_
    refine j_aload_n dX4_personOf_140 rfl rfl ?_
    refine j_getfield (v := .ref 11) dX4_personOf_141 jf_X4_44 hX.1 rfl ?_
    refine j_iload_n dX4_personOf_144 rfl rfl ?_
    refine j_callV (k_houseOf hG hO hH (by omega)) dX4_personOf_145 jc_X4_111 jmV_X2_houseOf rfl rfl hG.1 rfl rfl (by simp) jfr_nil (Nat.le_of_ble_eq_true rfl) ⟨Nat.le_of_ble_eq_true rfl, Nat.le_of_ble_eq_true rfl⟩ ⟨Nat.le_of_ble_eq_true rfl, Nat.le_of_ble_eq_true rfl⟩ (fun r h20 hp9 => ?_) (fun E h9 q => q.elim)
    obtain ⟨rfl, rfl⟩ := hp9
    have zh := fho_rg hO (p := p) (by omega)
    subst hZ
    exact j_ireturn dX4_personOf_148 rfl rfl (jOn.i (by unfold y_personOf; rw [if_pos (by omega), if_pos (by omega)]; first | (rw [if_pos (by omega)]; done) | (rw [if_neg (by omega), if_pos (by omega)]; done) | (rw [if_neg (by omega), if_neg (by omega)]; unfold y_per; (repeat (first | rw [if_pos (by omega)] | rw [if_neg (by omega)])); all_goals (first | rfl | omega | exact congrArg (Prod.mk 0) (by omega))))) (by omega) (by omega)
  by_cases c21 : w = 9
  · refine j_tabIn (tgt := 149) 9 dX4_personOf_6 c21 (by decide) (by decide) (by decide) rfl (by decide) ?_
    refine j_aload_n dX4_personOf_149 rfl rfl ?_
    refine j_getfield (v := .ref 1) dX4_personOf_150 jf_X4_10 hX.1 rfl ?_
    refine j_iload_n dX4_personOf_153 rfl rfl ?_
    refine j_callV (k_quarrelsOf hF hq hO  (by omega)) dX4_personOf_154 jc_X4_114 jmV_X1_quarrelsOf rfl rfl hF.1 rfl rfl (by simp) jfr_nil (Nat.le_of_ble_eq_true rfl) ⟨Nat.le_of_ble_eq_true rfl, Nat.le_of_ble_eq_true rfl⟩ ⟨Nat.le_of_ble_eq_true rfl, Nat.le_of_ble_eq_true rfl⟩ (fun r h22 hp9 => ?_) (fun E h9 q => q.elim)
    obtain ⟨rfl, rfl⟩ := hp9
    subst hZ
    exact j_ireturn dX4_personOf_157 rfl rfl (jOn.i (by unfold y_personOf; rw [if_pos (by omega), if_pos (by omega)]; first | (rw [if_pos (by omega)]; done) | (rw [if_neg (by omega), if_pos (by omega)]; done) | (rw [if_neg (by omega), if_neg (by omega)]; unfold y_per; (repeat (first | rw [if_pos (by omega)] | rw [if_neg (by omega)])); all_goals (first | rfl | omega | exact congrArg (Prod.mk 0) (by omega))))) (by omega) (by omega)
  refine j_tabOut (tgt := 158) dX4_personOf_6 (by omega) (by omega) (by decide) ?_
  subst hZ
  exact j_throwY jth_117_119_121 rfl dX4_personOf_158 dX4_personOf_161 dX4_personOf_162 dX4_personOf_164 dX4_personOf_167 (by decide) (by decide) (jOx.i (x := 2) (by unfold y_personOf; (repeat (first | rw [if_pos (by first | omega | assumption)] | rw [if_neg (by first | omega | assumption)])); all_goals (first | rfl | omega)) (.tail _ (.head _))) (by decide) (by decide)
set_option maxHeartbeats 4000000 in
/-- FamilyOaks.elder -/
theorem x_elder {K Ks X I : fS} {P : Int → fS} {c B : Int} {t : Int → Int} {h : jH} (hC : xC K Ks P X I c t h) (hI : kI B K) {p e d : Int} (hp : -2147483648 ≤ p ∧ p ≤ 2147483647) (he : -2147483648 ≤ e ∧ e ≤ 2147483647) (hd : d = 0 ∨ d = 1) : jM mX4_elder 7 2 12 [] [.ref 0, iv p, iv e, iv d] h (jOn (y_elder K p e) h) (jOx [(1, "java/lang/IndexOutOfBoundsException"), (2, "java/util/NoSuchElementException")] (y_elder K p e) h) := by
  refine j_method (by decide +kernel) rfl (fun _ _ _ => trivial) (Nat.le_of_ble_eq_true rfl) ?_
  generalize hZ : jZ [] 2 12 _ _ = Z
  show J mX4_elder (jR 7 2 12) [] Z 0 [(0, .ref 0), (1, iv p), (2, iv e), (3, iv d)] [] h 0 0
  obtain ⟨hS, ⟨Fb, hb⟩, ⟨hKs, hIn, hW⟩, hPa, hp5⟩ := hC
  obtain ⟨a, b, E, H, hX, hF, hL, hG, hq, hE9, hH⟩ := hS
  have hO := hI.1
  have hA := hI.2.1
  have hn := hO.n
  have hqn := hO.q
  refine j_aload_n dX4_elder_0 rfl rfl ?_
  refine j_iload_n dX4_elder_1 rfl rfl ?_
  refine j_callV (x_needPerson hX hF hq hO (p := p) (by omega)) dX4_elder_2 jc_X4_82 jmV_X4_needPerson rfl rfl hX.1 rfl rfl (by simp) jfr_nil (Nat.le_of_ble_eq_true rfl) ⟨Nat.le_of_ble_eq_true rfl, Nat.le_of_ble_eq_true rfl⟩ ⟨Nat.le_of_ble_eq_true rfl, Nat.le_of_ble_eq_true rfl⟩ (fun r h1 hp9 => ?_) (fun E9 h9 q9 => by obtain ⟨rfl, rfl, q9⟩ := q9; subst hZ; exact j_out rfl (jOx.i (x := 1) (by unfold y_elder; (repeat (first | rw [if_pos (by first | omega | assumption)] | rw [if_neg (by first | omega | assumption)])); all_goals (first | rfl | omega)) (.head _)) (by decide) (by decide))
  obtain ⟨rfl, rfl, qp2⟩ := hp9
  refine j_aload_n dX4_elder_5 rfl rfl ?_
  refine j_iload_n dX4_elder_6 rfl rfl ?_
  refine j_iload_n dX4_elder_7 rfl rfl ?_
  refine j_callV (x_needElder hX hF hq hO (p := p) (e := e) (by omega) (by omega)) dX4_elder_8 jc_X4_124 jmV_X4_needElder rfl rfl hX.1 rfl rfl (by simp) jfr_nil (Nat.le_of_ble_eq_true rfl) ⟨Nat.le_of_ble_eq_true rfl, Nat.le_of_ble_eq_true rfl⟩ ⟨Nat.le_of_ble_eq_true rfl, Nat.le_of_ble_eq_true rfl⟩ (fun r h2 hp9 => ?_) (fun E9 h9 q9 => by obtain ⟨rfl, rfl, q9⟩ := q9; subst hZ; exact j_out rfl (jOx.i (x := 2) (by unfold y_elder; (repeat (first | rw [if_pos (by first | omega | assumption)] | rw [if_neg (by first | omega | assumption)])); all_goals (first | rfl | omega)) (.tail _ (.head _))) (by decide) (by decide))
  obtain ⟨rfl, rfl, qp8⟩ := hp9
  refine j_iload_n dX4_elder_11 rfl rfl ?_
  refine j_if_eq (tgt := 27) dX4_elder_12 (by decide) (by omega) (fun c3 => ?_) (fun c3 => ?_)
  · refine j_aload_n dX4_elder_27 rfl rfl ?_
    refine j_getfield (v := .ref 8) dX4_elder_28 jf_X4_37 hX.1 rfl ?_
    refine j_iload_n dX4_elder_31 rfl rfl ?_
    refine j_iload_n dX4_elder_32 rfl rfl ?_
    have zd := fdep_rg K p
    refine j_callV (c0_leapUp hL hO hA (hE9 (by omega)) (p := p) (e := e) (by omega) (by omega)) dX4_elder_33 jc_X4_132 jmV_X0_leapUp rfl rfl hL.1 rfl rfl (by simp) jfr_nil (Nat.le_of_ble_eq_true rfl) ⟨Nat.le_of_ble_eq_true rfl, Nat.le_of_ble_eq_true rfl⟩ ⟨Nat.le_of_ble_eq_true rfl, Nat.le_of_ble_eq_true rfl⟩ (fun r h4 hp9 => ?_) (fun E h9 q => q.elim)
    obtain ⟨rfl, rfl⟩ := hp9
    subst hZ
    exact j_ireturn dX4_elder_36 rfl rfl (jOn.i (by unfold y_elder; rw [if_pos (by omega), if_pos (by omega)]; rw [fup_e (by omega)])) (by omega) (by omega)
  · refine j_aload_n dX4_elder_15 rfl rfl ?_
    refine j_getfield (v := .ref 1) dX4_elder_16 jf_X4_10 hX.1 rfl ?_
    refine j_iload_n dX4_elder_19 rfl rfl ?_
    refine j_iload_n dX4_elder_20 rfl rfl ?_
    refine j_callV (k_stepUp hF hq hO  (by omega) (by omega)) dX4_elder_21 jc_X4_128 jmV_X1_stepUp rfl rfl hF.1 rfl rfl (by simp) jfr_nil (Nat.le_of_ble_eq_true rfl) ⟨Nat.le_of_ble_eq_true rfl, Nat.le_of_ble_eq_true rfl⟩ ⟨Nat.le_of_ble_eq_true rfl, Nat.le_of_ble_eq_true rfl⟩ (fun r h5 hp9 => ?_) (fun E h9 q => q.elim)
    obtain ⟨rfl, rfl⟩ := hp9
    refine j_goto (tgt := 36) dX4_elder_24 (by decide) ?_
    subst hZ
    exact j_ireturn dX4_elder_36 rfl rfl (jOn.i (by unfold y_elder; rw [if_pos (by omega), if_pos (by omega)])) (by omega) (by omega)
set_option maxHeartbeats 4000000 in
/-- FamilyOaks.common -/
theorem x_common {K Ks X I : fS} {P : Int → fS} {c B : Int} {t : Int → Int} {h : jH} (hC : xC K Ks P X I c t h) (hI : kI B K) {p o d : Int} (hp : -2147483648 ≤ p ∧ p ≤ 2147483647) (ho : -2147483648 ≤ o ∧ o ≤ 2147483647) (hd : d = 0 ∨ d = 1) : jM mX4_common 7 3 18 [] [.ref 0, iv p, iv o, iv d] h (jOn (y_common K p o) h) (jOx [(1, "java/lang/IndexOutOfBoundsException"), (2, "java/util/NoSuchElementException")] (y_common K p o) h) := by
  refine j_method (by decide +kernel) rfl (fun _ _ _ => trivial) (Nat.le_of_ble_eq_true rfl) ?_
  generalize hZ : jZ [] 3 18 _ _ = Z
  show J mX4_common (jR 7 3 18) [] Z 0 [(0, .ref 0), (1, iv p), (2, iv o), (3, iv d)] [] h 0 0
  obtain ⟨hS, ⟨Fb, hb⟩, ⟨hKs, hIn, hW⟩, hPa, hp5⟩ := hC
  obtain ⟨a, b, E, H, hX, hF, hL, hG, hq, hE9, hH⟩ := hS
  have hO := hI.1
  have hA := hI.2.1
  have hn := hO.n
  have hqn := hO.q
  refine j_aload_n dX4_common_0 rfl rfl ?_
  refine j_iload_n dX4_common_1 rfl rfl ?_
  refine j_callV (x_needPerson hX hF hq hO (p := p) (by omega)) dX4_common_2 jc_X4_82 jmV_X4_needPerson rfl rfl hX.1 rfl rfl (by simp) jfr_nil (Nat.le_of_ble_eq_true rfl) ⟨Nat.le_of_ble_eq_true rfl, Nat.le_of_ble_eq_true rfl⟩ ⟨Nat.le_of_ble_eq_true rfl, Nat.le_of_ble_eq_true rfl⟩ (fun r h1 hp9 => ?_) (fun E9 h9 q9 => by obtain ⟨rfl, rfl, q9⟩ := q9; subst hZ; exact j_out rfl (jOx.i (x := 1) (by unfold y_common; (repeat (first | rw [if_pos (by first | omega | assumption)] | rw [if_neg (by first | omega | assumption)])); all_goals (first | rfl | omega)) (.head _)) (by decide) (by decide))
  obtain ⟨rfl, rfl, qp2⟩ := hp9
  refine j_aload_n dX4_common_5 rfl rfl ?_
  refine j_iload_n dX4_common_6 rfl rfl ?_
  refine j_callV (x_needPerson hX hF hq hO (p := o) (by omega)) dX4_common_7 jc_X4_82 jmV_X4_needPerson rfl rfl hX.1 rfl rfl (by simp) jfr_nil (Nat.le_of_ble_eq_true rfl) ⟨Nat.le_of_ble_eq_true rfl, Nat.le_of_ble_eq_true rfl⟩ ⟨Nat.le_of_ble_eq_true rfl, Nat.le_of_ble_eq_true rfl⟩ (fun r h2 hp9 => ?_) (fun E9 h9 q9 => by obtain ⟨rfl, rfl, q9⟩ := q9; subst hZ; exact j_out rfl (jOx.i (x := 1) (by unfold y_common; (repeat (first | rw [if_pos (by first | omega | assumption)] | rw [if_neg (by first | omega | assumption)])); all_goals (first | rfl | omega)) (.head _)) (by decide) (by decide))
  obtain ⟨rfl, rfl, qp7⟩ := hp9
  refine j_aload_n dX4_common_10 rfl rfl ?_
  refine j_iload_n dX4_common_11 rfl rfl ?_
  refine j_iload_n dX4_common_12 rfl rfl ?_
  refine j_callV (x_needOneOak hX hF hL hG hq hI hE9 hH (p := p) (o := o) (by omega) (by omega)) dX4_common_13 jc_X4_135 jmV_X4_needOneOak rfl rfl hX.1 rfl rfl (by simp) jfr_nil (Nat.le_of_ble_eq_true rfl) ⟨Nat.le_of_ble_eq_true rfl, Nat.le_of_ble_eq_true rfl⟩ ⟨Nat.le_of_ble_eq_true rfl, Nat.le_of_ble_eq_true rfl⟩ (fun r h3 hp9 => ?_) (fun E9 h9 q9 => by obtain ⟨rfl, rfl, q9⟩ := q9; subst hZ; exact j_out rfl (jOx.i (x := 2) (by unfold y_common; (repeat (first | rw [if_pos (by first | omega | assumption)] | rw [if_neg (by first | omega | assumption)])); all_goals (first | rfl | omega)) (.tail _ (.head _))) (by decide) (by decide))
  obtain ⟨rfl, rfl, he⟩ := hp9
  refine j_iload_n dX4_common_16 rfl rfl ?_
  refine j_if_eq (tgt := 32) dX4_common_17 (by decide) (by omega) (fun c4 => ?_) (fun c4 => ?_)
  · refine j_aload_n dX4_common_32 rfl rfl ?_
    refine j_getfield (v := .ref 8) dX4_common_33 jf_X4_37 hX.1 rfl ?_
    refine j_iload_n dX4_common_36 rfl rfl ?_
    refine j_iload_n dX4_common_37 rfl rfl ?_
    refine j_callV (c0_commonByLeaps hL hO hA (hE9 (by omega)) (p := p) (o := o) (by omega) (by omega) he) dX4_common_38 jc_X4_141 jmV_X0_commonByLeaps rfl rfl hL.1 rfl rfl (by simp) jfr_nil (Nat.le_of_ble_eq_true rfl) ⟨Nat.le_of_ble_eq_true rfl, Nat.le_of_ble_eq_true rfl⟩ ⟨Nat.le_of_ble_eq_true rfl, Nat.le_of_ble_eq_true rfl⟩ (fun r h5 hp9 => ?_) (fun E h9 q => q.elim)
    obtain ⟨rfl, rfl⟩ := hp9
    have zf := flc_rg hO hA _ p o (Nat.lt_succ_self _) (by omega) (by omega) (by omega) he
    subst hZ
    exact j_ireturn dX4_common_41 rfl rfl (jOn.i (by unfold y_common; rw [if_pos (by omega), if_pos (by omega)])) (by omega) (by omega)
  · refine j_aload_n dX4_common_20 rfl rfl ?_
    refine j_getfield (v := .ref 1) dX4_common_21 jf_X4_10 hX.1 rfl ?_
    refine j_iload_n dX4_common_24 rfl rfl ?_
    refine j_iload_n dX4_common_25 rfl rfl ?_
    refine j_callV (k_commonByNotes hF hq hO hA (by omega) (by omega)) dX4_common_26 jc_X4_138 jmV_X1_commonByNotes rfl rfl hF.1 rfl rfl (by simp) jfr_nil (Nat.le_of_ble_eq_true rfl) ⟨Nat.le_of_ble_eq_true rfl, Nat.le_of_ble_eq_true rfl⟩ ⟨Nat.le_of_ble_eq_true rfl, Nat.le_of_ble_eq_true rfl⟩ (fun r h6 hp9 => ?_) (fun E h9 q => q.elim)
    obtain ⟨rfl, rfl⟩ := hp9
    refine j_goto (tgt := 41) dX4_common_29 (by decide) ?_
    subst hZ
    exact j_ireturn dX4_common_41 rfl rfl (jOn.i (by unfold y_common; rw [if_pos (by omega), if_pos (by omega)]; rw [flc_sy hO hA (p := p) (o := o) (by omega) (by omega) he])) (by omega) (by omega)
set_option maxHeartbeats 4000000 in
/-- FamilyOaks.degree -/
theorem x_degree {K Ks X I : fS} {P : Int → fS} {c B : Int} {t : Int → Int} {h : jH} (hC : xC K Ks P X I c t h) (hI : kI B K) {p o : Int} (hp : -2147483648 ≤ p ∧ p ≤ 2147483647) (ho : -2147483648 ≤ o ∧ o ≤ 2147483647) : jM mX4_degree 7 3 18 [] [.ref 0, iv p, iv o] h (jOn (y_degree K p o) h) (jOx [(1, "java/lang/IndexOutOfBoundsException"), (2, "java/util/NoSuchElementException")] (y_degree K p o) h) := by
  refine j_method (by decide +kernel) rfl (fun _ _ _ => trivial) (Nat.le_of_ble_eq_true rfl) ?_
  generalize hZ : jZ [] 3 18 _ _ = Z
  show J mX4_degree (jR 7 3 18) [] Z 0 [(0, .ref 0), (1, iv p), (2, iv o)] [] h 0 0
  obtain ⟨hS, ⟨Fb, hb⟩, ⟨hKs, hIn, hW⟩, hPa, hp5⟩ := hC
  obtain ⟨a, b, E, H, hX, hF, hL, hG, hq, hE9, hH⟩ := hS
  have hO := hI.1
  have hA := hI.2.1
  have hn := hO.n
  have hqn := hO.q
  refine j_aload_n dX4_degree_0 rfl rfl ?_
  refine j_iload_n dX4_degree_1 rfl rfl ?_
  refine j_callV (x_needPerson hX hF hq hO (p := p) (by omega)) dX4_degree_2 jc_X4_82 jmV_X4_needPerson rfl rfl hX.1 rfl rfl (by simp) jfr_nil (Nat.le_of_ble_eq_true rfl) ⟨Nat.le_of_ble_eq_true rfl, Nat.le_of_ble_eq_true rfl⟩ ⟨Nat.le_of_ble_eq_true rfl, Nat.le_of_ble_eq_true rfl⟩ (fun r h1 hp9 => ?_) (fun E9 h9 q9 => by obtain ⟨rfl, rfl, q9⟩ := q9; subst hZ; exact j_out rfl (jOx.i (x := 1) (by unfold y_degree; (repeat (first | rw [if_pos (by first | omega | assumption)] | rw [if_neg (by first | omega | assumption)])); all_goals (first | rfl | omega)) (.head _)) (by decide) (by decide))
  obtain ⟨rfl, rfl, qp2⟩ := hp9
  refine j_aload_n dX4_degree_5 rfl rfl ?_
  refine j_iload_n dX4_degree_6 rfl rfl ?_
  refine j_callV (x_needPerson hX hF hq hO (p := o) (by omega)) dX4_degree_7 jc_X4_82 jmV_X4_needPerson rfl rfl hX.1 rfl rfl (by simp) jfr_nil (Nat.le_of_ble_eq_true rfl) ⟨Nat.le_of_ble_eq_true rfl, Nat.le_of_ble_eq_true rfl⟩ ⟨Nat.le_of_ble_eq_true rfl, Nat.le_of_ble_eq_true rfl⟩ (fun r h2 hp9 => ?_) (fun E9 h9 q9 => by obtain ⟨rfl, rfl, q9⟩ := q9; subst hZ; exact j_out rfl (jOx.i (x := 1) (by unfold y_degree; (repeat (first | rw [if_pos (by first | omega | assumption)] | rw [if_neg (by first | omega | assumption)])); all_goals (first | rfl | omega)) (.head _)) (by decide) (by decide))
  obtain ⟨rfl, rfl, qp7⟩ := hp9
  refine j_aload_n dX4_degree_10 rfl rfl ?_
  refine j_iload_n dX4_degree_11 rfl rfl ?_
  refine j_iload_n dX4_degree_12 rfl rfl ?_
  refine j_callV (x_needOneOak hX hF hL hG hq hI hE9 hH (p := p) (o := o) (by omega) (by omega)) dX4_degree_13 jc_X4_135 jmV_X4_needOneOak rfl rfl hX.1 rfl rfl (by simp) jfr_nil (Nat.le_of_ble_eq_true rfl) ⟨Nat.le_of_ble_eq_true rfl, Nat.le_of_ble_eq_true rfl⟩ ⟨Nat.le_of_ble_eq_true rfl, Nat.le_of_ble_eq_true rfl⟩ (fun r h3 hp9 => ?_) (fun E9 h9 q9 => by obtain ⟨rfl, rfl, q9⟩ := q9; subst hZ; exact j_out rfl (jOx.i (x := 2) (by unfold y_degree; (repeat (first | rw [if_pos (by first | omega | assumption)] | rw [if_neg (by first | omega | assumption)])); all_goals (first | rfl | omega)) (.tail _ (.head _))) (by decide) (by decide))
  obtain ⟨rfl, rfl, he⟩ := hp9
  refine j_aload_n dX4_degree_16 rfl rfl ?_
  refine j_iload_n dX4_degree_17 rfl rfl ?_
  refine j_iload_n dX4_degree_18 rfl rfl ?_
  refine j_callV (x_degreeBetween hX hF hL hG hq hI hE9 hH (p := p) (o := o) (by omega) (by omega) he) dX4_degree_19 jc_X4_144 jmV_X4_degreeBetween rfl rfl hX.1 rfl rfl (by simp) jfr_nil (Nat.le_of_ble_eq_true rfl) ⟨Nat.le_of_ble_eq_true rfl, Nat.le_of_ble_eq_true rfl⟩ ⟨Nat.le_of_ble_eq_true rfl, Nat.le_of_ble_eq_true rfl⟩ (fun r h4 hp9 => ?_) (fun E h9 q => q.elim)
  obtain ⟨rfl, rfl⟩ := hp9
  have za := faw_rg K p o
  subst hZ
  exact j_ireturn dX4_degree_22 rfl rfl (jOn.i (by unfold y_degree; (repeat (first | rw [if_pos (by first | omega | assumption)] | rw [if_neg (by first | omega | assumption)])); all_goals (first | rfl | omega))) (by omega) (by omega)
set_option maxHeartbeats 4000000 in
/-- FamilyOaks.leaps -/
theorem x_leaps {K Ks X I : fS} {P : Int → fS} {c B : Int} {t : Int → Int} {h : jH} (hC : xC K Ks P X I c t h) (hI : kI B K) {p e : Int} (hp : -2147483648 ≤ p ∧ p ≤ 2147483647) (he : -2147483648 ≤ e ∧ e ≤ 2147483647) : jM mX4_leaps 7 2 12 [] [.ref 0, iv p, iv e] h (jOn (y_leaps K p e) h) (jOx [(1, "java/lang/IndexOutOfBoundsException"), (2, "java/util/NoSuchElementException")] (y_leaps K p e) h) := by
  refine j_method (by decide +kernel) rfl (fun _ _ _ => trivial) (Nat.le_of_ble_eq_true rfl) ?_
  generalize hZ : jZ [] 2 12 _ _ = Z
  show J mX4_leaps (jR 7 2 12) [] Z 0 [(0, .ref 0), (1, iv p), (2, iv e)] [] h 0 0
  obtain ⟨hS, ⟨Fb, hb⟩, ⟨hKs, hIn, hW⟩, hPa, hp5⟩ := hC
  obtain ⟨a, b, E, H, hX, hF, hL, hG, hq, hE9, hH⟩ := hS
  have hO := hI.1
  have hA := hI.2.1
  have hn := hO.n
  have hqn := hO.q
  refine j_aload_n dX4_leaps_0 rfl rfl ?_
  refine j_iload_n dX4_leaps_1 rfl rfl ?_
  refine j_callV (x_needPerson hX hF hq hO (p := p) (by omega)) dX4_leaps_2 jc_X4_82 jmV_X4_needPerson rfl rfl hX.1 rfl rfl (by simp) jfr_nil (Nat.le_of_ble_eq_true rfl) ⟨Nat.le_of_ble_eq_true rfl, Nat.le_of_ble_eq_true rfl⟩ ⟨Nat.le_of_ble_eq_true rfl, Nat.le_of_ble_eq_true rfl⟩ (fun r h1 hp9 => ?_) (fun E9 h9 q9 => by obtain ⟨rfl, rfl, q9⟩ := q9; subst hZ; exact j_out rfl (jOx.i (x := 1) (by unfold y_leaps; (repeat (first | rw [if_pos (by first | omega | assumption)] | rw [if_neg (by first | omega | assumption)])); all_goals (first | rfl | omega)) (.head _)) (by decide) (by decide))
  obtain ⟨rfl, rfl, qp2⟩ := hp9
  refine j_aload_n dX4_leaps_5 rfl rfl ?_
  refine j_iload_n dX4_leaps_6 rfl rfl ?_
  refine j_iload_n dX4_leaps_7 rfl rfl ?_
  refine j_callV (x_needElder hX hF hq hO (p := p) (e := e) (by omega) (by omega)) dX4_leaps_8 jc_X4_124 jmV_X4_needElder rfl rfl hX.1 rfl rfl (by simp) jfr_nil (Nat.le_of_ble_eq_true rfl) ⟨Nat.le_of_ble_eq_true rfl, Nat.le_of_ble_eq_true rfl⟩ ⟨Nat.le_of_ble_eq_true rfl, Nat.le_of_ble_eq_true rfl⟩ (fun r h2 hp9 => ?_) (fun E9 h9 q9 => by obtain ⟨rfl, rfl, q9⟩ := q9; subst hZ; exact j_out rfl (jOx.i (x := 2) (by unfold y_leaps; (repeat (first | rw [if_pos (by first | omega | assumption)] | rw [if_neg (by first | omega | assumption)])); all_goals (first | rfl | omega)) (.tail _ (.head _))) (by decide) (by decide))
  obtain ⟨rfl, rfl, qp8⟩ := hp9
  refine j_aload_n dX4_leaps_11 rfl rfl ?_
  refine j_getfield (v := .ref 8) dX4_leaps_12 jf_X4_37 hX.1 rfl ?_
  refine j_iload_n dX4_leaps_15 rfl rfl ?_
  have zd := fdep_rg K p
  refine j_callV (c0_leapsFor hL (e := e) (by omega)) dX4_leaps_16 jc_X4_147 jmV_X0_leapsFor rfl rfl hL.1 rfl rfl (by simp) jfr_nil (Nat.le_of_ble_eq_true rfl) ⟨Nat.le_of_ble_eq_true rfl, Nat.le_of_ble_eq_true rfl⟩ ⟨Nat.le_of_ble_eq_true rfl, Nat.le_of_ble_eq_true rfl⟩ (fun r h3 hp9 => ?_) (fun E h9 q => q.elim)
  obtain ⟨rfl, rfl⟩ := hp9
  subst hZ
  exact j_ireturn dX4_leaps_19 rfl rfl (jOn.i (by unfold y_leaps; (repeat (first | rw [if_pos (by first | omega | assumption)] | rw [if_neg (by first | omega | assumption)])); all_goals (first | rfl | omega))) (by omega) (by omega)
set_option maxHeartbeats 4000000 in
/-- FamilyOaks.quarrelAt -/
theorem x_quarrelAt {K Ks X I : fS} {P : Int → fS} {c B : Int} {t : Int → Int} {h : jH} (hC : xC K Ks P X I c t h) (hI : kI B K) {p d : Int} (hp : -2147483648 ≤ p ∧ p ≤ 2147483647) (hd : d = 0 ∨ d = 1) : jM mX4_quarrelAt 6 1 6 [] [.ref 0, iv p, iv d] h (jOn (y_quarrelAt K p d) h) (jOx [(1, "java/util/NoSuchElementException")] (y_quarrelAt K p d) h) := by
  refine j_method (by decide +kernel) rfl (fun _ _ _ => trivial) (Nat.le_of_ble_eq_true rfl) ?_
  generalize hZ : jZ [] 1 6 _ _ = Z
  show J mX4_quarrelAt (jR 6 1 6) [] Z 0 [(0, .ref 0), (1, iv p), (2, iv d)] [] h 0 0
  obtain ⟨hS, ⟨Fb, hb⟩, ⟨hKs, hIn, hW⟩, hPa, hp5⟩ := hC
  obtain ⟨a, b, E, H, hX, hF, hL, hG, hq, hE9, hH⟩ := hS
  have hO := hI.1
  have hA := hI.2.1
  have hn := hO.n
  have hqn := hO.q
  refine j_iload_n dX4_quarrelAt_0 rfl rfl ?_
  refine j_if_lt (tgt := 15) dX4_quarrelAt_1 (by decide) (by omega) (fun c1 => ?_) (fun c1 => ?_)
  · subst hZ
    exact j_throwN jth_157_159_161 rfl dX4_quarrelAt_15 dX4_quarrelAt_18 dX4_quarrelAt_19 dX4_quarrelAt_21 dX4_quarrelAt_24 (by decide) (by decide) (jOx.i (x := 1) (by unfold y_quarrelAt; (repeat (first | rw [if_pos (by first | omega | assumption)] | rw [if_neg (by first | omega | assumption)])); all_goals (first | rfl | omega)) (.head _)) (by decide) (by decide)
  · refine j_iload_n dX4_quarrelAt_4 rfl rfl ?_
    refine j_aload_n dX4_quarrelAt_5 rfl rfl ?_
    refine j_getfield (v := .ref 1) dX4_quarrelAt_6 jf_X4_10 hX.1 rfl ?_
    refine j_getfield (v := iv (K 7 0)) dX4_quarrelAt_9 jf_X4_165 hF.1 rfl ?_
    refine j_icmp_lt (tgt := 25) dX4_quarrelAt_12 (by decide) (by omega) (fun c2 => ?_) (fun c2 => ?_)
    · refine j_iload_n dX4_quarrelAt_25 rfl rfl ?_
      refine j_if_eq (tgt := 40) dX4_quarrelAt_26 (by decide) (by omega) (fun c3 => ?_) (fun c3 => ?_)
      · refine j_aload_n dX4_quarrelAt_40 rfl rfl ?_
        refine j_getfield (v := .ref 1) dX4_quarrelAt_41 jf_X4_10 hX.1 rfl ?_
        refine j_iload_n dX4_quarrelAt_44 rfl rfl ?_
        refine j_callV (k_quarrelerAt hF hq hO  (by omega)) dX4_quarrelAt_45 jc_X4_171 jmV_X1_quarrelerAt rfl rfl hF.1 rfl rfl (by simp) jfr_nil (Nat.le_of_ble_eq_true rfl) ⟨Nat.le_of_ble_eq_true rfl, Nat.le_of_ble_eq_true rfl⟩ ⟨Nat.le_of_ble_eq_true rfl, Nat.le_of_ble_eq_true rfl⟩ (fun r h4 hp9 => ?_) (fun E h9 q => q.elim)
        obtain ⟨rfl, rfl⟩ := hp9
        have zq := hO.qq p (by omega) (by omega)
        subst hZ
        exact j_ireturn dX4_quarrelAt_48 rfl rfl (jOn.i (by unfold y_quarrelAt; (repeat (first | rw [if_pos (by first | omega | assumption)] | rw [if_neg (by first | omega | assumption)])); all_goals (first | rfl | omega))) (by omega) (by omega)
      · refine j_aload_n dX4_quarrelAt_29 rfl rfl ?_
        refine j_getfield (v := .ref 1) dX4_quarrelAt_30 jf_X4_10 hX.1 rfl ?_
        refine j_iload_n dX4_quarrelAt_33 rfl rfl ?_
        refine j_callV (k_rivalAt hF hq hO  (by omega)) dX4_quarrelAt_34 jc_X4_168 jmV_X1_rivalAt rfl rfl hF.1 rfl rfl (by simp) jfr_nil (Nat.le_of_ble_eq_true rfl) ⟨Nat.le_of_ble_eq_true rfl, Nat.le_of_ble_eq_true rfl⟩ ⟨Nat.le_of_ble_eq_true rfl, Nat.le_of_ble_eq_true rfl⟩ (fun r h5 hp9 => ?_) (fun E h9 q => q.elim)
        obtain ⟨rfl, rfl⟩ := hp9
        have zq := hO.qq p (by omega) (by omega)
        refine j_goto (tgt := 48) dX4_quarrelAt_37 (by decide) ?_
        subst hZ
        exact j_ireturn dX4_quarrelAt_48 rfl rfl (jOn.i (by unfold y_quarrelAt; (repeat (first | rw [if_pos (by first | omega | assumption)] | rw [if_neg (by first | omega | assumption)])); all_goals (first | rfl | omega))) (by omega) (by omega)
    · subst hZ
      exact j_throwN jth_157_159_161 rfl dX4_quarrelAt_15 dX4_quarrelAt_18 dX4_quarrelAt_19 dX4_quarrelAt_21 dX4_quarrelAt_24 (by decide) (by decide) (jOx.i (x := 1) (by unfold y_quarrelAt; (repeat (first | rw [if_pos (by first | omega | assumption)] | rw [if_neg (by first | omega | assumption)])); all_goals (first | rfl | omega)) (.head _)) (by decide) (by decide)
set_option maxHeartbeats 4000000 in
/-- FamilyOaks.heir -/
theorem x_heir {K Ks X I : fS} {P : Int → fS} {c B : Int} {t : Int → Int} {h : jH} (hC : xC K Ks P X I c t h) (hI : kI B K) {p : Int} (hp : -2147483648 ≤ p ∧ p ≤ 2147483647) : jM mX4_heir 7 2 12 [] [.ref 0, iv p] h (jOn (y_heir K p) h) (jOx [(1, "java/lang/IndexOutOfBoundsException"), (2, "java/lang/IllegalStateException")] (y_heir K p) h) := by
  refine j_method (by decide +kernel) rfl (fun _ _ _ => trivial) (Nat.le_of_ble_eq_true rfl) ?_
  generalize hZ : jZ [] 2 12 _ _ = Z
  show J mX4_heir (jR 7 2 12) [] Z 0 [(0, .ref 0), (1, iv p)] [] h 0 0
  obtain ⟨hS, ⟨Fb, hb⟩, ⟨hKs, hIn, hW⟩, hPa, hp5⟩ := hC
  obtain ⟨a, b, E, H, hX, hF, hL, hG, hq, hE9, hH⟩ := hS
  have hO := hI.1
  have hA := hI.2.1
  have hn := hO.n
  have hqn := hO.q
  refine j_aload_n dX4_heir_0 rfl rfl ?_
  refine j_iload_n dX4_heir_1 rfl rfl ?_
  refine j_callV (x_needPerson hX hF hq hO (p := p) (by omega)) dX4_heir_2 jc_X4_82 jmV_X4_needPerson rfl rfl hX.1 rfl rfl (by simp) jfr_nil (Nat.le_of_ble_eq_true rfl) ⟨Nat.le_of_ble_eq_true rfl, Nat.le_of_ble_eq_true rfl⟩ ⟨Nat.le_of_ble_eq_true rfl, Nat.le_of_ble_eq_true rfl⟩ (fun r h1 hp9 => ?_) (fun E9 h9 q9 => by obtain ⟨rfl, rfl, q9⟩ := q9; subst hZ; exact j_out rfl (jOx.i (x := 1) (by unfold y_heir; (repeat (first | rw [if_pos (by first | omega | assumption)] | rw [if_neg (by first | omega | assumption)])); all_goals (first | rfl | omega)) (.head _)) (by decide) (by decide))
  obtain ⟨rfl, rfl, qp2⟩ := hp9
  refine j_aload_n dX4_heir_5 rfl rfl ?_
  refine j_getfield (v := .ref 1) dX4_heir_6 jf_X4_10 hX.1 rfl ?_
  refine j_iload_n dX4_heir_9 rfl rfl ?_
  refine j_callV (k_lives hF hq hO  (by omega)) dX4_heir_10 jc_X4_104 jmV_X1_lives rfl rfl hF.1 rfl rfl (by simp) jfr_nil (Nat.le_of_ble_eq_true rfl) ⟨Nat.le_of_ble_eq_true rfl, Nat.le_of_ble_eq_true rfl⟩ ⟨Nat.le_of_ble_eq_true rfl, Nat.le_of_ble_eq_true rfl⟩ (fun r h2 hp9 => ?_) (fun E h9 q => q.elim)
  obtain ⟨rfl, rfl⟩ := hp9
  have zl := hO.l p
  refine j_if_ne (tgt := 26) dX4_heir_13 (by decide) (by omega) (fun c3 => ?_) (fun c3 => ?_)
  · refine j_aload_n dX4_heir_26 rfl rfl ?_
    refine j_getfield (v := .ref 1) dX4_heir_27 jf_X4_10 hX.1 rfl ?_
    refine j_iload_n dX4_heir_30 rfl rfl ?_
    refine j_callV (k_heirOf hF hq hO hA (by omega)) dX4_heir_31 jc_X4_194 jmV_X1_heirOf rfl rfl hF.1 rfl rfl (by simp) jfr_nil (Nat.le_of_ble_eq_true rfl) ⟨Nat.le_of_ble_eq_true rfl, Nat.le_of_ble_eq_true rfl⟩ ⟨Nat.le_of_ble_eq_true rfl, Nat.le_of_ble_eq_true rfl⟩ (fun r h4 hp9 => ?_) (fun E h9 q => q.elim)
    obtain ⟨rfl, rfl⟩ := hp9
    have zhe := fhe_rg hO hA (p := p) (by omega)
    subst hZ
    exact j_ireturn dX4_heir_34 rfl rfl (jOn.i (by unfold y_heir; (repeat (first | rw [if_pos (by first | omega | assumption)] | rw [if_neg (by first | omega | assumption)])); all_goals (first | rfl | omega))) (by omega) (by omega)
  · subst hZ
    exact j_throwY jth_177_192_181 rfl dX4_heir_16 dX4_heir_19 dX4_heir_20 dX4_heir_22 dX4_heir_25 (by decide) (by decide) (jOx.i (x := 2) (by unfold y_heir; (repeat (first | rw [if_pos (by first | omega | assumption)] | rw [if_neg (by first | omega | assumption)])); all_goals (first | rfl | omega)) (.tail _ (.head _))) (by decide) (by decide)
set_option maxHeartbeats 4000000 in
/-- FamilyOaks.account -/
theorem x_account {K Ks X I : fS} {P : Int → fS} {c B : Int} {t : Int → Int} {h : jH} (hC : xC K Ks P X I c t h) (hI : kI B K) {w : Int} (hw : -2147483648 ≤ w ∧ w ≤ 2147483647) : jM mX4_account 6 1 6 [] [.ref 0, iv w] h (jOn (y_account K X I w) h) (jOx [(1, "java/lang/IllegalArgumentException")] (y_account K X I w) h) := by
  refine j_method (by decide +kernel) rfl (fun _ _ _ => trivial) (Nat.le_of_ble_eq_true rfl) ?_
  generalize hZ : jZ [] 1 6 _ _ = Z
  show J mX4_account (jR 6 1 6) [] Z 0 [(0, .ref 0), (1, iv w)] [] h 0 0
  obtain ⟨hS, ⟨Fb, hb⟩, ⟨hKs, hIn, hW⟩, hPa, hp5⟩ := hC
  obtain ⟨a, b, E, H, hX, hF, hL, hG, hq, hE9, hH⟩ := hS
  have hO := hI.1
  have hA := hI.2.1
  have hn := hO.n
  have hqn := hO.q
  refine j_iload_n dX4_account_0 rfl rfl ?_
  by_cases c1 : w = 0
  · refine j_tabIn (tgt := 64) 0 dX4_account_1 c1 (by decide) (by decide) (by decide) rfl (by decide) ?_
    refine j_aload_n dX4_account_64 rfl rfl ?_
    refine j_getfield (v := .ref 1) dX4_account_65 jf_X4_10 hX.1 rfl ?_
    refine j_getfield (v := iv (K 6 0)) dX4_account_68 jf_X4_150 hF.1 rfl ?_
    subst hZ
    exact j_ireturn dX4_account_71 rfl rfl (jOn.i (by unfold y_account; (repeat (first | rw [if_pos (by first | omega | assumption)] | rw [if_neg (by first | omega | assumption)])); all_goals (first | rfl | omega))) (by omega) (by omega)
  by_cases c2 : w = 1
  · refine j_tabIn (tgt := 72) 1 dX4_account_1 c2 (by decide) (by decide) (by decide) rfl (by decide) ?_
    refine j_aload_n dX4_account_72 rfl rfl ?_
    refine j_getfield (v := .ref 1) dX4_account_73 jf_X4_10 hX.1 rfl ?_
    refine j_callV (k_livingPersons hF hq hO  ) dX4_account_76 jc_X4_265 jmV_X1_livingPersons rfl rfl hF.1 rfl rfl (by simp) jfr_nil (Nat.le_of_ble_eq_true rfl) ⟨Nat.le_of_ble_eq_true rfl, Nat.le_of_ble_eq_true rfl⟩ ⟨Nat.le_of_ble_eq_true rfl, Nat.le_of_ble_eq_true rfl⟩ (fun r h3 hp9 => ?_) (fun E h9 q => q.elim)
    obtain ⟨rfl, rfl⟩ := hp9
    subst hZ
    exact j_ireturn dX4_account_79 rfl rfl (jOn.i (by unfold y_account; (repeat (first | rw [if_pos (by first | omega | assumption)] | rw [if_neg (by first | omega | assumption)])); all_goals (first | rfl | omega))) (by omega) (by omega)
  by_cases c4 : w = 2
  · refine j_tabIn (tgt := 80) 2 dX4_account_1 c4 (by decide) (by decide) (by decide) rfl (by decide) ?_
    refine j_aload_n dX4_account_80 rfl rfl ?_
    refine j_getfield (v := .ref 1) dX4_account_81 jf_X4_10 hX.1 rfl ?_
    refine j_callV (k_oaks hF hq hO  ) dX4_account_84 jc_X4_268 jmV_X1_oaks rfl rfl hF.1 rfl rfl (by simp) jfr_nil (Nat.le_of_ble_eq_true rfl) ⟨Nat.le_of_ble_eq_true rfl, Nat.le_of_ble_eq_true rfl⟩ ⟨Nat.le_of_ble_eq_true rfl, Nat.le_of_ble_eq_true rfl⟩ (fun r h5 hp9 => ?_) (fun E h9 q => q.elim)
    obtain ⟨rfl, rfl⟩ := hp9
    have zk := kOaks_p K
    subst hZ
    exact j_ireturn dX4_account_87 rfl rfl (jOn.i (by unfold y_account; (repeat (first | rw [if_pos (by first | omega | assumption)] | rw [if_neg (by first | omega | assumption)])); all_goals (first | rfl | omega))) (by omega) (by omega)
  by_cases c6 : w = 3
  · refine j_tabIn (tgt := 88) 3 dX4_account_1 c6 (by decide) (by decide) (by decide) rfl (by decide) ?_
    refine j_aload_n dX4_account_88 rfl rfl ?_
    refine j_getfield (v := .ref 1) dX4_account_89 jf_X4_10 hX.1 rfl ?_
    refine j_callV (k_marriages hF hq hO  ) dX4_account_92 jc_X4_271 jmV_X1_marriages rfl rfl hF.1 rfl rfl (by simp) jfr_nil (Nat.le_of_ble_eq_true rfl) ⟨Nat.le_of_ble_eq_true rfl, Nat.le_of_ble_eq_true rfl⟩ ⟨Nat.le_of_ble_eq_true rfl, Nat.le_of_ble_eq_true rfl⟩ (fun r h7 hp9 => ?_) (fun E h9 q => q.elim)
    obtain ⟨rfl, rfl⟩ := hp9
    subst hZ
    exact j_ireturn dX4_account_95 rfl rfl (jOn.i (by unfold y_account; (repeat (first | rw [if_pos (by first | omega | assumption)] | rw [if_neg (by first | omega | assumption)])); all_goals (first | rfl | omega))) (by omega) (by omega)
  by_cases c8 : w = 4
  · refine j_tabIn (tgt := 96) 4 dX4_account_1 c8 (by decide) (by decide) (by decide) rfl (by decide) ?_
    refine j_aload_n dX4_account_96 rfl rfl ?_
    refine j_getfield (v := .ref 1) dX4_account_97 jf_X4_10 hX.1 rfl ?_
    refine j_getfield (v := iv (K 7 0)) dX4_account_100 jf_X4_165 hF.1 rfl ?_
    subst hZ
    exact j_ireturn dX4_account_103 rfl rfl (jOn.i (by unfold y_account; (repeat (first | rw [if_pos (by first | omega | assumption)] | rw [if_neg (by first | omega | assumption)])); all_goals (first | rfl | omega))) (by omega) (by omega)
  by_cases c9 : w = 5
  · refine j_tabIn (tgt := 104) 5 dX4_account_1 c9 (by decide) (by decide) (by decide) rfl (by decide) ?_
    refine j_aload_n dX4_account_104 rfl rfl ?_
    refine j_getfield (v := .ref 1) dX4_account_105 jf_X4_10 hX.1 rfl ?_
    refine j_getfield (v := iv (K 8 0)) dX4_account_108 jf_X4_274 hF.1 rfl ?_
    subst hZ
    exact j_ireturn dX4_account_111 rfl rfl (jOn.i (by unfold y_account; (repeat (first | rw [if_pos (by first | omega | assumption)] | rw [if_neg (by first | omega | assumption)])); all_goals (first | rfl | omega))) (by omega) (by omega)
  by_cases c10 : w = 6
  · refine j_tabIn (tgt := 112) 6 dX4_account_1 c10 (by decide) (by decide) (by decide) rfl (by decide) ?_
    refine j_aload_n dX4_account_112 rfl rfl ?_
    refine j_getfield (v := .ref 1) dX4_account_113 jf_X4_10 hX.1 rfl ?_
    refine j_callV (k_greatestDepth hF hq hO  ) dX4_account_116 jc_X4_277 jmV_X1_greatestDepth rfl rfl hF.1 rfl rfl (by simp) jfr_nil (Nat.le_of_ble_eq_true rfl) ⟨Nat.le_of_ble_eq_true rfl, Nat.le_of_ble_eq_true rfl⟩ ⟨Nat.le_of_ble_eq_true rfl, Nat.le_of_ble_eq_true rfl⟩ (fun r h11 hp9 => ?_) (fun E h9 q => q.elim)
    obtain ⟨rfl, rfl⟩ := hp9
    subst hZ
    exact j_ireturn dX4_account_119 rfl rfl (jOn.i (by unfold y_account; (repeat (first | rw [if_pos (by first | omega | assumption)] | rw [if_neg (by first | omega | assumption)])); all_goals (first | rfl | omega))) (by omega) (by omega)
  by_cases c12 : w = 7
  · refine j_tabIn (tgt := 120) 7 dX4_account_1 c12 (by decide) (by decide) (by decide) rfl (by decide) ?_
    refine j_aload_n dX4_account_120 rfl rfl ?_
    refine j_getfield (v := .ref 1) dX4_account_121 jf_X4_10 hX.1 rfl ?_
    refine j_callV (k_allCoins hF hq hO  ) dX4_account_124 jc_X4_280 jmV_X1_allCoins rfl rfl hF.1 rfl rfl (by simp) jfr_nil (Nat.le_of_ble_eq_true rfl) ⟨Nat.le_of_ble_eq_true rfl, Nat.le_of_ble_eq_true rfl⟩ ⟨Nat.le_of_ble_eq_true rfl, Nat.le_of_ble_eq_true rfl⟩ (fun r h13 hp9 => ?_) (fun E h9 q => q.elim)
    obtain ⟨rfl, rfl⟩ := hp9
    subst hZ
    exact j_ireturn dX4_account_127 rfl rfl (jOn.i (by unfold y_account; (repeat (first | rw [if_pos (by first | omega | assumption)] | rw [if_neg (by first | omega | assumption)])); all_goals (first | rfl | omega))) (by omega) (by omega)
  by_cases c14 : w = 8
  · refine j_tabIn (tgt := 128) 8 dX4_account_1 c14 (by decide) (by decide) (by decide) rfl (by decide) ?_
    refine j_aload_n dX4_account_128 rfl rfl ?_
    refine j_getfield (v := .ref 1) dX4_account_129 jf_X4_10 hX.1 rfl ?_
    refine j_getfield (v := iv (K 9 0)) dX4_account_132 jf_X4_283 hF.1 rfl ?_
    subst hZ
    exact j_ireturn dX4_account_135 rfl rfl (jOn.i (by unfold y_account; (repeat (first | rw [if_pos (by first | omega | assumption)] | rw [if_neg (by first | omega | assumption)])); all_goals (first | rfl | omega))) (by omega) (by omega)
  by_cases c15 : w = 9
  · refine j_tabIn (tgt := 136) 9 dX4_account_1 c15 (by decide) (by decide) (by decide) rfl (by decide) ?_
    refine j_aload_n dX4_account_136 rfl rfl ?_
    refine j_getfield (v := .ref 1) dX4_account_137 jf_X4_10 hX.1 rfl ?_
    refine j_getfield (v := iv (K 10 0)) dX4_account_140 jf_X4_286 hF.1 rfl ?_
    subst hZ
    exact j_ireturn dX4_account_143 rfl rfl (jOn.i (by unfold y_account; (repeat (first | rw [if_pos (by first | omega | assumption)] | rw [if_neg (by first | omega | assumption)])); all_goals (first | rfl | omega))) (by omega) (by omega)
  by_cases c16 : w = 10
  · refine j_tabIn (tgt := 144) 10 dX4_account_1 c16 (by decide) (by decide) (by decide) rfl (by decide) ?_
    refine j_aload_n dX4_account_144 rfl rfl ?_
    refine j_getfield (v := .ref 28) dX4_account_145 jf_X4_51 hX.1 rfl ?_
    refine j_getfield (v := iv (I 5 0)) dX4_account_148 jf_X4_224 hIn.1 rfl ?_
    subst hZ
    exact j_ireturn dX4_account_151 rfl rfl (jOn.i (by unfold y_account; (repeat (first | rw [if_pos (by first | omega | assumption)] | rw [if_neg (by first | omega | assumption)])); all_goals (first | rfl | omega))) (by omega) (by omega)
  by_cases c17 : w = 11
  · refine j_tabIn (tgt := 152) 11 dX4_account_1 c17 (by decide) (by decide) (by decide) rfl (by decide) ?_
    refine j_aload_n dX4_account_152 rfl rfl ?_
    refine j_getfield (v := iv (X 5 0)) dX4_account_153 jf_X4_30 hX.1 rfl ?_
    subst hZ
    exact j_ireturn dX4_account_156 rfl rfl (jOn.i (by unfold y_account; (repeat (first | rw [if_pos (by first | omega | assumption)] | rw [if_neg (by first | omega | assumption)])); all_goals (first | rfl | omega))) (by omega) (by omega)
  refine j_tabOut (tgt := 157) dX4_account_1 (by omega) (by omega) (by decide) ?_
  subst hZ
  exact j_throwYW jth_117_289_121 rfl dX4_account_157 dX4_account_160 dX4_account_161 dX4_account_164 dX4_account_167 (by decide) (by decide) (jOx.i (x := 1) (by unfold y_account; (repeat (first | rw [if_pos (by first | omega | assumption)] | rw [if_neg (by first | omega | assumption)])); all_goals (first | rfl | omega)) (.head _)) (by decide) (by decide)
theorem des_hd {F : fS} {p u : Int} {i : Nat} (hp : 0 ≤ p ∧ p < F 6 0) (h : (p :: des F 24 p)[i]? = some u) : 0 ≤ u ∧ u < F 6 0 := by
  rcases List.mem_cons.mp (List.mem_of_getElem? h) with e | e
  · rw [e]; exact hp
  · obtain ⟨_, _, _, z⟩ := des_up 24 p e
    exact z
set_option maxHeartbeats 4000000 in
/-- FamilyOaks.descendant -/
theorem x_descendant {K Ks X I : fS} {P : Int → fS} {c B : Int} {t : Int → Int} {h : jH} (hC : xC K Ks P X I c t h) (hI : kI B K) {p q : Int} (hp : -2147483648 ≤ p ∧ p ≤ 2147483647) (hq : -2147483648 ≤ q ∧ q ≤ 2147483647) : jM mX4_descendant 7 2 12 [] [.ref 0, iv p, iv q] h (jOn (y_descendant K p q) h) (jOx [(1, "java/lang/IndexOutOfBoundsException"), (2, "java/util/NoSuchElementException")] (y_descendant K p q) h) := by
  refine j_method (by decide +kernel) rfl (fun _ _ _ => trivial) (Nat.le_of_ble_eq_true rfl) ?_
  generalize hZ : jZ [] 2 12 _ _ = Z
  show J mX4_descendant (jR 7 2 12) [] Z 0 [(0, .ref 0), (1, iv p), (2, iv q)] [] h 0 0
  obtain ⟨hS, ⟨Fb, hb⟩, ⟨hKs, hIn, hW⟩, hPa, hp5⟩ := hC
  obtain ⟨a, b, E, H, hX, hF, hL, hG, hq, hE9, hH⟩ := hS
  have hO := hI.1
  have hA := hI.2.1
  have hn := hO.n
  have hqn := hO.q
  refine j_aload_n dX4_descendant_0 rfl rfl ?_
  refine j_iload_n dX4_descendant_1 rfl rfl ?_
  refine j_callV (x_needPerson hX hF hq hO (p := p) (by omega)) dX4_descendant_2 jc_X4_82 jmV_X4_needPerson rfl rfl hX.1 rfl rfl (by simp) jfr_nil (Nat.le_of_ble_eq_true rfl) ⟨Nat.le_of_ble_eq_true rfl, Nat.le_of_ble_eq_true rfl⟩ ⟨Nat.le_of_ble_eq_true rfl, Nat.le_of_ble_eq_true rfl⟩ (fun r h1 hp9 => ?_) (fun E9 h9 q9 => by obtain ⟨rfl, rfl, q9⟩ := q9; subst hZ; exact j_out rfl (jOx.i (x := 1) (by unfold y_descendant; (repeat (first | rw [if_pos (by first | omega | assumption)] | rw [if_neg (by first | omega | assumption)])); all_goals (first | rfl | omega)) (.head _)) (by decide) (by decide))
  obtain ⟨rfl, rfl, qp2⟩ := hp9
  refine j_iload_n dX4_descendant_5 rfl rfl ?_
  refine j_if_lt (tgt := 21) dX4_descendant_6 (by decide) (by omega) (fun c2 => ?_) (fun c2 => ?_)
  · subst hZ
    exact j_throwN jth_157_159_161 rfl dX4_descendant_21 dX4_descendant_24 dX4_descendant_25 dX4_descendant_27 dX4_descendant_30 (by decide) (by decide) (jOx.i (x := 2) (by unfold y_descendant; (repeat (first | rw [if_pos (by first | omega | assumption)] | rw [if_neg (by first | omega | assumption)])); all_goals (first | rfl | omega)) (.tail _ (.head _))) (by decide) (by decide)
  · refine j_iload_n dX4_descendant_9 rfl rfl ?_
    refine j_aload_n dX4_descendant_10 rfl rfl ?_
    refine j_getfield (v := .ref 1) dX4_descendant_11 jf_X4_10 hX.1 rfl ?_
    refine j_iload_n dX4_descendant_14 rfl rfl ?_
    refine j_callV (k_descendantsOf hF hq hO hA (by omega)) dX4_descendant_15 jc_X4_95 jmV_X1_descendantsOf rfl rfl hF.1 rfl rfl (by simp) jfr_nil (Nat.le_of_ble_eq_true rfl) ⟨Nat.le_of_ble_eq_true rfl, Nat.le_of_ble_eq_true rfl⟩ ⟨Nat.le_of_ble_eq_true rfl, Nat.le_of_ble_eq_true rfl⟩ (fun r h3 hp9 => ?_) (fun E h9 q => q.elim)
    obtain ⟨rfl, rfl⟩ := hp9
    have zdl := des_len hO hA 24 (p := p) (by omega)
    refine j_icmp_lt (tgt := 31) dX4_descendant_18 (by decide) (by omega) (fun c4 => ?_) (fun c4 => ?_)
    · refine j_iload_n dX4_descendant_31 rfl rfl ?_
      refine j_istore_n (L' := [(0, _), (1, _), (2, _), (3, _)]) dX4_descendant_32 rfl (by decide) rfl ?_
      refine j_iconst dX4_descendant_33 ?_
      refine j_istore (L' := [(0, _), (1, _), (2, _), (3, _), (4, _)]) dX4_descendant_34 (by decide) rfl ?_
      refine jloop (P := fun z9 : Int × Int => J mX4_descendant (jR 7 2 12) [] Z 36 [(0, .ref 0), (1, iv p), (2, iv q), (3, iv z9.1), (4, iv z9.2)] [] h 1 6) (fun z9 => 0 ≤ z9.2 ∧ z9.2 ≤ q + 1 ∧ (p :: (des K 24 p))[z9.2.toNat]? = some z9.1) (fun z9 => (q + 1 - z9.2).toNat) ?_ (p, 0) ?_
      · rintro ⟨u, i⟩ hinv ih
        dsimp only at hinv ih ⊢
        obtain ⟨i1, i2, i3⟩ := hinv
        have hui := des_hd qp2 i3
        refine j_iload dX4_descendant_36 rfl ?_
        refine j_iload_n dX4_descendant_38 rfl rfl ?_
        refine j_icmp_gt (tgt := 65) dX4_descendant_39 (by decide) (by omega) (fun c5 => ?_) (fun c5 => ?_)
        · refine j_iload_n dX4_descendant_65 rfl rfl ?_
          subst hZ
          exact j_ireturn dX4_descendant_66 rfl rfl (jOn.i (by unfold y_descendant; rw [if_pos (by omega), if_pos (by omega)]; rw [show i.toNat = q.toNat + 1 by omega, List.getElem?_cons_succ] at i3; rw [i3]; rfl)) (by omega) (by omega)
        · refine j_iload dX4_descendant_42 rfl ?_
          refine j_bipush dX4_descendant_44 (by decide +kernel) ?_
          refine j_icmp_ge (tgt := 65) dX4_descendant_46 (by decide) (by omega) (fun c6 => ?_) (fun c6 => ?_)
          · refine j_iload_n dX4_descendant_65 rfl rfl ?_
            subst hZ
            exact j_ireturn dX4_descendant_66 rfl rfl (jOn.i (by unfold y_descendant; rw [if_pos (by omega), if_pos (by omega)]; rw [show i.toNat = q.toNat + 1 by omega, List.getElem?_cons_succ] at i3; rw [i3]; rfl)) (by omega) (by omega)
          · refine j_aload_n dX4_descendant_49 rfl rfl ?_
            refine j_getfield (v := .ref 1) dX4_descendant_50 jf_X4_10 hX.1 rfl ?_
            refine j_iload_n dX4_descendant_53 rfl rfl ?_
            refine j_iload_n dX4_descendant_54 rfl rfl ?_
            refine j_callV (k_nextBelow hF hq hO  (by omega) (by omega)) dX4_descendant_55 jc_X4_162 jmV_X1_nextBelow rfl rfl hF.1 rfl rfl (by simp) jfr_nil (Nat.le_of_ble_eq_true rfl) ⟨Nat.le_of_ble_eq_true rfl, Nat.le_of_ble_eq_true rfl⟩ ⟨Nat.le_of_ble_eq_true rfl, Nat.le_of_ble_eq_true rfl⟩ (fun r h7 hp9 => ?_) (fun E h9 q => q.elim)
            obtain ⟨rfl, rfl⟩ := hp9
            refine j_istore_n (L' := [(0, _), (1, _), (2, _), (3, _), (4, _)]) dX4_descendant_58 rfl (by decide) rfl ?_
            refine j_iinc (L' := [(0, _), (1, _), (2, _), (3, _), (4, _)]) dX4_descendant_59 rfl (by decide) rfl ?_
            refine j_goto (tgt := 36) dX4_descendant_62 (by decide) ?_
            have hgt : (des K 24 p)[i.toNat]? = some ((des K 24 p)[i.toNat]'(by omega)) := List.getElem?_eq_getElem (by omega)
            have hnx := des_nx hO hA qp2 i3 hgt
            rw [hnx]
            exact ih ((des K 24 p)[i.toNat]'(by omega), i + 1) ⟨by show 0 ≤ i + 1; omega, by show i + 1 ≤ q + 1; omega, by show (p :: (des K 24 p))[(i + 1).toNat]? = _; rw [show (i + 1).toNat = i.toNat + 1 by omega, List.getElem?_cons_succ]; exact hgt⟩ (by show (q + 1 - (i + 1)).toNat < (q + 1 - i).toNat; omega)
      · dsimp only
        exact ⟨by omega, by omega, rfl⟩
    · subst hZ
      exact j_throwN jth_157_159_161 rfl dX4_descendant_21 dX4_descendant_24 dX4_descendant_25 dX4_descendant_27 dX4_descendant_30 (by decide) (by decide) (jOx.i (x := 2) (by unfold y_descendant; (repeat (first | rw [if_pos (by first | omega | assumption)] | rw [if_neg (by first | omega | assumption)])); all_goals (first | rfl | omega)) (.tail _ (.head _))) (by decide) (by decide)
