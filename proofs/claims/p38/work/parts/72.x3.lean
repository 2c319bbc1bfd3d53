set_option maxHeartbeats 4000000 in
/-- FamilyOaks.needPerson -/
theorem x_needPerson {X K : fS} {a b : Int → Int} {B : Int} {h : jH} (hX : jOb sX 0 X h) (hF : jOb sF 1 (kRw K a b) h) (hq : kQv K a b) (hO : jOk B K) {p : Int} (hp : -2147483648 ≤ p ∧ p ≤ 2147483647) : jM mX4_needPerson 6 1 6 [] [.ref 0, iv p] h (fun r h' => r = none ∧ h = h' ∧ (0 ≤ p ∧ p < K 6 0)) (fun E h' => E = "java/lang/IndexOutOfBoundsException" ∧ h = h' ∧ ¬ ((0 ≤ p ∧ p < K 6 0))) := by
  refine j_method (by decide +kernel) rfl (fun _ _ _ => trivial) (Nat.le_of_ble_eq_true rfl) ?_
  generalize hZ : jZ [] 1 6 _ _ = Z
  show J mX4_needPerson (jR 6 1 6) [] Z 0 [(0, .ref 0), (1, iv p)] [] h 0 0
  have hn := hO.n
  refine j_aload_n dX4_needPerson_0 rfl rfl ?_
  refine j_getfield (v := .ref 1) dX4_needPerson_1 jf_X4_10 hX.1 rfl ?_
  refine j_iload_n dX4_needPerson_4 rfl rfl ?_
  refine j_callV (k_has hF hq hO  (by omega)) dX4_needPerson_5 jc_X4_320 jmV_X1_has rfl rfl hF.1 rfl rfl (by simp) jfr_nil (Nat.le_of_ble_eq_true rfl) ⟨Nat.le_of_ble_eq_true rfl, Nat.le_of_ble_eq_true rfl⟩ ⟨Nat.le_of_ble_eq_true rfl, Nat.le_of_ble_eq_true rfl⟩ (fun r h1 hp9 => ?_) (fun E h9 q => q.elim)
  obtain ⟨rfl, rfl⟩ := hp9
  refine j_if_ne (tgt := 22) dX4_needPerson_8 (by decide) (bi_r32 _) (fun c2 => ?_) (fun c2 => ?_)
  · have qc2 := bi_nz c2
    subst hZ
    exact j_return dX4_needPerson_22 rfl ⟨rfl, rfl, by omega⟩ (by omega) (by omega)
  · have qc2 := bi_z c2
    subst hZ
    exact j_throwYW jth_215_323_219 rfl dX4_needPerson_11 dX4_needPerson_14 dX4_needPerson_15 dX4_needPerson_18 dX4_needPerson_21 (by decide) (by decide) ⟨rfl, rfl, by omega⟩ (by decide) (by decide)
set_option maxHeartbeats 4000000 in
/-- FamilyOaks.needElder -/
theorem x_needElder {X K : fS} {a b : Int → Int} {B : Int} {h : jH} (hX : jOb sX 0 X h) (hF : jOb sF 1 (kRw K a b) h) (hq : kQv K a b) (hO : jOk B K) {p e : Int} (hp : -2147483648 ≤ p ∧ p ≤ 2147483647) (he : -2147483648 ≤ e ∧ e ≤ 2147483647) : jM mX4_needElder 6 1 6 [] [.ref 0, iv p, iv e] h (fun r h' => r = none ∧ h = h' ∧ (0 ≤ e ∧ e ≤ fdep K p)) (fun E h' => E = "java/util/NoSuchElementException" ∧ h = h' ∧ ¬ ((0 ≤ e ∧ e ≤ fdep K p))) := by
  refine j_method (by decide +kernel) rfl (fun _ _ _ => trivial) (Nat.le_of_ble_eq_true rfl) ?_
  generalize hZ : jZ [] 1 6 _ _ = Z
  show J mX4_needElder (jR 6 1 6) [] Z 0 [(0, .ref 0), (1, iv p), (2, iv e)] [] h 0 0
  have hn := hO.n
  refine j_iload_n dX4_needElder_0 rfl rfl ?_
  refine j_if_lt (tgt := 16) dX4_needElder_1 (by decide) (by omega) (fun c1 => ?_) (fun c1 => ?_)
  · subst hZ
    exact j_throwNW jth_157_325_161 rfl dX4_needElder_16 dX4_needElder_19 dX4_needElder_20 dX4_needElder_23 dX4_needElder_26 (by decide) (by decide) ⟨rfl, rfl, by omega⟩ (by decide) (by decide)
  · refine j_iload_n dX4_needElder_4 rfl rfl ?_
    refine j_aload_n dX4_needElder_5 rfl rfl ?_
    refine j_getfield (v := .ref 1) dX4_needElder_6 jf_X4_10 hX.1 rfl ?_
    refine j_iload_n dX4_needElder_9 rfl rfl ?_
    refine j_callV (k_depthOf hF hq hO  (by omega)) dX4_needElder_10 jc_X4_89 jmV_X1_depthOf rfl rfl hF.1 rfl rfl (by simp) jfr_nil (Nat.le_of_ble_eq_true rfl) ⟨Nat.le_of_ble_eq_true rfl, Nat.le_of_ble_eq_true rfl⟩ ⟨Nat.le_of_ble_eq_true rfl, Nat.le_of_ble_eq_true rfl⟩ (fun r h2 hp9 => ?_) (fun E h9 q => q.elim)
    obtain ⟨rfl, rfl⟩ := hp9
    have zd := fdep_rg K p
    refine j_icmp_le (tgt := 27) dX4_needElder_13 (by decide) (by omega) (fun c3 => ?_) (fun c3 => ?_)
    · subst hZ
      exact j_return dX4_needElder_27 rfl ⟨rfl, rfl, by omega⟩ (by omega) (by omega)
    · subst hZ
      exact j_throwNW jth_157_325_161 rfl dX4_needElder_16 dX4_needElder_19 dX4_needElder_20 dX4_needElder_23 dX4_needElder_26 (by decide) (by decide) ⟨rfl, rfl, by omega⟩ (by decide) (by decide)
set_option maxHeartbeats 4000000 in
/-- FamilyOaks.needOneOak -/
theorem x_needOneOak {X K E H : fS} {a b : Int → Int} {B : Int} {h : jH} (hX : jOb sX 0 X h) (hF : jOb sF 1 (kRw K a b) h) (hL : jOb sE 8 E h) (hG : jOb sH 11 H h) (hq : kQv K a b) (hI : kI B K) (hE9 : eOz K E) (hH : hHo K H) {p o : Int} (hp : 0 ≤ p ∧ p < K 6 0) (ho : 0 ≤ o ∧ o < K 6 0) : jM mX4_needOneOak 6 1 6 [] [.ref 0, iv p, iv o] h (fun r h' => r = none ∧ h = h' ∧ frt K p = frt K o) (fun E h' => E = "java/util/NoSuchElementException" ∧ h = h' ∧ ¬ (frt K p = frt K o)) := by
  refine j_method (by decide +kernel) rfl (fun _ _ _ => trivial) (Nat.le_of_ble_eq_true rfl) ?_
  generalize hZ : jZ [] 1 6 _ _ = Z
  show J mX4_needOneOak (jR 6 1 6) [] Z 0 [(0, .ref 0), (1, iv p), (2, iv o)] [] h 0 0
  have hO := hI.1
  have hA := hI.2.1
  have hn := hO.n
  have hqn := hO.q
  refine j_aload_n dX4_needOneOak_0 rfl rfl ?_
  refine j_iload_n dX4_needOneOak_1 rfl rfl ?_
  refine j_iload_n dX4_needOneOak_2 rfl rfl ?_
  refine j_callV (x_isOneOak hX hF hL hG hq hI hE9 hH (p := p) (o := o) (by omega) (by omega)) dX4_needOneOak_3 jc_X4_153 jmV_X4_isOneOak rfl rfl hX.1 rfl rfl (by simp) jfr_nil (Nat.le_of_ble_eq_true rfl) ⟨Nat.le_of_ble_eq_true rfl, Nat.le_of_ble_eq_true rfl⟩ ⟨Nat.le_of_ble_eq_true rfl, Nat.le_of_ble_eq_true rfl⟩ (fun r h1 hp9 => ?_) (fun E h9 q => q.elim)
  obtain ⟨rfl, rfl⟩ := hp9
  refine j_if_ne (tgt := 20) dX4_needOneOak_6 (by decide) (bi_r32 _) (fun c2 => ?_) (fun c2 => ?_)
  · have qc2 := bi_nz c2
    subst hZ
    exact j_return dX4_needOneOak_20 rfl ⟨rfl, rfl, by omega⟩ (by omega) (by omega)
  · have qc2 := bi_z c2
    subst hZ
    exact j_throwNW jth_157_327_161 rfl dX4_needOneOak_9 dX4_needOneOak_12 dX4_needOneOak_13 dX4_needOneOak_16 dX4_needOneOak_19 (by decide) (by decide) ⟨rfl, rfl, by omega⟩ (by decide) (by decide)
/-- places of families of the past -/
def xPl (pl : Int → Nat) : Prop := (∀ i, 0 ≤ i → i < 8 → 40 ≤ pl i ∧ pl i ≤ 110 ∧ pl i % 10 = 0) ∧ ∀ i j, 0 ≤ i → i < 8 → 0 ≤ j → j < 8 → pl i = pl j → i = j
/-- n families of the past, P -/
def xPa (n : Int) (P : Int → fS) (h : jH) : Prop := ∃ pl g, xPl pl ∧ h 36 = some (jQ 8 g) ∧ (∀ i, 0 ≤ i → i < 8 → g i = some (pl i)) ∧ (∀ i, 0 ≤ i → i < 8 → ∃ F, jOb sF (pl i) F h) ∧ ∀ i, 0 ≤ i → i < n → jFK (pl i) (P i) h
def xN (n : Int) : Int := if n = 8 then 8 else n + 1
def xP (n : Int) (P : Int → fS) (K : fS) : Int → fS := if n = 8 then fun i => if i = 7 then K else P (i + 1) else fun i => if i = n then K else P i
/-- outside the object and the past nothing has changed -/
def jEy (h h' : jH) : Prop := ∀ j : Nat, (j ≠ 0 ∧ j < 36) ∨ 117 ≤ j → h' j = h j
theorem jOb.ey {S : jSc} {k : Nat} {G : fS} {h h' : jH} (hG : jOb S k G h) (hs : jSok S) (he : jEy h h') (hd : (k ≠ 0 ∧ k + S.2.1 ≤ 36) ∨ 117 ≤ k) : jOb S k G h' := by
  have h1 := hs.2.2
  refine ⟨(he k (by omega)).trans hG.1, fun i p t n' hi => (he (k + p) ?_).trans (hG.2 i p t n' hi)⟩
  have := hs.1 i p t n' hi
  omega
theorem jOb.eq {S : jSc} {k : Nat} {G : fS} {h h' : jH} (hG : jOb S k G h) (hs : jSok S) (he : ∀ j, k ≤ j → j < k + S.2.1 → h' j = h j) : jOb S k G h' := by
  have h1 := hs.2.2
  refine ⟨(he k (Nat.le_refl _) (by omega)).trans hG.1, fun i p t n' hi => (he (k + p) (by omega) ?_).trans (hG.2 i p t n' hi)⟩
  have := hs.1 i p t n' hi
  omega
theorem jFK.eq {k : Nat} {K : fS} {h h' : jH} (w : jFK k K h) (he : ∀ j, k ≤ j → j < k + 7 → h' j = h j) : jFK k K h' := by
  obtain ⟨x, y, q, g⟩ := w
  exact ⟨x, y, q, g.eq okF he⟩
/-- the first of the past has gone to the end -/
theorem xPa.turn {P : Int → fS} {h h' : jH} (w : xPa 8 P h) (hr : ∀ g, h 36 = some (jQ 8 g) → h' 36 = some (jQ 8 (rot g))) (hk : ∀ j, j ≠ 0 → j ≠ 36 → h' j = h j) : xPa 7 (fun i => P (i + 1)) h' := by
  obtain ⟨pl, g, ⟨p1, p2⟩, w2, w3, w4, w5⟩ := w
  refine ⟨fun i => if i = 7 then pl 0 else pl (i + 1), _, ⟨fun i i0 i1 => ?_, fun i j i0 i1 j0 j1 e => ?_⟩, hr g w2, fun i i0 i1 => ?_, fun i i0 i1 => ?_, fun i i0 i1 => ?_⟩
  · show 40 ≤ (if i = 7 then pl 0 else pl (i + 1)) ∧ (if i = 7 then pl 0 else pl (i + 1)) ≤ 110 ∧ (if i = 7 then pl 0 else pl (i + 1)) % 10 = 0
    split
    · exact p1 0 (by decide) (by decide)
    · exact p1 (i + 1) (by omega) (by omega)
  · have e : (if i = 7 then pl 0 else pl (i + 1)) = (if j = 7 then pl 0 else pl (j + 1)) := e
    by_cases h1 : i = 7
    · by_cases h2 : j = 7
      · omega
      · rw [if_pos h1, if_neg h2] at e
        have := p2 0 (j + 1) (by decide) (by decide) (by omega) (by omega) e
        omega
    · by_cases h2 : j = 7
      · rw [if_neg h1, if_pos h2] at e
        have := p2 (i + 1) 0 (by omega) (by omega) (by decide) (by decide) e
        omega
      · rw [if_neg h1, if_neg h2] at e
        have := p2 (i + 1) (j + 1) (by omega) (by omega) (by omega) (by omega) e
        omega
  · show rot g i = some (if i = 7 then pl 0 else pl (i + 1))
    by_cases h1 : i = 7
    · rw [if_pos h1, h1, rot_7]
      exact w3 0 (by decide) (by decide)
    · rw [if_neg h1, rot_n (by omega)]
      exact w3 (i + 1) (by omega) (by omega)
  · show ∃ F, jOb sF (if i = 7 then pl 0 else pl (i + 1)) F h'
    by_cases h1 : i = 7
    · rw [if_pos h1]
      obtain ⟨F, hF⟩ := w4 0 (by decide) (by decide)
      have := p1 0 (by decide) (by decide)
      exact ⟨F, hF.eq okF fun j j0 _ => hk j (by omega) (by omega)⟩
    · rw [if_neg h1]
      obtain ⟨F, hF⟩ := w4 (i + 1) (by omega) (by omega)
      have := p1 (i + 1) (by omega) (by omega)
      exact ⟨F, hF.eq okF fun j j0 _ => hk j (by omega) (by omega)⟩
  · show jFK (if i = 7 then pl 0 else pl (i + 1)) (P (i + 1)) h'
    rw [if_neg (by omega)]
    have := p1 (i + 1) (by omega) (by omega)
    exact (w5 (i + 1) (by omega) (by omega)).eq fun j j0 _ => hk j (by omega) (by omega)
/-- one more is kept -/
theorem xPa.put {n : Int} {P : Int → fS} {K : fS} {h h' h2 : jH} {pl : Int → Nat} {g : Int → Option Nat} (hn : 0 ≤ n ∧ n < 8) (hpl : xPl pl) (w2 : h 36 = some (jQ 8 g)) (w3 : ∀ i, 0 ≤ i → i < 8 → g i = some (pl i)) (w4 : ∀ i, 0 ≤ i → i < 8 → ∃ F, jOb sF (pl i) F h) (w5 : ∀ i, 0 ≤ i → i < n → jFK (pl i) (P i) h)
    (hK : jFK (pl n) K h') (he : jEx (pl n) 7 h h') (hx : jEx 0 1 h' h2) : xPa (n + 1) (fun i => if i = n then K else P i) h2 := by
  obtain ⟨p1, p2⟩ := hpl
  have q := p1 n hn.1 hn.2
  have far : ∀ i, 0 ≤ i → i < 8 → i ≠ n → ∀ j, pl i ≤ j → j < pl i + 7 → h2 j = h j := fun i i0 i1 e j j0 j1 => by
    have a := p1 i i0 i1
    have b : pl i ≠ pl n := fun z => e (p2 i n i0 i1 hn.1 hn.2 z)
    rw [hx j (by omega), he j (by omega)]
  have near : ∀ j, pl n ≤ j → j < pl n + 7 → h2 j = h' j := fun j j0 j1 => hx j (by omega)
  refine ⟨pl, g, ⟨p1, p2⟩, by rw [hx 36 (by omega), he 36 (by omega)]; exact w2, w3, fun i i0 i1 => ?_, fun i i0 i1 => ?_⟩
  · by_cases e : i = n
    · obtain ⟨x, y, _, hF⟩ := hK
      exact ⟨_, by rw [e]; exact hF.eq okF near⟩
    · obtain ⟨F, hF⟩ := w4 i i0 i1
      exact ⟨F, hF.eq okF (far i i0 i1 e)⟩
  · show jFK (pl i) (if i = n then K else P i) h2
    by_cases e : i = n
    · rw [if_pos e, e]
      exact hK.eq near
    · rw [if_neg e]
      exact (w5 i i0 (by omega)).eq (far i i0 (by omega) e)
set_option maxHeartbeats 4000000 in
theorem x_keepBefore {X K : fS} {P : Int → fS} {B : Int} {h : jH} (hX : jOb sX 0 X h) (hp5 : 0 ≤ X 5 0 ∧ X 5 0 ≤ 8) (hP : xPa (X 5 0) P h) (hb : jFK 14 K h) (hO : jOk B K) : jM mX4_keepBefore 3 0 0 [] [.ref 0] h (fun r h' => r = none ∧ jOb sX 0 (gn X 5 (xN (X 5 0))) h' ∧ xPa (xN (X 5 0)) (xP (X 5 0) P K) h' ∧ jEy h h') jno := by
  refine j_method (by decide +kernel) rfl (fun _ _ _ => trivial) (Nat.le_of_ble_eq_true rfl) ?_
  generalize hZ : jZ [] 0 0 _ _ = Z
  show J mX4_keepBefore (jR 3 0 0) [] Z 0 [(0, .ref 0)] [] h 0 0
  have key : ∀ (h1 : jH) (X1 : fS) (P1 : Int → fS), jOb sX 0 X1 h1 → (0 ≤ X1 5 0 ∧ X1 5 0 < 8) → xPa (X1 5 0) P1 h1 → jFK 14 K h1 → jEy h h1 → xN (X 5 0) = X1 5 0 + 1 → xP (X 5 0) P K = (fun i => if i = X1 5 0 then K else P1 i) → (∀ x, gn X1 5 x = gn X 5 x) → J mX4_keepBefore (jR 3 0 0) [] Z 13 [(0, .ref 0)] [] h1 0 0 := by
    intro h1 X1 P1 hX1 hn hP1 hb1 hy e1 e2 e3
    obtain ⟨pl, g, hpl, w2, w3, w4, w5⟩ := hP1
    obtain ⟨F, hF⟩ := w4 _ hn.1 hn.2
    have hq := hpl.1 _ hn.1 hn.2
    obtain ⟨a, b, hqv, hB⟩ := hb1
    refine j_aload_n dX4_keepBefore_13 rfl rfl ?_
    refine j_aload_n dX4_keepBefore_14 rfl rfl ?_
    refine j_getfield (v := iv (X1 5 0)) dX4_keepBefore_15 jf_X4_30 hX1.1 rfl ?_
    refine j_callV (x_pastAt hX1 w2 hn (w3 _ hn.1 hn.2)) dX4_keepBefore_18 jc_X4_309 jmV_X4_pastAt rfl rfl hX1.1 rfl rfl (by simp) jfr_nil (Nat.le_of_ble_eq_true rfl) ⟨Nat.le_of_ble_eq_true rfl, Nat.le_of_ble_eq_true rfl⟩ ⟨Nat.le_of_ble_eq_true rfl, Nat.le_of_ble_eq_true rfl⟩ (fun r h2 hp9 => ?_) (fun E h9 q => q.elim)
    obtain ⟨rfl, rfl⟩ := hp9
    show J mX4_keepBefore _ _ _ 21 _ [.ref (pl (X1 5 0))] _ _ _
    refine j_astore_n (L' := [(0, _), (1, _)]) dX4_keepBefore_21 rfl (by decide) rfl ?_
    refine j_aload_n dX4_keepBefore_22 rfl rfl ?_
    refine j_ifnull dX4_keepBefore_23 ?_
    refine j_aload_n dX4_keepBefore_26 rfl rfl ?_
    refine j_aload_n dX4_keepBefore_27 rfl rfl ?_
    refine j_getfield (v := .ref 14) dX4_keepBefore_28 jf_X4_16 hX1.1 rfl ?_
    refine j_callV (k_copyFrom hF (k2 := 14) (.inr (by omega)) hB hO) dX4_keepBefore_31 jc_X4_315 jmV_X1_copyFrom rfl rfl hF.1 rfl rfl (by simp) jfr_nil (Nat.le_of_ble_eq_true rfl) ⟨Nat.le_of_ble_eq_true rfl, Nat.le_of_ble_eq_true rfl⟩ ⟨Nat.le_of_ble_eq_true rfl, Nat.le_of_ble_eq_true rfl⟩ (fun r h2 hp9 => ?_) (fun E h9 q => q.elim)
    obtain ⟨rfl, hK2, hE2⟩ := hp9
    have hX2 := hX1.ex okX hE2 (.inl (by show 0 + 1 ≤ pl (X1 5 0); omega))
    refine j_aload_n dX4_keepBefore_34 rfl rfl ?_
    refine j_dup dX4_keepBefore_35 rfl ?_
    refine j_getfield (v := iv (X1 5 0)) dX4_keepBefore_36 jf_X4_30 hX2.1 rfl ?_
    refine j_iconst dX4_keepBefore_39 ?_
    refine j_iadd dX4_keepBefore_40 ?_
    refine jo_put (S := sX) dX4_keepBefore_41 jf_X4_30 (fun q hq => by cases hq; exact ⟨rfl, rfl⟩) (jHold_int _) okX hX2 rfl (fun h3 hG3 hX3 => ?_)
    subst hZ
    refine j_return dX4_keepBefore_44 rfl ⟨rfl, ?_, ?_, ?_⟩ (Nat.le_refl _) (Nat.le_refl _)
    · rw [e1, ← e3]; exact hG3
    · rw [e1, e2]
      exact xPa.put hn hpl w2 w3 w4 w5 ⟨a, b, hqv, hK2⟩ hE2 hX3
    · intro j hj
      rw [hX3 j (by show j < 0 ∨ 0 + 1 ≤ j; omega), hE2 j (by omega)]
      exact hy j hj
  refine j_aload_n dX4_keepBefore_0 rfl rfl ?_
  refine j_getfield (v := iv (X 5 0)) dX4_keepBefore_1 jf_X4_30 hX.1 rfl ?_
  refine j_bipush dX4_keepBefore_4 (by decide +kernel) ?_
  refine j_icmp_lt (tgt := 13) dX4_keepBefore_6 (by decide) (by omega) (fun c => ?_) (fun c => ?_)
  · exact key h X P hX (by omega) hP hb (fun _ _ => rfl) (if_neg (by omega)) (if_neg (by omega)) (fun _ => rfl)
  · have e8 : X 5 0 = 8 := by omega
    rw [e8] at hP
    have hP0 := hP
    obtain ⟨pl, g, hpl, w2, w3, w4, w5⟩ := hP
    refine j_aload_n dX4_keepBefore_9 rfl rfl ?_
    refine j_callV (x_forgetOldest hX w2 w3 (fun i i0 i1 => by have := hpl.1 i i0 i1; obtain ⟨F, hF⟩ := w4 i i0 i1; exact ⟨by omega, _, hF.1⟩)) dX4_keepBefore_10 jc_X4_333 jmV_X4_forgetOldest rfl rfl hX.1 rfl rfl (by simp) jfr_nil (Nat.le_of_ble_eq_true rfl) ⟨Nat.le_of_ble_eq_true rfl, Nat.le_of_ble_eq_true rfl⟩ ⟨Nat.le_of_ble_eq_true rfl, Nat.le_of_ble_eq_true rfl⟩ (fun r h2 hp9 => ?_) (fun E h9 q => q.elim)
    obtain ⟨rfl, hX2, h36, hk⟩ := hp9
    refine key h2 (gn X 5 7) (fun i => P (i + 1)) hX2 ⟨by show (0 : Int) ≤ 7; decide, by show (7 : Int) < 8; decide⟩ (xPa.turn hP0 (fun g' hg' => by rw [w2] at hg'; cases hg'; exact h36) hk) (hb.eq fun j j0 j1 => hk j (by omega) (by omega)) (fun j hj => hk j (by omega) (by omega)) (if_pos e8) (if_pos e8) (fun x => gs_gs)
/-- how an order's call ends -/
def xEn (X K : fS) (P : Int → fS) (h : jH) : jPn := fun r h' => r = none ∧ jOb sX 0 (gn X 5 (xN (X 5 0))) h' ∧ xPa (xN (X 5 0)) (xP (X 5 0) P K) h' ∧ jEy h h'
set_option maxHeartbeats 4000000 in
/-- FamilyOaks.end -/
theorem x_end {X K : fS} {P : Int → fS} {B : Int} {h : jH} (hX : jOb sX 0 X h) (hp5 : 0 ≤ X 5 0 ∧ X 5 0 ≤ 8) (hP : xPa (X 5 0) P h) (hb : jFK 14 K h) (hO : jOk B K) {r : Int} (hr : -2147483648 ≤ r ∧ r ≤ 2147483647) : jM mX4_end 6 1 6 [] [.ref 0, iv r] h (fun r' h' => (r' = some (iv r) ∧ r ≠ -2 ∧ r ≠ -3 ∧ r ≠ -4) ∧ xEn X K P h none h') (fun E h' => h = h' ∧ ((r = -2 ∧ E = "java/lang/IndexOutOfBoundsException") ∨ (r = -3 ∧ E = "java/lang/IllegalArgumentException") ∨ (r = -4 ∧ E = "java/lang/UnsupportedOperationException"))) := by
  refine j_method (by decide +kernel) rfl (fun _ _ _ => trivial) (Nat.le_of_ble_eq_true rfl) ?_
  generalize hZ : jZ [] 1 6 _ _ = Z
  show J mX4_end (jR 6 1 6) [] Z 0 [(0, .ref 0), (1, iv r)] [] h 0 0
  refine j_iload_n dX4_end_0 rfl rfl ?_
  refine j_bipush dX4_end_1 (by decide +kernel) ?_
  refine j_icmp_ne (tgt := 17) dX4_end_3 (by decide) (by omega) (fun c1 => ?_) (fun c1 => ?_)
  · refine j_iload_n dX4_end_17 rfl rfl ?_
    refine j_bipush dX4_end_18 (by decide +kernel) ?_
    refine j_icmp_ne (tgt := 34) dX4_end_20 (by decide) (by omega) (fun c2 => ?_) (fun c2 => ?_)
    · refine j_iload_n dX4_end_34 rfl rfl ?_
      refine j_bipush dX4_end_35 (by decide +kernel) ?_
      refine j_icmp_ne (tgt := 51) dX4_end_37 (by decide) (by omega) (fun c3 => ?_) (fun c3 => ?_)
      · refine j_aload_n dX4_end_51 rfl rfl ?_
        refine j_callV (x_keepBefore hX hp5 hP hb hO) dX4_end_52 jc_X4_260 jmV_X4_keepBefore rfl rfl hX.1 rfl rfl (by simp) jfr_nil (Nat.le_of_ble_eq_true rfl) ⟨Nat.le_of_ble_eq_true rfl, Nat.le_of_ble_eq_true rfl⟩ ⟨Nat.le_of_ble_eq_true rfl, Nat.le_of_ble_eq_true rfl⟩ (fun r h4 hp9 => ?_) (fun E h9 q => q.elim)
        obtain ⟨rfl, w1, w2, w3⟩ := hp9
        refine j_iload_n dX4_end_55 rfl rfl ?_
        subst hZ
        exact j_ireturn dX4_end_56 rfl rfl ⟨⟨rfl, by omega, by omega, by omega⟩, rfl, w1, w2, w3⟩ (by omega) (by omega)
      · subst hZ
        exact j_throwYW jth_253_331_257 rfl dX4_end_40 dX4_end_43 dX4_end_44 dX4_end_47 dX4_end_50 (by decide) (by decide) ⟨rfl, .inr (.inr ⟨by omega, rfl⟩)⟩ (by decide) (by decide)
    · subst hZ
      exact j_throwYW jth_117_329_121 rfl dX4_end_23 dX4_end_26 dX4_end_27 dX4_end_30 dX4_end_33 (by decide) (by decide) ⟨rfl, .inr (.inl ⟨by omega, rfl⟩)⟩ (by decide) (by decide)
  · subst hZ
    exact j_throwYW jth_215_323_219 rfl dX4_end_6 dX4_end_9 dX4_end_10 dX4_end_13 dX4_end_16 (by decide) (by decide) ⟨rfl, .inl ⟨by omega, rfl⟩⟩ (by decide) (by decide)
