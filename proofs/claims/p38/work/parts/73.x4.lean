theorem xX_5 (X : fS) (q : kR) : xX X q 5 = X 5 := by
  unfold xX
  split <;> rfl
theorem kTry_c {B : Int} {K : fS} (hI : kI B K) (kd u v : Int) : (-1 ≤ (kTry K kd u v).1 ∧ (kTry K kd u v).1 ≤ 21000000) ∨ (((kTry K kd u v).1 = -2 ∨ (kTry K kd u v).1 = -3 ∨ (kTry K kd u v).1 = -4) ∧ (kTry K kd u v).2.2.2 = K) := by
  have hO := hI.1
  have hn := hO.n
  have hqn := hO.q
  have hb := hO.b
  unfold kTry
  split
  · unfold kFound
    split
    · exact .inr ⟨.inr (.inr rfl), rfl⟩
    · exact .inl ⟨by show -1 ≤ K 6 0; omega, by show K 6 0 ≤ _; omega⟩
  split
  · unfold kBorn
    repeat' split
    all_goals first | exact .inr ⟨.inr (.inr rfl), rfl⟩ | exact .inr ⟨.inl rfl, rfl⟩ | exact .inl ⟨by show -1 ≤ K 6 0; omega, by show K 6 0 ≤ _; omega⟩
  split
  · unfold kGraft
    repeat' split
    all_goals first | exact .inr ⟨.inr (.inr rfl), rfl⟩ | exact .inr ⟨.inl rfl, rfl⟩ | (have h1 := (csum_bi (P := fun c => kpar K u v 0 c = -1) (kpar K u v 6 0).toNat); have h2 : kpar K u v 6 0 = K 6 0 := rfl; rw [h2] at h1; exact .inl ⟨by show -1 ≤ csum _ _; rw [h2]; omega, by show csum _ _ ≤ _; rw [h2]; omega⟩)
  split
  · unfold kCut
    repeat' split
    all_goals first | exact .inr ⟨.inr (.inr rfl), rfl⟩ | exact .inr ⟨.inl rfl, rfl⟩ | (have h1 := (csum_bi (P := fun c => kpar K u (-1) 0 c = -1) (kpar K u (-1) 6 0).toNat); have h2 : kpar K u (-1) 6 0 = K 6 0 := rfl; rw [h2] at h1; exact .inl ⟨by show -1 ≤ csum _ _; rw [h2]; omega, by show csum _ _ ≤ _; rw [h2]; omega⟩)
  split
  · unfold kMarry
    split
    · rename_i hh
      split
      · exact .inr ⟨.inr (.inr rfl), rfl⟩
      · rename_i g1
        obtain ⟨_, _, g2, g3, _⟩ := kWhy_0 g1
        have h1 := kfl_len (kI_marry hI hh.1 hh.2 g2 g3).1
        have h2 : kMar K u v 7 0 = K 7 0 := rfl
        rw [h2] at h1
        exact .inl ⟨by show -1 ≤ K 7 0 - _; omega, by show K 7 0 - _ ≤ _; omega⟩
    · exact .inr ⟨.inl rfl, rfl⟩
  split
  · unfold kPartR
    have := hO.s u
    repeat' split
    all_goals first | exact .inr ⟨.inr (.inr rfl), rfl⟩ | exact .inr ⟨.inl rfl, rfl⟩ | exact .inl ⟨by show -1 ≤ K 1 u; omega, by show K 1 u ≤ _; omega⟩
  split
  · unfold kQuarrel
    repeat' split
    all_goals first | exact .inr ⟨.inr (.inr rfl), rfl⟩ | exact .inr ⟨.inl rfl, rfl⟩ | exact .inl ⟨by show -1 ≤ K 7 0 + 1; omega, by show K 7 0 + 1 ≤ _; omega⟩
  split
  · unfold kGiveR
    have := hO.c u
    repeat' split
    all_goals first | exact .inr ⟨.inr (.inr rfl), rfl⟩ | exact .inr ⟨.inl rfl, rfl⟩ | exact .inr ⟨.inr (.inl rfl), rfl⟩ | exact .inl ⟨by show -1 ≤ K 2 u + v; omega, by show K 2 u + v ≤ _; omega⟩
  · unfold kDieR
    split
    · rename_i hh
      have := fhe_rg hO hI.2.1 hh
      split
      · exact .inr ⟨.inr (.inr rfl), rfl⟩
      · exact .inl ⟨by show -1 ≤ fhe K u; omega, by show fhe K u ≤ _; omega⟩
    · exact .inr ⟨.inl rfl, rfl⟩
theorem xS.ey {X X' K : fS} {h h' : jH} (w : xS X K h) (he : jEy h h') (hX' : jOb sX 0 X' h') : xS X' K h' := by
  obtain ⟨x, y, E, H, hX, hF, hL, hG, hq, hE9, hH⟩ := w
  exact ⟨x, y, E, H, hX', hF.ey okF he (.inl ⟨by decide, by decide⟩), hL.ey okE he (.inl ⟨by decide, by decide⟩), hG.ey okH he (.inl ⟨by decide, by decide⟩), hq, hE9, hH⟩
theorem jSB.eq {k : Nat} {c : Int} {t : Int → Int} {h h' : jH} (w : jSB k c t h) (he : ∀ j, k ≤ j → j < k + 3 → h' j = h j) : jSB k c t h' := by
  obtain ⟨p, n, G, a1, a2, a3, a4, a5, a6, a7⟩ := w
  have hp : p + 1 ≤ 3 := by rcases a1 with z | z <;> omega
  refine ⟨p, n, G, ?_, a2.eq (okB a1.o) fun j j0 j1 => he j j0 (by have j1 : j < k + (p + 1) := j1; omega), a3, a4, a5, a6, a7⟩
  rcases a1 with ⟨z1, z2, z3⟩ | z
  · exact .inl ⟨z1, z2, by rw [he (k + 2) (by omega) (by omega)]; exact z3⟩
  · exact .inr z
/-- snapshot, input, line -/
def xOt (Ks I : fS) (c : Int) (t : Int → Int) (h : jH) : Prop := jFK 21 Ks h ∧ jOb sI 28 I h ∧ jSB 33 c t h
theorem xOt.eq {Ks I : fS} {c : Int} {t : Int → Int} {h h' : jH} (w : xOt Ks I c t h) (he : ∀ j, 21 ≤ j → j < 36 → h' j = h j) : xOt Ks I c t h' :=
  ⟨w.1.eq fun j j0 j1 => he j (by omega) (by omega), w.2.1.eq okI fun j j0 j1 => he j (by omega) (by have j1 : j < 28 + 5 := j1; omega), w.2.2.eq fun j j0 j1 => he j (by omega) (by omega)⟩
theorem xPa.eq {n : Int} {P : Int → fS} {h h' : jH} (w : xPa n P h) (he : ∀ j, 36 ≤ j → j < 117 → h' j = h j) (hn : n ≤ 8) : xPa n P h' := by
  obtain ⟨pl, g, w1, w2, w3, w4, w5⟩ := w
  refine ⟨pl, g, w1, by rw [he 36 (by omega) (by omega)]; exact w2, w3, fun i i0 i1 => ?_, fun i i0 i1 => ?_⟩
  · obtain ⟨F, hF⟩ := w4 i i0 i1
    have := w1.1 i i0 i1
    exact ⟨F, hF.eq okF fun j j0 j1 => he j (by omega) (by have j1 : j < pl i + 7 := j1; omega)⟩
  · have := w1.1 i i0 (by omega)
    exact (w5 i i0 i1).eq fun j j0 j1 => he j (by omega) (by omega)
theorem xS.eq {X K : fS} {h h' : jH} (w : xS X K h) (he : ∀ j, j < 14 → h' j = h j) : xS X K h' := by
  obtain ⟨x, y, E, H, hX, hF, hL, hG, hq, hE9, hH⟩ := w
  exact ⟨x, y, E, H, hX.eq okX fun j _ j1 => he j (by have j1 : j < 0 + 1 := j1; omega), hF.eq okF fun j _ j1 => he j (by have j1 : j < 1 + 7 := j1; omega), hL.eq okE fun j _ j1 => he j (by have j1 : j < 8 + 3 := j1; omega), hG.eq okH fun j _ j1 => he j (by have j1 : j < 11 + 3 := j1; omega), hq, hE9, hH⟩
/-- THE CLASS' OBJECT: families now, snapshot, past, its numbers, input, line -/
def xC (K Ks : fS) (P : Int → fS) (X I : fS) (c : Int) (t : Int → Int) (h : jH) : Prop := xS X K h ∧ (∃ F, jOb sF 14 F h) ∧ xOt Ks I c t h ∧ xPa (X 5 0) P h ∧ 0 ≤ X 5 0 ∧ X 5 0 ≤ 8
theorem xC.eq {K Ks X I : fS} {P : Int → fS} {c : Int} {t : Int → Int} {h h' : jH} (w : xC K Ks P X I c t h) (he : ∀ j, j < 117 → h' j = h j) : xC K Ks P X I c t h' := by
  obtain ⟨w1, ⟨F, w2⟩, w3, w4, w5⟩ := w
  exact ⟨w1.eq fun j j0 => he j (by omega), ⟨F, w2.eq okF fun j _ j1 => he j (by have j1 : j < 14 + 7 := j1; omega)⟩, w3.eq fun j _ j1 => he j (by omega), w4.eq (fun j _ j1 => he j (by omega)) w5.2, w5⟩
/-- how a call of an order ends -/
def xCn (K Ks : fS) (P : Int → fS) (X I : fS) (c : Int) (t : Int → Int) (q : kR) (h : jH) : jPn := fun r h' => r = some (iv q.1) ∧ -1 ≤ q.1 ∧ xC q.2.2.2 Ks (xP (X 5 0) P K) (gn X 5 (xN (X 5 0))) I c t h' ∧ jEx 0 120 h h'
def xCx (K Ks : fS) (P : Int → fS) (X I : fS) (c : Int) (t : Int → Int) (q : kR) (h : jH) : jPx := fun E h' => ((q.1 = -2 ∧ E = "java/lang/IndexOutOfBoundsException") ∨ (q.1 = -3 ∧ E = "java/lang/IllegalArgumentException") ∨ (q.1 = -4 ∧ E = "java/lang/UnsupportedOperationException")) ∧ xC K Ks P (xX X q) I c t h' ∧ jEx 0 120 h h'
theorem jEx.of {h h' : jH} (he : ∀ j, 120 ≤ j → h' j = h j) : jEx 0 120 h h' := fun j hj => he j (by omega)
theorem xN_r {n : Int} (h : 0 ≤ n ∧ n ≤ 8) : 0 ≤ xN n ∧ xN n ≤ 8 := by
  unfold xN
  split <;> omega
set_option maxHeartbeats 4000000 in
/-- FamilyOaks.found -/
theorem x_found {K Ks X I : fS} {P : Int → fS} {c B : Int} {t : Int → Int} {h : jH} (hC : xC K Ks P X I c t h) (hI : kI B K)  (hB : B + 1000 ≤ 20000000) : jM mX4_found 9 1 6 [] [.ref 0] h (xCn K Ks P X I c t (kTry K 0 (-1) (-1)) h) (xCx K Ks P X I c t (kTry K 0 (-1) (-1)) h) := by
  refine j_method (by decide +kernel) rfl (fun _ _ _ => trivial) (Nat.le_of_ble_eq_true rfl) ?_
  generalize hZ : jZ [] 1 6 _ _ = Z
  show J mX4_found (jR 9 1 6) [] Z 0 [(0, .ref 0)] [] h 0 0
  obtain ⟨hS, ⟨Fb, hb⟩, hT, hPa, hp5⟩ := hC
  have hX := hS.x
  refine j_aload_n dX4_found_0 rfl rfl ?_
  refine j_callV (x_begin hS hb hI.1) dX4_found_1 jc_X4_71 jmV_X4_begin rfl rfl hX.1 rfl rfl (by simp) jfr_nil (Nat.le_of_ble_eq_true rfl) ⟨Nat.le_of_ble_eq_true rfl, Nat.le_of_ble_eq_true rfl⟩ ⟨Nat.le_of_ble_eq_true rfl, Nat.le_of_ble_eq_true rfl⟩ (fun r h1 hp9 => ?_) (fun E h9 q => q.elim)
  obtain ⟨rfl, hb1, hx1⟩ := hp9
  have hS1 := hS.ex hx1 (by decide)
  refine j_aload_n dX4_found_4 rfl rfl ?_
  refine j_aload_n dX4_found_5 rfl rfl ?_
  refine j_iconst dX4_found_6 ?_
  refine j_iconst dX4_found_7 ?_
  refine j_iconst dX4_found_8 ?_
  refine j_callV (x_attempt hS1 hI hB (kd := 0) (u := -1) (v := -1) (by decide) (by omega) (by omega)) dX4_found_9 jc_X4_74 jmV_X4_attempt rfl rfl hS1.x.1 rfl rfl (by simp) jfr_nil (Nat.le_of_ble_eq_true rfl) ⟨Nat.le_of_ble_eq_true rfl, Nat.le_of_ble_eq_true rfl⟩ ⟨Nat.le_of_ble_eq_true rfl, Nat.le_of_ble_eq_true rfl⟩ (fun r h2 hp9 => ?_) (fun E h9 q => q.elim)
  obtain ⟨rfl, hS2, hx2⟩ := hp9
  have hc := kTry_c hI 0 (-1) (-1)
  have hy2 : ∀ j, 21 ≤ j → h2 j = h j := fun j j0 => (hx2 j (by omega)).trans (hx1 j (by omega))
  have hb2 := hb1.eq (fun j j0 _ => hx2 j (by omega))
  have hPa2 := hPa.eq (fun j j0 _ => hy2 j (by omega)) hp5.2
  have hT2 := hT.eq (fun j j0 _ => hy2 j j0)
  refine j_callV (x_end hS2.x (by rw [xX_5]; exact hp5) (by rw [xX_5]; exact hPa2) hb2 hI.1 (by omega)) dX4_found_12 jc_X4_78 jmV_X4_end rfl rfl hS2.x.1 rfl rfl (by simp) jfr_nil (Nat.le_of_ble_eq_true rfl) ⟨Nat.le_of_ble_eq_true rfl, Nat.le_of_ble_eq_true rfl⟩ ⟨Nat.le_of_ble_eq_true rfl, Nat.le_of_ble_eq_true rfl⟩ (fun r h3 hp9 => ?_) (fun E h9 q9 => by obtain ⟨rfl, q9⟩ := q9; subst hZ; exact j_out rfl ⟨q9, ⟨(by have e9 := (hc.resolve_left (by omega)).2; have h9 := hS2; rw [e9] at h9; exact h9), ⟨_, hb2.choose_spec.choose_spec.2⟩, hT2, (by rw [xX_5]; exact hPa2), (by rw [xX_5]; exact hp5)⟩, jEx.of fun j j0 => (hx2 j (by omega)).trans (hx1 j (by omega))⟩ (by decide) (by decide))
  obtain ⟨⟨rfl, n1, n2, n3⟩, _, w1, w2, w3⟩ := hp9
  have hq1 : -1 ≤ (kTry K 0 (-1) (-1)).1 := by omega
  have hx9 : xX X (kTry K 0 (-1) (-1)) = X := if_neg n3
  rw [hx9] at w1 w2 hS2
  subst hZ
  exact j_ireturn dX4_found_15 rfl rfl ⟨rfl, hq1, ⟨hS2.ey w3 w1, (by obtain ⟨x9, y9, _, g9⟩ := hb2; exact ⟨_, g9.ey okF w3 (.inl ⟨by decide, by decide⟩)⟩), hT2.eq (fun j j0 j1 => w3 j (by omega)), w2, xN_r hp5⟩, jEx.of fun j j0 => (w3 j (by omega)).trans ((hx2 j (by omega)).trans (hx1 j (by omega)))⟩ (by omega) (by omega)
set_option maxHeartbeats 4000000 in
/-- FamilyOaks.born -/
theorem x_born {K Ks X I : fS} {P : Int → fS} {c B : Int} {t : Int → Int} {h : jH} (hC : xC K Ks P X I c t h) (hI : kI B K) {p : Int} (hp : -2147483648 ≤ p ∧ p ≤ 2147483647) (hB : B + 1000 ≤ 20000000) : jM mX4_born 9 1 6 [] [.ref 0, iv p] h (xCn K Ks P X I c t (kTry K 1 p (-1)) h) (xCx K Ks P X I c t (kTry K 1 p (-1)) h) := by
  refine j_method (by decide +kernel) rfl (fun _ _ _ => trivial) (Nat.le_of_ble_eq_true rfl) ?_
  generalize hZ : jZ [] 1 6 _ _ = Z
  show J mX4_born (jR 9 1 6) [] Z 0 [(0, .ref 0), (1, iv p)] [] h 0 0
  obtain ⟨hS, ⟨Fb, hb⟩, hT, hPa, hp5⟩ := hC
  have hX := hS.x
  refine j_aload_n dX4_born_0 rfl rfl ?_
  refine j_callV (x_begin hS hb hI.1) dX4_born_1 jc_X4_71 jmV_X4_begin rfl rfl hX.1 rfl rfl (by simp) jfr_nil (Nat.le_of_ble_eq_true rfl) ⟨Nat.le_of_ble_eq_true rfl, Nat.le_of_ble_eq_true rfl⟩ ⟨Nat.le_of_ble_eq_true rfl, Nat.le_of_ble_eq_true rfl⟩ (fun r h1 hp9 => ?_) (fun E h9 q => q.elim)
  obtain ⟨rfl, hb1, hx1⟩ := hp9
  have hS1 := hS.ex hx1 (by decide)
  refine j_aload_n dX4_born_4 rfl rfl ?_
  refine j_aload_n dX4_born_5 rfl rfl ?_
  refine j_iconst dX4_born_6 ?_
  refine j_iload_n dX4_born_7 rfl rfl ?_
  refine j_iconst dX4_born_8 ?_
  refine j_callV (x_attempt hS1 hI hB (kd := 1) (u := p) (v := -1) (by decide) (by omega) (by omega)) dX4_born_9 jc_X4_74 jmV_X4_attempt rfl rfl hS1.x.1 rfl rfl (by simp) jfr_nil (Nat.le_of_ble_eq_true rfl) ⟨Nat.le_of_ble_eq_true rfl, Nat.le_of_ble_eq_true rfl⟩ ⟨Nat.le_of_ble_eq_true rfl, Nat.le_of_ble_eq_true rfl⟩ (fun r h2 hp9 => ?_) (fun E h9 q => q.elim)
  obtain ⟨rfl, hS2, hx2⟩ := hp9
  have hc := kTry_c hI 1 p (-1)
  have hy2 : ∀ j, 21 ≤ j → h2 j = h j := fun j j0 => (hx2 j (by omega)).trans (hx1 j (by omega))
  have hb2 := hb1.eq (fun j j0 _ => hx2 j (by omega))
  have hPa2 := hPa.eq (fun j j0 _ => hy2 j (by omega)) hp5.2
  have hT2 := hT.eq (fun j j0 _ => hy2 j j0)
  refine j_callV (x_end hS2.x (by rw [xX_5]; exact hp5) (by rw [xX_5]; exact hPa2) hb2 hI.1 (by omega)) dX4_born_12 jc_X4_78 jmV_X4_end rfl rfl hS2.x.1 rfl rfl (by simp) jfr_nil (Nat.le_of_ble_eq_true rfl) ⟨Nat.le_of_ble_eq_true rfl, Nat.le_of_ble_eq_true rfl⟩ ⟨Nat.le_of_ble_eq_true rfl, Nat.le_of_ble_eq_true rfl⟩ (fun r h3 hp9 => ?_) (fun E h9 q9 => by obtain ⟨rfl, q9⟩ := q9; subst hZ; exact j_out rfl ⟨q9, ⟨(by have e9 := (hc.resolve_left (by omega)).2; have h9 := hS2; rw [e9] at h9; exact h9), ⟨_, hb2.choose_spec.choose_spec.2⟩, hT2, (by rw [xX_5]; exact hPa2), (by rw [xX_5]; exact hp5)⟩, jEx.of fun j j0 => (hx2 j (by omega)).trans (hx1 j (by omega))⟩ (by decide) (by decide))
  obtain ⟨⟨rfl, n1, n2, n3⟩, _, w1, w2, w3⟩ := hp9
  have hq1 : -1 ≤ (kTry K 1 p (-1)).1 := by omega
  have hx9 : xX X (kTry K 1 p (-1)) = X := if_neg n3
  rw [hx9] at w1 w2 hS2
  subst hZ
  exact j_ireturn dX4_born_15 rfl rfl ⟨rfl, hq1, ⟨hS2.ey w3 w1, (by obtain ⟨x9, y9, _, g9⟩ := hb2; exact ⟨_, g9.ey okF w3 (.inl ⟨by decide, by decide⟩)⟩), hT2.eq (fun j j0 j1 => w3 j (by omega)), w2, xN_r hp5⟩, jEx.of fun j j0 => (w3 j (by omega)).trans ((hx2 j (by omega)).trans (hx1 j (by omega)))⟩ (by omega) (by omega)
set_option maxHeartbeats 4000000 in
/-- FamilyOaks.graft -/
theorem x_graft {K Ks X I : fS} {P : Int → fS} {c B : Int} {t : Int → Int} {h : jH} (hC : xC K Ks P X I c t h) (hI : kI B K) {p o : Int} (hp : -2147483648 ≤ p ∧ p ≤ 2147483647) (ho : -2147483648 ≤ o ∧ o ≤ 2147483647) (hB : B + 1000 ≤ 20000000) : jM mX4_graft 9 1 6 [] [.ref 0, iv p, iv o] h (xCn K Ks P X I c t (kTry K 2 p o) h) (xCx K Ks P X I c t (kTry K 2 p o) h) := by
  refine j_method (by decide +kernel) rfl (fun _ _ _ => trivial) (Nat.le_of_ble_eq_true rfl) ?_
  generalize hZ : jZ [] 1 6 _ _ = Z
  show J mX4_graft (jR 9 1 6) [] Z 0 [(0, .ref 0), (1, iv p), (2, iv o)] [] h 0 0
  obtain ⟨hS, ⟨Fb, hb⟩, hT, hPa, hp5⟩ := hC
  have hX := hS.x
  refine j_aload_n dX4_graft_0 rfl rfl ?_
  refine j_callV (x_begin hS hb hI.1) dX4_graft_1 jc_X4_71 jmV_X4_begin rfl rfl hX.1 rfl rfl (by simp) jfr_nil (Nat.le_of_ble_eq_true rfl) ⟨Nat.le_of_ble_eq_true rfl, Nat.le_of_ble_eq_true rfl⟩ ⟨Nat.le_of_ble_eq_true rfl, Nat.le_of_ble_eq_true rfl⟩ (fun r h1 hp9 => ?_) (fun E h9 q => q.elim)
  obtain ⟨rfl, hb1, hx1⟩ := hp9
  have hS1 := hS.ex hx1 (by decide)
  refine j_aload_n dX4_graft_4 rfl rfl ?_
  refine j_aload_n dX4_graft_5 rfl rfl ?_
  refine j_iconst dX4_graft_6 ?_
  refine j_iload_n dX4_graft_7 rfl rfl ?_
  refine j_iload_n dX4_graft_8 rfl rfl ?_
  refine j_callV (x_attempt hS1 hI hB (kd := 2) (u := p) (v := o) (by decide) (by omega) (by omega)) dX4_graft_9 jc_X4_74 jmV_X4_attempt rfl rfl hS1.x.1 rfl rfl (by simp) jfr_nil (Nat.le_of_ble_eq_true rfl) ⟨Nat.le_of_ble_eq_true rfl, Nat.le_of_ble_eq_true rfl⟩ ⟨Nat.le_of_ble_eq_true rfl, Nat.le_of_ble_eq_true rfl⟩ (fun r h2 hp9 => ?_) (fun E h9 q => q.elim)
  obtain ⟨rfl, hS2, hx2⟩ := hp9
  have hc := kTry_c hI 2 p o
  have hy2 : ∀ j, 21 ≤ j → h2 j = h j := fun j j0 => (hx2 j (by omega)).trans (hx1 j (by omega))
  have hb2 := hb1.eq (fun j j0 _ => hx2 j (by omega))
  have hPa2 := hPa.eq (fun j j0 _ => hy2 j (by omega)) hp5.2
  have hT2 := hT.eq (fun j j0 _ => hy2 j j0)
  refine j_callV (x_end hS2.x (by rw [xX_5]; exact hp5) (by rw [xX_5]; exact hPa2) hb2 hI.1 (by omega)) dX4_graft_12 jc_X4_78 jmV_X4_end rfl rfl hS2.x.1 rfl rfl (by simp) jfr_nil (Nat.le_of_ble_eq_true rfl) ⟨Nat.le_of_ble_eq_true rfl, Nat.le_of_ble_eq_true rfl⟩ ⟨Nat.le_of_ble_eq_true rfl, Nat.le_of_ble_eq_true rfl⟩ (fun r h3 hp9 => ?_) (fun E h9 q9 => by obtain ⟨rfl, q9⟩ := q9; subst hZ; exact j_out rfl ⟨q9, ⟨(by have e9 := (hc.resolve_left (by omega)).2; have h9 := hS2; rw [e9] at h9; exact h9), ⟨_, hb2.choose_spec.choose_spec.2⟩, hT2, (by rw [xX_5]; exact hPa2), (by rw [xX_5]; exact hp5)⟩, jEx.of fun j j0 => (hx2 j (by omega)).trans (hx1 j (by omega))⟩ (by decide) (by decide))
  obtain ⟨⟨rfl, n1, n2, n3⟩, _, w1, w2, w3⟩ := hp9
  have hq1 : -1 ≤ (kTry K 2 p o).1 := by omega
  have hx9 : xX X (kTry K 2 p o) = X := if_neg n3
  rw [hx9] at w1 w2 hS2
  subst hZ
  exact j_ireturn dX4_graft_15 rfl rfl ⟨rfl, hq1, ⟨hS2.ey w3 w1, (by obtain ⟨x9, y9, _, g9⟩ := hb2; exact ⟨_, g9.ey okF w3 (.inl ⟨by decide, by decide⟩)⟩), hT2.eq (fun j j0 j1 => w3 j (by omega)), w2, xN_r hp5⟩, jEx.of fun j j0 => (w3 j (by omega)).trans ((hx2 j (by omega)).trans (hx1 j (by omega)))⟩ (by omega) (by omega)
set_option maxHeartbeats 4000000 in
/-- FamilyOaks.cut -/
theorem x_cut {K Ks X I : fS} {P : Int → fS} {c B : Int} {t : Int → Int} {h : jH} (hC : xC K Ks P X I c t h) (hI : kI B K) {p : Int} (hp : -2147483648 ≤ p ∧ p ≤ 2147483647) (hB : B + 1000 ≤ 20000000) : jM mX4_cut 9 1 6 [] [.ref 0, iv p] h (xCn K Ks P X I c t (kTry K 3 p (-1)) h) (xCx K Ks P X I c t (kTry K 3 p (-1)) h) := by
  refine j_method (by decide +kernel) rfl (fun _ _ _ => trivial) (Nat.le_of_ble_eq_true rfl) ?_
  generalize hZ : jZ [] 1 6 _ _ = Z
  show J mX4_cut (jR 9 1 6) [] Z 0 [(0, .ref 0), (1, iv p)] [] h 0 0
  obtain ⟨hS, ⟨Fb, hb⟩, hT, hPa, hp5⟩ := hC
  have hX := hS.x
  refine j_aload_n dX4_cut_0 rfl rfl ?_
  refine j_callV (x_begin hS hb hI.1) dX4_cut_1 jc_X4_71 jmV_X4_begin rfl rfl hX.1 rfl rfl (by simp) jfr_nil (Nat.le_of_ble_eq_true rfl) ⟨Nat.le_of_ble_eq_true rfl, Nat.le_of_ble_eq_true rfl⟩ ⟨Nat.le_of_ble_eq_true rfl, Nat.le_of_ble_eq_true rfl⟩ (fun r h1 hp9 => ?_) (fun E h9 q => q.elim)
  obtain ⟨rfl, hb1, hx1⟩ := hp9
  have hS1 := hS.ex hx1 (by decide)
  refine j_aload_n dX4_cut_4 rfl rfl ?_
  refine j_aload_n dX4_cut_5 rfl rfl ?_
  refine j_iconst dX4_cut_6 ?_
  refine j_iload_n dX4_cut_7 rfl rfl ?_
  refine j_iconst dX4_cut_8 ?_
  refine j_callV (x_attempt hS1 hI hB (kd := 3) (u := p) (v := -1) (by decide) (by omega) (by omega)) dX4_cut_9 jc_X4_74 jmV_X4_attempt rfl rfl hS1.x.1 rfl rfl (by simp) jfr_nil (Nat.le_of_ble_eq_true rfl) ⟨Nat.le_of_ble_eq_true rfl, Nat.le_of_ble_eq_true rfl⟩ ⟨Nat.le_of_ble_eq_true rfl, Nat.le_of_ble_eq_true rfl⟩ (fun r h2 hp9 => ?_) (fun E h9 q => q.elim)
  obtain ⟨rfl, hS2, hx2⟩ := hp9
  have hc := kTry_c hI 3 p (-1)
  have hy2 : ∀ j, 21 ≤ j → h2 j = h j := fun j j0 => (hx2 j (by omega)).trans (hx1 j (by omega))
  have hb2 := hb1.eq (fun j j0 _ => hx2 j (by omega))
  have hPa2 := hPa.eq (fun j j0 _ => hy2 j (by omega)) hp5.2
  have hT2 := hT.eq (fun j j0 _ => hy2 j j0)
  refine j_callV (x_end hS2.x (by rw [xX_5]; exact hp5) (by rw [xX_5]; exact hPa2) hb2 hI.1 (by omega)) dX4_cut_12 jc_X4_78 jmV_X4_end rfl rfl hS2.x.1 rfl rfl (by simp) jfr_nil (Nat.le_of_ble_eq_true rfl) ⟨Nat.le_of_ble_eq_true rfl, Nat.le_of_ble_eq_true rfl⟩ ⟨Nat.le_of_ble_eq_true rfl, Nat.le_of_ble_eq_true rfl⟩ (fun r h3 hp9 => ?_) (fun E h9 q9 => by obtain ⟨rfl, q9⟩ := q9; subst hZ; exact j_out rfl ⟨q9, ⟨(by have e9 := (hc.resolve_left (by omega)).2; have h9 := hS2; rw [e9] at h9; exact h9), ⟨_, hb2.choose_spec.choose_spec.2⟩, hT2, (by rw [xX_5]; exact hPa2), (by rw [xX_5]; exact hp5)⟩, jEx.of fun j j0 => (hx2 j (by omega)).trans (hx1 j (by omega))⟩ (by decide) (by decide))
  obtain ⟨⟨rfl, n1, n2, n3⟩, _, w1, w2, w3⟩ := hp9
  have hq1 : -1 ≤ (kTry K 3 p (-1)).1 := by omega
  have hx9 : xX X (kTry K 3 p (-1)) = X := if_neg n3
  rw [hx9] at w1 w2 hS2
  subst hZ
  exact j_ireturn dX4_cut_15 rfl rfl ⟨rfl, hq1, ⟨hS2.ey w3 w1, (by obtain ⟨x9, y9, _, g9⟩ := hb2; exact ⟨_, g9.ey okF w3 (.inl ⟨by decide, by decide⟩)⟩), hT2.eq (fun j j0 j1 => w3 j (by omega)), w2, xN_r hp5⟩, jEx.of fun j j0 => (w3 j (by omega)).trans ((hx2 j (by omega)).trans (hx1 j (by omega)))⟩ (by omega) (by omega)
set_option maxHeartbeats 4000000 in
/-- FamilyOaks.marry -/
theorem x_marry {K Ks X I : fS} {P : Int → fS} {c B : Int} {t : Int → Int} {h : jH} (hC : xC K Ks P X I c t h) (hI : kI B K) {p o : Int} (hp : -2147483648 ≤ p ∧ p ≤ 2147483647) (ho : -2147483648 ≤ o ∧ o ≤ 2147483647) (hB : B + 1000 ≤ 20000000) : jM mX4_marry 9 1 6 [] [.ref 0, iv p, iv o] h (xCn K Ks P X I c t (kTry K 4 p o) h) (xCx K Ks P X I c t (kTry K 4 p o) h) := by
  refine j_method (by decide +kernel) rfl (fun _ _ _ => trivial) (Nat.le_of_ble_eq_true rfl) ?_
  generalize hZ : jZ [] 1 6 _ _ = Z
  show J mX4_marry (jR 9 1 6) [] Z 0 [(0, .ref 0), (1, iv p), (2, iv o)] [] h 0 0
  obtain ⟨hS, ⟨Fb, hb⟩, hT, hPa, hp5⟩ := hC
  have hX := hS.x
  refine j_aload_n dX4_marry_0 rfl rfl ?_
  refine j_callV (x_begin hS hb hI.1) dX4_marry_1 jc_X4_71 jmV_X4_begin rfl rfl hX.1 rfl rfl (by simp) jfr_nil (Nat.le_of_ble_eq_true rfl) ⟨Nat.le_of_ble_eq_true rfl, Nat.le_of_ble_eq_true rfl⟩ ⟨Nat.le_of_ble_eq_true rfl, Nat.le_of_ble_eq_true rfl⟩ (fun r h1 hp9 => ?_) (fun E h9 q => q.elim)
  obtain ⟨rfl, hb1, hx1⟩ := hp9
  have hS1 := hS.ex hx1 (by decide)
  refine j_aload_n dX4_marry_4 rfl rfl ?_
  refine j_aload_n dX4_marry_5 rfl rfl ?_
  refine j_iconst dX4_marry_6 ?_
  refine j_iload_n dX4_marry_7 rfl rfl ?_
  refine j_iload_n dX4_marry_8 rfl rfl ?_
  refine j_callV (x_attempt hS1 hI hB (kd := 4) (u := p) (v := o) (by decide) (by omega) (by omega)) dX4_marry_9 jc_X4_74 jmV_X4_attempt rfl rfl hS1.x.1 rfl rfl (by simp) jfr_nil (Nat.le_of_ble_eq_true rfl) ⟨Nat.le_of_ble_eq_true rfl, Nat.le_of_ble_eq_true rfl⟩ ⟨Nat.le_of_ble_eq_true rfl, Nat.le_of_ble_eq_true rfl⟩ (fun r h2 hp9 => ?_) (fun E h9 q => q.elim)
  obtain ⟨rfl, hS2, hx2⟩ := hp9
  have hc := kTry_c hI 4 p o
  have hy2 : ∀ j, 21 ≤ j → h2 j = h j := fun j j0 => (hx2 j (by omega)).trans (hx1 j (by omega))
  have hb2 := hb1.eq (fun j j0 _ => hx2 j (by omega))
  have hPa2 := hPa.eq (fun j j0 _ => hy2 j (by omega)) hp5.2
  have hT2 := hT.eq (fun j j0 _ => hy2 j j0)
  refine j_callV (x_end hS2.x (by rw [xX_5]; exact hp5) (by rw [xX_5]; exact hPa2) hb2 hI.1 (by omega)) dX4_marry_12 jc_X4_78 jmV_X4_end rfl rfl hS2.x.1 rfl rfl (by simp) jfr_nil (Nat.le_of_ble_eq_true rfl) ⟨Nat.le_of_ble_eq_true rfl, Nat.le_of_ble_eq_true rfl⟩ ⟨Nat.le_of_ble_eq_true rfl, Nat.le_of_ble_eq_true rfl⟩ (fun r h3 hp9 => ?_) (fun E h9 q9 => by obtain ⟨rfl, q9⟩ := q9; subst hZ; exact j_out rfl ⟨q9, ⟨(by have e9 := (hc.resolve_left (by omega)).2; have h9 := hS2; rw [e9] at h9; exact h9), ⟨_, hb2.choose_spec.choose_spec.2⟩, hT2, (by rw [xX_5]; exact hPa2), (by rw [xX_5]; exact hp5)⟩, jEx.of fun j j0 => (hx2 j (by omega)).trans (hx1 j (by omega))⟩ (by decide) (by decide))
  obtain ⟨⟨rfl, n1, n2, n3⟩, _, w1, w2, w3⟩ := hp9
  have hq1 : -1 ≤ (kTry K 4 p o).1 := by omega
  have hx9 : xX X (kTry K 4 p o) = X := if_neg n3
  rw [hx9] at w1 w2 hS2
  subst hZ
  exact j_ireturn dX4_marry_15 rfl rfl ⟨rfl, hq1, ⟨hS2.ey w3 w1, (by obtain ⟨x9, y9, _, g9⟩ := hb2; exact ⟨_, g9.ey okF w3 (.inl ⟨by decide, by decide⟩)⟩), hT2.eq (fun j j0 j1 => w3 j (by omega)), w2, xN_r hp5⟩, jEx.of fun j j0 => (w3 j (by omega)).trans ((hx2 j (by omega)).trans (hx1 j (by omega)))⟩ (by omega) (by omega)
set_option maxHeartbeats 4000000 in
/-- FamilyOaks.part -/
theorem x_part {K Ks X I : fS} {P : Int → fS} {c B : Int} {t : Int → Int} {h : jH} (hC : xC K Ks P X I c t h) (hI : kI B K) {p : Int} (hp : -2147483648 ≤ p ∧ p ≤ 2147483647) (hB : B + 1000 ≤ 20000000) : jM mX4_part 9 1 6 [] [.ref 0, iv p] h (xCn K Ks P X I c t (kTry K 5 p (-1)) h) (xCx K Ks P X I c t (kTry K 5 p (-1)) h) := by
  refine j_method (by decide +kernel) rfl (fun _ _ _ => trivial) (Nat.le_of_ble_eq_true rfl) ?_
  generalize hZ : jZ [] 1 6 _ _ = Z
  show J mX4_part (jR 9 1 6) [] Z 0 [(0, .ref 0), (1, iv p)] [] h 0 0
  obtain ⟨hS, ⟨Fb, hb⟩, hT, hPa, hp5⟩ := hC
  have hX := hS.x
  refine j_aload_n dX4_part_0 rfl rfl ?_
  refine j_callV (x_begin hS hb hI.1) dX4_part_1 jc_X4_71 jmV_X4_begin rfl rfl hX.1 rfl rfl (by simp) jfr_nil (Nat.le_of_ble_eq_true rfl) ⟨Nat.le_of_ble_eq_true rfl, Nat.le_of_ble_eq_true rfl⟩ ⟨Nat.le_of_ble_eq_true rfl, Nat.le_of_ble_eq_true rfl⟩ (fun r h1 hp9 => ?_) (fun E h9 q => q.elim)
  obtain ⟨rfl, hb1, hx1⟩ := hp9
  have hS1 := hS.ex hx1 (by decide)
  refine j_aload_n dX4_part_4 rfl rfl ?_
  refine j_aload_n dX4_part_5 rfl rfl ?_
  refine j_iconst dX4_part_6 ?_
  refine j_iload_n dX4_part_7 rfl rfl ?_
  refine j_iconst dX4_part_8 ?_
  refine j_callV (x_attempt hS1 hI hB (kd := 5) (u := p) (v := -1) (by decide) (by omega) (by omega)) dX4_part_9 jc_X4_74 jmV_X4_attempt rfl rfl hS1.x.1 rfl rfl (by simp) jfr_nil (Nat.le_of_ble_eq_true rfl) ⟨Nat.le_of_ble_eq_true rfl, Nat.le_of_ble_eq_true rfl⟩ ⟨Nat.le_of_ble_eq_true rfl, Nat.le_of_ble_eq_true rfl⟩ (fun r h2 hp9 => ?_) (fun E h9 q => q.elim)
  obtain ⟨rfl, hS2, hx2⟩ := hp9
  have hc := kTry_c hI 5 p (-1)
  have hy2 : ∀ j, 21 ≤ j → h2 j = h j := fun j j0 => (hx2 j (by omega)).trans (hx1 j (by omega))
  have hb2 := hb1.eq (fun j j0 _ => hx2 j (by omega))
  have hPa2 := hPa.eq (fun j j0 _ => hy2 j (by omega)) hp5.2
  have hT2 := hT.eq (fun j j0 _ => hy2 j j0)
  refine j_callV (x_end hS2.x (by rw [xX_5]; exact hp5) (by rw [xX_5]; exact hPa2) hb2 hI.1 (by omega)) dX4_part_12 jc_X4_78 jmV_X4_end rfl rfl hS2.x.1 rfl rfl (by simp) jfr_nil (Nat.le_of_ble_eq_true rfl) ⟨Nat.le_of_ble_eq_true rfl, Nat.le_of_ble_eq_true rfl⟩ ⟨Nat.le_of_ble_eq_true rfl, Nat.le_of_ble_eq_true rfl⟩ (fun r h3 hp9 => ?_) (fun E h9 q9 => by obtain ⟨rfl, q9⟩ := q9; subst hZ; exact j_out rfl ⟨q9, ⟨(by have e9 := (hc.resolve_left (by omega)).2; have h9 := hS2; rw [e9] at h9; exact h9), ⟨_, hb2.choose_spec.choose_spec.2⟩, hT2, (by rw [xX_5]; exact hPa2), (by rw [xX_5]; exact hp5)⟩, jEx.of fun j j0 => (hx2 j (by omega)).trans (hx1 j (by omega))⟩ (by decide) (by decide))
  obtain ⟨⟨rfl, n1, n2, n3⟩, _, w1, w2, w3⟩ := hp9
  have hq1 : -1 ≤ (kTry K 5 p (-1)).1 := by omega
  have hx9 : xX X (kTry K 5 p (-1)) = X := if_neg n3
  rw [hx9] at w1 w2 hS2
  subst hZ
  exact j_ireturn dX4_part_15 rfl rfl ⟨rfl, hq1, ⟨hS2.ey w3 w1, (by obtain ⟨x9, y9, _, g9⟩ := hb2; exact ⟨_, g9.ey okF w3 (.inl ⟨by decide, by decide⟩)⟩), hT2.eq (fun j j0 j1 => w3 j (by omega)), w2, xN_r hp5⟩, jEx.of fun j j0 => (w3 j (by omega)).trans ((hx2 j (by omega)).trans (hx1 j (by omega)))⟩ (by omega) (by omega)
set_option maxHeartbeats 4000000 in
/-- FamilyOaks.quarrel -/
theorem x_quarrel {K Ks X I : fS} {P : Int → fS} {c B : Int} {t : Int → Int} {h : jH} (hC : xC K Ks P X I c t h) (hI : kI B K) {p o : Int} (hp : -2147483648 ≤ p ∧ p ≤ 2147483647) (ho : -2147483648 ≤ o ∧ o ≤ 2147483647) (hB : B + 1000 ≤ 20000000) : jM mX4_quarrel 9 1 6 [] [.ref 0, iv p, iv o] h (xCn K Ks P X I c t (kTry K 6 p o) h) (xCx K Ks P X I c t (kTry K 6 p o) h) := by
  refine j_method (by decide +kernel) rfl (fun _ _ _ => trivial) (Nat.le_of_ble_eq_true rfl) ?_
  generalize hZ : jZ [] 1 6 _ _ = Z
  show J mX4_quarrel (jR 9 1 6) [] Z 0 [(0, .ref 0), (1, iv p), (2, iv o)] [] h 0 0
  obtain ⟨hS, ⟨Fb, hb⟩, hT, hPa, hp5⟩ := hC
  have hX := hS.x
  refine j_aload_n dX4_quarrel_0 rfl rfl ?_
  refine j_callV (x_begin hS hb hI.1) dX4_quarrel_1 jc_X4_71 jmV_X4_begin rfl rfl hX.1 rfl rfl (by simp) jfr_nil (Nat.le_of_ble_eq_true rfl) ⟨Nat.le_of_ble_eq_true rfl, Nat.le_of_ble_eq_true rfl⟩ ⟨Nat.le_of_ble_eq_true rfl, Nat.le_of_ble_eq_true rfl⟩ (fun r h1 hp9 => ?_) (fun E h9 q => q.elim)
  obtain ⟨rfl, hb1, hx1⟩ := hp9
  have hS1 := hS.ex hx1 (by decide)
  refine j_aload_n dX4_quarrel_4 rfl rfl ?_
  refine j_aload_n dX4_quarrel_5 rfl rfl ?_
  refine j_bipush dX4_quarrel_6 (by decide +kernel) ?_
  refine j_iload_n dX4_quarrel_8 rfl rfl ?_
  refine j_iload_n dX4_quarrel_9 rfl rfl ?_
  refine j_callV (x_attempt hS1 hI hB (kd := 6) (u := p) (v := o) (by decide) (by omega) (by omega)) dX4_quarrel_10 jc_X4_74 jmV_X4_attempt rfl rfl hS1.x.1 rfl rfl (by simp) jfr_nil (Nat.le_of_ble_eq_true rfl) ⟨Nat.le_of_ble_eq_true rfl, Nat.le_of_ble_eq_true rfl⟩ ⟨Nat.le_of_ble_eq_true rfl, Nat.le_of_ble_eq_true rfl⟩ (fun r h2 hp9 => ?_) (fun E h9 q => q.elim)
  obtain ⟨rfl, hS2, hx2⟩ := hp9
  have hc := kTry_c hI 6 p o
  have hy2 : ∀ j, 21 ≤ j → h2 j = h j := fun j j0 => (hx2 j (by omega)).trans (hx1 j (by omega))
  have hb2 := hb1.eq (fun j j0 _ => hx2 j (by omega))
  have hPa2 := hPa.eq (fun j j0 _ => hy2 j (by omega)) hp5.2
  have hT2 := hT.eq (fun j j0 _ => hy2 j j0)
  refine j_callV (x_end hS2.x (by rw [xX_5]; exact hp5) (by rw [xX_5]; exact hPa2) hb2 hI.1 (by omega)) dX4_quarrel_13 jc_X4_78 jmV_X4_end rfl rfl hS2.x.1 rfl rfl (by simp) jfr_nil (Nat.le_of_ble_eq_true rfl) ⟨Nat.le_of_ble_eq_true rfl, Nat.le_of_ble_eq_true rfl⟩ ⟨Nat.le_of_ble_eq_true rfl, Nat.le_of_ble_eq_true rfl⟩ (fun r h3 hp9 => ?_) (fun E h9 q9 => by obtain ⟨rfl, q9⟩ := q9; subst hZ; exact j_out rfl ⟨q9, ⟨(by have e9 := (hc.resolve_left (by omega)).2; have h9 := hS2; rw [e9] at h9; exact h9), ⟨_, hb2.choose_spec.choose_spec.2⟩, hT2, (by rw [xX_5]; exact hPa2), (by rw [xX_5]; exact hp5)⟩, jEx.of fun j j0 => (hx2 j (by omega)).trans (hx1 j (by omega))⟩ (by decide) (by decide))
  obtain ⟨⟨rfl, n1, n2, n3⟩, _, w1, w2, w3⟩ := hp9
  have hq1 : -1 ≤ (kTry K 6 p o).1 := by omega
  have hx9 : xX X (kTry K 6 p o) = X := if_neg n3
  rw [hx9] at w1 w2 hS2
  subst hZ
  exact j_ireturn dX4_quarrel_16 rfl rfl ⟨rfl, hq1, ⟨hS2.ey w3 w1, (by obtain ⟨x9, y9, _, g9⟩ := hb2; exact ⟨_, g9.ey okF w3 (.inl ⟨by decide, by decide⟩)⟩), hT2.eq (fun j j0 j1 => w3 j (by omega)), w2, xN_r hp5⟩, jEx.of fun j j0 => (w3 j (by omega)).trans ((hx2 j (by omega)).trans (hx1 j (by omega)))⟩ (by omega) (by omega)
set_option maxHeartbeats 4000000 in
/-- FamilyOaks.give -/
theorem x_give {K Ks X I : fS} {P : Int → fS} {c B : Int} {t : Int → Int} {h : jH} (hC : xC K Ks P X I c t h) (hI : kI B K) {p o : Int} (hp : -2147483648 ≤ p ∧ p ≤ 2147483647) (ho : -2147483648 ≤ o ∧ o ≤ 2147483647) (hB : B + 1000 ≤ 20000000) : jM mX4_give 9 1 6 [] [.ref 0, iv p, iv o] h (xCn K Ks P X I c t (kTry K 7 p o) h) (xCx K Ks P X I c t (kTry K 7 p o) h) := by
  refine j_method (by decide +kernel) rfl (fun _ _ _ => trivial) (Nat.le_of_ble_eq_true rfl) ?_
  generalize hZ : jZ [] 1 6 _ _ = Z
  show J mX4_give (jR 9 1 6) [] Z 0 [(0, .ref 0), (1, iv p), (2, iv o)] [] h 0 0
  obtain ⟨hS, ⟨Fb, hb⟩, hT, hPa, hp5⟩ := hC
  have hX := hS.x
  refine j_aload_n dX4_give_0 rfl rfl ?_
  refine j_callV (x_begin hS hb hI.1) dX4_give_1 jc_X4_71 jmV_X4_begin rfl rfl hX.1 rfl rfl (by simp) jfr_nil (Nat.le_of_ble_eq_true rfl) ⟨Nat.le_of_ble_eq_true rfl, Nat.le_of_ble_eq_true rfl⟩ ⟨Nat.le_of_ble_eq_true rfl, Nat.le_of_ble_eq_true rfl⟩ (fun r h1 hp9 => ?_) (fun E h9 q => q.elim)
  obtain ⟨rfl, hb1, hx1⟩ := hp9
  have hS1 := hS.ex hx1 (by decide)
  refine j_aload_n dX4_give_4 rfl rfl ?_
  refine j_aload_n dX4_give_5 rfl rfl ?_
  refine j_bipush dX4_give_6 (by decide +kernel) ?_
  refine j_iload_n dX4_give_8 rfl rfl ?_
  refine j_iload_n dX4_give_9 rfl rfl ?_
  refine j_callV (x_attempt hS1 hI hB (kd := 7) (u := p) (v := o) (by decide) (by omega) (by omega)) dX4_give_10 jc_X4_74 jmV_X4_attempt rfl rfl hS1.x.1 rfl rfl (by simp) jfr_nil (Nat.le_of_ble_eq_true rfl) ⟨Nat.le_of_ble_eq_true rfl, Nat.le_of_ble_eq_true rfl⟩ ⟨Nat.le_of_ble_eq_true rfl, Nat.le_of_ble_eq_true rfl⟩ (fun r h2 hp9 => ?_) (fun E h9 q => q.elim)
  obtain ⟨rfl, hS2, hx2⟩ := hp9
  have hc := kTry_c hI 7 p o
  have hy2 : ∀ j, 21 ≤ j → h2 j = h j := fun j j0 => (hx2 j (by omega)).trans (hx1 j (by omega))
  have hb2 := hb1.eq (fun j j0 _ => hx2 j (by omega))
  have hPa2 := hPa.eq (fun j j0 _ => hy2 j (by omega)) hp5.2
  have hT2 := hT.eq (fun j j0 _ => hy2 j j0)
  refine j_callV (x_end hS2.x (by rw [xX_5]; exact hp5) (by rw [xX_5]; exact hPa2) hb2 hI.1 (by omega)) dX4_give_13 jc_X4_78 jmV_X4_end rfl rfl hS2.x.1 rfl rfl (by simp) jfr_nil (Nat.le_of_ble_eq_true rfl) ⟨Nat.le_of_ble_eq_true rfl, Nat.le_of_ble_eq_true rfl⟩ ⟨Nat.le_of_ble_eq_true rfl, Nat.le_of_ble_eq_true rfl⟩ (fun r h3 hp9 => ?_) (fun E h9 q9 => by obtain ⟨rfl, q9⟩ := q9; subst hZ; exact j_out rfl ⟨q9, ⟨(by have e9 := (hc.resolve_left (by omega)).2; have h9 := hS2; rw [e9] at h9; exact h9), ⟨_, hb2.choose_spec.choose_spec.2⟩, hT2, (by rw [xX_5]; exact hPa2), (by rw [xX_5]; exact hp5)⟩, jEx.of fun j j0 => (hx2 j (by omega)).trans (hx1 j (by omega))⟩ (by decide) (by decide))
  obtain ⟨⟨rfl, n1, n2, n3⟩, _, w1, w2, w3⟩ := hp9
  have hq1 : -1 ≤ (kTry K 7 p o).1 := by omega
  have hx9 : xX X (kTry K 7 p o) = X := if_neg n3
  rw [hx9] at w1 w2 hS2
  subst hZ
  exact j_ireturn dX4_give_16 rfl rfl ⟨rfl, hq1, ⟨hS2.ey w3 w1, (by obtain ⟨x9, y9, _, g9⟩ := hb2; exact ⟨_, g9.ey okF w3 (.inl ⟨by decide, by decide⟩)⟩), hT2.eq (fun j j0 j1 => w3 j (by omega)), w2, xN_r hp5⟩, jEx.of fun j j0 => (w3 j (by omega)).trans ((hx2 j (by omega)).trans (hx1 j (by omega)))⟩ (by omega) (by omega)
set_option maxHeartbeats 4000000 in
/-- FamilyOaks.die -/
theorem x_die {K Ks X I : fS} {P : Int → fS} {c B : Int} {t : Int → Int} {h : jH} (hC : xC K Ks P X I c t h) (hI : kI B K) {p : Int} (hp : -2147483648 ≤ p ∧ p ≤ 2147483647) (hB : B + 1000 ≤ 20000000) : jM mX4_die 9 1 6 [] [.ref 0, iv p] h (xCn K Ks P X I c t (kTry K 8 p (-1)) h) (xCx K Ks P X I c t (kTry K 8 p (-1)) h) := by
  refine j_method (by decide +kernel) rfl (fun _ _ _ => trivial) (Nat.le_of_ble_eq_true rfl) ?_
  generalize hZ : jZ [] 1 6 _ _ = Z
  show J mX4_die (jR 9 1 6) [] Z 0 [(0, .ref 0), (1, iv p)] [] h 0 0
  obtain ⟨hS, ⟨Fb, hb⟩, hT, hPa, hp5⟩ := hC
  have hX := hS.x
  refine j_aload_n dX4_die_0 rfl rfl ?_
  refine j_callV (x_begin hS hb hI.1) dX4_die_1 jc_X4_71 jmV_X4_begin rfl rfl hX.1 rfl rfl (by simp) jfr_nil (Nat.le_of_ble_eq_true rfl) ⟨Nat.le_of_ble_eq_true rfl, Nat.le_of_ble_eq_true rfl⟩ ⟨Nat.le_of_ble_eq_true rfl, Nat.le_of_ble_eq_true rfl⟩ (fun r h1 hp9 => ?_) (fun E h9 q => q.elim)
  obtain ⟨rfl, hb1, hx1⟩ := hp9
  have hS1 := hS.ex hx1 (by decide)
  refine j_aload_n dX4_die_4 rfl rfl ?_
  refine j_aload_n dX4_die_5 rfl rfl ?_
  refine j_bipush dX4_die_6 (by decide +kernel) ?_
  refine j_iload_n dX4_die_8 rfl rfl ?_
  refine j_iconst dX4_die_9 ?_
  refine j_callV (x_attempt hS1 hI hB (kd := 8) (u := p) (v := -1) (by decide) (by omega) (by omega)) dX4_die_10 jc_X4_74 jmV_X4_attempt rfl rfl hS1.x.1 rfl rfl (by simp) jfr_nil (Nat.le_of_ble_eq_true rfl) ⟨Nat.le_of_ble_eq_true rfl, Nat.le_of_ble_eq_true rfl⟩ ⟨Nat.le_of_ble_eq_true rfl, Nat.le_of_ble_eq_true rfl⟩ (fun r h2 hp9 => ?_) (fun E h9 q => q.elim)
  obtain ⟨rfl, hS2, hx2⟩ := hp9
  have hc := kTry_c hI 8 p (-1)
  have hy2 : ∀ j, 21 ≤ j → h2 j = h j := fun j j0 => (hx2 j (by omega)).trans (hx1 j (by omega))
  have hb2 := hb1.eq (fun j j0 _ => hx2 j (by omega))
  have hPa2 := hPa.eq (fun j j0 _ => hy2 j (by omega)) hp5.2
  have hT2 := hT.eq (fun j j0 _ => hy2 j j0)
  refine j_callV (x_end hS2.x (by rw [xX_5]; exact hp5) (by rw [xX_5]; exact hPa2) hb2 hI.1 (by omega)) dX4_die_13 jc_X4_78 jmV_X4_end rfl rfl hS2.x.1 rfl rfl (by simp) jfr_nil (Nat.le_of_ble_eq_true rfl) ⟨Nat.le_of_ble_eq_true rfl, Nat.le_of_ble_eq_true rfl⟩ ⟨Nat.le_of_ble_eq_true rfl, Nat.le_of_ble_eq_true rfl⟩ (fun r h3 hp9 => ?_) (fun E h9 q9 => by obtain ⟨rfl, q9⟩ := q9; subst hZ; exact j_out rfl ⟨q9, ⟨(by have e9 := (hc.resolve_left (by omega)).2; have h9 := hS2; rw [e9] at h9; exact h9), ⟨_, hb2.choose_spec.choose_spec.2⟩, hT2, (by rw [xX_5]; exact hPa2), (by rw [xX_5]; exact hp5)⟩, jEx.of fun j j0 => (hx2 j (by omega)).trans (hx1 j (by omega))⟩ (by decide) (by decide))
  obtain ⟨⟨rfl, n1, n2, n3⟩, _, w1, w2, w3⟩ := hp9
  have hq1 : -1 ≤ (kTry K 8 p (-1)).1 := by omega
  have hx9 : xX X (kTry K 8 p (-1)) = X := if_neg n3
  rw [hx9] at w1 w2 hS2
  subst hZ
  exact j_ireturn dX4_die_16 rfl rfl ⟨rfl, hq1, ⟨hS2.ey w3 w1, (by obtain ⟨x9, y9, _, g9⟩ := hb2; exact ⟨_, g9.ey okF w3 (.inl ⟨by decide, by decide⟩)⟩), hT2.eq (fun j j0 j1 => w3 j (by omega)), w2, xN_r hp5⟩, jEx.of fun j j0 => (w3 j (by omega)).trans ((hx2 j (by omega)).trans (hx1 j (by omega)))⟩ (by omega) (by omega)
