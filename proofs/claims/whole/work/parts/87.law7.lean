/-! THE LAW'S LOOP -/
theorem lW.up {B : Int} {h : jH} (w : lW B h) (hB : B + 31000 ≤ 20000000) : lW (B + 31000) h := by
  obtain ⟨K, Ks, P, X, I, c, t, G, ⟨i1, i2, i3, i4, i5⟩, f⟩ := w
  exact ⟨K, Ks, P, X, I, c, t, G, ⟨i1, i2, i3.up ⟨by omega, hB⟩, i4, i5⟩, f⟩
set_option maxHeartbeats 4000000 in
theorem l_loop {L : Nat} {xs : Nat → Int32} {nm : String} {tab : List (Nat × Nat × Nat × Nat)} {Z : jFin} (hL : L ≤ 2048) (hend : ∀ (Ls : List (Nat × Value)) (h : jH) (nc ns : Nat), nc ≤ 603072 → ns ≤ 7211113 → J (mLaw L xs nm tab) room_1 lnw Z 2156 Ls [] h nc ns) : ∀ i : Int, (0 ≤ i ∧ i ≤ L + 4) → ∀ (B : Int) (nc ns : Nat) (h : jH), 0 ≤ B → lW B h → 4 * B + 31000 * ((L : Int) - i) ≤ 79000000 → 4 * (nc : Int) + 11 * ((L : Int) - i) ≤ 2412000 → 4 * (ns : Int) + 346 * ((L : Int) - i) ≤ 28840000 →
    J (mLaw L xs nm tab) room_1 lnw Z 28 [(0, .ref 150), (1, .ref 0), (2, .ref 200), (3, .ref 220), (4, .ref 221), (5, iv i)] [] h nc ns := by
  refine jloop (P := fun i : Int => ∀ (B : Int) (nc ns : Nat) (h : jH), 0 ≤ B → lW B h → 4 * B + 31000 * ((L : Int) - i) ≤ 79000000 → 4 * (nc : Int) + 11 * ((L : Int) - i) ≤ 2412000 → 4 * (ns : Int) + 346 * ((L : Int) - i) ≤ 28840000 → J (mLaw L xs nm tab) room_1 lnw Z 28 [(0, .ref 150), (1, .ref 0), (2, .ref 200), (3, .ref 220), (4, .ref 221), (5, iv i)] [] h nc ns) (fun i => 0 ≤ i ∧ i ≤ L + 4) (fun i => ((L : Int) + 8 - i).toNat) ?_
  intro i hinv ih B nc ns h hb hW h1 h2 h3
  refine j_iload dL_law_28 rfl ?_
  refine j_aload_n dL_law_30 rfl rfl ?_
  refine j_sarl dL_law_31 ?_
  refine j_iconst dL_law_32 ?_
  refine j_isub dL_law_33 ?_
  refine j_icmp_gt (tgt := 2156) dL_law_34 (by decide) (by omega) (fun c => hend _ _ _ _ (by omega) (by omega)) (fun c => ?_)
  have hi : 0 ≤ i ∧ i + 4 ≤ (L : Int) := by omega
  have hB : B + 31000 ≤ 20000000 := by omega
  have hnc : nc + 11 ≤ 603072 ∧ ns + 346 ≤ 7211113 := by omega
  have htail : ∀ (h' : jH) (nc' ns' : Nat), lW (B + 31000) h' → nc' ≤ nc + 11 → ns' ≤ ns + 346 → J (mLaw L xs nm tab) room_1 lnw Z 2150 [(0, .ref 150), (1, .ref 0), (2, .ref 200), (3, .ref 220), (4, .ref 221), (5, iv i)] [] h' nc' ns' := fun h' nc' ns' hW' n1 n2 => by
    refine j_iinc (L' := [(0, _), (1, _), (2, _), (3, _), (4, _), (5, _)]) dL_law_2150 rfl (Nat.le_of_ble_eq_true rfl) rfl ?_
    refine j_goto (tgt := 28) dL_law_2153 (by decide) ?_
    exact ih (i + 4) ⟨by omega, by omega⟩ (by show ((L : Int) + 8 - (i + 4)).toNat < ((L : Int) + 8 - i).toNat; omega) (B + 31000) nc' ns' h' (by omega) hW' (by omega) (by omega) (by omega)
  have hWu := hW.up hB
  obtain ⟨K, Ks, P, X, I, c9, t, G, hI, f, h220⟩ := hW
  refine j_aload_n dL_law_37 rfl rfl ?_
  refine j_iload dL_law_38 rfl ?_
  refine j_sarr dL_law_40 ⟨by omega, by omega⟩ hL ?_
  refine j_bipush dL_law_41 (by decide +kernel) ?_
  obtain ⟨zz, hz, hr⟩ : ∃ zz : Int, Int32.ofInt (sc xs i) &&& Int32.ofInt 63 = Int32.ofInt zz ∧ -2147483648 ≤ zz ∧ zz ≤ 2147483647 := ⟨(Int32.ofInt (sc xs i) &&& Int32.ofInt 63).toInt, (Int32.ofInt_toInt _).symm, by
    have a := Int32.le_toInt (Int32.ofInt (sc xs i) &&& Int32.ofInt 63)
    have b := Int32.toInt_lt (Int32.ofInt (sc xs i) &&& Int32.ofInt 63)
    omega⟩
  refine j_iand dL_law_43 hz ?_
  by_cases hz2 : 0 ≤ zz ∧ zz ≤ 34
  · rcases (show zz = 0 ∨ zz = 1 ∨ zz = 2 ∨ zz = 3 ∨ zz = 4 ∨ zz = 5 ∨ zz = 6 ∨ zz = 7 ∨ zz = 8 ∨ zz = 9 ∨ zz = 10 ∨ zz = 11 ∨ zz = 12 ∨ zz = 13 ∨ zz = 14 ∨ zz = 15 ∨ zz = 16 ∨ zz = 17 ∨ zz = 18 ∨ zz = 19 ∨ zz = 20 ∨ zz = 21 ∨ zz = 22 ∨ zz = 23 ∨ zz = 24 ∨ zz = 25 ∨ zz = 26 ∨ zz = 27 ∨ zz = 28 ∨ zz = 29 ∨ zz = 30 ∨ zz = 31 ∨ zz = 32 ∨ zz = 33 ∨ zz = 34 by omega) with rfl | rfl | rfl | rfl | rfl | rfl | rfl | rfl | rfl | rfl | rfl | rfl | rfl | rfl | rfl | rfl | rfl | rfl | rfl | rfl | rfl | rfl | rfl | rfl | rfl | rfl | rfl | rfl | rfl | rfl | rfl | rfl | rfl | rfl | rfl
    · exact j_tableIn (off := 156) (tgt := 200) dL_law_44 (by decide) (by decide) (by decide) rfl (by decide) (lc_found hL hi hI h220 hB hb hnc htail)
    · exact j_tableIn (off := 200) (tgt := 244) dL_law_44 (by decide) (by decide) (by decide) rfl (by decide) (lc_born hL hi hI h220 hB hb hnc htail)
    · exact j_tableIn (off := 256) (tgt := 300) dL_law_44 (by decide) (by decide) (by decide) rfl (by decide) (lc_graft hL hi hI h220 hB hb hnc htail)
    · exact j_tableIn (off := 324) (tgt := 368) dL_law_44 (by decide) (by decide) (by decide) rfl (by decide) (lc_cut hL hi hI h220 hB hb hnc htail)
    · exact j_tableIn (off := 380) (tgt := 424) dL_law_44 (by decide) (by decide) (by decide) rfl (by decide) (lc_personOf hL hi hI h220 hB hb hnc htail)
    · exact j_tableIn (off := 448) (tgt := 492) dL_law_44 (by decide) (by decide) (by decide) rfl (by decide) (lc_elder hL hi hI h220 hB hb hnc htail)
    · exact j_tableIn (off := 544) (tgt := 588) dL_law_44 (by decide) (by decide) (by decide) rfl (by decide) (lc_common hL hi hI h220 hB hb hnc htail)
    · exact j_tableIn (off := 640) (tgt := 684) dL_law_44 (by decide) (by decide) (by decide) rfl (by decide) (lc_degree hL hi hI h220 hB hb hnc htail)
    · exact j_tableIn (off := 708) (tgt := 752) dL_law_44 (by decide) (by decide) (by decide) rfl (by decide) (lc_leaps hL hi hI h220 hB hb hnc htail)
    · exact j_tableIn (off := 776) (tgt := 820) dL_law_44 (by decide) (by decide) (by decide) rfl (by decide) (lc_farthest hL hi hI h220 hB hb hnc htail)
    · exact j_tableIn (off := 832) (tgt := 876) dL_law_44 (by decide) (by decide) (by decide) rfl (by decide) (lc_descendant hL hi hI h220 hB hb hnc htail)
    · exact j_tableIn (off := 900) (tgt := 944) dL_law_44 (by decide) (by decide) (by decide) rfl (by decide) (lc_marry hL hi hI h220 hB hb hnc htail)
    · exact j_tableIn (off := 968) (tgt := 1012) dL_law_44 (by decide) (by decide) (by decide) rfl (by decide) (lc_part hL hi hI h220 hB hb hnc htail)
    · exact j_tableIn (off := 1024) (tgt := 1068) dL_law_44 (by decide) (by decide) (by decide) rfl (by decide) (lc_quarrel hL hi hI h220 hB hb hnc htail)
    · exact j_tableIn (off := 1092) (tgt := 1136) dL_law_44 (by decide) (by decide) (by decide) rfl (by decide) (lc_quarrelAt hL hi hI h220 hB hb hnc htail)
    · exact j_tableIn (off := 1176) (tgt := 1220) dL_law_44 (by decide) (by decide) (by decide) rfl (by decide) (lc_wouldEnd hL hi hI h220 hB hb hnc htail)
    · exact j_tableIn (off := 1244) (tgt := 1288) dL_law_44 (by decide) (by decide) (by decide) rfl (by decide) (lc_houses hL hi hI h220 hB hb hnc htail)
    · exact j_tableIn (off := 1257) (tgt := 1301) dL_law_44 (by decide) (by decide) (by decide) rfl (by decide) (lc_housesAgain hL hi hI h220 hB hb hnc htail)
    · exact j_tableIn (off := 1270) (tgt := 1314) dL_law_44 (by decide) (by decide) (by decide) rfl (by decide) (lc_give hL hi hI h220 hB hb hnc htail)
    · exact j_tableIn (off := 1338) (tgt := 1382) dL_law_44 (by decide) (by decide) (by decide) rfl (by decide) (lc_die hL hi hI h220 hB hb hnc htail)
    · exact j_tableIn (off := 1394) (tgt := 1438) dL_law_44 (by decide) (by decide) (by decide) rfl (by decide) (lc_heir hL hi hI h220 hB hb hnc htail)
    · exact j_tableIn (off := 1450) (tgt := 1494) dL_law_44 (by decide) (by decide) (by decide) rfl (by decide) (lc_ranked hL hi hI h220 hB hb hnc htail)
    · exact j_tableIn (off := 1506) (tgt := 1550) dL_law_44 (by decide) (by decide) (by decide) rfl (by decide) (lc_line hL hi hI h220 hB hb hnc htail)
    · exact j_tableIn (off := 1562) (tgt := 1606) dL_law_44 (by decide) (by decide) (by decide) rfl (by decide) (lc_character hL hi hI h220 hB hb hnc htail)
    · exact j_tableIn (off := 1618) (tgt := 1662) dL_law_44 (by decide) (by decide) (by decide) rfl (by decide) (lc_append hL hi hI h220 hB hb hnc htail)
    · exact j_tableIn (off := 1676) (tgt := 1720) dL_law_44 (by decide) (by decide) (by decide) rfl (by decide) (lc_run hL hi hI h220 hB hb hnc htail)
    · exact j_tableIn (off := 1720) (tgt := 1764) dL_law_44 (by decide) (by decide) (by decide) rfl (by decide) (lc_errorPosition hL hi hI h220 hB hb hnc htail)
    · exact j_tableIn (off := 1733) (tgt := 1777) dL_law_44 (by decide) (by decide) (by decide) rfl (by decide) (lc_refusal hL hi hI h220 hB hb hnc htail)
    · exact j_tableIn (off := 1805) (tgt := 1849) dL_law_44 (by decide) (by decide) (by decide) rfl (by decide) (lc_account hL hi hI h220 hB hb hnc htail)
    · exact j_tableIn (off := 1861) (tgt := 1905) dL_law_44 (by decide) (by decide) (by decide) rfl (by decide) (lc_isWell hL hi hI h220 hB hb hnc htail)
    · exact j_tableIn (off := 1874) (tgt := 1918) dL_law_44 (by decide) (by decide) (by decide) rfl (by decide) (lc_meanDepth hL hi hI h220 hB hb hnc htail)
    · exact j_tableIn (off := 1939) (tgt := 1983) dL_law_44 (by decide) (by decide) (by decide) rfl (by decide) (lc_livingShare hL hi hI h220 hB hb hnc htail)
    · exact j_tableIn (off := 2005) (tgt := 2049) dL_law_44 (by decide) (by decide) (by decide) rfl (by decide) (lc_undo hL hi hI h220 hB hb hnc htail)
    · exact j_tableIn (off := 2049) (tgt := 2093) dL_law_44 (by decide) (by decide) (by decide) rfl (by decide) (lc_save hL hi hI h220 hB hb hnc htail)
    · exact j_tableIn (off := 2062) (tgt := 2106) dL_law_44 (by decide) (by decide) (by decide) rfl (by decide) (lc_restore hL hi hI h220 hB hb hnc htail)
  · exact j_tableOut (tgt := 2150) dL_law_44 hr (by omega) (by decide) (htail h nc ns hWu (by omega) (by omega))
/-! the beginning -/
theorem mK_z : mK (fun _ => 0) = gs (gs kF0 4 (fun _ => -1)) 5 (fun _ => -1) := by
  funext i p
  match i with
  | 0 => exact if_neg (show ¬ (0 ≤ p ∧ p < 0) by omega)
  | 1 => exact if_neg (show ¬ (0 ≤ p ∧ p < 0) by omega)
  | 2 => exact if_neg (show ¬ (0 ≤ p ∧ p < 0) by omega)
  | 3 => exact if_neg (show ¬ (0 ≤ p ∧ p < 0) by omega)
  | 4 => exact if_neg (show ¬ (0 ≤ p ∧ p < 0) by omega)
  | 5 => exact if_neg (show ¬ (0 ≤ p ∧ p < 0) by omega)
  | 6 => rfl
  | 7 => rfl
  | 8 => rfl
  | 9 => rfl
  | 10 => rfl
  | i + 11 => rfl
theorem kI_z {B : Int} (hB : 0 ≤ B ∧ B ≤ 20000000) : kI B (mK (fun _ => 0)) := by
  rw [mK_z]
  refine ⟨⟨by decide, by decide, fun i _ => ⟨rfl, rfl, rfl, rfl⟩, fun i => ⟨Int.le_refl _, (show (-1 : Int) < 0 by decide)⟩, fun i => ⟨Int.le_refl _, (show (-1 : Int) < 0 by decide)⟩, fun i => ⟨Int.le_refl _, hB.1⟩, fun i => Or.inl rfl, fun i h0 h1 => absurd h1 (by show ¬ i < 0; omega), ⟨Int.le_refl _, hB.1⟩, ⟨Int.le_refl _, hB.1⟩, ⟨Int.le_refl _, hB.1⟩, hB.2⟩, fun p => rfl, fun p hp => absurd rfl hp, rfl⟩
theorem xC.z {P : Int → fS} {X I : fS} {c : Int} {t : Int → Int} {h : jH} (w : xC kF0 kF0 P X I c t h) : xC (mK (fun _ => 0)) (mK (fun _ => 0)) P X I c t h := by
  have e : ∀ a b, kRw (mK (fun _ => 0)) a b = kRw kF0 a b := fun a b => by rw [mK_z]; exact kRw_45
  have e7 : mK (fun _ => 0) 7 0 = 0 := rfl
  have e6 : mK (fun _ => 0) 6 0 = 0 := rfl
  obtain ⟨⟨a, b, E, H, x1, x2, x3, x4, x5, x6, x7⟩, w2, ⟨⟨a2, b2, y1, y2⟩, w4⟩, w5⟩ := w
  exact ⟨⟨a, b, E, H, x1, by rw [e]; exact x2, x3, x4, fun q q0 q1 => by omega, fun z => by omega, ⟨x7.1, fun p p0 p1 => by omega⟩⟩, w2, ⟨⟨a2, b2, fun q q0 q1 => by omega, by rw [e]; exact y2⟩, w4⟩, w5⟩
theorem mR_z {P : Int → fS} : mR 0 (mK (fun _ => 0)) (mK (fun _ => 0)) P X0_0 (fun _ _ => 0) 0 (fun _ => 0) (gn (fun _ _ => 0) 19 (-1)) := by
  have hk : kI 0 (mK (fun _ => 0)) := kI_z ⟨by decide, by decide⟩
  refine ⟨⟨rfl, hk⟩, ⟨rfl, .inl rfl, hk⟩, ⟨rfl, by show (0 : Int) ≤ 0 ∧ (0 : Int) ≤ 8; decide, fun i i0 i1 => absurd i1 (by show ¬ i < 0; omega)⟩, ⟨rfl, rfl, rfl, by show (0 : Int) ≤ 0 ∧ (0 : Int) ≤ 10; decide, by show (-2147483648 : Int) ≤ 0 ∧ (0 : Int) ≤ 2147483647; decide, by show (-1 : Int) ≤ -1 ∧ (-1 : Int) ≤ 60; decide⟩, ⟨rfl, by decide, fun j j0 j1 => absurd j1 (by omega), fun j => by show (0 : Int) ≤ 0 ∧ (0 : Int) < 65536; decide⟩, rfl, rfl, ⟨?_, ?_, .inl rfl, fun j => ?_⟩, fun j => ?_⟩
  · show (0 : Int) ≤ 0 ∧ (0 : Int) ≤ 60; decide
  · show (0 : Int) ≤ 0 ∧ (0 : Int) ≤ 60; decide
  · show (0 : Int) ≤ 0 ∧ (0 : Int) < 65536; decide
  · show (0 : Int) ≤ 0 ∧ (0 : Int) ≤ 999; decide
theorem cl_8 : Cond.classLink RL 8 RX4 ∈ jWL := (jw_mem 122 (by decide +kernel) (by decide +kernel))
theorem cl_122 : Cond.classLink RL 122 RX5 ∈ jWL := (jw_mem 1424 (by decide +kernel) (by decide +kernel))
set_option maxHeartbeats 8000000 in
/-- the law from its start -/
theorem l_all {L : Nat} {xs : Nat → Int32} {nm : String} {tab : List (Nat × Nat × Nat × Nat)} {Z : jFin} (hL : L ≤ 2048) (hend : ∀ (Ls : List (Nat × Value)) (h : jH) (nc ns : Nat), nc ≤ 603072 → ns ≤ 7211113 → J (mLaw L xs nm tab) room_1 lnw Z 2156 Ls [] h nc ns) : J (mLaw L xs nm tab) room_1 lnw Z 0 [(0, .ref 150)] [] (fun _ => none) 0 0 := by
  refine j_new (k := 0) (ci := 4) (fs := [.null, .null, .null, iv 0, .null, iv 0, .null, .null, .null, .null, iv 0, iv 0, iv 0]) tyX4 dL_law_0 cl_8 (jw_mem 123 (by decide +kernel) (by decide +kernel)) (jw_mem 93 (by decide +kernel) (by decide +kernel)) rfl tyX4_ok (fun j hj => match j, hj with | 0, _ => rfl | 1, _ => rfl | 2, _ => rfl | 3, _ => rfl | 4, _ => rfl | 5, _ => rfl | 6, _ => rfl | 7, _ => rfl | 8, _ => rfl | 9, _ => rfl | 10, _ => rfl | 11, _ => rfl | 12, _ => rfl | n9 + 13, hj => absurd hj (by omega)) (jz0_of rfl) rfl (by decide) (jfr_1 (by simp) (by simp)) ⟨Nat.le_of_ble_eq_true rfl, Nat.le_of_ble_eq_true rfl⟩ ?_
  refine j_dup dL_law_3 rfl ?_
  refine j_callIA (fun _ _ _ q => q.1) (x_init (P := fun _ => kF0) (jup_s (h := fun _ => none)) (fun j j0 _ => jup_n (by omega) rfl)) dL_law_4 jc_L_121 jmI_X4_init rfl rfl rfl rfl rfl (by decide +kernel) (jfr_of (by decide +kernel) (by decide +kernel)) (Nat.le_of_ble_eq_true rfl) ⟨Nat.le_of_ble_eq_true rfl, Nat.le_of_ble_eq_true rfl⟩ ⟨Nat.le_of_ble_eq_true rfl, Nat.le_of_ble_eq_true rfl⟩ (fun r h1 hp9 => ?_)
  obtain ⟨rfl, hC, hE⟩ := hp9
  have hn : ∀ j, 120 ≤ j → h1 j = none := fun j j0 => (hE j (by omega)).trans (jup_n (by omega) rfl)
  refine j_astore_n (L' := [(0, _), (1, _)]) dL_law_7 rfl (Nat.le_of_ble_eq_true rfl) rfl ?_
  refine j_new (k := 200) (ci := 5) (fs := [.null, .null, .null, iv 0, .null, iv 0, iv 0, iv 0, iv 0, iv 0, .null, iv 0, .null, .null, iv 0, .null, iv 0, iv 0, iv 0, iv 0, .null, iv 0]) tyX5 dL_law_8 cl_122 (jw_mem 1425 (by decide +kernel) (by decide +kernel)) (jw_mem 102 (by decide +kernel) (by decide +kernel)) rfl tyX5_ok (fun j hj => match j, hj with | 0, _ => rfl | 1, _ => rfl | 2, _ => rfl | 3, _ => rfl | 4, _ => rfl | 5, _ => rfl | 6, _ => rfl | 7, _ => rfl | 8, _ => rfl | 9, _ => rfl | 10, _ => rfl | 11, _ => rfl | 12, _ => rfl | 13, _ => rfl | 14, _ => rfl | 15, _ => rfl | 16, _ => rfl | 17, _ => rfl | 18, _ => rfl | 19, _ => rfl | 20, _ => rfl | 21, _ => rfl | n9 + 22, hj => absurd hj (by omega)) (jz0_of rfl) (hn 200 (by decide)) (by decide) (jfr_1 (by simp) (by simp)) ⟨Nat.le_of_ble_eq_true rfl, Nat.le_of_ble_eq_true rfl⟩ ?_
  refine j_dup dL_law_11 rfl ?_
  refine j_callI (c5_init (k := 200) jup_s (jup_n (by decide) (hn 201 (by decide))) (jup_n (by decide) (hn 202 (by decide))) (jup_n (by decide) (hn 203 (by decide))) (jup_n (by decide) (hn 204 (by decide))) (jup_n (by decide) (hn 205 (by decide))) (jup_n (by decide) (hn 206 (by decide))) (jup_n (by decide) (hn 207 (by decide))) (jup_n (by decide) (hn 208 (by decide))) (jup_n (by decide) (hn 209 (by decide)))) dL_law_12 jc_L_124 jmI_X5_init rfl rfl rfl rfl rfl (by decide +kernel) (jfr_of (by decide +kernel) (by decide +kernel)) (Nat.le_of_ble_eq_true rfl) ⟨Nat.le_of_ble_eq_true rfl, Nat.le_of_ble_eq_true rfl⟩ ⟨Nat.le_of_ble_eq_true rfl, Nat.le_of_ble_eq_true rfl⟩ (fun r h2 hp9 => ?_)
  obtain ⟨rfl, hG, hE2⟩ := hp9
  have g2 : ∀ j, j < 200 ∨ 210 ≤ j → h2 j = h1 j := fun j hj => (hE2 j (by omega)).trans (jup_n (by omega) rfl)
  refine j_astore_n (L' := [(0, _), (1, _), (2, _)]) dL_law_15 rfl (Nat.le_of_ble_eq_true rfl) rfl ?_
  refine j_iconst dL_law_16 ?_
  refine j_newarray (t := 4) (k := 220) (n := 1) (f := fun _ => 0) rfl dL_law_17 rfl (by decide) (jw_mem 1828 (by decide +kernel) (by decide +kernel)) (by decide) ((g2 220 (by decide)).trans (hn 220 (by decide))) (by decide) (jfr_1 (by simp) (by simp)) ⟨Nat.le_of_ble_eq_true rfl, Nat.le_of_ble_eq_true rfl⟩ ?_
  refine j_astore_n (L' := [(0, _), (1, _), (2, _), (3, _)]) dL_law_19 rfl (Nat.le_of_ble_eq_true rfl) rfl ?_
  refine j_iconst dL_law_20 ?_
  refine j_newarray (t := 5) (k := 221) (n := 1) (f := fun _ => 0) rfl dL_law_21 rfl (by decide) (jw_mem 1829 (by decide +kernel) (by decide +kernel)) (by decide) (jup_n (by decide) ((g2 221 (by decide)).trans (hn 221 (by decide)))) (by decide) (jfr_1 (by simp) (by simp)) ⟨Nat.le_of_ble_eq_true rfl, Nat.le_of_ble_eq_true rfl⟩ ?_
  refine j_astore (L' := [(0, _), (1, _), (2, _), (3, _), (4, _)]) dL_law_23 (Nat.le_of_ble_eq_true rfl) rfl ?_
  refine j_iconst dL_law_25 ?_
  refine j_istore (L' := [(0, _), (1, _), (2, _), (3, _), (4, _), (5, _)]) dL_law_26 (Nat.le_of_ble_eq_true rfl) rfl ?_
  have g : ∀ j, j < 200 → jup (jup h2 220 (jA 4 1 fun _ => 0)) 221 (jA 5 1 fun _ => 0) j = h1 j := fun j hj => (jup_n (by omega) (jup_n (by omega) rfl)).trans (g2 j (by omega))
  refine l_loop hL hend 0 ⟨by decide, by omega⟩ 0 _ _ _ (by decide) ⟨_, _, _, _, _, _, _, _, ⟨hC.z.eq fun j j0 => g j (by omega), hG.eq okM fun j j0 j1 => jup_n (by have j1 : j < 200 + 10 := j1; omega) (jup_n (by have j1 : j < 200 + 10 := j1; omega) rfl), mR_z, ⟨_, jup_s⟩, jup_n (by decide) (jup_n (by decide) ((g2 300 (by decide)).trans (hn 300 (by decide))))⟩, _, jup_n (by decide) jup_s⟩ (by omega) (by omega) (by omega)
