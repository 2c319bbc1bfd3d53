/-! THE LAW -/
abbrev mLw (nm : String) (tab : List (Nat × Nat × Nat × Nat)) : jMe := (⟨RL, nm, "([I)Z"⟩, cL_law, 2, some .boolean, tab, jtr)
def lnwP : List Nat := nwD ++ [301, 302] ++ nwT ++ List.range' 500 80
set_option maxHeartbeats 16000000 in
theorem l_all {Ln : Nat} {xs : Nat → Int32} {nm : String} {tab : List (Nat × Nat × Nat × Nat)} {Z : jFin} (hL : Ln ≤ 2048) (hend : ∀ (Ls : List (Nat × Value)) (h : jH) (nc ns : Nat), nc ≤ 825506 → ns ≤ 6615330 → J (pMe (mLw nm tab) Ln xs) room_1 lnwP Z 53 Ls [] h nc ns) : J (pMe (mLw nm tab) Ln xs) room_1 lnwP Z 0 [(0, .ref 150)] [] (fun _ => none) 0 0 := by
  have hnw : pNw lnwP := pNw.of (by decide +kernel)
  refine j_aload_n dL_law_0 rfl rfl ?_
  refine j_callSF (m_drawn (fun _ => rfl) hL) dL_law_1 jc_L_154 jmS_L_drawn rfl hnw rfl rfl (by decide +kernel) (jfr_of (by decide +kernel) (by decide +kernel)) (Nat.le_of_ble_eq_true rfl) ⟨Nat.le_of_ble_eq_true rfl, Nat.le_of_ble_eq_true rfl⟩ ⟨Nat.le_of_ble_eq_true rfl, Nat.le_of_ble_eq_true rfl⟩ (fun r h1 hp9 => ?_) (fun E h9 q => q.elim)
  obtain ⟨rfl, B, K, P, n, hC, hn0, hB, hN⟩ := hp9
  refine j_astore_n (L' := [(0, _), (1, _)]) dL_law_4 rfl (Nat.le_of_ble_eq_true rfl) rfl ?_
  refine j_aload_n dL_law_5 rfl rfl ?_
  refine j_ifnull dL_law_6 ?_
  refine j_aload_n dL_law_9 rfl rfl ?_
  refine j_callS (m_persons hC (fun j j0 => hN j j0.1)) dL_law_10 jc_L_158 jmS_L_persons rfl rfl rfl (by decide +kernel) (jfr_of (by decide +kernel) (by decide +kernel)) (Nat.le_of_ble_eq_true rfl) ⟨Nat.le_of_ble_eq_true rfl, Nat.le_of_ble_eq_true rfl⟩ ⟨Nat.le_of_ble_eq_true rfl, Nat.le_of_ble_eq_true rfl⟩ (fun r h2 hp9 => ?_) (fun E h9 q => q.elim)
  obtain ⟨rfl, rfl⟩ := hp9
  refine j_if_eq (tgt := 57) dL_law_13 (by decide) (by omega) (fun c => absurd c (by decide)) (fun c => ?_)
  refine j_aload_n dL_law_16 rfl rfl ?_
  refine j_aload_n dL_law_17 rfl rfl ?_
  refine j_callSF (m_pairs hC hn0 hL) dL_law_18 jc_L_162 jmS_L_pairs rfl hnw rfl rfl (by decide +kernel) (jfr_of (by decide +kernel) (by decide +kernel)) (Nat.le_of_ble_eq_true rfl) ⟨Nat.le_of_ble_eq_true rfl, Nat.le_of_ble_eq_true rfl⟩ ⟨Nat.le_of_ble_eq_true rfl, Nat.le_of_ble_eq_true rfl⟩ (fun r h2 hp9 => ?_) (fun E h9 q => q.elim)
  obtain ⟨rfl, rfl⟩ := hp9
  refine j_if_eq (tgt := 57) dL_law_21 (by decide) (by omega) (fun c => absurd c (by decide)) (fun c => ?_)
  refine j_aload_n dL_law_24 rfl rfl ?_
  refine j_callS (m_heirs hC) dL_law_25 jc_L_166 jmS_L_heirs rfl rfl rfl (by decide +kernel) (jfr_of (by decide +kernel) (by decide +kernel)) (Nat.le_of_ble_eq_true rfl) ⟨Nat.le_of_ble_eq_true rfl, Nat.le_of_ble_eq_true rfl⟩ ⟨Nat.le_of_ble_eq_true rfl, Nat.le_of_ble_eq_true rfl⟩ (fun r h2 hp9 => ?_) (fun E h9 q => q.elim)
  obtain ⟨rfl, rfl⟩ := hp9
  refine j_if_eq (tgt := 57) dL_law_28 (by decide) (by omega) (fun c => absurd c (by decide)) (fun c => ?_)
  refine j_aload_n dL_law_31 rfl rfl ?_
  refine j_callSF (m_told hC hN) dL_law_32 jc_L_169 jmS_L_told rfl hnw rfl rfl (by decide +kernel) (jfr_of (by decide +kernel) (by decide +kernel)) (Nat.le_of_ble_eq_true rfl) ⟨Nat.le_of_ble_eq_true rfl, Nat.le_of_ble_eq_true rfl⟩ ⟨Nat.le_of_ble_eq_true rfl, Nat.le_of_ble_eq_true rfl⟩ (fun r h2 hp9 => ?_) (fun E h9 q => q.elim)
  obtain ⟨rfl, hC2, hN2⟩ := hp9
  refine j_if_eq (tgt := 57) dL_law_35 (by decide) (by omega) (fun c => absurd c (by decide)) (fun c => ?_)
  refine j_aload_n dL_law_38 rfl rfl ?_
  refine j_callS (m_accounts hC2 (fun j j0 => hN2 j j0.1 (by omega)) hn0) dL_law_39 jc_L_172 jmS_L_accounts rfl rfl rfl (by decide +kernel) (jfr_of (by decide +kernel) (by decide +kernel)) (Nat.le_of_ble_eq_true rfl) ⟨Nat.le_of_ble_eq_true rfl, Nat.le_of_ble_eq_true rfl⟩ ⟨Nat.le_of_ble_eq_true rfl, Nat.le_of_ble_eq_true rfl⟩ (fun r h3 hp9 => ?_) (fun E h9 q => q.elim)
  obtain ⟨rfl, hC3, hx3⟩ := hp9
  refine j_if_eq (tgt := 57) dL_law_42 (by decide) (by omega) (fun c => absurd c (by decide)) (fun c => ?_)
  refine j_aload_n dL_law_45 rfl rfl ?_
  refine j_aload_n dL_law_46 rfl rfl ?_
  refine j_callSF (m_undone hC3 hB (fun j j0 j1 => (hx3 j (by omega)).trans (hN2 j j0 j1)) hL) dL_law_47 jc_L_175 jmS_L_undone rfl hnw rfl rfl (by decide +kernel) (jfr_of (by decide +kernel) (by decide +kernel)) (Nat.le_of_ble_eq_true rfl) ⟨Nat.le_of_ble_eq_true rfl, Nat.le_of_ble_eq_true rfl⟩ ⟨Nat.le_of_ble_eq_true rfl, Nat.le_of_ble_eq_true rfl⟩ (fun r h4 hp9 => ?_) (fun E h9 q => q.elim)
  obtain rfl := hp9
  refine j_if_eq (tgt := 57) dL_law_50 (by decide) (by omega) (fun c => absurd c (by decide)) (fun c => ?_)
  exact hend _ _ _ _ (Nat.le_of_ble_eq_true rfl) (Nat.le_of_ble_eq_true rfl)
