
/-! THE LAW'S RUN -/
theorem jfr_z {L : List (Nat × Value)} {r : Nat} (hr : 440 ≤ r) (hL : ∀ q ∈ L, q.2 = .ref 0 ∨ q.2 = .ref r ∨ ∃ x, q.2 = iv x) : jfr [300] L [.ref 0] := fun k hk => by
  rw [List.mem_singleton.mp hk]
  refine ⟨fun u hu e => ?_, fun v hv e => ?_⟩
  · rcases hL u hu with z | z | ⟨x, z⟩
    · rw [z] at e; cases e
    · rw [z] at e; cases e; omega
    · rw [z] at e; cases e
  · rw [List.mem_singleton.mp hv] at e; cases e
set_option maxHeartbeats 8000000 in
theorem m_run {Ln : Nat} {xs : Nat → Int32} {B : Int} {K : fS} {P : Int → fS} {n : Int} {h : jH} {r : Nat} {l : List Int} (hC : lC B K P n h) (hB : B + 61000 ≤ 20000000) (hSt : jSt r l h) (hl : l.length ≤ 60) (hr : 440 ≤ r) : jMF mL_run Ln xs 12 70 420 [300] [.ref 0, .ref r] h (fun r' h' => (∀ j, 120 ≤ j → h' j = h j) ∧ ((∃ v K', r' = some (iv v) ∧ (0 ≤ v ∧ v ≤ 100) ∧ lC (B + 61000) K' (xP n P K) (xN n) h') ∨ ∃ v, r' = some (iv v) ∧ (v < 0 ∧ -100 ≤ v) ∧ lC (B + 61000) K P n h')) jno := by
  have hr4 : 440 ≤ r ∧ True := ⟨hr, trivial⟩
  refine j_methodF (by decide +kernel) rfl (Nat.le_of_ble_eq_true rfl) ?_
  generalize hZ : jZ [300] 70 420 _ _ = Z
  show J (pMe mL_run Ln xs) (jR 12 70 420) [300] Z 0 [(0, .ref 0), (1, .ref r)] [] h 0 0
  refine j_iconst dL_run_0 ?_
  refine j_istore_n (L' := [(0, _), (1, _), (2, _)]) dL_run_1 rfl (Nat.le_of_ble_eq_true rfl) rfl ?_
  refine jloop (P := fun z9 : Int × jH × Nat × Nat => J (pMe mL_run Ln xs) (jR 12 70 420) [300] Z 2 [(0, .ref 0), (1, .ref r), (2, iv z9.1)] [] z9.2.1 z9.2.2.1 z9.2.2.2) (fun z9 => (0 ≤ z9.1 ∧ z9.1 ≤ (l.length : Int)) ∧ lI B K P n z9.1 z9.2.1 ∧ (∀ j, 120 ≤ j → z9.2.1 j = h j) ∧ (z9.2.2.1 : Int) ≤ z9.1 ∧ z9.2.2.2 ≤ 6 * z9.2.2.1) (fun z9 => ((l.length : Int) - z9.1).toNat) ?_ (0, h, 0, 0) ?_
  · rintro ⟨i, hb, nc2, ns2⟩ hinv2 ih2
    dsimp only at hinv2 ih2 ⊢
    obtain ⟨i1, hbI, hbs, b1, b2⟩ := hinv2
    have hSb : jSt r l hb := hSt.eq (hbs r (by omega)) (hbs (r + 1) (by omega))
    have hb300 : hb 300 = none := hbI.2.2.2
    refine j_iload_n dL_run_2 rfl rfl ?_
    refine j_aload_n dL_run_3 rfl rfl ?_
    refine j_callVF (ct_length (.inr hSb)) dL_run_4 jc_L_99 jmV_J0_length_8abf5 rfl (pNw.of rfl) rfl (pRc.t (.inr hSb) (pNw.of rfl)) rfl (by simp) jfr_nil (Nat.le_of_ble_eq_true rfl) ⟨Nat.le_of_ble_eq_true rfl, Nat.le_of_ble_eq_true rfl⟩ (show nc2 + 0 ≤ 70 ∧ ns2 + 0 ≤ 420 by omega) (fun r h1 hp9 => ?_) (fun E h9 q => q.elim)
    obtain ⟨rfl, rfl⟩ := hp9
    refine j_icmp_ge (tgt := 34) dL_run_7 (by decide) (by omega) (fun c7 => ?_) (fun c7 => ?_)
    · refine j_aload_n dL_run_34 rfl rfl ?_
      have hil : i = (l.length : Int) := by omega
      refine j_callSW (l_runs hbI (by omega) hB) dL_run_35 jc_L_112 jmS_L_runs (fun q => by cases q) rfl rfl (by decide) (jfr_t hr4.1 rfl (jfL_c (.inl rfl) (jfL_c (.inr (.inl rfl)) (jfL_c (.inr (.inr ⟨_, rfl⟩)) (fun _ q => by cases q)))) (fun _ q => by cases q)) (Nat.le_of_ble_eq_true rfl) ⟨Nat.le_of_ble_eq_true rfl, Nat.le_of_ble_eq_true rfl⟩ (show nc2 + 0 + 1 ≤ 70 ∧ ns2 + 0 + 6 ≤ 420 by omega) (fun r hz hp9 => ?_)
      obtain ⟨hs9, hq9⟩ := hp9
      rcases hq9 with ⟨v9, K9, rfl, hv9, hC9⟩ | ⟨v9, rfl, hv9, hC9⟩
      · subst hZ
        exact j_ireturn dL_run_38 rfl rfl ⟨fun j j0 => (hs9 j j0).trans (hbs j j0), .inl ⟨v9, K9, rfl, hv9, hC9⟩⟩ (show nc2 + 0 + 1 ≤ 70 by omega) (show ns2 + 0 + 6 ≤ 420 by omega)
      · subst hZ
        exact j_ireturn dL_run_38 rfl rfl ⟨fun j j0 => (hs9 j j0).trans (hbs j j0), .inr ⟨v9, rfl, by omega, hC9⟩⟩ (show nc2 + 0 + 1 ≤ 70 by omega) (show ns2 + 0 + 6 ≤ 420 by omega)
    · have htc := t_ch hSb (i := i) (by omega)
      refine j_aload_n dL_run_10 rfl rfl ?_
      refine j_aload_n dL_run_11 rfl rfl ?_
      refine j_iload_n dL_run_12 rfl rfl ?_
      refine j_callVF (t_charAt hSb (i := i) (by omega) (by omega) hb300 hr4.1) dL_run_13 jc_L_104 jmV_J0_charAt_5068e rfl (pNw.of rfl) rfl (pRc.t (.inr hSb) (pNw.of rfl)) rfl (by decide) (jfr_z hr4.1 (jfL_c (.inl rfl) (jfL_c (.inr (.inl rfl)) (jfL_c (.inr (.inr ⟨_, rfl⟩)) (fun _ q => by cases q))))) (Nat.le_of_ble_eq_true rfl) ⟨Nat.le_of_ble_eq_true rfl, Nat.le_of_ble_eq_true rfl⟩ (show nc2 + 0 + 0 ≤ 70 ∧ ns2 + 0 + 0 ≤ 420 by omega) (fun r h2 hp9 => ?_) (fun E h9 q => q.elim)
      obtain ⟨rfl, rfl⟩ := hp9
      refine j_callSW (l_append hbI (by omega) (t_ch hSb (by omega))) dL_run_16 jc_L_107 jmS_L_append (fun q => by cases q) rfl rfl (by decide) (jfr_t hr4.1 rfl (jfL_c (.inl rfl) (jfL_c (.inr (.inl rfl)) (jfL_c (.inr (.inr ⟨_, rfl⟩)) (fun _ q => by cases q)))) (fun _ q => by cases q)) (Nat.le_of_ble_eq_true rfl) ⟨Nat.le_of_ble_eq_true rfl, Nat.le_of_ble_eq_true rfl⟩ (show nc2 + 0 + 0 + 1 ≤ 70 ∧ ns2 + 0 + 0 + 6 ≤ 420 by omega) (fun r h3 hp9 => ?_)
      obtain ⟨rfl, hI2, hs2⟩ := hp9
      refine j_iload_n dL_run_19 rfl rfl ?_
      refine j_iconst dL_run_20 ?_
      refine j_iadd dL_run_21 ?_
      refine j_icmp_eq (tgt := 28) dL_run_22 (by decide) (by omega) (fun c22 => ?_) (fun c22 => (False.elim (by omega)))
      refine j_iinc (L' := [(0, _), (1, _), (2, _)]) dL_run_28 rfl (Nat.le_of_ble_eq_true rfl) rfl ?_
      refine j_goto (tgt := 2) dL_run_31 (by decide) ?_
      refine ih2 (i + 1, h3, nc2 + 0 + 0 + 1, ns2 + 0 + 0 + 6) ?_ ?_
      · dsimp only
        exact ⟨by omega, hI2, fun j j0 => (hs2 j j0).trans (hbs j j0), by omega, by omega⟩
      · dsimp only
        omega
  · dsimp only
    exact ⟨by omega, hC.I, fun j _ => rfl, by omega, by omega⟩
