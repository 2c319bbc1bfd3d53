/-! THE LAW'S WRAPPERS: each calls the class, or tells a number for what was thrown -/
def wQ (Pn : jPn) (Px : jPx) (es : List (Int × String)) : jPn := fun r h' => Pn r h' ∨ ∃ k E, r = some (iv k) ∧ (k, E) ∈ es ∧ Px E h'
set_option maxHeartbeats 2000000 in
theorem w_found {h : jH} {fs : List Value} {Pn : jPn} {Px : jPx} (hM : jM mX4_found 9 1 6 [] [.ref 0] h Pn Px) (h0 : h 0 = some (jO 4 fs)) (hn : ∀ r h', Pn r h' → ∃ x, r = some (iv x)) (hx : ∀ E h', Px E h' → h' 300 = none ∧ (E = "java/lang/UnsupportedOperationException")) : jM mL_found 10 1 6 [300] [.ref 0] h (wQ Pn Px [(-2, "java/lang/UnsupportedOperationException")]) jno := by
  refine j_methodH (by decide +kernel) (fun q => by cases q) (fun _ _ _ => trivial) (Nat.le_of_ble_eq_true rfl) ?_
  generalize hZ : jZ [300] 1 6 _ _ = Z
  show J mL_found (jR 10 1 6) [300] Z 0 [(0, .ref 0)] [] h 0 0
  refine j_aload_n dL_found_0 rfl rfl ?_
  refine j_callV hM dL_found_1 jc_L_8 jmV_X4_found rfl rfl h0 rfl rfl (by simp) (jfr_of rfl rfl) (Nat.le_of_ble_eq_true rfl) ⟨Nat.le_of_ble_eq_true rfl, Nat.le_of_ble_eq_true rfl⟩ ⟨Nat.le_of_ble_eq_true rfl, Nat.le_of_ble_eq_true rfl⟩ (fun r h1 hp9 => ?_) (fun E h1 hp9 => ?_)
  · obtain ⟨x, rfl⟩ := hn r h1 hp9
    show J mL_found _ _ _ 4 _ (iv x :: []) _ _ _
    subst hZ
    exact j_ireturn dL_found_4 rfl rfl (.inl hp9) (Nat.le_of_ble_eq_true rfl) (Nat.le_of_ble_eq_true rfl)
  · obtain ⟨g, hE⟩ := hx E h1 hp9
    subst hE
    refine j_catch (e9 := 300) (i9 := 0) (pre := []) (suf := []) (a := 0) (b := 4) (g := 5) (ct := 14) rfl (fun q hq => by cases hq) ⟨by decide, by decide⟩ (by decide) (jw_mem 391 (by decide +kernel) (by decide +kernel)) (by decide +kernel) g (by decide) (jfr_of rfl rfl) ?_
    refine j_astore_n (L' := [(0, _), (1, _)]) dL_found_5 rfl (by decide) rfl ?_
    refine j_bipush dL_found_6 (by decide +kernel) ?_
    subst hZ
    exact j_ireturn dL_found_8 rfl rfl (.inr ⟨-2, _, rfl, (.head _), hp9⟩) (Nat.le_of_ble_eq_true rfl) (Nat.le_of_ble_eq_true rfl)
set_option maxHeartbeats 2000000 in
theorem w_born {h : jH} {fs : List Value} {Pn : jPn} {Px : jPx} {p : Int} (hM : jM mX4_born 9 1 6 [] [.ref 0, iv p] h Pn Px) (h0 : h 0 = some (jO 4 fs)) (hn : ∀ r h', Pn r h' → ∃ x, r = some (iv x)) (hx : ∀ E h', Px E h' → h' 300 = none ∧ (E = "java/lang/IndexOutOfBoundsException" ∨ E = "java/lang/UnsupportedOperationException")) : jM mL_born 10 1 6 [300] [.ref 0, iv p] h (wQ Pn Px [(-1, "java/lang/IndexOutOfBoundsException"), (-2, "java/lang/UnsupportedOperationException")]) jno := by
  refine j_methodH (by decide +kernel) (fun q => by cases q) (fun _ _ _ => trivial) (Nat.le_of_ble_eq_true rfl) ?_
  generalize hZ : jZ [300] 1 6 _ _ = Z
  show J mL_born (jR 10 1 6) [300] Z 0 [(0, .ref 0), (1, iv p)] [] h 0 0
  refine j_aload_n dL_born_0 rfl rfl ?_
  refine j_iload_n dL_born_1 rfl rfl ?_
  refine j_callV hM dL_born_2 jc_L_16 jmV_X4_born rfl rfl h0 rfl rfl (by simp) (jfr_of rfl rfl) (Nat.le_of_ble_eq_true rfl) ⟨Nat.le_of_ble_eq_true rfl, Nat.le_of_ble_eq_true rfl⟩ ⟨Nat.le_of_ble_eq_true rfl, Nat.le_of_ble_eq_true rfl⟩ (fun r h1 hp9 => ?_) (fun E h1 hp9 => ?_)
  · obtain ⟨x, rfl⟩ := hn r h1 hp9
    show J mL_born _ _ _ 5 _ (iv x :: []) _ _ _
    subst hZ
    exact j_ireturn dL_born_5 rfl rfl (.inl hp9) (Nat.le_of_ble_eq_true rfl) (Nat.le_of_ble_eq_true rfl)
  · obtain ⟨g, hE⟩ := hx E h1 hp9
    rcases hE with rfl | rfl
    · refine j_catch (e9 := 300) (i9 := 0) (pre := []) (suf := [(0, 5, 9, 14)]) (a := 0) (b := 5) (g := 6) (ct := 20) rfl (fun q hq => by cases hq) ⟨by decide, by decide⟩ (by decide) (jw_mem 655 (by decide +kernel) (by decide +kernel)) (by decide +kernel) g (by decide) (jfr_of rfl rfl) ?_
      refine j_astore_n (L' := [(0, _), (1, _), (2, _)]) dL_born_6 rfl (by decide) rfl ?_
      refine j_iconst dL_born_7 ?_
      subst hZ
      exact j_ireturn dL_born_8 rfl rfl (.inr ⟨-1, _, rfl, (.head _), hp9⟩) (Nat.le_of_ble_eq_true rfl) (Nat.le_of_ble_eq_true rfl)
    · refine j_catch (e9 := 300) (i9 := 0) (pre := [(0, 5, 6, 20)]) (suf := []) (a := 0) (b := 5) (g := 9) (ct := 14) rfl (fun q hq => by rw [List.mem_singleton.mp hq]; exact ⟨by decide, "java/lang/IndexOutOfBoundsException", (jw_mem 655 (by decide +kernel) (by decide +kernel)), by decide +kernel⟩) ⟨by decide, by decide⟩ (by decide) (jw_mem 391 (by decide +kernel) (by decide +kernel)) (by decide +kernel) g (by decide) (jfr_of rfl rfl) ?_
      refine j_astore_n (L' := [(0, _), (1, _), (2, _)]) dL_born_9 rfl (by decide) rfl ?_
      refine j_bipush dL_born_10 (by decide +kernel) ?_
      subst hZ
      exact j_ireturn dL_born_12 rfl rfl (.inr ⟨-2, _, rfl, (.tail _ (.head _)), hp9⟩) (Nat.le_of_ble_eq_true rfl) (Nat.le_of_ble_eq_true rfl)
set_option maxHeartbeats 2000000 in
theorem w_graft {h : jH} {fs : List Value} {Pn : jPn} {Px : jPx} {p o : Int} (hM : jM mX4_graft 9 1 6 [] [.ref 0, iv p, iv o] h Pn Px) (h0 : h 0 = some (jO 4 fs)) (hn : ∀ r h', Pn r h' → ∃ x, r = some (iv x)) (hx : ∀ E h', Px E h' → h' 300 = none ∧ (E = "java/lang/IndexOutOfBoundsException" ∨ E = "java/lang/UnsupportedOperationException")) : jM mL_graft 10 1 6 [300] [.ref 0, iv p, iv o] h (wQ Pn Px [(-1, "java/lang/IndexOutOfBoundsException"), (-2, "java/lang/UnsupportedOperationException")]) jno := by
  refine j_methodH (by decide +kernel) (fun q => by cases q) (fun _ _ _ => trivial) (Nat.le_of_ble_eq_true rfl) ?_
  generalize hZ : jZ [300] 1 6 _ _ = Z
  show J mL_graft (jR 10 1 6) [300] Z 0 [(0, .ref 0), (1, iv p), (2, iv o)] [] h 0 0
  refine j_aload_n dL_graft_0 rfl rfl ?_
  refine j_iload_n dL_graft_1 rfl rfl ?_
  refine j_iload_n dL_graft_2 rfl rfl ?_
  refine j_callV hM dL_graft_3 jc_L_22 jmV_X4_graft rfl rfl h0 rfl rfl (by simp) (jfr_of rfl rfl) (Nat.le_of_ble_eq_true rfl) ⟨Nat.le_of_ble_eq_true rfl, Nat.le_of_ble_eq_true rfl⟩ ⟨Nat.le_of_ble_eq_true rfl, Nat.le_of_ble_eq_true rfl⟩ (fun r h1 hp9 => ?_) (fun E h1 hp9 => ?_)
  · obtain ⟨x, rfl⟩ := hn r h1 hp9
    show J mL_graft _ _ _ 6 _ (iv x :: []) _ _ _
    subst hZ
    exact j_ireturn dL_graft_6 rfl rfl (.inl hp9) (Nat.le_of_ble_eq_true rfl) (Nat.le_of_ble_eq_true rfl)
  · obtain ⟨g, hE⟩ := hx E h1 hp9
    rcases hE with rfl | rfl
    · refine j_catch (e9 := 300) (i9 := 0) (pre := []) (suf := [(0, 6, 10, 14)]) (a := 0) (b := 6) (g := 7) (ct := 20) rfl (fun q hq => by cases hq) ⟨by decide, by decide⟩ (by decide) (jw_mem 655 (by decide +kernel) (by decide +kernel)) (by decide +kernel) g (by decide) (jfr_of rfl rfl) ?_
      refine j_astore_n (L' := [(0, _), (1, _), (2, _), (3, _)]) dL_graft_7 rfl (by decide) rfl ?_
      refine j_iconst dL_graft_8 ?_
      subst hZ
      exact j_ireturn dL_graft_9 rfl rfl (.inr ⟨-1, _, rfl, (.head _), hp9⟩) (Nat.le_of_ble_eq_true rfl) (Nat.le_of_ble_eq_true rfl)
    · refine j_catch (e9 := 300) (i9 := 0) (pre := [(0, 6, 7, 20)]) (suf := []) (a := 0) (b := 6) (g := 10) (ct := 14) rfl (fun q hq => by rw [List.mem_singleton.mp hq]; exact ⟨by decide, "java/lang/IndexOutOfBoundsException", (jw_mem 655 (by decide +kernel) (by decide +kernel)), by decide +kernel⟩) ⟨by decide, by decide⟩ (by decide) (jw_mem 391 (by decide +kernel) (by decide +kernel)) (by decide +kernel) g (by decide) (jfr_of rfl rfl) ?_
      refine j_astore_n (L' := [(0, _), (1, _), (2, _), (3, _)]) dL_graft_10 rfl (by decide) rfl ?_
      refine j_bipush dL_graft_11 (by decide +kernel) ?_
      subst hZ
      exact j_ireturn dL_graft_13 rfl rfl (.inr ⟨-2, _, rfl, (.tail _ (.head _)), hp9⟩) (Nat.le_of_ble_eq_true rfl) (Nat.le_of_ble_eq_true rfl)
set_option maxHeartbeats 2000000 in
theorem w_cut {h : jH} {fs : List Value} {Pn : jPn} {Px : jPx} {p : Int} (hM : jM mX4_cut 9 1 6 [] [.ref 0, iv p] h Pn Px) (h0 : h 0 = some (jO 4 fs)) (hn : ∀ r h', Pn r h' → ∃ x, r = some (iv x)) (hx : ∀ E h', Px E h' → h' 300 = none ∧ (E = "java/lang/IndexOutOfBoundsException" ∨ E = "java/lang/UnsupportedOperationException")) : jM mL_cut 10 1 6 [300] [.ref 0, iv p] h (wQ Pn Px [(-1, "java/lang/IndexOutOfBoundsException"), (-2, "java/lang/UnsupportedOperationException")]) jno := by
  refine j_methodH (by decide +kernel) (fun q => by cases q) (fun _ _ _ => trivial) (Nat.le_of_ble_eq_true rfl) ?_
  generalize hZ : jZ [300] 1 6 _ _ = Z
  show J mL_cut (jR 10 1 6) [300] Z 0 [(0, .ref 0), (1, iv p)] [] h 0 0
  refine j_aload_n dL_cut_0 rfl rfl ?_
  refine j_iload_n dL_cut_1 rfl rfl ?_
  refine j_callV hM dL_cut_2 jc_L_26 jmV_X4_cut rfl rfl h0 rfl rfl (by simp) (jfr_of rfl rfl) (Nat.le_of_ble_eq_true rfl) ⟨Nat.le_of_ble_eq_true rfl, Nat.le_of_ble_eq_true rfl⟩ ⟨Nat.le_of_ble_eq_true rfl, Nat.le_of_ble_eq_true rfl⟩ (fun r h1 hp9 => ?_) (fun E h1 hp9 => ?_)
  · obtain ⟨x, rfl⟩ := hn r h1 hp9
    show J mL_cut _ _ _ 5 _ (iv x :: []) _ _ _
    subst hZ
    exact j_ireturn dL_cut_5 rfl rfl (.inl hp9) (Nat.le_of_ble_eq_true rfl) (Nat.le_of_ble_eq_true rfl)
  · obtain ⟨g, hE⟩ := hx E h1 hp9
    rcases hE with rfl | rfl
    · refine j_catch (e9 := 300) (i9 := 0) (pre := []) (suf := [(0, 5, 9, 14)]) (a := 0) (b := 5) (g := 6) (ct := 20) rfl (fun q hq => by cases hq) ⟨by decide, by decide⟩ (by decide) (jw_mem 655 (by decide +kernel) (by decide +kernel)) (by decide +kernel) g (by decide) (jfr_of rfl rfl) ?_
      refine j_astore_n (L' := [(0, _), (1, _), (2, _)]) dL_cut_6 rfl (by decide) rfl ?_
      refine j_iconst dL_cut_7 ?_
      subst hZ
      exact j_ireturn dL_cut_8 rfl rfl (.inr ⟨-1, _, rfl, (.head _), hp9⟩) (Nat.le_of_ble_eq_true rfl) (Nat.le_of_ble_eq_true rfl)
    · refine j_catch (e9 := 300) (i9 := 0) (pre := [(0, 5, 6, 20)]) (suf := []) (a := 0) (b := 5) (g := 9) (ct := 14) rfl (fun q hq => by rw [List.mem_singleton.mp hq]; exact ⟨by decide, "java/lang/IndexOutOfBoundsException", (jw_mem 655 (by decide +kernel) (by decide +kernel)), by decide +kernel⟩) ⟨by decide, by decide⟩ (by decide) (jw_mem 391 (by decide +kernel) (by decide +kernel)) (by decide +kernel) g (by decide) (jfr_of rfl rfl) ?_
      refine j_astore_n (L' := [(0, _), (1, _), (2, _)]) dL_cut_9 rfl (by decide) rfl ?_
      refine j_bipush dL_cut_10 (by decide +kernel) ?_
      subst hZ
      exact j_ireturn dL_cut_12 rfl rfl (.inr ⟨-2, _, rfl, (.tail _ (.head _)), hp9⟩) (Nat.le_of_ble_eq_true rfl) (Nat.le_of_ble_eq_true rfl)
set_option maxHeartbeats 2000000 in
theorem w_of {h : jH} {fs : List Value} {Pn : jPn} {Px : jPx} {p w : Int} (hM : jM mX4_personOf 7 2 12 [] [.ref 0, iv p, iv w] h Pn Px) (h0 : h 0 = some (jO 4 fs)) (hn : ∀ r h', Pn r h' → ∃ x, r = some (iv x)) (hx : ∀ E h', Px E h' → h' 300 = none ∧ (E = "java/lang/IndexOutOfBoundsException" ∨ E = "java/lang/IllegalArgumentException")) : jM mL_of 8 2 12 [300] [.ref 0, iv p, iv w] h (wQ Pn Px [(-11, "java/lang/IndexOutOfBoundsException"), (-12, "java/lang/IllegalArgumentException")]) jno := by
  refine j_methodH (by decide +kernel) (fun q => by cases q) (fun _ _ _ => trivial) (Nat.le_of_ble_eq_true rfl) ?_
  generalize hZ : jZ [300] 2 12 _ _ = Z
  show J mL_of (jR 8 2 12) [300] Z 0 [(0, .ref 0), (1, iv p), (2, iv w)] [] h 0 0
  refine j_aload_n dL_of_0 rfl rfl ?_
  refine j_iload_n dL_of_1 rfl rfl ?_
  refine j_iload_n dL_of_2 rfl rfl ?_
  refine j_callV hM dL_of_3 jc_L_29 jmV_X4_personOf rfl rfl h0 rfl rfl (by simp) (jfr_of rfl rfl) (Nat.le_of_ble_eq_true rfl) ⟨Nat.le_of_ble_eq_true rfl, Nat.le_of_ble_eq_true rfl⟩ ⟨Nat.le_of_ble_eq_true rfl, Nat.le_of_ble_eq_true rfl⟩ (fun r h1 hp9 => ?_) (fun E h1 hp9 => ?_)
  · obtain ⟨x, rfl⟩ := hn r h1 hp9
    show J mL_of _ _ _ 6 _ (iv x :: []) _ _ _
    subst hZ
    exact j_ireturn dL_of_6 rfl rfl (.inl hp9) (Nat.le_of_ble_eq_true rfl) (Nat.le_of_ble_eq_true rfl)
  · obtain ⟨g, hE⟩ := hx E h1 hp9
    rcases hE with rfl | rfl
    · refine j_catch (e9 := 300) (i9 := 0) (pre := []) (suf := [(0, 6, 11, 32)]) (a := 0) (b := 6) (g := 7) (ct := 20) rfl (fun q hq => by cases hq) ⟨by decide, by decide⟩ (by decide) (jw_mem 655 (by decide +kernel) (by decide +kernel)) (by decide +kernel) g (by decide) (jfr_of rfl rfl) ?_
      refine j_astore_n (L' := [(0, _), (1, _), (2, _), (3, _)]) dL_of_7 rfl (by decide) rfl ?_
      refine j_bipush dL_of_8 (by decide +kernel) ?_
      subst hZ
      exact j_ireturn dL_of_10 rfl rfl (.inr ⟨-11, _, rfl, (.head _), hp9⟩) (Nat.le_of_ble_eq_true rfl) (Nat.le_of_ble_eq_true rfl)
    · refine j_catch (e9 := 300) (i9 := 0) (pre := [(0, 6, 7, 20)]) (suf := []) (a := 0) (b := 6) (g := 11) (ct := 32) rfl (fun q hq => by rw [List.mem_singleton.mp hq]; exact ⟨by decide, "java/lang/IndexOutOfBoundsException", (jw_mem 655 (by decide +kernel) (by decide +kernel)), by decide +kernel⟩) ⟨by decide, by decide⟩ (by decide) (jw_mem 718 (by decide +kernel) (by decide +kernel)) (by decide +kernel) g (by decide) (jfr_of rfl rfl) ?_
      refine j_astore_n (L' := [(0, _), (1, _), (2, _), (3, _)]) dL_of_11 rfl (by decide) rfl ?_
      refine j_bipush dL_of_12 (by decide +kernel) ?_
      subst hZ
      exact j_ireturn dL_of_14 rfl rfl (.inr ⟨-12, _, rfl, (.tail _ (.head _)), hp9⟩) (Nat.le_of_ble_eq_true rfl) (Nat.le_of_ble_eq_true rfl)
set_option maxHeartbeats 2000000 in
theorem w_elder {h : jH} {fs : List Value} {Pn : jPn} {Px : jPx} {p e d : Int} (hM : jM mX4_elder 7 2 12 [] [.ref 0, iv p, iv e, iv d] h Pn Px) (h0 : h 0 = some (jO 4 fs)) (hn : ∀ r h', Pn r h' → ∃ x, r = some (iv x)) (hx : ∀ E h', Px E h' → h' 300 = none ∧ (E = "java/lang/IndexOutOfBoundsException" ∨ E = "java/util/NoSuchElementException")) : jM mL_elder 8 2 12 [300] [.ref 0, iv p, iv e, iv d] h (wQ Pn Px [(-11, "java/lang/IndexOutOfBoundsException"), (-13, "java/util/NoSuchElementException")]) jno := by
  refine j_methodH (by decide +kernel) (fun q => by cases q) (fun _ _ _ => trivial) (Nat.le_of_ble_eq_true rfl) ?_
  generalize hZ : jZ [300] 2 12 _ _ = Z
  show J mL_elder (jR 8 2 12) [300] Z 0 [(0, .ref 0), (1, iv p), (2, iv e), (3, iv d)] [] h 0 0
  refine j_aload_n dL_elder_0 rfl rfl ?_
  refine j_iload_n dL_elder_1 rfl rfl ?_
  refine j_iload_n dL_elder_2 rfl rfl ?_
  refine j_iload_n dL_elder_3 rfl rfl ?_
  refine j_callV hM dL_elder_4 jc_L_34 jmV_X4_elder rfl rfl h0 rfl rfl (by simp) (jfr_of rfl rfl) (Nat.le_of_ble_eq_true rfl) ⟨Nat.le_of_ble_eq_true rfl, Nat.le_of_ble_eq_true rfl⟩ ⟨Nat.le_of_ble_eq_true rfl, Nat.le_of_ble_eq_true rfl⟩ (fun r h1 hp9 => ?_) (fun E h1 hp9 => ?_)
  · obtain ⟨x, rfl⟩ := hn r h1 hp9
    show J mL_elder _ _ _ 7 _ (iv x :: []) _ _ _
    subst hZ
    exact j_ireturn dL_elder_7 rfl rfl (.inl hp9) (Nat.le_of_ble_eq_true rfl) (Nat.le_of_ble_eq_true rfl)
  · obtain ⟨g, hE⟩ := hx E h1 hp9
    rcases hE with rfl | rfl
    · refine j_catch (e9 := 300) (i9 := 0) (pre := []) (suf := [(0, 7, 13, 38)]) (a := 0) (b := 7) (g := 8) (ct := 20) rfl (fun q hq => by cases hq) ⟨by decide, by decide⟩ (by decide) (jw_mem 655 (by decide +kernel) (by decide +kernel)) (by decide +kernel) g (by decide) (jfr_of rfl rfl) ?_
      refine j_astore (L' := [(0, _), (1, _), (2, _), (3, _), (4, _)]) dL_elder_8 (by decide) rfl ?_
      refine j_bipush dL_elder_10 (by decide +kernel) ?_
      subst hZ
      exact j_ireturn dL_elder_12 rfl rfl (.inr ⟨-11, _, rfl, (.head _), hp9⟩) (Nat.le_of_ble_eq_true rfl) (Nat.le_of_ble_eq_true rfl)
    · refine j_catch (e9 := 300) (i9 := 0) (pre := [(0, 7, 8, 20)]) (suf := []) (a := 0) (b := 7) (g := 13) (ct := 38) rfl (fun q hq => by rw [List.mem_singleton.mp hq]; exact ⟨by decide, "java/lang/IndexOutOfBoundsException", (jw_mem 655 (by decide +kernel) (by decide +kernel)), by decide +kernel⟩) ⟨by decide, by decide⟩ (by decide) (jw_mem 763 (by decide +kernel) (by decide +kernel)) (by decide +kernel) g (by decide) (jfr_of rfl rfl) ?_
      refine j_astore (L' := [(0, _), (1, _), (2, _), (3, _), (4, _)]) dL_elder_13 (by decide) rfl ?_
      refine j_bipush dL_elder_15 (by decide +kernel) ?_
      subst hZ
      exact j_ireturn dL_elder_17 rfl rfl (.inr ⟨-13, _, rfl, (.tail _ (.head _)), hp9⟩) (Nat.le_of_ble_eq_true rfl) (Nat.le_of_ble_eq_true rfl)
set_option maxHeartbeats 2000000 in
theorem w_common {h : jH} {fs : List Value} {Pn : jPn} {Px : jPx} {p o d : Int} (hM : jM mX4_common 7 3 18 [] [.ref 0, iv p, iv o, iv d] h Pn Px) (h0 : h 0 = some (jO 4 fs)) (hn : ∀ r h', Pn r h' → ∃ x, r = some (iv x)) (hx : ∀ E h', Px E h' → h' 300 = none ∧ (E = "java/lang/IndexOutOfBoundsException" ∨ E = "java/util/NoSuchElementException")) : jM mL_common 8 3 18 [300] [.ref 0, iv p, iv o, iv d] h (wQ Pn Px [(-11, "java/lang/IndexOutOfBoundsException"), (-13, "java/util/NoSuchElementException")]) jno := by
  refine j_methodH (by decide +kernel) (fun q => by cases q) (fun _ _ _ => trivial) (Nat.le_of_ble_eq_true rfl) ?_
  generalize hZ : jZ [300] 3 18 _ _ = Z
  show J mL_common (jR 8 3 18) [300] Z 0 [(0, .ref 0), (1, iv p), (2, iv o), (3, iv d)] [] h 0 0
  refine j_aload_n dL_common_0 rfl rfl ?_
  refine j_iload_n dL_common_1 rfl rfl ?_
  refine j_iload_n dL_common_2 rfl rfl ?_
  refine j_iload_n dL_common_3 rfl rfl ?_
  refine j_callV hM dL_common_4 jc_L_40 jmV_X4_common rfl rfl h0 rfl rfl (by simp) (jfr_of rfl rfl) (Nat.le_of_ble_eq_true rfl) ⟨Nat.le_of_ble_eq_true rfl, Nat.le_of_ble_eq_true rfl⟩ ⟨Nat.le_of_ble_eq_true rfl, Nat.le_of_ble_eq_true rfl⟩ (fun r h1 hp9 => ?_) (fun E h1 hp9 => ?_)
  · obtain ⟨x, rfl⟩ := hn r h1 hp9
    show J mL_common _ _ _ 7 _ (iv x :: []) _ _ _
    subst hZ
    exact j_ireturn dL_common_7 rfl rfl (.inl hp9) (Nat.le_of_ble_eq_true rfl) (Nat.le_of_ble_eq_true rfl)
  · obtain ⟨g, hE⟩ := hx E h1 hp9
    rcases hE with rfl | rfl
    · refine j_catch (e9 := 300) (i9 := 0) (pre := []) (suf := [(0, 7, 13, 38)]) (a := 0) (b := 7) (g := 8) (ct := 20) rfl (fun q hq => by cases hq) ⟨by decide, by decide⟩ (by decide) (jw_mem 655 (by decide +kernel) (by decide +kernel)) (by decide +kernel) g (by decide) (jfr_of rfl rfl) ?_
      refine j_astore (L' := [(0, _), (1, _), (2, _), (3, _), (4, _)]) dL_common_8 (by decide) rfl ?_
      refine j_bipush dL_common_10 (by decide +kernel) ?_
      subst hZ
      exact j_ireturn dL_common_12 rfl rfl (.inr ⟨-11, _, rfl, (.head _), hp9⟩) (Nat.le_of_ble_eq_true rfl) (Nat.le_of_ble_eq_true rfl)
    · refine j_catch (e9 := 300) (i9 := 0) (pre := [(0, 7, 8, 20)]) (suf := []) (a := 0) (b := 7) (g := 13) (ct := 38) rfl (fun q hq => by rw [List.mem_singleton.mp hq]; exact ⟨by decide, "java/lang/IndexOutOfBoundsException", (jw_mem 655 (by decide +kernel) (by decide +kernel)), by decide +kernel⟩) ⟨by decide, by decide⟩ (by decide) (jw_mem 763 (by decide +kernel) (by decide +kernel)) (by decide +kernel) g (by decide) (jfr_of rfl rfl) ?_
      refine j_astore (L' := [(0, _), (1, _), (2, _), (3, _), (4, _)]) dL_common_13 (by decide) rfl ?_
      refine j_bipush dL_common_15 (by decide +kernel) ?_
      subst hZ
      exact j_ireturn dL_common_17 rfl rfl (.inr ⟨-13, _, rfl, (.tail _ (.head _)), hp9⟩) (Nat.le_of_ble_eq_true rfl) (Nat.le_of_ble_eq_true rfl)
set_option maxHeartbeats 2000000 in
theorem w_degree {h : jH} {fs : List Value} {Pn : jPn} {Px : jPx} {p o : Int} (hM : jM mX4_degree 7 3 18 [] [.ref 0, iv p, iv o] h Pn Px) (h0 : h 0 = some (jO 4 fs)) (hn : ∀ r h', Pn r h' → ∃ x, r = some (iv x)) (hx : ∀ E h', Px E h' → h' 300 = none ∧ (E = "java/lang/IndexOutOfBoundsException" ∨ E = "java/util/NoSuchElementException")) : jM mL_degree 8 3 18 [300] [.ref 0, iv p, iv o] h (wQ Pn Px [(-11, "java/lang/IndexOutOfBoundsException"), (-13, "java/util/NoSuchElementException")]) jno := by
  refine j_methodH (by decide +kernel) (fun q => by cases q) (fun _ _ _ => trivial) (Nat.le_of_ble_eq_true rfl) ?_
  generalize hZ : jZ [300] 3 18 _ _ = Z
  show J mL_degree (jR 8 3 18) [300] Z 0 [(0, .ref 0), (1, iv p), (2, iv o)] [] h 0 0
  refine j_aload_n dL_degree_0 rfl rfl ?_
  refine j_iload_n dL_degree_1 rfl rfl ?_
  refine j_iload_n dL_degree_2 rfl rfl ?_
  refine j_callV hM dL_degree_3 jc_L_43 jmV_X4_degree rfl rfl h0 rfl rfl (by simp) (jfr_of rfl rfl) (Nat.le_of_ble_eq_true rfl) ⟨Nat.le_of_ble_eq_true rfl, Nat.le_of_ble_eq_true rfl⟩ ⟨Nat.le_of_ble_eq_true rfl, Nat.le_of_ble_eq_true rfl⟩ (fun r h1 hp9 => ?_) (fun E h1 hp9 => ?_)
  · obtain ⟨x, rfl⟩ := hn r h1 hp9
    show J mL_degree _ _ _ 6 _ (iv x :: []) _ _ _
    subst hZ
    exact j_ireturn dL_degree_6 rfl rfl (.inl hp9) (Nat.le_of_ble_eq_true rfl) (Nat.le_of_ble_eq_true rfl)
  · obtain ⟨g, hE⟩ := hx E h1 hp9
    rcases hE with rfl | rfl
    · refine j_catch (e9 := 300) (i9 := 0) (pre := []) (suf := [(0, 6, 11, 38)]) (a := 0) (b := 6) (g := 7) (ct := 20) rfl (fun q hq => by cases hq) ⟨by decide, by decide⟩ (by decide) (jw_mem 655 (by decide +kernel) (by decide +kernel)) (by decide +kernel) g (by decide) (jfr_of rfl rfl) ?_
      refine j_astore_n (L' := [(0, _), (1, _), (2, _), (3, _)]) dL_degree_7 rfl (by decide) rfl ?_
      refine j_bipush dL_degree_8 (by decide +kernel) ?_
      subst hZ
      exact j_ireturn dL_degree_10 rfl rfl (.inr ⟨-11, _, rfl, (.head _), hp9⟩) (Nat.le_of_ble_eq_true rfl) (Nat.le_of_ble_eq_true rfl)
    · refine j_catch (e9 := 300) (i9 := 0) (pre := [(0, 6, 7, 20)]) (suf := []) (a := 0) (b := 6) (g := 11) (ct := 38) rfl (fun q hq => by rw [List.mem_singleton.mp hq]; exact ⟨by decide, "java/lang/IndexOutOfBoundsException", (jw_mem 655 (by decide +kernel) (by decide +kernel)), by decide +kernel⟩) ⟨by decide, by decide⟩ (by decide) (jw_mem 763 (by decide +kernel) (by decide +kernel)) (by decide +kernel) g (by decide) (jfr_of rfl rfl) ?_
      refine j_astore_n (L' := [(0, _), (1, _), (2, _), (3, _)]) dL_degree_11 rfl (by decide) rfl ?_
      refine j_bipush dL_degree_12 (by decide +kernel) ?_
      subst hZ
      exact j_ireturn dL_degree_14 rfl rfl (.inr ⟨-13, _, rfl, (.tail _ (.head _)), hp9⟩) (Nat.le_of_ble_eq_true rfl) (Nat.le_of_ble_eq_true rfl)
set_option maxHeartbeats 2000000 in
theorem w_leaps {h : jH} {fs : List Value} {Pn : jPn} {Px : jPx} {p e : Int} (hM : jM mX4_leaps 7 2 12 [] [.ref 0, iv p, iv e] h Pn Px) (h0 : h 0 = some (jO 4 fs)) (hn : ∀ r h', Pn r h' → ∃ x, r = some (iv x)) (hx : ∀ E h', Px E h' → h' 300 = none ∧ (E = "java/lang/IndexOutOfBoundsException" ∨ E = "java/util/NoSuchElementException")) : jM mL_leaps 8 2 12 [300] [.ref 0, iv p, iv e] h (wQ Pn Px [(-11, "java/lang/IndexOutOfBoundsException"), (-13, "java/util/NoSuchElementException")]) jno := by
  refine j_methodH (by decide +kernel) (fun q => by cases q) (fun _ _ _ => trivial) (Nat.le_of_ble_eq_true rfl) ?_
  generalize hZ : jZ [300] 2 12 _ _ = Z
  show J mL_leaps (jR 8 2 12) [300] Z 0 [(0, .ref 0), (1, iv p), (2, iv e)] [] h 0 0
  refine j_aload_n dL_leaps_0 rfl rfl ?_
  refine j_iload_n dL_leaps_1 rfl rfl ?_
  refine j_iload_n dL_leaps_2 rfl rfl ?_
  refine j_callV hM dL_leaps_3 jc_L_46 jmV_X4_leaps rfl rfl h0 rfl rfl (by simp) (jfr_of rfl rfl) (Nat.le_of_ble_eq_true rfl) ⟨Nat.le_of_ble_eq_true rfl, Nat.le_of_ble_eq_true rfl⟩ ⟨Nat.le_of_ble_eq_true rfl, Nat.le_of_ble_eq_true rfl⟩ (fun r h1 hp9 => ?_) (fun E h1 hp9 => ?_)
  · obtain ⟨x, rfl⟩ := hn r h1 hp9
    show J mL_leaps _ _ _ 6 _ (iv x :: []) _ _ _
    subst hZ
    exact j_ireturn dL_leaps_6 rfl rfl (.inl hp9) (Nat.le_of_ble_eq_true rfl) (Nat.le_of_ble_eq_true rfl)
  · obtain ⟨g, hE⟩ := hx E h1 hp9
    rcases hE with rfl | rfl
    · refine j_catch (e9 := 300) (i9 := 0) (pre := []) (suf := [(0, 6, 11, 38)]) (a := 0) (b := 6) (g := 7) (ct := 20) rfl (fun q hq => by cases hq) ⟨by decide, by decide⟩ (by decide) (jw_mem 655 (by decide +kernel) (by decide +kernel)) (by decide +kernel) g (by decide) (jfr_of rfl rfl) ?_
      refine j_astore_n (L' := [(0, _), (1, _), (2, _), (3, _)]) dL_leaps_7 rfl (by decide) rfl ?_
      refine j_bipush dL_leaps_8 (by decide +kernel) ?_
      subst hZ
      exact j_ireturn dL_leaps_10 rfl rfl (.inr ⟨-11, _, rfl, (.head _), hp9⟩) (Nat.le_of_ble_eq_true rfl) (Nat.le_of_ble_eq_true rfl)
    · refine j_catch (e9 := 300) (i9 := 0) (pre := [(0, 6, 7, 20)]) (suf := []) (a := 0) (b := 6) (g := 11) (ct := 38) rfl (fun q hq => by rw [List.mem_singleton.mp hq]; exact ⟨by decide, "java/lang/IndexOutOfBoundsException", (jw_mem 655 (by decide +kernel) (by decide +kernel)), by decide +kernel⟩) ⟨by decide, by decide⟩ (by decide) (jw_mem 763 (by decide +kernel) (by decide +kernel)) (by decide +kernel) g (by decide) (jfr_of rfl rfl) ?_
      refine j_astore_n (L' := [(0, _), (1, _), (2, _), (3, _)]) dL_leaps_11 rfl (by decide) rfl ?_
      refine j_bipush dL_leaps_12 (by decide +kernel) ?_
      subst hZ
      exact j_ireturn dL_leaps_14 rfl rfl (.inr ⟨-13, _, rfl, (.tail _ (.head _)), hp9⟩) (Nat.le_of_ble_eq_true rfl) (Nat.le_of_ble_eq_true rfl)
set_option maxHeartbeats 2000000 in
theorem w_farthest {h : jH} {fs : List Value} {Pn : jPn} {Px : jPx} {p : Int} (hM : jM mX4_farthest 7 1 6 [] [.ref 0, iv p] h Pn Px) (h0 : h 0 = some (jO 4 fs)) (hn : ∀ r h', Pn r h' → ∃ x, r = some (iv x)) (hx : ∀ E h', Px E h' → h' 300 = none ∧ (E = "java/lang/IndexOutOfBoundsException")) : jM mL_farthest 8 1 6 [300] [.ref 0, iv p] h (wQ Pn Px [(-11, "java/lang/IndexOutOfBoundsException")]) jno := by
  refine j_methodH (by decide +kernel) (fun q => by cases q) (fun _ _ _ => trivial) (Nat.le_of_ble_eq_true rfl) ?_
  generalize hZ : jZ [300] 1 6 _ _ = Z
  show J mL_farthest (jR 8 1 6) [300] Z 0 [(0, .ref 0), (1, iv p)] [] h 0 0
  refine j_aload_n dL_farthest_0 rfl rfl ?_
  refine j_iload_n dL_farthest_1 rfl rfl ?_
  refine j_callV hM dL_farthest_2 jc_L_49 jmV_X4_farthest rfl rfl h0 rfl rfl (by simp) (jfr_of rfl rfl) (Nat.le_of_ble_eq_true rfl) ⟨Nat.le_of_ble_eq_true rfl, Nat.le_of_ble_eq_true rfl⟩ ⟨Nat.le_of_ble_eq_true rfl, Nat.le_of_ble_eq_true rfl⟩ (fun r h1 hp9 => ?_) (fun E h1 hp9 => ?_)
  · obtain ⟨x, rfl⟩ := hn r h1 hp9
    show J mL_farthest _ _ _ 5 _ (iv x :: []) _ _ _
    subst hZ
    exact j_ireturn dL_farthest_5 rfl rfl (.inl hp9) (Nat.le_of_ble_eq_true rfl) (Nat.le_of_ble_eq_true rfl)
  · obtain ⟨g, hE⟩ := hx E h1 hp9
    subst hE
    refine j_catch (e9 := 300) (i9 := 0) (pre := []) (suf := []) (a := 0) (b := 5) (g := 6) (ct := 20) rfl (fun q hq => by cases hq) ⟨by decide, by decide⟩ (by decide) (jw_mem 655 (by decide +kernel) (by decide +kernel)) (by decide +kernel) g (by decide) (jfr_of rfl rfl) ?_
    refine j_astore_n (L' := [(0, _), (1, _), (2, _)]) dL_farthest_6 rfl (by decide) rfl ?_
    refine j_bipush dL_farthest_7 (by decide +kernel) ?_
    subst hZ
    exact j_ireturn dL_farthest_9 rfl rfl (.inr ⟨-11, _, rfl, (.head _), hp9⟩) (Nat.le_of_ble_eq_true rfl) (Nat.le_of_ble_eq_true rfl)
set_option maxHeartbeats 2000000 in
theorem w_descendant {h : jH} {fs : List Value} {Pn : jPn} {Px : jPx} {p q : Int} (hM : jM mX4_descendant 7 2 12 [] [.ref 0, iv p, iv q] h Pn Px) (h0 : h 0 = some (jO 4 fs)) (hn : ∀ r h', Pn r h' → ∃ x, r = some (iv x)) (hx : ∀ E h', Px E h' → h' 300 = none ∧ (E = "java/lang/IndexOutOfBoundsException" ∨ E = "java/util/NoSuchElementException")) : jM mL_descendant 8 2 12 [300] [.ref 0, iv p, iv q] h (wQ Pn Px [(-11, "java/lang/IndexOutOfBoundsException"), (-13, "java/util/NoSuchElementException")]) jno := by
  refine j_methodH (by decide +kernel) (fun q => by cases q) (fun _ _ _ => trivial) (Nat.le_of_ble_eq_true rfl) ?_
  generalize hZ : jZ [300] 2 12 _ _ = Z
  show J mL_descendant (jR 8 2 12) [300] Z 0 [(0, .ref 0), (1, iv p), (2, iv q)] [] h 0 0
  refine j_aload_n dL_descendant_0 rfl rfl ?_
  refine j_iload_n dL_descendant_1 rfl rfl ?_
  refine j_iload_n dL_descendant_2 rfl rfl ?_
  refine j_callV hM dL_descendant_3 jc_L_52 jmV_X4_descendant rfl rfl h0 rfl rfl (by simp) (jfr_of rfl rfl) (Nat.le_of_ble_eq_true rfl) ⟨Nat.le_of_ble_eq_true rfl, Nat.le_of_ble_eq_true rfl⟩ ⟨Nat.le_of_ble_eq_true rfl, Nat.le_of_ble_eq_true rfl⟩ (fun r h1 hp9 => ?_) (fun E h1 hp9 => ?_)
  · obtain ⟨x, rfl⟩ := hn r h1 hp9
    show J mL_descendant _ _ _ 6 _ (iv x :: []) _ _ _
    subst hZ
    exact j_ireturn dL_descendant_6 rfl rfl (.inl hp9) (Nat.le_of_ble_eq_true rfl) (Nat.le_of_ble_eq_true rfl)
  · obtain ⟨g, hE⟩ := hx E h1 hp9
    rcases hE with rfl | rfl
    · refine j_catch (e9 := 300) (i9 := 0) (pre := []) (suf := [(0, 6, 11, 38)]) (a := 0) (b := 6) (g := 7) (ct := 20) rfl (fun q hq => by cases hq) ⟨by decide, by decide⟩ (by decide) (jw_mem 655 (by decide +kernel) (by decide +kernel)) (by decide +kernel) g (by decide) (jfr_of rfl rfl) ?_
      refine j_astore_n (L' := [(0, _), (1, _), (2, _), (3, _)]) dL_descendant_7 rfl (by decide) rfl ?_
      refine j_bipush dL_descendant_8 (by decide +kernel) ?_
      subst hZ
      exact j_ireturn dL_descendant_10 rfl rfl (.inr ⟨-11, _, rfl, (.head _), hp9⟩) (Nat.le_of_ble_eq_true rfl) (Nat.le_of_ble_eq_true rfl)
    · refine j_catch (e9 := 300) (i9 := 0) (pre := [(0, 6, 7, 20)]) (suf := []) (a := 0) (b := 6) (g := 11) (ct := 38) rfl (fun q hq => by rw [List.mem_singleton.mp hq]; exact ⟨by decide, "java/lang/IndexOutOfBoundsException", (jw_mem 655 (by decide +kernel) (by decide +kernel)), by decide +kernel⟩) ⟨by decide, by decide⟩ (by decide) (jw_mem 763 (by decide +kernel) (by decide +kernel)) (by decide +kernel) g (by decide) (jfr_of rfl rfl) ?_
      refine j_astore_n (L' := [(0, _), (1, _), (2, _), (3, _)]) dL_descendant_11 rfl (by decide) rfl ?_
      refine j_bipush dL_descendant_12 (by decide +kernel) ?_
      subst hZ
      exact j_ireturn dL_descendant_14 rfl rfl (.inr ⟨-13, _, rfl, (.tail _ (.head _)), hp9⟩) (Nat.le_of_ble_eq_true rfl) (Nat.le_of_ble_eq_true rfl)
set_option maxHeartbeats 2000000 in
theorem w_marry {h : jH} {fs : List Value} {Pn : jPn} {Px : jPx} {p o : Int} (hM : jM mX4_marry 9 1 6 [] [.ref 0, iv p, iv o] h Pn Px) (h0 : h 0 = some (jO 4 fs)) (hn : ∀ r h', Pn r h' → ∃ x, r = some (iv x)) (hx : ∀ E h', Px E h' → h' 300 = none ∧ (E = "java/lang/IndexOutOfBoundsException" ∨ E = "java/lang/UnsupportedOperationException")) : jM mL_marry 10 1 6 [300] [.ref 0, iv p, iv o] h (wQ Pn Px [(-1, "java/lang/IndexOutOfBoundsException"), (-2, "java/lang/UnsupportedOperationException")]) jno := by
  refine j_methodH (by decide +kernel) (fun q => by cases q) (fun _ _ _ => trivial) (Nat.le_of_ble_eq_true rfl) ?_
  generalize hZ : jZ [300] 1 6 _ _ = Z
  show J mL_marry (jR 10 1 6) [300] Z 0 [(0, .ref 0), (1, iv p), (2, iv o)] [] h 0 0
  refine j_aload_n dL_marry_0 rfl rfl ?_
  refine j_iload_n dL_marry_1 rfl rfl ?_
  refine j_iload_n dL_marry_2 rfl rfl ?_
  refine j_callV hM dL_marry_3 jc_L_55 jmV_X4_marry rfl rfl h0 rfl rfl (by simp) (jfr_of rfl rfl) (Nat.le_of_ble_eq_true rfl) ⟨Nat.le_of_ble_eq_true rfl, Nat.le_of_ble_eq_true rfl⟩ ⟨Nat.le_of_ble_eq_true rfl, Nat.le_of_ble_eq_true rfl⟩ (fun r h1 hp9 => ?_) (fun E h1 hp9 => ?_)
  · obtain ⟨x, rfl⟩ := hn r h1 hp9
    show J mL_marry _ _ _ 6 _ (iv x :: []) _ _ _
    subst hZ
    exact j_ireturn dL_marry_6 rfl rfl (.inl hp9) (Nat.le_of_ble_eq_true rfl) (Nat.le_of_ble_eq_true rfl)
  · obtain ⟨g, hE⟩ := hx E h1 hp9
    rcases hE with rfl | rfl
    · refine j_catch (e9 := 300) (i9 := 0) (pre := []) (suf := [(0, 6, 10, 14)]) (a := 0) (b := 6) (g := 7) (ct := 20) rfl (fun q hq => by cases hq) ⟨by decide, by decide⟩ (by decide) (jw_mem 655 (by decide +kernel) (by decide +kernel)) (by decide +kernel) g (by decide) (jfr_of rfl rfl) ?_
      refine j_astore_n (L' := [(0, _), (1, _), (2, _), (3, _)]) dL_marry_7 rfl (by decide) rfl ?_
      refine j_iconst dL_marry_8 ?_
      subst hZ
      exact j_ireturn dL_marry_9 rfl rfl (.inr ⟨-1, _, rfl, (.head _), hp9⟩) (Nat.le_of_ble_eq_true rfl) (Nat.le_of_ble_eq_true rfl)
    · refine j_catch (e9 := 300) (i9 := 0) (pre := [(0, 6, 7, 20)]) (suf := []) (a := 0) (b := 6) (g := 10) (ct := 14) rfl (fun q hq => by rw [List.mem_singleton.mp hq]; exact ⟨by decide, "java/lang/IndexOutOfBoundsException", (jw_mem 655 (by decide +kernel) (by decide +kernel)), by decide +kernel⟩) ⟨by decide, by decide⟩ (by decide) (jw_mem 391 (by decide +kernel) (by decide +kernel)) (by decide +kernel) g (by decide) (jfr_of rfl rfl) ?_
      refine j_astore_n (L' := [(0, _), (1, _), (2, _), (3, _)]) dL_marry_10 rfl (by decide) rfl ?_
      refine j_bipush dL_marry_11 (by decide +kernel) ?_
      subst hZ
      exact j_ireturn dL_marry_13 rfl rfl (.inr ⟨-2, _, rfl, (.tail _ (.head _)), hp9⟩) (Nat.le_of_ble_eq_true rfl) (Nat.le_of_ble_eq_true rfl)
set_option maxHeartbeats 2000000 in
theorem w_part {h : jH} {fs : List Value} {Pn : jPn} {Px : jPx} {p : Int} (hM : jM mX4_part 9 1 6 [] [.ref 0, iv p] h Pn Px) (h0 : h 0 = some (jO 4 fs)) (hn : ∀ r h', Pn r h' → ∃ x, r = some (iv x)) (hx : ∀ E h', Px E h' → h' 300 = none ∧ (E = "java/lang/IndexOutOfBoundsException" ∨ E = "java/lang/UnsupportedOperationException")) : jM mL_part 10 1 6 [300] [.ref 0, iv p] h (wQ Pn Px [(-1, "java/lang/IndexOutOfBoundsException"), (-2, "java/lang/UnsupportedOperationException")]) jno := by
  refine j_methodH (by decide +kernel) (fun q => by cases q) (fun _ _ _ => trivial) (Nat.le_of_ble_eq_true rfl) ?_
  generalize hZ : jZ [300] 1 6 _ _ = Z
  show J mL_part (jR 10 1 6) [300] Z 0 [(0, .ref 0), (1, iv p)] [] h 0 0
  refine j_aload_n dL_part_0 rfl rfl ?_
  refine j_iload_n dL_part_1 rfl rfl ?_
  refine j_callV hM dL_part_2 jc_L_58 jmV_X4_part rfl rfl h0 rfl rfl (by simp) (jfr_of rfl rfl) (Nat.le_of_ble_eq_true rfl) ⟨Nat.le_of_ble_eq_true rfl, Nat.le_of_ble_eq_true rfl⟩ ⟨Nat.le_of_ble_eq_true rfl, Nat.le_of_ble_eq_true rfl⟩ (fun r h1 hp9 => ?_) (fun E h1 hp9 => ?_)
  · obtain ⟨x, rfl⟩ := hn r h1 hp9
    show J mL_part _ _ _ 5 _ (iv x :: []) _ _ _
    subst hZ
    exact j_ireturn dL_part_5 rfl rfl (.inl hp9) (Nat.le_of_ble_eq_true rfl) (Nat.le_of_ble_eq_true rfl)
  · obtain ⟨g, hE⟩ := hx E h1 hp9
    rcases hE with rfl | rfl
    · refine j_catch (e9 := 300) (i9 := 0) (pre := []) (suf := [(0, 5, 9, 14)]) (a := 0) (b := 5) (g := 6) (ct := 20) rfl (fun q hq => by cases hq) ⟨by decide, by decide⟩ (by decide) (jw_mem 655 (by decide +kernel) (by decide +kernel)) (by decide +kernel) g (by decide) (jfr_of rfl rfl) ?_
      refine j_astore_n (L' := [(0, _), (1, _), (2, _)]) dL_part_6 rfl (by decide) rfl ?_
      refine j_iconst dL_part_7 ?_
      subst hZ
      exact j_ireturn dL_part_8 rfl rfl (.inr ⟨-1, _, rfl, (.head _), hp9⟩) (Nat.le_of_ble_eq_true rfl) (Nat.le_of_ble_eq_true rfl)
    · refine j_catch (e9 := 300) (i9 := 0) (pre := [(0, 5, 6, 20)]) (suf := []) (a := 0) (b := 5) (g := 9) (ct := 14) rfl (fun q hq => by rw [List.mem_singleton.mp hq]; exact ⟨by decide, "java/lang/IndexOutOfBoundsException", (jw_mem 655 (by decide +kernel) (by decide +kernel)), by decide +kernel⟩) ⟨by decide, by decide⟩ (by decide) (jw_mem 391 (by decide +kernel) (by decide +kernel)) (by decide +kernel) g (by decide) (jfr_of rfl rfl) ?_
      refine j_astore_n (L' := [(0, _), (1, _), (2, _)]) dL_part_9 rfl (by decide) rfl ?_
      refine j_bipush dL_part_10 (by decide +kernel) ?_
      subst hZ
      exact j_ireturn dL_part_12 rfl rfl (.inr ⟨-2, _, rfl, (.tail _ (.head _)), hp9⟩) (Nat.le_of_ble_eq_true rfl) (Nat.le_of_ble_eq_true rfl)
set_option maxHeartbeats 2000000 in
theorem w_quarrel {h : jH} {fs : List Value} {Pn : jPn} {Px : jPx} {p o : Int} (hM : jM mX4_quarrel 9 1 6 [] [.ref 0, iv p, iv o] h Pn Px) (h0 : h 0 = some (jO 4 fs)) (hn : ∀ r h', Pn r h' → ∃ x, r = some (iv x)) (hx : ∀ E h', Px E h' → h' 300 = none ∧ (E = "java/lang/IndexOutOfBoundsException" ∨ E = "java/lang/UnsupportedOperationException")) : jM mL_quarrel 10 1 6 [300] [.ref 0, iv p, iv o] h (wQ Pn Px [(-1, "java/lang/IndexOutOfBoundsException"), (-2, "java/lang/UnsupportedOperationException")]) jno := by
  refine j_methodH (by decide +kernel) (fun q => by cases q) (fun _ _ _ => trivial) (Nat.le_of_ble_eq_true rfl) ?_
  generalize hZ : jZ [300] 1 6 _ _ = Z
  show J mL_quarrel (jR 10 1 6) [300] Z 0 [(0, .ref 0), (1, iv p), (2, iv o)] [] h 0 0
  refine j_aload_n dL_quarrel_0 rfl rfl ?_
  refine j_iload_n dL_quarrel_1 rfl rfl ?_
  refine j_iload_n dL_quarrel_2 rfl rfl ?_
  refine j_callV hM dL_quarrel_3 jc_L_61 jmV_X4_quarrel rfl rfl h0 rfl rfl (by simp) (jfr_of rfl rfl) (Nat.le_of_ble_eq_true rfl) ⟨Nat.le_of_ble_eq_true rfl, Nat.le_of_ble_eq_true rfl⟩ ⟨Nat.le_of_ble_eq_true rfl, Nat.le_of_ble_eq_true rfl⟩ (fun r h1 hp9 => ?_) (fun E h1 hp9 => ?_)
  · obtain ⟨x, rfl⟩ := hn r h1 hp9
    show J mL_quarrel _ _ _ 6 _ (iv x :: []) _ _ _
    subst hZ
    exact j_ireturn dL_quarrel_6 rfl rfl (.inl hp9) (Nat.le_of_ble_eq_true rfl) (Nat.le_of_ble_eq_true rfl)
  · obtain ⟨g, hE⟩ := hx E h1 hp9
    rcases hE with rfl | rfl
    · refine j_catch (e9 := 300) (i9 := 0) (pre := []) (suf := [(0, 6, 10, 14)]) (a := 0) (b := 6) (g := 7) (ct := 20) rfl (fun q hq => by cases hq) ⟨by decide, by decide⟩ (by decide) (jw_mem 655 (by decide +kernel) (by decide +kernel)) (by decide +kernel) g (by decide) (jfr_of rfl rfl) ?_
      refine j_astore_n (L' := [(0, _), (1, _), (2, _), (3, _)]) dL_quarrel_7 rfl (by decide) rfl ?_
      refine j_iconst dL_quarrel_8 ?_
      subst hZ
      exact j_ireturn dL_quarrel_9 rfl rfl (.inr ⟨-1, _, rfl, (.head _), hp9⟩) (Nat.le_of_ble_eq_true rfl) (Nat.le_of_ble_eq_true rfl)
    · refine j_catch (e9 := 300) (i9 := 0) (pre := [(0, 6, 7, 20)]) (suf := []) (a := 0) (b := 6) (g := 10) (ct := 14) rfl (fun q hq => by rw [List.mem_singleton.mp hq]; exact ⟨by decide, "java/lang/IndexOutOfBoundsException", (jw_mem 655 (by decide +kernel) (by decide +kernel)), by decide +kernel⟩) ⟨by decide, by decide⟩ (by decide) (jw_mem 391 (by decide +kernel) (by decide +kernel)) (by decide +kernel) g (by decide) (jfr_of rfl rfl) ?_
      refine j_astore_n (L' := [(0, _), (1, _), (2, _), (3, _)]) dL_quarrel_10 rfl (by decide) rfl ?_
      refine j_bipush dL_quarrel_11 (by decide +kernel) ?_
      subst hZ
      exact j_ireturn dL_quarrel_13 rfl rfl (.inr ⟨-2, _, rfl, (.tail _ (.head _)), hp9⟩) (Nat.le_of_ble_eq_true rfl) (Nat.le_of_ble_eq_true rfl)
set_option maxHeartbeats 2000000 in
theorem w_quarrelAt {h : jH} {fs : List Value} {Pn : jPn} {Px : jPx} {p d : Int} (hM : jM mX4_quarrelAt 6 1 6 [] [.ref 0, iv p, iv d] h Pn Px) (h0 : h 0 = some (jO 4 fs)) (hn : ∀ r h', Pn r h' → ∃ x, r = some (iv x)) (hx : ∀ E h', Px E h' → h' 300 = none ∧ (E = "java/util/NoSuchElementException")) : jM mL_quarrelAt 7 1 6 [300] [.ref 0, iv p, iv d] h (wQ Pn Px [(-13, "java/util/NoSuchElementException")]) jno := by
  refine j_methodH (by decide +kernel) (fun q => by cases q) (fun _ _ _ => trivial) (Nat.le_of_ble_eq_true rfl) ?_
  generalize hZ : jZ [300] 1 6 _ _ = Z
  show J mL_quarrelAt (jR 7 1 6) [300] Z 0 [(0, .ref 0), (1, iv p), (2, iv d)] [] h 0 0
  refine j_aload_n dL_quarrelAt_0 rfl rfl ?_
  refine j_iload_n dL_quarrelAt_1 rfl rfl ?_
  refine j_iload_n dL_quarrelAt_2 rfl rfl ?_
  refine j_callV hM dL_quarrelAt_3 jc_L_64 jmV_X4_quarrelAt rfl rfl h0 rfl rfl (by simp) (jfr_of rfl rfl) (Nat.le_of_ble_eq_true rfl) ⟨Nat.le_of_ble_eq_true rfl, Nat.le_of_ble_eq_true rfl⟩ ⟨Nat.le_of_ble_eq_true rfl, Nat.le_of_ble_eq_true rfl⟩ (fun r h1 hp9 => ?_) (fun E h1 hp9 => ?_)
  · obtain ⟨x, rfl⟩ := hn r h1 hp9
    show J mL_quarrelAt _ _ _ 6 _ (iv x :: []) _ _ _
    subst hZ
    exact j_ireturn dL_quarrelAt_6 rfl rfl (.inl hp9) (Nat.le_of_ble_eq_true rfl) (Nat.le_of_ble_eq_true rfl)
  · obtain ⟨g, hE⟩ := hx E h1 hp9
    subst hE
    refine j_catch (e9 := 300) (i9 := 0) (pre := []) (suf := []) (a := 0) (b := 6) (g := 7) (ct := 38) rfl (fun q hq => by cases hq) ⟨by decide, by decide⟩ (by decide) (jw_mem 763 (by decide +kernel) (by decide +kernel)) (by decide +kernel) g (by decide) (jfr_of rfl rfl) ?_
    refine j_astore_n (L' := [(0, _), (1, _), (2, _), (3, _)]) dL_quarrelAt_7 rfl (by decide) rfl ?_
    refine j_bipush dL_quarrelAt_8 (by decide +kernel) ?_
    subst hZ
    exact j_ireturn dL_quarrelAt_10 rfl rfl (.inr ⟨-13, _, rfl, (.head _), hp9⟩) (Nat.le_of_ble_eq_true rfl) (Nat.le_of_ble_eq_true rfl)
set_option maxHeartbeats 2000000 in
theorem w_give {h : jH} {fs : List Value} {Pn : jPn} {Px : jPx} {p o : Int} (hM : jM mX4_give 9 1 6 [] [.ref 0, iv p, iv o] h Pn Px) (h0 : h 0 = some (jO 4 fs)) (hn : ∀ r h', Pn r h' → ∃ x, r = some (iv x)) (hx : ∀ E h', Px E h' → h' 300 = none ∧ (E = "java/lang/IndexOutOfBoundsException" ∨ E = "java/lang/IllegalArgumentException" ∨ E = "java/lang/UnsupportedOperationException")) : jM mL_give 10 1 6 [300] [.ref 0, iv p, iv o] h (wQ Pn Px [(-1, "java/lang/IndexOutOfBoundsException"), (-2, "java/lang/IllegalArgumentException"), (-3, "java/lang/UnsupportedOperationException")]) jno := by
  refine j_methodH (by decide +kernel) (fun q => by cases q) (fun _ _ _ => trivial) (Nat.le_of_ble_eq_true rfl) ?_
  generalize hZ : jZ [300] 1 6 _ _ = Z
  show J mL_give (jR 10 1 6) [300] Z 0 [(0, .ref 0), (1, iv p), (2, iv o)] [] h 0 0
  refine j_aload_n dL_give_0 rfl rfl ?_
  refine j_iload_n dL_give_1 rfl rfl ?_
  refine j_iload_n dL_give_2 rfl rfl ?_
  refine j_callV hM dL_give_3 jc_L_73 jmV_X4_give rfl rfl h0 rfl rfl (by simp) (jfr_of rfl rfl) (Nat.le_of_ble_eq_true rfl) ⟨Nat.le_of_ble_eq_true rfl, Nat.le_of_ble_eq_true rfl⟩ ⟨Nat.le_of_ble_eq_true rfl, Nat.le_of_ble_eq_true rfl⟩ (fun r h1 hp9 => ?_) (fun E h1 hp9 => ?_)
  · obtain ⟨x, rfl⟩ := hn r h1 hp9
    show J mL_give _ _ _ 6 _ (iv x :: []) _ _ _
    subst hZ
    exact j_ireturn dL_give_6 rfl rfl (.inl hp9) (Nat.le_of_ble_eq_true rfl) (Nat.le_of_ble_eq_true rfl)
  · obtain ⟨g, hE⟩ := hx E h1 hp9
    rcases hE with rfl | rfl | rfl
    · refine j_catch (e9 := 300) (i9 := 0) (pre := []) (suf := [(0, 6, 10, 32), (0, 6, 14, 14)]) (a := 0) (b := 6) (g := 7) (ct := 20) rfl (fun q hq => by cases hq) ⟨by decide, by decide⟩ (by decide) (jw_mem 655 (by decide +kernel) (by decide +kernel)) (by decide +kernel) g (by decide) (jfr_of rfl rfl) ?_
      refine j_astore_n (L' := [(0, _), (1, _), (2, _), (3, _)]) dL_give_7 rfl (by decide) rfl ?_
      refine j_iconst dL_give_8 ?_
      subst hZ
      exact j_ireturn dL_give_9 rfl rfl (.inr ⟨-1, _, rfl, (.head _), hp9⟩) (Nat.le_of_ble_eq_true rfl) (Nat.le_of_ble_eq_true rfl)
    · refine j_catch (e9 := 300) (i9 := 0) (pre := [(0, 6, 7, 20)]) (suf := [(0, 6, 14, 14)]) (a := 0) (b := 6) (g := 10) (ct := 32) rfl (fun q hq => by rw [List.mem_singleton.mp hq]; exact ⟨by decide, "java/lang/IndexOutOfBoundsException", (jw_mem 655 (by decide +kernel) (by decide +kernel)), by decide +kernel⟩) ⟨by decide, by decide⟩ (by decide) (jw_mem 718 (by decide +kernel) (by decide +kernel)) (by decide +kernel) g (by decide) (jfr_of rfl rfl) ?_
      refine j_astore_n (L' := [(0, _), (1, _), (2, _), (3, _)]) dL_give_10 rfl (by decide) rfl ?_
      refine j_bipush dL_give_11 (by decide +kernel) ?_
      subst hZ
      exact j_ireturn dL_give_13 rfl rfl (.inr ⟨-2, _, rfl, (.tail _ (.head _)), hp9⟩) (Nat.le_of_ble_eq_true rfl) (Nat.le_of_ble_eq_true rfl)
    · refine j_catch (e9 := 300) (i9 := 0) (pre := [(0, 6, 7, 20), (0, 6, 10, 32)]) (suf := []) (a := 0) (b := 6) (g := 14) (ct := 14) rfl (fun q hq => by
        rcases List.mem_cons.mp hq with rfl | hq
        · exact ⟨by decide, "java/lang/IndexOutOfBoundsException", (jw_mem 655 (by decide +kernel) (by decide +kernel)), by decide +kernel⟩
        · rw [List.mem_singleton.mp hq]; exact ⟨by decide, "java/lang/IllegalArgumentException", (jw_mem 718 (by decide +kernel) (by decide +kernel)), by decide +kernel⟩) ⟨by decide, by decide⟩ (by decide) (jw_mem 391 (by decide +kernel) (by decide +kernel)) (by decide +kernel) g (by decide) (jfr_of rfl rfl) ?_
      refine j_astore_n (L' := [(0, _), (1, _), (2, _), (3, _)]) dL_give_14 rfl (by decide) rfl ?_
      refine j_bipush dL_give_15 (by decide +kernel) ?_
      subst hZ
      exact j_ireturn dL_give_17 rfl rfl (.inr ⟨-3, _, rfl, (.tail _ (.tail _ (.head _))), hp9⟩) (Nat.le_of_ble_eq_true rfl) (Nat.le_of_ble_eq_true rfl)
set_option maxHeartbeats 2000000 in
theorem w_die {h : jH} {fs : List Value} {Pn : jPn} {Px : jPx} {p : Int} (hM : jM mX4_die 9 1 6 [] [.ref 0, iv p] h Pn Px) (h0 : h 0 = some (jO 4 fs)) (hn : ∀ r h', Pn r h' → ∃ x, r = some (iv x)) (hx : ∀ E h', Px E h' → h' 300 = none ∧ (E = "java/lang/IndexOutOfBoundsException" ∨ E = "java/lang/UnsupportedOperationException")) : jM mL_die 10 1 6 [300] [.ref 0, iv p] h (wQ Pn Px [(-2, "java/lang/IndexOutOfBoundsException"), (-3, "java/lang/UnsupportedOperationException")]) jno := by
  refine j_methodH (by decide +kernel) (fun q => by cases q) (fun _ _ _ => trivial) (Nat.le_of_ble_eq_true rfl) ?_
  generalize hZ : jZ [300] 1 6 _ _ = Z
  show J mL_die (jR 10 1 6) [300] Z 0 [(0, .ref 0), (1, iv p)] [] h 0 0
  refine j_aload_n dL_die_0 rfl rfl ?_
  refine j_iload_n dL_die_1 rfl rfl ?_
  refine j_callV hM dL_die_2 jc_L_76 jmV_X4_die rfl rfl h0 rfl rfl (by simp) (jfr_of rfl rfl) (Nat.le_of_ble_eq_true rfl) ⟨Nat.le_of_ble_eq_true rfl, Nat.le_of_ble_eq_true rfl⟩ ⟨Nat.le_of_ble_eq_true rfl, Nat.le_of_ble_eq_true rfl⟩ (fun r h1 hp9 => ?_) (fun E h1 hp9 => ?_)
  · obtain ⟨x, rfl⟩ := hn r h1 hp9
    show J mL_die _ _ _ 5 _ (iv x :: []) _ _ _
    subst hZ
    exact j_ireturn dL_die_5 rfl rfl (.inl hp9) (Nat.le_of_ble_eq_true rfl) (Nat.le_of_ble_eq_true rfl)
  · obtain ⟨g, hE⟩ := hx E h1 hp9
    rcases hE with rfl | rfl
    · refine j_catch (e9 := 300) (i9 := 0) (pre := []) (suf := [(0, 5, 10, 14)]) (a := 0) (b := 5) (g := 6) (ct := 20) rfl (fun q hq => by cases hq) ⟨by decide, by decide⟩ (by decide) (jw_mem 655 (by decide +kernel) (by decide +kernel)) (by decide +kernel) g (by decide) (jfr_of rfl rfl) ?_
      refine j_astore_n (L' := [(0, _), (1, _), (2, _)]) dL_die_6 rfl (by decide) rfl ?_
      refine j_bipush dL_die_7 (by decide +kernel) ?_
      subst hZ
      exact j_ireturn dL_die_9 rfl rfl (.inr ⟨-2, _, rfl, (.head _), hp9⟩) (Nat.le_of_ble_eq_true rfl) (Nat.le_of_ble_eq_true rfl)
    · refine j_catch (e9 := 300) (i9 := 0) (pre := [(0, 5, 6, 20)]) (suf := []) (a := 0) (b := 5) (g := 10) (ct := 14) rfl (fun q hq => by rw [List.mem_singleton.mp hq]; exact ⟨by decide, "java/lang/IndexOutOfBoundsException", (jw_mem 655 (by decide +kernel) (by decide +kernel)), by decide +kernel⟩) ⟨by decide, by decide⟩ (by decide) (jw_mem 391 (by decide +kernel) (by decide +kernel)) (by decide +kernel) g (by decide) (jfr_of rfl rfl) ?_
      refine j_astore_n (L' := [(0, _), (1, _), (2, _)]) dL_die_10 rfl (by decide) rfl ?_
      refine j_bipush dL_die_11 (by decide +kernel) ?_
      subst hZ
      exact j_ireturn dL_die_13 rfl rfl (.inr ⟨-3, _, rfl, (.tail _ (.head _)), hp9⟩) (Nat.le_of_ble_eq_true rfl) (Nat.le_of_ble_eq_true rfl)
set_option maxHeartbeats 2000000 in
theorem w_heir {h : jH} {fs : List Value} {Pn : jPn} {Px : jPx} {p : Int} (hM : jM mX4_heir 7 2 12 [] [.ref 0, iv p] h Pn Px) (h0 : h 0 = some (jO 4 fs)) (hn : ∀ r h', Pn r h' → ∃ x, r = some (iv x)) (hx : ∀ E h', Px E h' → h' 300 = none ∧ (E = "java/lang/IndexOutOfBoundsException" ∨ E = "java/lang/IllegalStateException")) : jM mL_heir 8 2 12 [300] [.ref 0, iv p] h (wQ Pn Px [(-11, "java/lang/IndexOutOfBoundsException"), (-14, "java/lang/IllegalStateException")]) jno := by
  refine j_methodH (by decide +kernel) (fun q => by cases q) (fun _ _ _ => trivial) (Nat.le_of_ble_eq_true rfl) ?_
  generalize hZ : jZ [300] 2 12 _ _ = Z
  show J mL_heir (jR 8 2 12) [300] Z 0 [(0, .ref 0), (1, iv p)] [] h 0 0
  refine j_aload_n dL_heir_0 rfl rfl ?_
  refine j_iload_n dL_heir_1 rfl rfl ?_
  refine j_callV hM dL_heir_2 jc_L_79 jmV_X4_heir rfl rfl h0 rfl rfl (by simp) (jfr_of rfl rfl) (Nat.le_of_ble_eq_true rfl) ⟨Nat.le_of_ble_eq_true rfl, Nat.le_of_ble_eq_true rfl⟩ ⟨Nat.le_of_ble_eq_true rfl, Nat.le_of_ble_eq_true rfl⟩ (fun r h1 hp9 => ?_) (fun E h1 hp9 => ?_)
  · obtain ⟨x, rfl⟩ := hn r h1 hp9
    show J mL_heir _ _ _ 5 _ (iv x :: []) _ _ _
    subst hZ
    exact j_ireturn dL_heir_5 rfl rfl (.inl hp9) (Nat.le_of_ble_eq_true rfl) (Nat.le_of_ble_eq_true rfl)
  · obtain ⟨g, hE⟩ := hx E h1 hp9
    rcases hE with rfl | rfl
    · refine j_catch (e9 := 300) (i9 := 0) (pre := []) (suf := [(0, 5, 10, 71)]) (a := 0) (b := 5) (g := 6) (ct := 20) rfl (fun q hq => by cases hq) ⟨by decide, by decide⟩ (by decide) (jw_mem 655 (by decide +kernel) (by decide +kernel)) (by decide +kernel) g (by decide) (jfr_of rfl rfl) ?_
      refine j_astore_n (L' := [(0, _), (1, _), (2, _)]) dL_heir_6 rfl (by decide) rfl ?_
      refine j_bipush dL_heir_7 (by decide +kernel) ?_
      subst hZ
      exact j_ireturn dL_heir_9 rfl rfl (.inr ⟨-11, _, rfl, (.head _), hp9⟩) (Nat.le_of_ble_eq_true rfl) (Nat.le_of_ble_eq_true rfl)
    · refine j_catch (e9 := 300) (i9 := 0) (pre := [(0, 5, 6, 20)]) (suf := []) (a := 0) (b := 5) (g := 10) (ct := 71) rfl (fun q hq => by rw [List.mem_singleton.mp hq]; exact ⟨by decide, "java/lang/IndexOutOfBoundsException", (jw_mem 655 (by decide +kernel) (by decide +kernel)), by decide +kernel⟩) ⟨by decide, by decide⟩ (by decide) (jw_mem 863 (by decide +kernel) (by decide +kernel)) (by decide +kernel) g (by decide) (jfr_of rfl rfl) ?_
      refine j_astore_n (L' := [(0, _), (1, _), (2, _)]) dL_heir_10 rfl (by decide) rfl ?_
      refine j_bipush dL_heir_11 (by decide +kernel) ?_
      subst hZ
      exact j_ireturn dL_heir_13 rfl rfl (.inr ⟨-14, _, rfl, (.tail _ (.head _)), hp9⟩) (Nat.le_of_ble_eq_true rfl) (Nat.le_of_ble_eq_true rfl)
set_option maxHeartbeats 2000000 in
theorem w_ranked {h : jH} {fs : List Value} {Pn : jPn} {Px : jPx} {q : Int} (hM : jM mX4_ranked 6 1 6 [] [.ref 0, iv q] h Pn Px) (h0 : h 0 = some (jO 4 fs)) (hn : ∀ r h', Pn r h' → ∃ x, r = some (iv x)) (hx : ∀ E h', Px E h' → h' 300 = none ∧ (E = "java/util/NoSuchElementException")) : jM mL_ranked 7 1 6 [300] [.ref 0, iv q] h (wQ Pn Px [(-13, "java/util/NoSuchElementException")]) jno := by
  refine j_methodH (by decide +kernel) (fun q => by cases q) (fun _ _ _ => trivial) (Nat.le_of_ble_eq_true rfl) ?_
  generalize hZ : jZ [300] 1 6 _ _ = Z
  show J mL_ranked (jR 7 1 6) [300] Z 0 [(0, .ref 0), (1, iv q)] [] h 0 0
  refine j_aload_n dL_ranked_0 rfl rfl ?_
  refine j_iload_n dL_ranked_1 rfl rfl ?_
  refine j_callV hM dL_ranked_2 jc_L_82 jmV_X4_ranked rfl rfl h0 rfl rfl (by simp) (jfr_of rfl rfl) (Nat.le_of_ble_eq_true rfl) ⟨Nat.le_of_ble_eq_true rfl, Nat.le_of_ble_eq_true rfl⟩ ⟨Nat.le_of_ble_eq_true rfl, Nat.le_of_ble_eq_true rfl⟩ (fun r h1 hp9 => ?_) (fun E h1 hp9 => ?_)
  · obtain ⟨x, rfl⟩ := hn r h1 hp9
    show J mL_ranked _ _ _ 5 _ (iv x :: []) _ _ _
    subst hZ
    exact j_ireturn dL_ranked_5 rfl rfl (.inl hp9) (Nat.le_of_ble_eq_true rfl) (Nat.le_of_ble_eq_true rfl)
  · obtain ⟨g, hE⟩ := hx E h1 hp9
    subst hE
    refine j_catch (e9 := 300) (i9 := 0) (pre := []) (suf := []) (a := 0) (b := 5) (g := 6) (ct := 38) rfl (fun q hq => by cases hq) ⟨by decide, by decide⟩ (by decide) (jw_mem 763 (by decide +kernel) (by decide +kernel)) (by decide +kernel) g (by decide) (jfr_of rfl rfl) ?_
    refine j_astore_n (L' := [(0, _), (1, _), (2, _)]) dL_ranked_6 rfl (by decide) rfl ?_
    refine j_bipush dL_ranked_7 (by decide +kernel) ?_
    subst hZ
    exact j_ireturn dL_ranked_9 rfl rfl (.inr ⟨-13, _, rfl, (.head _), hp9⟩) (Nat.le_of_ble_eq_true rfl) (Nat.le_of_ble_eq_true rfl)
set_option maxHeartbeats 2000000 in
theorem w_line {h : jH} {fs : List Value} {Pn : jPn} {Px : jPx} {p : Int} (hM : jM mX4_line 9 11 346 [35] [.ref 0, iv p] h Pn Px) (h0 : h 0 = some (jO 4 fs)) (hn : ∀ r h', Pn r h' → ∃ x, r = some (iv x)) (hx : ∀ E h', Px E h' → h' 300 = none ∧ (E = "java/lang/IndexOutOfBoundsException")) : jM mL_line 10 11 346 [300, 35] [.ref 0, iv p] h (wQ Pn Px [(-11, "java/lang/IndexOutOfBoundsException")]) jno := by
  refine j_methodH (by decide +kernel) (fun q => by cases q) (fun _ _ _ => trivial) (Nat.le_of_ble_eq_true rfl) ?_
  generalize hZ : jZ [300, 35] 11 346 _ _ = Z
  show J mL_line (jR 10 11 346) [300, 35] Z 0 [(0, .ref 0), (1, iv p)] [] h 0 0
  refine j_aload_n dL_line_0 rfl rfl ?_
  refine j_iload_n dL_line_1 rfl rfl ?_
  refine j_callV hM dL_line_2 jc_L_85 jmV_X4_line rfl rfl h0 rfl rfl (by simp) (jfr_of rfl rfl) (Nat.le_of_ble_eq_true rfl) ⟨Nat.le_of_ble_eq_true rfl, Nat.le_of_ble_eq_true rfl⟩ ⟨Nat.le_of_ble_eq_true rfl, Nat.le_of_ble_eq_true rfl⟩ (fun r h1 hp9 => ?_) (fun E h1 hp9 => ?_)
  · obtain ⟨x, rfl⟩ := hn r h1 hp9
    show J mL_line _ _ _ 5 _ (iv x :: []) _ _ _
    subst hZ
    exact j_ireturn dL_line_5 rfl rfl (.inl hp9) (Nat.le_of_ble_eq_true rfl) (Nat.le_of_ble_eq_true rfl)
  · obtain ⟨g, hE⟩ := hx E h1 hp9
    subst hE
    refine j_catch (e9 := 300) (i9 := 0) (pre := []) (suf := []) (a := 0) (b := 5) (g := 6) (ct := 20) rfl (fun q hq => by cases hq) ⟨by decide, by decide⟩ (by decide) (jw_mem 655 (by decide +kernel) (by decide +kernel)) (by decide +kernel) g (by decide) (jfr_of rfl rfl) ?_
    refine j_astore_n (L' := [(0, _), (1, _), (2, _)]) dL_line_6 rfl (by decide) rfl ?_
    refine j_bipush dL_line_7 (by decide +kernel) ?_
    subst hZ
    exact j_ireturn dL_line_9 rfl rfl (.inr ⟨-11, _, rfl, (.head _), hp9⟩) (Nat.le_of_ble_eq_true rfl) (Nat.le_of_ble_eq_true rfl)
set_option maxHeartbeats 2000000 in
theorem w_character {h : jH} {fs : List Value} {Pn : jPn} {Px : jPx} {i : Int} (hM : jM mX4_character 6 1 6 [300] [.ref 0, iv i] h Pn Px) (h0 : h 0 = some (jO 4 fs)) (hn : ∀ r h', Pn r h' → ∃ x, r = some (iv x)) (hx : ∀ E h', Px E h' → h' 300 = none ∧ (E = "java/lang/IndexOutOfBoundsException")) : jM mL_character 7 1 6 [300] [.ref 0, iv i] h (wQ Pn Px [(-11, "java/lang/IndexOutOfBoundsException")]) jno := by
  refine j_methodH (by decide +kernel) (fun q => by cases q) (fun _ _ _ => trivial) (Nat.le_of_ble_eq_true rfl) ?_
  generalize hZ : jZ [300] 1 6 _ _ = Z
  show J mL_character (jR 7 1 6) [300] Z 0 [(0, .ref 0), (1, iv i)] [] h 0 0
  refine j_aload_n dL_character_0 rfl rfl ?_
  refine j_iload_n dL_character_1 rfl rfl ?_
  refine j_callV hM dL_character_2 jc_L_88 jmV_X4_character rfl rfl h0 rfl rfl (by simp) (jfr_of rfl rfl) (Nat.le_of_ble_eq_true rfl) ⟨Nat.le_of_ble_eq_true rfl, Nat.le_of_ble_eq_true rfl⟩ ⟨Nat.le_of_ble_eq_true rfl, Nat.le_of_ble_eq_true rfl⟩ (fun r h1 hp9 => ?_) (fun E h1 hp9 => ?_)
  · obtain ⟨x, rfl⟩ := hn r h1 hp9
    show J mL_character _ _ _ 5 _ (iv x :: []) _ _ _
    subst hZ
    exact j_ireturn dL_character_5 rfl rfl (.inl hp9) (Nat.le_of_ble_eq_true rfl) (Nat.le_of_ble_eq_true rfl)
  · obtain ⟨g, hE⟩ := hx E h1 hp9
    subst hE
    refine j_catch (e9 := 300) (i9 := 0) (pre := []) (suf := []) (a := 0) (b := 5) (g := 6) (ct := 20) rfl (fun q hq => by cases hq) ⟨by decide, by decide⟩ (by decide) (jw_mem 655 (by decide +kernel) (by decide +kernel)) (by decide +kernel) g (by decide) (jfr_of rfl rfl) ?_
    refine j_astore_n (L' := [(0, _), (1, _), (2, _)]) dL_character_6 rfl (by decide) rfl ?_
    refine j_bipush dL_character_7 (by decide +kernel) ?_
    subst hZ
    exact j_ireturn dL_character_9 rfl rfl (.inr ⟨-11, _, rfl, (.head _), hp9⟩) (Nat.le_of_ble_eq_true rfl) (Nat.le_of_ble_eq_true rfl)
set_option maxHeartbeats 2000000 in
theorem w_append {h : jH} {fs : List Value} {Pn : jPn} {Px : jPx} {ch : Int} (hM : jM mX4_append 6 1 6 [] [.ref 0, iv ch] h Pn Px) (h0 : h 0 = some (jO 4 fs)) (hn : ∀ r h', Pn r h' → ∃ x, r = some (iv x)) (hx : ∀ E h', Px E h' → h' 300 = none ∧ (E = "java/lang/IllegalStateException")) : jM mL_append 7 1 6 [300] [.ref 0, iv ch] h (wQ Pn Px [(-1, "java/lang/IllegalStateException")]) jno := by
  refine j_methodH (by decide +kernel) (fun q => by cases q) (fun _ _ _ => trivial) (Nat.le_of_ble_eq_true rfl) ?_
  generalize hZ : jZ [300] 1 6 _ _ = Z
  show J mL_append (jR 7 1 6) [300] Z 0 [(0, .ref 0), (1, iv ch)] [] h 0 0
  refine j_aload_n dL_append_0 rfl rfl ?_
  refine j_iload_n dL_append_1 rfl rfl ?_
  refine j_callV hM dL_append_2 jc_L_92 jmV_X4_append rfl rfl h0 rfl rfl (by simp) (jfr_of rfl rfl) (Nat.le_of_ble_eq_true rfl) ⟨Nat.le_of_ble_eq_true rfl, Nat.le_of_ble_eq_true rfl⟩ ⟨Nat.le_of_ble_eq_true rfl, Nat.le_of_ble_eq_true rfl⟩ (fun r h1 hp9 => ?_) (fun E h1 hp9 => ?_)
  · obtain ⟨x, rfl⟩ := hn r h1 hp9
    show J mL_append _ _ _ 5 _ (iv x :: []) _ _ _
    subst hZ
    exact j_ireturn dL_append_5 rfl rfl (.inl hp9) (Nat.le_of_ble_eq_true rfl) (Nat.le_of_ble_eq_true rfl)
  · obtain ⟨g, hE⟩ := hx E h1 hp9
    subst hE
    refine j_catch (e9 := 300) (i9 := 0) (pre := []) (suf := []) (a := 0) (b := 5) (g := 6) (ct := 71) rfl (fun q hq => by cases hq) ⟨by decide, by decide⟩ (by decide) (jw_mem 863 (by decide +kernel) (by decide +kernel)) (by decide +kernel) g (by decide) (jfr_of rfl rfl) ?_
    refine j_astore_n (L' := [(0, _), (1, _), (2, _)]) dL_append_6 rfl (by decide) rfl ?_
    refine j_iconst dL_append_7 ?_
    subst hZ
    exact j_ireturn dL_append_8 rfl rfl (.inr ⟨-1, _, rfl, (.head _), hp9⟩) (Nat.le_of_ble_eq_true rfl) (Nat.le_of_ble_eq_true rfl)
set_option maxHeartbeats 2000000 in
theorem w_runs {h : jH} {fs : List Value} {Pn : jPn} {Px : jPx} (hM : jM mX4_run 10 1 6 [] [.ref 0] h Pn Px) (h0 : h 0 = some (jO 4 fs)) (hn : ∀ r h', Pn r h' → ∃ x, r = some (iv x)) (hx : ∀ E h', Px E h' → h' 300 = none ∧ (E = "java/lang/IllegalArgumentException" ∨ E = "java/lang/UnsupportedOperationException")) : jM mL_runs 11 1 6 [300] [.ref 0] h (wQ Pn Px [(-1, "java/lang/IllegalArgumentException"), (-2, "java/lang/UnsupportedOperationException")]) jno := by
  refine j_methodH (by decide +kernel) (fun q => by cases q) (fun _ _ _ => trivial) (Nat.le_of_ble_eq_true rfl) ?_
  generalize hZ : jZ [300] 1 6 _ _ = Z
  show J mL_runs (jR 11 1 6) [300] Z 0 [(0, .ref 0)] [] h 0 0
  refine j_aload_n dL_runs_0 rfl rfl ?_
  refine j_callV hM dL_runs_1 jc_L_96 jmV_X4_run rfl rfl h0 rfl rfl (by simp) (jfr_of rfl rfl) (Nat.le_of_ble_eq_true rfl) ⟨Nat.le_of_ble_eq_true rfl, Nat.le_of_ble_eq_true rfl⟩ ⟨Nat.le_of_ble_eq_true rfl, Nat.le_of_ble_eq_true rfl⟩ (fun r h1 hp9 => ?_) (fun E h1 hp9 => ?_)
  · obtain ⟨x, rfl⟩ := hn r h1 hp9
    show J mL_runs _ _ _ 4 _ (iv x :: []) _ _ _
    subst hZ
    exact j_ireturn dL_runs_4 rfl rfl (.inl hp9) (Nat.le_of_ble_eq_true rfl) (Nat.le_of_ble_eq_true rfl)
  · obtain ⟨g, hE⟩ := hx E h1 hp9
    rcases hE with rfl | rfl
    · refine j_catch (e9 := 300) (i9 := 0) (pre := []) (suf := [(0, 4, 8, 14)]) (a := 0) (b := 4) (g := 5) (ct := 32) rfl (fun q hq => by cases hq) ⟨by decide, by decide⟩ (by decide) (jw_mem 718 (by decide +kernel) (by decide +kernel)) (by decide +kernel) g (by decide) (jfr_of rfl rfl) ?_
      refine j_astore_n (L' := [(0, _), (1, _)]) dL_runs_5 rfl (by decide) rfl ?_
      refine j_iconst dL_runs_6 ?_
      subst hZ
      exact j_ireturn dL_runs_7 rfl rfl (.inr ⟨-1, _, rfl, (.head _), hp9⟩) (Nat.le_of_ble_eq_true rfl) (Nat.le_of_ble_eq_true rfl)
    · refine j_catch (e9 := 300) (i9 := 0) (pre := [(0, 4, 5, 32)]) (suf := []) (a := 0) (b := 4) (g := 8) (ct := 14) rfl (fun q hq => by rw [List.mem_singleton.mp hq]; exact ⟨by decide, "java/lang/IllegalArgumentException", (jw_mem 718 (by decide +kernel) (by decide +kernel)), by decide +kernel⟩) ⟨by decide, by decide⟩ (by decide) (jw_mem 391 (by decide +kernel) (by decide +kernel)) (by decide +kernel) g (by decide) (jfr_of rfl rfl) ?_
      refine j_astore_n (L' := [(0, _), (1, _)]) dL_runs_8 rfl (by decide) rfl ?_
      refine j_bipush dL_runs_9 (by decide +kernel) ?_
      subst hZ
      exact j_ireturn dL_runs_11 rfl rfl (.inr ⟨-2, _, rfl, (.tail _ (.head _)), hp9⟩) (Nat.le_of_ble_eq_true rfl) (Nat.le_of_ble_eq_true rfl)
set_option maxHeartbeats 2000000 in
theorem w_undo {h : jH} {fs : List Value} {Pn : jPn} {Px : jPx} (hM : jM mX4_undo 7 1 6 [] [.ref 0] h Pn Px) (h0 : h 0 = some (jO 4 fs)) (hn : ∀ r h', Pn r h' → ∃ x, r = some (iv x)) (hx : ∀ E h', Px E h' → h' 300 = none ∧ (E = "java/lang/IllegalStateException")) : jM mL_undo 8 1 6 [300] [.ref 0] h (wQ Pn Px [(-1, "java/lang/IllegalStateException")]) jno := by
  refine j_methodH (by decide +kernel) (fun q => by cases q) (fun _ _ _ => trivial) (Nat.le_of_ble_eq_true rfl) ?_
  generalize hZ : jZ [300] 1 6 _ _ = Z
  show J mL_undo (jR 8 1 6) [300] Z 0 [(0, .ref 0)] [] h 0 0
  refine j_aload_n dL_undo_0 rfl rfl ?_
  refine j_callV hM dL_undo_1 jc_L_120 jmV_X4_undo rfl rfl h0 rfl rfl (by simp) (jfr_of rfl rfl) (Nat.le_of_ble_eq_true rfl) ⟨Nat.le_of_ble_eq_true rfl, Nat.le_of_ble_eq_true rfl⟩ ⟨Nat.le_of_ble_eq_true rfl, Nat.le_of_ble_eq_true rfl⟩ (fun r h1 hp9 => ?_) (fun E h1 hp9 => ?_)
  · obtain ⟨x, rfl⟩ := hn r h1 hp9
    show J mL_undo _ _ _ 4 _ (iv x :: []) _ _ _
    subst hZ
    exact j_ireturn dL_undo_4 rfl rfl (.inl hp9) (Nat.le_of_ble_eq_true rfl) (Nat.le_of_ble_eq_true rfl)
  · obtain ⟨g, hE⟩ := hx E h1 hp9
    subst hE
    refine j_catch (e9 := 300) (i9 := 0) (pre := []) (suf := []) (a := 0) (b := 4) (g := 5) (ct := 71) rfl (fun q hq => by cases hq) ⟨by decide, by decide⟩ (by decide) (jw_mem 863 (by decide +kernel) (by decide +kernel)) (by decide +kernel) g (by decide) (jfr_of rfl rfl) ?_
    refine j_astore_n (L' := [(0, _), (1, _)]) dL_undo_5 rfl (by decide) rfl ?_
    refine j_iconst dL_undo_6 ?_
    subst hZ
    exact j_ireturn dL_undo_7 rfl rfl (.inr ⟨-1, _, rfl, (.head _), hp9⟩) (Nat.le_of_ble_eq_true rfl) (Nat.le_of_ble_eq_true rfl)
