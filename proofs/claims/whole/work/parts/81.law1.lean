/-! THE LAW'S WRAPPERS -/
/-- a number as an int holds it -/
def nz (x : Int) : Int := (Int32.ofInt x).toInt
theorem nz_r (x : Int) : -2147483648 ≤ nz x ∧ nz x ≤ 2147483647 := by
  have h1 := Int32.le_toInt (Int32.ofInt x)
  have h2 := Int32.toInt_lt (Int32.ofInt x)
  unfold nz
  omega
theorem iv_nz (x : Int) : iv (nz x) = iv x := by
  unfold iv nz
  rw [Int32.ofInt_toInt]
section JL1
variable {M : jMe} {R : Room} {nw : List Nat} {Z : jFin} {pc pc' : Nat} {L L' : List (Nat × Value)} {st st' : List Value} {h h' : jH} {nc ns nc' ns' mc ms : Nat} {Pn : jPn} {Px : jPx}
theorem j_i2lz {x : Int} (hd : decode M.2.1 pc = .ok (.i2l, 1)) (k : J M R nw Z (pc + 1) L (jl (nz x) :: st) h nc ns) : J M R nw Z pc L (iv x :: st) h nc ns := by
  rw [← iv_nz x]
  exact j_i2l hd (nz_r x) k
theorem j_icmp_eqz {x y off : Int} {tgt : Nat} (hd : decode M.2.1 pc = .ok (.if_icmp .eq off, 3)) (ht : (pc : Int) + off = (tgt : Int)) (kt : nz x = nz y → J M R nw Z tgt L st h nc ns) (kf : ¬ (nz x = nz y) → J M R nw Z (pc + 3) L st h nc ns) : J M R nw Z pc L (iv y :: iv x :: st) h nc ns := by
  rw [← iv_nz x, ← iv_nz y]
  have h1 := nz_r x
  have h2 := nz_r y
  exact j_icmp_eq hd ht ⟨h1.1, h1.2, h2.1, h2.2⟩ kt kf
end JL1
/-- a wrapper's end: 0 and the answer in the row at 220, or the number of what was thrown -/
def wP (f : Int → Int) (Pn : jPn) (Px : jPx) (es : List (Int × String)) : jPn := fun r h' => (∃ x h1, r = some (iv 0) ∧ Pn (some (iv x)) h1 ∧ h' = jup h1 220 (jA 4 1 (jfu f 0 (nz x)))) ∨ (∃ k E, r = some (iv k) ∧ (k, E) ∈ es ∧ Px E h')
set_option maxHeartbeats 2000000 in
theorem w_found {h : jH} {fs : List Value} {f : Int → Int} {Pn : jPn} {Px : jPx} (hM : jM mX4_found 9 1 6 [] [.ref 0] h Pn Px) (h0 : h 0 = some (jO 4 fs)) (hn : ∀ r h', Pn r h' → (∃ x, r = some (iv x)) ∧ h' 220 = some (jA 4 1 f)) (hx : ∀ E h', Px E h' → h' 300 = none ∧ (E = "java/lang/UnsupportedOperationException")) : jM mL_found 10 1 6 [300] [.ref 0, .ref 220] h (wP f Pn Px [(1, "java/lang/UnsupportedOperationException")]) jno := by
  refine j_methodH (by decide +kernel) (fun q => by cases q) (fun _ _ _ => trivial) (Nat.le_of_ble_eq_true rfl) ?_
  generalize hZ : jZ [300] 1 6 _ _ = Z
  show J mL_found (jR 10 1 6) [300] Z 0 [(0, .ref 0), (1, .ref 220)] [] h 0 0
  refine j_aload_n dL_found_0 rfl rfl ?_
  refine j_iconst dL_found_1 ?_
  refine j_aload_n dL_found_2 rfl rfl ?_
  refine j_callV hM dL_found_3 jc_L_7 jmV_X4_found rfl rfl h0 rfl rfl (by simp) (jfr_of rfl rfl) (Nat.le_of_ble_eq_true rfl) ⟨Nat.le_of_ble_eq_true rfl, Nat.le_of_ble_eq_true rfl⟩ ⟨Nat.le_of_ble_eq_true rfl, Nat.le_of_ble_eq_true rfl⟩ (fun r h1 hp9 => ?_) (fun E h1 hp9 => ?_)
  · obtain ⟨⟨x, rfl⟩, g⟩ := hn r h1 hp9
    show J mL_found _ _ _ 6 _ (iv x :: iv 0 :: .ref 220 :: []) _ _ _
    refine j_i2lz dL_found_6 ?_
    refine j_lastore dL_found_7 g ⟨by decide, by decide⟩ (by decide) ?_
    refine j_goto (tgt := 14) dL_found_8 (by decide) ?_
    refine j_iconst dL_found_14 ?_
    subst hZ
    exact j_ireturn dL_found_15 rfl rfl (.inl ⟨x, h1, rfl, hp9, rfl⟩) (Nat.le_of_ble_eq_true rfl) (Nat.le_of_ble_eq_true rfl)
  · obtain ⟨g, hE⟩ := hx E h1 hp9
    subst hE
    refine j_catch (e9 := 300) (i9 := 0) (pre := []) (suf := []) (a := 0) (b := 8) (g := 11) (ct := 13) rfl (fun q hq => by cases hq) ⟨by decide, by decide⟩ (by decide) (jw_mem 438 (by decide +kernel) (by decide +kernel)) (by decide +kernel) g (by decide) (jfr_of rfl rfl) ?_
    refine j_astore_n (L' := [(0, _), (1, _), (2, _)]) dL_found_11 rfl (by decide) rfl ?_
    refine j_iconst dL_found_12 ?_
    subst hZ
    exact j_ireturn dL_found_13 rfl rfl (.inr ⟨1, _, rfl, (.head _), hp9⟩) (Nat.le_of_ble_eq_true rfl) (Nat.le_of_ble_eq_true rfl)
set_option maxHeartbeats 2000000 in
theorem w_born {h : jH} {fs : List Value} {f : Int → Int} {Pn : jPn} {Px : jPx} {p : Int} (hM : jM mX4_born 9 1 6 [] [.ref 0, iv p] h Pn Px) (h0 : h 0 = some (jO 4 fs)) (hn : ∀ r h', Pn r h' → (∃ x, r = some (iv x)) ∧ h' 220 = some (jA 4 1 f)) (hx : ∀ E h', Px E h' → h' 300 = none ∧ (E = "java/lang/IndexOutOfBoundsException" ∨ E = "java/lang/UnsupportedOperationException")) : jM mL_born 10 1 6 [300] [.ref 0, iv p, .ref 220] h (wP f Pn Px [(1, "java/lang/IndexOutOfBoundsException"), (2, "java/lang/UnsupportedOperationException")]) jno := by
  refine j_methodH (by decide +kernel) (fun q => by cases q) (fun _ _ _ => trivial) (Nat.le_of_ble_eq_true rfl) ?_
  generalize hZ : jZ [300] 1 6 _ _ = Z
  show J mL_born (jR 10 1 6) [300] Z 0 [(0, .ref 0), (1, iv p), (2, .ref 220)] [] h 0 0
  refine j_aload_n dL_born_0 rfl rfl ?_
  refine j_iconst dL_born_1 ?_
  refine j_aload_n dL_born_2 rfl rfl ?_
  refine j_iload_n dL_born_3 rfl rfl ?_
  refine j_callV hM dL_born_4 jc_L_15 jmV_X4_born rfl rfl h0 rfl rfl (by simp) (jfr_of rfl rfl) (Nat.le_of_ble_eq_true rfl) ⟨Nat.le_of_ble_eq_true rfl, Nat.le_of_ble_eq_true rfl⟩ ⟨Nat.le_of_ble_eq_true rfl, Nat.le_of_ble_eq_true rfl⟩ (fun r h1 hp9 => ?_) (fun E h1 hp9 => ?_)
  · obtain ⟨⟨x, rfl⟩, g⟩ := hn r h1 hp9
    show J mL_born _ _ _ 7 _ (iv x :: iv 0 :: .ref 220 :: []) _ _ _
    refine j_i2lz dL_born_7 ?_
    refine j_lastore dL_born_8 g ⟨by decide, by decide⟩ (by decide) ?_
    refine j_goto (tgt := 18) dL_born_9 (by decide) ?_
    refine j_iconst dL_born_18 ?_
    subst hZ
    exact j_ireturn dL_born_19 rfl rfl (.inl ⟨x, h1, rfl, hp9, rfl⟩) (Nat.le_of_ble_eq_true rfl) (Nat.le_of_ble_eq_true rfl)
  · obtain ⟨g, hE⟩ := hx E h1 hp9
    rcases hE with rfl | rfl
    · refine j_catch (e9 := 300) (i9 := 0) (pre := []) (suf := [(0, 9, 15, 13)]) (a := 0) (b := 9) (g := 12) (ct := 19) rfl (fun q hq => by cases hq) ⟨by decide, by decide⟩ (by decide) (jw_mem 731 (by decide +kernel) (by decide +kernel)) (by decide +kernel) g (by decide) (jfr_of rfl rfl) ?_
      refine j_astore_n (L' := [(0, _), (1, _), (2, _), (3, _)]) dL_born_12 rfl (by decide) rfl ?_
      refine j_iconst dL_born_13 ?_
      subst hZ
      exact j_ireturn dL_born_14 rfl rfl (.inr ⟨1, _, rfl, (.head _), hp9⟩) (Nat.le_of_ble_eq_true rfl) (Nat.le_of_ble_eq_true rfl)
    · refine j_catch (e9 := 300) (i9 := 0) (pre := [(0, 9, 12, 19)]) (suf := []) (a := 0) (b := 9) (g := 15) (ct := 13) rfl (fun q hq => by rw [List.mem_singleton.mp hq]; exact ⟨by decide, "java/lang/IndexOutOfBoundsException", (jw_mem 731 (by decide +kernel) (by decide +kernel)), by decide +kernel⟩) ⟨by decide, by decide⟩ (by decide) (jw_mem 438 (by decide +kernel) (by decide +kernel)) (by decide +kernel) g (by decide) (jfr_of rfl rfl) ?_
      refine j_astore_n (L' := [(0, _), (1, _), (2, _), (3, _)]) dL_born_15 rfl (by decide) rfl ?_
      refine j_iconst dL_born_16 ?_
      subst hZ
      exact j_ireturn dL_born_17 rfl rfl (.inr ⟨2, _, rfl, (.tail _ (.head _)), hp9⟩) (Nat.le_of_ble_eq_true rfl) (Nat.le_of_ble_eq_true rfl)
set_option maxHeartbeats 2000000 in
theorem w_graft {h : jH} {fs : List Value} {f : Int → Int} {Pn : jPn} {Px : jPx} {p o : Int} (hM : jM mX4_graft 9 1 6 [] [.ref 0, iv p, iv o] h Pn Px) (h0 : h 0 = some (jO 4 fs)) (hn : ∀ r h', Pn r h' → (∃ x, r = some (iv x)) ∧ h' 220 = some (jA 4 1 f)) (hx : ∀ E h', Px E h' → h' 300 = none ∧ (E = "java/lang/IndexOutOfBoundsException" ∨ E = "java/lang/UnsupportedOperationException")) : jM mL_graft 10 1 6 [300] [.ref 0, iv p, iv o, .ref 220] h (wP f Pn Px [(1, "java/lang/IndexOutOfBoundsException"), (2, "java/lang/UnsupportedOperationException")]) jno := by
  refine j_methodH (by decide +kernel) (fun q => by cases q) (fun _ _ _ => trivial) (Nat.le_of_ble_eq_true rfl) ?_
  generalize hZ : jZ [300] 1 6 _ _ = Z
  show J mL_graft (jR 10 1 6) [300] Z 0 [(0, .ref 0), (1, iv p), (2, iv o), (3, .ref 220)] [] h 0 0
  refine j_aload_n dL_graft_0 rfl rfl ?_
  refine j_iconst dL_graft_1 ?_
  refine j_aload_n dL_graft_2 rfl rfl ?_
  refine j_iload_n dL_graft_3 rfl rfl ?_
  refine j_iload_n dL_graft_4 rfl rfl ?_
  refine j_callV hM dL_graft_5 jc_L_21 jmV_X4_graft rfl rfl h0 rfl rfl (by simp) (jfr_of rfl rfl) (Nat.le_of_ble_eq_true rfl) ⟨Nat.le_of_ble_eq_true rfl, Nat.le_of_ble_eq_true rfl⟩ ⟨Nat.le_of_ble_eq_true rfl, Nat.le_of_ble_eq_true rfl⟩ (fun r h1 hp9 => ?_) (fun E h1 hp9 => ?_)
  · obtain ⟨⟨x, rfl⟩, g⟩ := hn r h1 hp9
    show J mL_graft _ _ _ 8 _ (iv x :: iv 0 :: .ref 220 :: []) _ _ _
    refine j_i2lz dL_graft_8 ?_
    refine j_lastore dL_graft_9 g ⟨by decide, by decide⟩ (by decide) ?_
    refine j_goto (tgt := 21) dL_graft_10 (by decide) ?_
    refine j_iconst dL_graft_21 ?_
    subst hZ
    exact j_ireturn dL_graft_22 rfl rfl (.inl ⟨x, h1, rfl, hp9, rfl⟩) (Nat.le_of_ble_eq_true rfl) (Nat.le_of_ble_eq_true rfl)
  · obtain ⟨g, hE⟩ := hx E h1 hp9
    rcases hE with rfl | rfl
    · refine j_catch (e9 := 300) (i9 := 0) (pre := []) (suf := [(0, 10, 17, 13)]) (a := 0) (b := 10) (g := 13) (ct := 19) rfl (fun q hq => by cases hq) ⟨by decide, by decide⟩ (by decide) (jw_mem 731 (by decide +kernel) (by decide +kernel)) (by decide +kernel) g (by decide) (jfr_of rfl rfl) ?_
      refine j_astore (L' := [(0, _), (1, _), (2, _), (3, _), (4, _)]) dL_graft_13 (by decide) rfl ?_
      refine j_iconst dL_graft_15 ?_
      subst hZ
      exact j_ireturn dL_graft_16 rfl rfl (.inr ⟨1, _, rfl, (.head _), hp9⟩) (Nat.le_of_ble_eq_true rfl) (Nat.le_of_ble_eq_true rfl)
    · refine j_catch (e9 := 300) (i9 := 0) (pre := [(0, 10, 13, 19)]) (suf := []) (a := 0) (b := 10) (g := 17) (ct := 13) rfl (fun q hq => by rw [List.mem_singleton.mp hq]; exact ⟨by decide, "java/lang/IndexOutOfBoundsException", (jw_mem 731 (by decide +kernel) (by decide +kernel)), by decide +kernel⟩) ⟨by decide, by decide⟩ (by decide) (jw_mem 438 (by decide +kernel) (by decide +kernel)) (by decide +kernel) g (by decide) (jfr_of rfl rfl) ?_
      refine j_astore (L' := [(0, _), (1, _), (2, _), (3, _), (4, _)]) dL_graft_17 (by decide) rfl ?_
      refine j_iconst dL_graft_19 ?_
      subst hZ
      exact j_ireturn dL_graft_20 rfl rfl (.inr ⟨2, _, rfl, (.tail _ (.head _)), hp9⟩) (Nat.le_of_ble_eq_true rfl) (Nat.le_of_ble_eq_true rfl)
set_option maxHeartbeats 2000000 in
theorem w_cut {h : jH} {fs : List Value} {f : Int → Int} {Pn : jPn} {Px : jPx} {p : Int} (hM : jM mX4_cut 9 1 6 [] [.ref 0, iv p] h Pn Px) (h0 : h 0 = some (jO 4 fs)) (hn : ∀ r h', Pn r h' → (∃ x, r = some (iv x)) ∧ h' 220 = some (jA 4 1 f)) (hx : ∀ E h', Px E h' → h' 300 = none ∧ (E = "java/lang/IndexOutOfBoundsException" ∨ E = "java/lang/UnsupportedOperationException")) : jM mL_cut 10 1 6 [300] [.ref 0, iv p, .ref 220] h (wP f Pn Px [(1, "java/lang/IndexOutOfBoundsException"), (2, "java/lang/UnsupportedOperationException")]) jno := by
  refine j_methodH (by decide +kernel) (fun q => by cases q) (fun _ _ _ => trivial) (Nat.le_of_ble_eq_true rfl) ?_
  generalize hZ : jZ [300] 1 6 _ _ = Z
  show J mL_cut (jR 10 1 6) [300] Z 0 [(0, .ref 0), (1, iv p), (2, .ref 220)] [] h 0 0
  refine j_aload_n dL_cut_0 rfl rfl ?_
  refine j_iconst dL_cut_1 ?_
  refine j_aload_n dL_cut_2 rfl rfl ?_
  refine j_iload_n dL_cut_3 rfl rfl ?_
  refine j_callV hM dL_cut_4 jc_L_25 jmV_X4_cut rfl rfl h0 rfl rfl (by simp) (jfr_of rfl rfl) (Nat.le_of_ble_eq_true rfl) ⟨Nat.le_of_ble_eq_true rfl, Nat.le_of_ble_eq_true rfl⟩ ⟨Nat.le_of_ble_eq_true rfl, Nat.le_of_ble_eq_true rfl⟩ (fun r h1 hp9 => ?_) (fun E h1 hp9 => ?_)
  · obtain ⟨⟨x, rfl⟩, g⟩ := hn r h1 hp9
    show J mL_cut _ _ _ 7 _ (iv x :: iv 0 :: .ref 220 :: []) _ _ _
    refine j_i2lz dL_cut_7 ?_
    refine j_lastore dL_cut_8 g ⟨by decide, by decide⟩ (by decide) ?_
    refine j_goto (tgt := 18) dL_cut_9 (by decide) ?_
    refine j_iconst dL_cut_18 ?_
    subst hZ
    exact j_ireturn dL_cut_19 rfl rfl (.inl ⟨x, h1, rfl, hp9, rfl⟩) (Nat.le_of_ble_eq_true rfl) (Nat.le_of_ble_eq_true rfl)
  · obtain ⟨g, hE⟩ := hx E h1 hp9
    rcases hE with rfl | rfl
    · refine j_catch (e9 := 300) (i9 := 0) (pre := []) (suf := [(0, 9, 15, 13)]) (a := 0) (b := 9) (g := 12) (ct := 19) rfl (fun q hq => by cases hq) ⟨by decide, by decide⟩ (by decide) (jw_mem 731 (by decide +kernel) (by decide +kernel)) (by decide +kernel) g (by decide) (jfr_of rfl rfl) ?_
      refine j_astore_n (L' := [(0, _), (1, _), (2, _), (3, _)]) dL_cut_12 rfl (by decide) rfl ?_
      refine j_iconst dL_cut_13 ?_
      subst hZ
      exact j_ireturn dL_cut_14 rfl rfl (.inr ⟨1, _, rfl, (.head _), hp9⟩) (Nat.le_of_ble_eq_true rfl) (Nat.le_of_ble_eq_true rfl)
    · refine j_catch (e9 := 300) (i9 := 0) (pre := [(0, 9, 12, 19)]) (suf := []) (a := 0) (b := 9) (g := 15) (ct := 13) rfl (fun q hq => by rw [List.mem_singleton.mp hq]; exact ⟨by decide, "java/lang/IndexOutOfBoundsException", (jw_mem 731 (by decide +kernel) (by decide +kernel)), by decide +kernel⟩) ⟨by decide, by decide⟩ (by decide) (jw_mem 438 (by decide +kernel) (by decide +kernel)) (by decide +kernel) g (by decide) (jfr_of rfl rfl) ?_
      refine j_astore_n (L' := [(0, _), (1, _), (2, _), (3, _)]) dL_cut_15 rfl (by decide) rfl ?_
      refine j_iconst dL_cut_16 ?_
      subst hZ
      exact j_ireturn dL_cut_17 rfl rfl (.inr ⟨2, _, rfl, (.tail _ (.head _)), hp9⟩) (Nat.le_of_ble_eq_true rfl) (Nat.le_of_ble_eq_true rfl)
set_option maxHeartbeats 2000000 in
theorem w_personOf {h : jH} {fs : List Value} {f : Int → Int} {Pn : jPn} {Px : jPx} {p w : Int} (hM : jM mX4_personOf 7 2 12 [] [.ref 0, iv p, iv w] h Pn Px) (h0 : h 0 = some (jO 4 fs)) (hn : ∀ r h', Pn r h' → (∃ x, r = some (iv x)) ∧ h' 220 = some (jA 4 1 f)) (hx : ∀ E h', Px E h' → h' 300 = none ∧ (E = "java/lang/IndexOutOfBoundsException" ∨ E = "java/lang/IllegalArgumentException")) : jM mL_personOf 8 2 12 [300] [.ref 0, iv p, iv w, .ref 220] h (wP f Pn Px [(1, "java/lang/IndexOutOfBoundsException"), (2, "java/lang/IllegalArgumentException")]) jno := by
  refine j_methodH (by decide +kernel) (fun q => by cases q) (fun _ _ _ => trivial) (Nat.le_of_ble_eq_true rfl) ?_
  generalize hZ : jZ [300] 2 12 _ _ = Z
  show J mL_personOf (jR 8 2 12) [300] Z 0 [(0, .ref 0), (1, iv p), (2, iv w), (3, .ref 220)] [] h 0 0
  refine j_aload_n dL_personOf_0 rfl rfl ?_
  refine j_iconst dL_personOf_1 ?_
  refine j_aload_n dL_personOf_2 rfl rfl ?_
  refine j_iload_n dL_personOf_3 rfl rfl ?_
  refine j_iload_n dL_personOf_4 rfl rfl ?_
  refine j_callV hM dL_personOf_5 jc_L_28 jmV_X4_personOf rfl rfl h0 rfl rfl (by simp) (jfr_of rfl rfl) (Nat.le_of_ble_eq_true rfl) ⟨Nat.le_of_ble_eq_true rfl, Nat.le_of_ble_eq_true rfl⟩ ⟨Nat.le_of_ble_eq_true rfl, Nat.le_of_ble_eq_true rfl⟩ (fun r h1 hp9 => ?_) (fun E h1 hp9 => ?_)
  · obtain ⟨⟨x, rfl⟩, g⟩ := hn r h1 hp9
    show J mL_personOf _ _ _ 8 _ (iv x :: iv 0 :: .ref 220 :: []) _ _ _
    refine j_i2lz dL_personOf_8 ?_
    refine j_lastore dL_personOf_9 g ⟨by decide, by decide⟩ (by decide) ?_
    refine j_goto (tgt := 21) dL_personOf_10 (by decide) ?_
    refine j_iconst dL_personOf_21 ?_
    subst hZ
    exact j_ireturn dL_personOf_22 rfl rfl (.inl ⟨x, h1, rfl, hp9, rfl⟩) (Nat.le_of_ble_eq_true rfl) (Nat.le_of_ble_eq_true rfl)
  · obtain ⟨g, hE⟩ := hx E h1 hp9
    rcases hE with rfl | rfl
    · refine j_catch (e9 := 300) (i9 := 0) (pre := []) (suf := [(0, 10, 17, 31)]) (a := 0) (b := 10) (g := 13) (ct := 19) rfl (fun q hq => by cases hq) ⟨by decide, by decide⟩ (by decide) (jw_mem 731 (by decide +kernel) (by decide +kernel)) (by decide +kernel) g (by decide) (jfr_of rfl rfl) ?_
      refine j_astore (L' := [(0, _), (1, _), (2, _), (3, _), (4, _)]) dL_personOf_13 (by decide) rfl ?_
      refine j_iconst dL_personOf_15 ?_
      subst hZ
      exact j_ireturn dL_personOf_16 rfl rfl (.inr ⟨1, _, rfl, (.head _), hp9⟩) (Nat.le_of_ble_eq_true rfl) (Nat.le_of_ble_eq_true rfl)
    · refine j_catch (e9 := 300) (i9 := 0) (pre := [(0, 10, 13, 19)]) (suf := []) (a := 0) (b := 10) (g := 17) (ct := 31) rfl (fun q hq => by rw [List.mem_singleton.mp hq]; exact ⟨by decide, "java/lang/IndexOutOfBoundsException", (jw_mem 731 (by decide +kernel) (by decide +kernel)), by decide +kernel⟩) ⟨by decide, by decide⟩ (by decide) (jw_mem 773 (by decide +kernel) (by decide +kernel)) (by decide +kernel) g (by decide) (jfr_of rfl rfl) ?_
      refine j_astore (L' := [(0, _), (1, _), (2, _), (3, _), (4, _)]) dL_personOf_17 (by decide) rfl ?_
      refine j_iconst dL_personOf_19 ?_
      subst hZ
      exact j_ireturn dL_personOf_20 rfl rfl (.inr ⟨2, _, rfl, (.tail _ (.head _)), hp9⟩) (Nat.le_of_ble_eq_true rfl) (Nat.le_of_ble_eq_true rfl)
set_option maxHeartbeats 2000000 in
theorem w_elder {h : jH} {fs : List Value} {f : Int → Int} {Pn : jPn} {Px : jPx} {p e d : Int} (hM : jM mX4_elder 7 2 12 [] [.ref 0, iv p, iv e, iv d] h Pn Px) (h0 : h 0 = some (jO 4 fs)) (hn : ∀ r h', Pn r h' → (∃ x, r = some (iv x)) ∧ h' 220 = some (jA 4 1 f)) (hx : ∀ E h', Px E h' → h' 300 = none ∧ (E = "java/lang/IndexOutOfBoundsException" ∨ E = "java/util/NoSuchElementException")) : jM mL_elder 8 2 12 [300] [.ref 0, iv p, iv e, iv d, .ref 220] h (wP f Pn Px [(1, "java/lang/IndexOutOfBoundsException"), (2, "java/util/NoSuchElementException")]) jno := by
  refine j_methodH (by decide +kernel) (fun q => by cases q) (fun _ _ _ => trivial) (Nat.le_of_ble_eq_true rfl) ?_
  generalize hZ : jZ [300] 2 12 _ _ = Z
  show J mL_elder (jR 8 2 12) [300] Z 0 [(0, .ref 0), (1, iv p), (2, iv e), (3, iv d), (4, .ref 220)] [] h 0 0
  refine j_aload dL_elder_0 rfl ?_
  refine j_iconst dL_elder_2 ?_
  refine j_aload_n dL_elder_3 rfl rfl ?_
  refine j_iload_n dL_elder_4 rfl rfl ?_
  refine j_iload_n dL_elder_5 rfl rfl ?_
  refine j_iload_n dL_elder_6 rfl rfl ?_
  refine j_callV hM dL_elder_7 jc_L_33 jmV_X4_elder rfl rfl h0 rfl rfl (by simp) (jfr_of rfl rfl) (Nat.le_of_ble_eq_true rfl) ⟨Nat.le_of_ble_eq_true rfl, Nat.le_of_ble_eq_true rfl⟩ ⟨Nat.le_of_ble_eq_true rfl, Nat.le_of_ble_eq_true rfl⟩ (fun r h1 hp9 => ?_) (fun E h1 hp9 => ?_)
  · obtain ⟨⟨x, rfl⟩, g⟩ := hn r h1 hp9
    show J mL_elder _ _ _ 10 _ (iv x :: iv 0 :: .ref 220 :: []) _ _ _
    refine j_i2lz dL_elder_10 ?_
    refine j_lastore dL_elder_11 g ⟨by decide, by decide⟩ (by decide) ?_
    refine j_goto (tgt := 23) dL_elder_12 (by decide) ?_
    refine j_iconst dL_elder_23 ?_
    subst hZ
    exact j_ireturn dL_elder_24 rfl rfl (.inl ⟨x, h1, rfl, hp9, rfl⟩) (Nat.le_of_ble_eq_true rfl) (Nat.le_of_ble_eq_true rfl)
  · obtain ⟨g, hE⟩ := hx E h1 hp9
    rcases hE with rfl | rfl
    · refine j_catch (e9 := 300) (i9 := 0) (pre := []) (suf := [(0, 12, 19, 37)]) (a := 0) (b := 12) (g := 15) (ct := 19) rfl (fun q hq => by cases hq) ⟨by decide, by decide⟩ (by decide) (jw_mem 731 (by decide +kernel) (by decide +kernel)) (by decide +kernel) g (by decide) (jfr_of rfl rfl) ?_
      refine j_astore (L' := [(0, _), (1, _), (2, _), (3, _), (4, _), (5, _)]) dL_elder_15 (by decide) rfl ?_
      refine j_iconst dL_elder_17 ?_
      subst hZ
      exact j_ireturn dL_elder_18 rfl rfl (.inr ⟨1, _, rfl, (.head _), hp9⟩) (Nat.le_of_ble_eq_true rfl) (Nat.le_of_ble_eq_true rfl)
    · refine j_catch (e9 := 300) (i9 := 0) (pre := [(0, 12, 15, 19)]) (suf := []) (a := 0) (b := 12) (g := 19) (ct := 37) rfl (fun q hq => by rw [List.mem_singleton.mp hq]; exact ⟨by decide, "java/lang/IndexOutOfBoundsException", (jw_mem 731 (by decide +kernel) (by decide +kernel)), by decide +kernel⟩) ⟨by decide, by decide⟩ (by decide) (jw_mem 798 (by decide +kernel) (by decide +kernel)) (by decide +kernel) g (by decide) (jfr_of rfl rfl) ?_
      refine j_astore (L' := [(0, _), (1, _), (2, _), (3, _), (4, _), (5, _)]) dL_elder_19 (by decide) rfl ?_
      refine j_iconst dL_elder_21 ?_
      subst hZ
      exact j_ireturn dL_elder_22 rfl rfl (.inr ⟨2, _, rfl, (.tail _ (.head _)), hp9⟩) (Nat.le_of_ble_eq_true rfl) (Nat.le_of_ble_eq_true rfl)
set_option maxHeartbeats 2000000 in
theorem w_common {h : jH} {fs : List Value} {f : Int → Int} {Pn : jPn} {Px : jPx} {p o d : Int} (hM : jM mX4_common 7 3 18 [] [.ref 0, iv p, iv o, iv d] h Pn Px) (h0 : h 0 = some (jO 4 fs)) (hn : ∀ r h', Pn r h' → (∃ x, r = some (iv x)) ∧ h' 220 = some (jA 4 1 f)) (hx : ∀ E h', Px E h' → h' 300 = none ∧ (E = "java/lang/IndexOutOfBoundsException" ∨ E = "java/util/NoSuchElementException")) : jM mL_common 8 3 18 [300] [.ref 0, iv p, iv o, iv d, .ref 220] h (wP f Pn Px [(1, "java/lang/IndexOutOfBoundsException"), (2, "java/util/NoSuchElementException")]) jno := by
  refine j_methodH (by decide +kernel) (fun q => by cases q) (fun _ _ _ => trivial) (Nat.le_of_ble_eq_true rfl) ?_
  generalize hZ : jZ [300] 3 18 _ _ = Z
  show J mL_common (jR 8 3 18) [300] Z 0 [(0, .ref 0), (1, iv p), (2, iv o), (3, iv d), (4, .ref 220)] [] h 0 0
  refine j_aload dL_common_0 rfl ?_
  refine j_iconst dL_common_2 ?_
  refine j_aload_n dL_common_3 rfl rfl ?_
  refine j_iload_n dL_common_4 rfl rfl ?_
  refine j_iload_n dL_common_5 rfl rfl ?_
  refine j_iload_n dL_common_6 rfl rfl ?_
  refine j_callV hM dL_common_7 jc_L_39 jmV_X4_common rfl rfl h0 rfl rfl (by simp) (jfr_of rfl rfl) (Nat.le_of_ble_eq_true rfl) ⟨Nat.le_of_ble_eq_true rfl, Nat.le_of_ble_eq_true rfl⟩ ⟨Nat.le_of_ble_eq_true rfl, Nat.le_of_ble_eq_true rfl⟩ (fun r h1 hp9 => ?_) (fun E h1 hp9 => ?_)
  · obtain ⟨⟨x, rfl⟩, g⟩ := hn r h1 hp9
    show J mL_common _ _ _ 10 _ (iv x :: iv 0 :: .ref 220 :: []) _ _ _
    refine j_i2lz dL_common_10 ?_
    refine j_lastore dL_common_11 g ⟨by decide, by decide⟩ (by decide) ?_
    refine j_goto (tgt := 23) dL_common_12 (by decide) ?_
    refine j_iconst dL_common_23 ?_
    subst hZ
    exact j_ireturn dL_common_24 rfl rfl (.inl ⟨x, h1, rfl, hp9, rfl⟩) (Nat.le_of_ble_eq_true rfl) (Nat.le_of_ble_eq_true rfl)
  · obtain ⟨g, hE⟩ := hx E h1 hp9
    rcases hE with rfl | rfl
    · refine j_catch (e9 := 300) (i9 := 0) (pre := []) (suf := [(0, 12, 19, 37)]) (a := 0) (b := 12) (g := 15) (ct := 19) rfl (fun q hq => by cases hq) ⟨by decide, by decide⟩ (by decide) (jw_mem 731 (by decide +kernel) (by decide +kernel)) (by decide +kernel) g (by decide) (jfr_of rfl rfl) ?_
      refine j_astore (L' := [(0, _), (1, _), (2, _), (3, _), (4, _), (5, _)]) dL_common_15 (by decide) rfl ?_
      refine j_iconst dL_common_17 ?_
      subst hZ
      exact j_ireturn dL_common_18 rfl rfl (.inr ⟨1, _, rfl, (.head _), hp9⟩) (Nat.le_of_ble_eq_true rfl) (Nat.le_of_ble_eq_true rfl)
    · refine j_catch (e9 := 300) (i9 := 0) (pre := [(0, 12, 15, 19)]) (suf := []) (a := 0) (b := 12) (g := 19) (ct := 37) rfl (fun q hq => by rw [List.mem_singleton.mp hq]; exact ⟨by decide, "java/lang/IndexOutOfBoundsException", (jw_mem 731 (by decide +kernel) (by decide +kernel)), by decide +kernel⟩) ⟨by decide, by decide⟩ (by decide) (jw_mem 798 (by decide +kernel) (by decide +kernel)) (by decide +kernel) g (by decide) (jfr_of rfl rfl) ?_
      refine j_astore (L' := [(0, _), (1, _), (2, _), (3, _), (4, _), (5, _)]) dL_common_19 (by decide) rfl ?_
      refine j_iconst dL_common_21 ?_
      subst hZ
      exact j_ireturn dL_common_22 rfl rfl (.inr ⟨2, _, rfl, (.tail _ (.head _)), hp9⟩) (Nat.le_of_ble_eq_true rfl) (Nat.le_of_ble_eq_true rfl)
set_option maxHeartbeats 2000000 in
theorem w_degree {h : jH} {fs : List Value} {f : Int → Int} {Pn : jPn} {Px : jPx} {p o : Int} (hM : jM mX4_degree 7 3 18 [] [.ref 0, iv p, iv o] h Pn Px) (h0 : h 0 = some (jO 4 fs)) (hn : ∀ r h', Pn r h' → (∃ x, r = some (iv x)) ∧ h' 220 = some (jA 4 1 f)) (hx : ∀ E h', Px E h' → h' 300 = none ∧ (E = "java/lang/IndexOutOfBoundsException" ∨ E = "java/util/NoSuchElementException")) : jM mL_degree 8 3 18 [300] [.ref 0, iv p, iv o, .ref 220] h (wP f Pn Px [(1, "java/lang/IndexOutOfBoundsException"), (2, "java/util/NoSuchElementException")]) jno := by
  refine j_methodH (by decide +kernel) (fun q => by cases q) (fun _ _ _ => trivial) (Nat.le_of_ble_eq_true rfl) ?_
  generalize hZ : jZ [300] 3 18 _ _ = Z
  show J mL_degree (jR 8 3 18) [300] Z 0 [(0, .ref 0), (1, iv p), (2, iv o), (3, .ref 220)] [] h 0 0
  refine j_aload_n dL_degree_0 rfl rfl ?_
  refine j_iconst dL_degree_1 ?_
  refine j_aload_n dL_degree_2 rfl rfl ?_
  refine j_iload_n dL_degree_3 rfl rfl ?_
  refine j_iload_n dL_degree_4 rfl rfl ?_
  refine j_callV hM dL_degree_5 jc_L_42 jmV_X4_degree rfl rfl h0 rfl rfl (by simp) (jfr_of rfl rfl) (Nat.le_of_ble_eq_true rfl) ⟨Nat.le_of_ble_eq_true rfl, Nat.le_of_ble_eq_true rfl⟩ ⟨Nat.le_of_ble_eq_true rfl, Nat.le_of_ble_eq_true rfl⟩ (fun r h1 hp9 => ?_) (fun E h1 hp9 => ?_)
  · obtain ⟨⟨x, rfl⟩, g⟩ := hn r h1 hp9
    show J mL_degree _ _ _ 8 _ (iv x :: iv 0 :: .ref 220 :: []) _ _ _
    refine j_i2lz dL_degree_8 ?_
    refine j_lastore dL_degree_9 g ⟨by decide, by decide⟩ (by decide) ?_
    refine j_goto (tgt := 21) dL_degree_10 (by decide) ?_
    refine j_iconst dL_degree_21 ?_
    subst hZ
    exact j_ireturn dL_degree_22 rfl rfl (.inl ⟨x, h1, rfl, hp9, rfl⟩) (Nat.le_of_ble_eq_true rfl) (Nat.le_of_ble_eq_true rfl)
  · obtain ⟨g, hE⟩ := hx E h1 hp9
    rcases hE with rfl | rfl
    · refine j_catch (e9 := 300) (i9 := 0) (pre := []) (suf := [(0, 10, 17, 37)]) (a := 0) (b := 10) (g := 13) (ct := 19) rfl (fun q hq => by cases hq) ⟨by decide, by decide⟩ (by decide) (jw_mem 731 (by decide +kernel) (by decide +kernel)) (by decide +kernel) g (by decide) (jfr_of rfl rfl) ?_
      refine j_astore (L' := [(0, _), (1, _), (2, _), (3, _), (4, _)]) dL_degree_13 (by decide) rfl ?_
      refine j_iconst dL_degree_15 ?_
      subst hZ
      exact j_ireturn dL_degree_16 rfl rfl (.inr ⟨1, _, rfl, (.head _), hp9⟩) (Nat.le_of_ble_eq_true rfl) (Nat.le_of_ble_eq_true rfl)
    · refine j_catch (e9 := 300) (i9 := 0) (pre := [(0, 10, 13, 19)]) (suf := []) (a := 0) (b := 10) (g := 17) (ct := 37) rfl (fun q hq => by rw [List.mem_singleton.mp hq]; exact ⟨by decide, "java/lang/IndexOutOfBoundsException", (jw_mem 731 (by decide +kernel) (by decide +kernel)), by decide +kernel⟩) ⟨by decide, by decide⟩ (by decide) (jw_mem 798 (by decide +kernel) (by decide +kernel)) (by decide +kernel) g (by decide) (jfr_of rfl rfl) ?_
      refine j_astore (L' := [(0, _), (1, _), (2, _), (3, _), (4, _)]) dL_degree_17 (by decide) rfl ?_
      refine j_iconst dL_degree_19 ?_
      subst hZ
      exact j_ireturn dL_degree_20 rfl rfl (.inr ⟨2, _, rfl, (.tail _ (.head _)), hp9⟩) (Nat.le_of_ble_eq_true rfl) (Nat.le_of_ble_eq_true rfl)
set_option maxHeartbeats 2000000 in
theorem w_leaps {h : jH} {fs : List Value} {f : Int → Int} {Pn : jPn} {Px : jPx} {p e : Int} (hM : jM mX4_leaps 7 2 12 [] [.ref 0, iv p, iv e] h Pn Px) (h0 : h 0 = some (jO 4 fs)) (hn : ∀ r h', Pn r h' → (∃ x, r = some (iv x)) ∧ h' 220 = some (jA 4 1 f)) (hx : ∀ E h', Px E h' → h' 300 = none ∧ (E = "java/lang/IndexOutOfBoundsException" ∨ E = "java/util/NoSuchElementException")) : jM mL_leaps 8 2 12 [300] [.ref 0, iv p, iv e, .ref 220] h (wP f Pn Px [(1, "java/lang/IndexOutOfBoundsException"), (2, "java/util/NoSuchElementException")]) jno := by
  refine j_methodH (by decide +kernel) (fun q => by cases q) (fun _ _ _ => trivial) (Nat.le_of_ble_eq_true rfl) ?_
  generalize hZ : jZ [300] 2 12 _ _ = Z
  show J mL_leaps (jR 8 2 12) [300] Z 0 [(0, .ref 0), (1, iv p), (2, iv e), (3, .ref 220)] [] h 0 0
  refine j_aload_n dL_leaps_0 rfl rfl ?_
  refine j_iconst dL_leaps_1 ?_
  refine j_aload_n dL_leaps_2 rfl rfl ?_
  refine j_iload_n dL_leaps_3 rfl rfl ?_
  refine j_iload_n dL_leaps_4 rfl rfl ?_
  refine j_callV hM dL_leaps_5 jc_L_45 jmV_X4_leaps rfl rfl h0 rfl rfl (by simp) (jfr_of rfl rfl) (Nat.le_of_ble_eq_true rfl) ⟨Nat.le_of_ble_eq_true rfl, Nat.le_of_ble_eq_true rfl⟩ ⟨Nat.le_of_ble_eq_true rfl, Nat.le_of_ble_eq_true rfl⟩ (fun r h1 hp9 => ?_) (fun E h1 hp9 => ?_)
  · obtain ⟨⟨x, rfl⟩, g⟩ := hn r h1 hp9
    show J mL_leaps _ _ _ 8 _ (iv x :: iv 0 :: .ref 220 :: []) _ _ _
    refine j_i2lz dL_leaps_8 ?_
    refine j_lastore dL_leaps_9 g ⟨by decide, by decide⟩ (by decide) ?_
    refine j_goto (tgt := 21) dL_leaps_10 (by decide) ?_
    refine j_iconst dL_leaps_21 ?_
    subst hZ
    exact j_ireturn dL_leaps_22 rfl rfl (.inl ⟨x, h1, rfl, hp9, rfl⟩) (Nat.le_of_ble_eq_true rfl) (Nat.le_of_ble_eq_true rfl)
  · obtain ⟨g, hE⟩ := hx E h1 hp9
    rcases hE with rfl | rfl
    · refine j_catch (e9 := 300) (i9 := 0) (pre := []) (suf := [(0, 10, 17, 37)]) (a := 0) (b := 10) (g := 13) (ct := 19) rfl (fun q hq => by cases hq) ⟨by decide, by decide⟩ (by decide) (jw_mem 731 (by decide +kernel) (by decide +kernel)) (by decide +kernel) g (by decide) (jfr_of rfl rfl) ?_
      refine j_astore (L' := [(0, _), (1, _), (2, _), (3, _), (4, _)]) dL_leaps_13 (by decide) rfl ?_
      refine j_iconst dL_leaps_15 ?_
      subst hZ
      exact j_ireturn dL_leaps_16 rfl rfl (.inr ⟨1, _, rfl, (.head _), hp9⟩) (Nat.le_of_ble_eq_true rfl) (Nat.le_of_ble_eq_true rfl)
    · refine j_catch (e9 := 300) (i9 := 0) (pre := [(0, 10, 13, 19)]) (suf := []) (a := 0) (b := 10) (g := 17) (ct := 37) rfl (fun q hq => by rw [List.mem_singleton.mp hq]; exact ⟨by decide, "java/lang/IndexOutOfBoundsException", (jw_mem 731 (by decide +kernel) (by decide +kernel)), by decide +kernel⟩) ⟨by decide, by decide⟩ (by decide) (jw_mem 798 (by decide +kernel) (by decide +kernel)) (by decide +kernel) g (by decide) (jfr_of rfl rfl) ?_
      refine j_astore (L' := [(0, _), (1, _), (2, _), (3, _), (4, _)]) dL_leaps_17 (by decide) rfl ?_
      refine j_iconst dL_leaps_19 ?_
      subst hZ
      exact j_ireturn dL_leaps_20 rfl rfl (.inr ⟨2, _, rfl, (.tail _ (.head _)), hp9⟩) (Nat.le_of_ble_eq_true rfl) (Nat.le_of_ble_eq_true rfl)
set_option maxHeartbeats 2000000 in
theorem w_farthest {h : jH} {fs : List Value} {f : Int → Int} {Pn : jPn} {Px : jPx} {p : Int} (hM : jM mX4_farthest 7 1 6 [] [.ref 0, iv p] h Pn Px) (h0 : h 0 = some (jO 4 fs)) (hn : ∀ r h', Pn r h' → (∃ x, r = some (iv x)) ∧ h' 220 = some (jA 4 1 f)) (hx : ∀ E h', Px E h' → h' 300 = none ∧ (E = "java/lang/IndexOutOfBoundsException")) : jM mL_farthest 8 1 6 [300] [.ref 0, iv p, .ref 220] h (wP f Pn Px [(1, "java/lang/IndexOutOfBoundsException")]) jno := by
  refine j_methodH (by decide +kernel) (fun q => by cases q) (fun _ _ _ => trivial) (Nat.le_of_ble_eq_true rfl) ?_
  generalize hZ : jZ [300] 1 6 _ _ = Z
  show J mL_farthest (jR 8 1 6) [300] Z 0 [(0, .ref 0), (1, iv p), (2, .ref 220)] [] h 0 0
  refine j_aload_n dL_farthest_0 rfl rfl ?_
  refine j_iconst dL_farthest_1 ?_
  refine j_aload_n dL_farthest_2 rfl rfl ?_
  refine j_iload_n dL_farthest_3 rfl rfl ?_
  refine j_callV hM dL_farthest_4 jc_L_48 jmV_X4_farthest rfl rfl h0 rfl rfl (by simp) (jfr_of rfl rfl) (Nat.le_of_ble_eq_true rfl) ⟨Nat.le_of_ble_eq_true rfl, Nat.le_of_ble_eq_true rfl⟩ ⟨Nat.le_of_ble_eq_true rfl, Nat.le_of_ble_eq_true rfl⟩ (fun r h1 hp9 => ?_) (fun E h1 hp9 => ?_)
  · obtain ⟨⟨x, rfl⟩, g⟩ := hn r h1 hp9
    show J mL_farthest _ _ _ 7 _ (iv x :: iv 0 :: .ref 220 :: []) _ _ _
    refine j_i2lz dL_farthest_7 ?_
    refine j_lastore dL_farthest_8 g ⟨by decide, by decide⟩ (by decide) ?_
    refine j_goto (tgt := 15) dL_farthest_9 (by decide) ?_
    refine j_iconst dL_farthest_15 ?_
    subst hZ
    exact j_ireturn dL_farthest_16 rfl rfl (.inl ⟨x, h1, rfl, hp9, rfl⟩) (Nat.le_of_ble_eq_true rfl) (Nat.le_of_ble_eq_true rfl)
  · obtain ⟨g, hE⟩ := hx E h1 hp9
    subst hE
    refine j_catch (e9 := 300) (i9 := 0) (pre := []) (suf := []) (a := 0) (b := 9) (g := 12) (ct := 19) rfl (fun q hq => by cases hq) ⟨by decide, by decide⟩ (by decide) (jw_mem 731 (by decide +kernel) (by decide +kernel)) (by decide +kernel) g (by decide) (jfr_of rfl rfl) ?_
    refine j_astore_n (L' := [(0, _), (1, _), (2, _), (3, _)]) dL_farthest_12 rfl (by decide) rfl ?_
    refine j_iconst dL_farthest_13 ?_
    subst hZ
    exact j_ireturn dL_farthest_14 rfl rfl (.inr ⟨1, _, rfl, (.head _), hp9⟩) (Nat.le_of_ble_eq_true rfl) (Nat.le_of_ble_eq_true rfl)
set_option maxHeartbeats 2000000 in
theorem w_descendant {h : jH} {fs : List Value} {f : Int → Int} {Pn : jPn} {Px : jPx} {p q : Int} (hM : jM mX4_descendant 7 2 12 [] [.ref 0, iv p, iv q] h Pn Px) (h0 : h 0 = some (jO 4 fs)) (hn : ∀ r h', Pn r h' → (∃ x, r = some (iv x)) ∧ h' 220 = some (jA 4 1 f)) (hx : ∀ E h', Px E h' → h' 300 = none ∧ (E = "java/lang/IndexOutOfBoundsException" ∨ E = "java/util/NoSuchElementException")) : jM mL_descendant 8 2 12 [300] [.ref 0, iv p, iv q, .ref 220] h (wP f Pn Px [(1, "java/lang/IndexOutOfBoundsException"), (2, "java/util/NoSuchElementException")]) jno := by
  refine j_methodH (by decide +kernel) (fun q => by cases q) (fun _ _ _ => trivial) (Nat.le_of_ble_eq_true rfl) ?_
  generalize hZ : jZ [300] 2 12 _ _ = Z
  show J mL_descendant (jR 8 2 12) [300] Z 0 [(0, .ref 0), (1, iv p), (2, iv q), (3, .ref 220)] [] h 0 0
  refine j_aload_n dL_descendant_0 rfl rfl ?_
  refine j_iconst dL_descendant_1 ?_
  refine j_aload_n dL_descendant_2 rfl rfl ?_
  refine j_iload_n dL_descendant_3 rfl rfl ?_
  refine j_iload_n dL_descendant_4 rfl rfl ?_
  refine j_callV hM dL_descendant_5 jc_L_51 jmV_X4_descendant rfl rfl h0 rfl rfl (by simp) (jfr_of rfl rfl) (Nat.le_of_ble_eq_true rfl) ⟨Nat.le_of_ble_eq_true rfl, Nat.le_of_ble_eq_true rfl⟩ ⟨Nat.le_of_ble_eq_true rfl, Nat.le_of_ble_eq_true rfl⟩ (fun r h1 hp9 => ?_) (fun E h1 hp9 => ?_)
  · obtain ⟨⟨x, rfl⟩, g⟩ := hn r h1 hp9
    show J mL_descendant _ _ _ 8 _ (iv x :: iv 0 :: .ref 220 :: []) _ _ _
    refine j_i2lz dL_descendant_8 ?_
    refine j_lastore dL_descendant_9 g ⟨by decide, by decide⟩ (by decide) ?_
    refine j_goto (tgt := 21) dL_descendant_10 (by decide) ?_
    refine j_iconst dL_descendant_21 ?_
    subst hZ
    exact j_ireturn dL_descendant_22 rfl rfl (.inl ⟨x, h1, rfl, hp9, rfl⟩) (Nat.le_of_ble_eq_true rfl) (Nat.le_of_ble_eq_true rfl)
  · obtain ⟨g, hE⟩ := hx E h1 hp9
    rcases hE with rfl | rfl
    · refine j_catch (e9 := 300) (i9 := 0) (pre := []) (suf := [(0, 10, 17, 37)]) (a := 0) (b := 10) (g := 13) (ct := 19) rfl (fun q hq => by cases hq) ⟨by decide, by decide⟩ (by decide) (jw_mem 731 (by decide +kernel) (by decide +kernel)) (by decide +kernel) g (by decide) (jfr_of rfl rfl) ?_
      refine j_astore (L' := [(0, _), (1, _), (2, _), (3, _), (4, _)]) dL_descendant_13 (by decide) rfl ?_
      refine j_iconst dL_descendant_15 ?_
      subst hZ
      exact j_ireturn dL_descendant_16 rfl rfl (.inr ⟨1, _, rfl, (.head _), hp9⟩) (Nat.le_of_ble_eq_true rfl) (Nat.le_of_ble_eq_true rfl)
    · refine j_catch (e9 := 300) (i9 := 0) (pre := [(0, 10, 13, 19)]) (suf := []) (a := 0) (b := 10) (g := 17) (ct := 37) rfl (fun q hq => by rw [List.mem_singleton.mp hq]; exact ⟨by decide, "java/lang/IndexOutOfBoundsException", (jw_mem 731 (by decide +kernel) (by decide +kernel)), by decide +kernel⟩) ⟨by decide, by decide⟩ (by decide) (jw_mem 798 (by decide +kernel) (by decide +kernel)) (by decide +kernel) g (by decide) (jfr_of rfl rfl) ?_
      refine j_astore (L' := [(0, _), (1, _), (2, _), (3, _), (4, _)]) dL_descendant_17 (by decide) rfl ?_
      refine j_iconst dL_descendant_19 ?_
      subst hZ
      exact j_ireturn dL_descendant_20 rfl rfl (.inr ⟨2, _, rfl, (.tail _ (.head _)), hp9⟩) (Nat.le_of_ble_eq_true rfl) (Nat.le_of_ble_eq_true rfl)
set_option maxHeartbeats 2000000 in
theorem w_marry {h : jH} {fs : List Value} {f : Int → Int} {Pn : jPn} {Px : jPx} {p o : Int} (hM : jM mX4_marry 9 1 6 [] [.ref 0, iv p, iv o] h Pn Px) (h0 : h 0 = some (jO 4 fs)) (hn : ∀ r h', Pn r h' → (∃ x, r = some (iv x)) ∧ h' 220 = some (jA 4 1 f)) (hx : ∀ E h', Px E h' → h' 300 = none ∧ (E = "java/lang/IndexOutOfBoundsException" ∨ E = "java/lang/UnsupportedOperationException")) : jM mL_marry 10 1 6 [300] [.ref 0, iv p, iv o, .ref 220] h (wP f Pn Px [(1, "java/lang/IndexOutOfBoundsException"), (2, "java/lang/UnsupportedOperationException")]) jno := by
  refine j_methodH (by decide +kernel) (fun q => by cases q) (fun _ _ _ => trivial) (Nat.le_of_ble_eq_true rfl) ?_
  generalize hZ : jZ [300] 1 6 _ _ = Z
  show J mL_marry (jR 10 1 6) [300] Z 0 [(0, .ref 0), (1, iv p), (2, iv o), (3, .ref 220)] [] h 0 0
  refine j_aload_n dL_marry_0 rfl rfl ?_
  refine j_iconst dL_marry_1 ?_
  refine j_aload_n dL_marry_2 rfl rfl ?_
  refine j_iload_n dL_marry_3 rfl rfl ?_
  refine j_iload_n dL_marry_4 rfl rfl ?_
  refine j_callV hM dL_marry_5 jc_L_54 jmV_X4_marry rfl rfl h0 rfl rfl (by simp) (jfr_of rfl rfl) (Nat.le_of_ble_eq_true rfl) ⟨Nat.le_of_ble_eq_true rfl, Nat.le_of_ble_eq_true rfl⟩ ⟨Nat.le_of_ble_eq_true rfl, Nat.le_of_ble_eq_true rfl⟩ (fun r h1 hp9 => ?_) (fun E h1 hp9 => ?_)
  · obtain ⟨⟨x, rfl⟩, g⟩ := hn r h1 hp9
    show J mL_marry _ _ _ 8 _ (iv x :: iv 0 :: .ref 220 :: []) _ _ _
    refine j_i2lz dL_marry_8 ?_
    refine j_lastore dL_marry_9 g ⟨by decide, by decide⟩ (by decide) ?_
    refine j_goto (tgt := 21) dL_marry_10 (by decide) ?_
    refine j_iconst dL_marry_21 ?_
    subst hZ
    exact j_ireturn dL_marry_22 rfl rfl (.inl ⟨x, h1, rfl, hp9, rfl⟩) (Nat.le_of_ble_eq_true rfl) (Nat.le_of_ble_eq_true rfl)
  · obtain ⟨g, hE⟩ := hx E h1 hp9
    rcases hE with rfl | rfl
    · refine j_catch (e9 := 300) (i9 := 0) (pre := []) (suf := [(0, 10, 17, 13)]) (a := 0) (b := 10) (g := 13) (ct := 19) rfl (fun q hq => by cases hq) ⟨by decide, by decide⟩ (by decide) (jw_mem 731 (by decide +kernel) (by decide +kernel)) (by decide +kernel) g (by decide) (jfr_of rfl rfl) ?_
      refine j_astore (L' := [(0, _), (1, _), (2, _), (3, _), (4, _)]) dL_marry_13 (by decide) rfl ?_
      refine j_iconst dL_marry_15 ?_
      subst hZ
      exact j_ireturn dL_marry_16 rfl rfl (.inr ⟨1, _, rfl, (.head _), hp9⟩) (Nat.le_of_ble_eq_true rfl) (Nat.le_of_ble_eq_true rfl)
    · refine j_catch (e9 := 300) (i9 := 0) (pre := [(0, 10, 13, 19)]) (suf := []) (a := 0) (b := 10) (g := 17) (ct := 13) rfl (fun q hq => by rw [List.mem_singleton.mp hq]; exact ⟨by decide, "java/lang/IndexOutOfBoundsException", (jw_mem 731 (by decide +kernel) (by decide +kernel)), by decide +kernel⟩) ⟨by decide, by decide⟩ (by decide) (jw_mem 438 (by decide +kernel) (by decide +kernel)) (by decide +kernel) g (by decide) (jfr_of rfl rfl) ?_
      refine j_astore (L' := [(0, _), (1, _), (2, _), (3, _), (4, _)]) dL_marry_17 (by decide) rfl ?_
      refine j_iconst dL_marry_19 ?_
      subst hZ
      exact j_ireturn dL_marry_20 rfl rfl (.inr ⟨2, _, rfl, (.tail _ (.head _)), hp9⟩) (Nat.le_of_ble_eq_true rfl) (Nat.le_of_ble_eq_true rfl)
set_option maxHeartbeats 2000000 in
theorem w_part {h : jH} {fs : List Value} {f : Int → Int} {Pn : jPn} {Px : jPx} {p : Int} (hM : jM mX4_part 9 1 6 [] [.ref 0, iv p] h Pn Px) (h0 : h 0 = some (jO 4 fs)) (hn : ∀ r h', Pn r h' → (∃ x, r = some (iv x)) ∧ h' 220 = some (jA 4 1 f)) (hx : ∀ E h', Px E h' → h' 300 = none ∧ (E = "java/lang/IndexOutOfBoundsException" ∨ E = "java/lang/UnsupportedOperationException")) : jM mL_part 10 1 6 [300] [.ref 0, iv p, .ref 220] h (wP f Pn Px [(1, "java/lang/IndexOutOfBoundsException"), (2, "java/lang/UnsupportedOperationException")]) jno := by
  refine j_methodH (by decide +kernel) (fun q => by cases q) (fun _ _ _ => trivial) (Nat.le_of_ble_eq_true rfl) ?_
  generalize hZ : jZ [300] 1 6 _ _ = Z
  show J mL_part (jR 10 1 6) [300] Z 0 [(0, .ref 0), (1, iv p), (2, .ref 220)] [] h 0 0
  refine j_aload_n dL_part_0 rfl rfl ?_
  refine j_iconst dL_part_1 ?_
  refine j_aload_n dL_part_2 rfl rfl ?_
  refine j_iload_n dL_part_3 rfl rfl ?_
  refine j_callV hM dL_part_4 jc_L_57 jmV_X4_part rfl rfl h0 rfl rfl (by simp) (jfr_of rfl rfl) (Nat.le_of_ble_eq_true rfl) ⟨Nat.le_of_ble_eq_true rfl, Nat.le_of_ble_eq_true rfl⟩ ⟨Nat.le_of_ble_eq_true rfl, Nat.le_of_ble_eq_true rfl⟩ (fun r h1 hp9 => ?_) (fun E h1 hp9 => ?_)
  · obtain ⟨⟨x, rfl⟩, g⟩ := hn r h1 hp9
    show J mL_part _ _ _ 7 _ (iv x :: iv 0 :: .ref 220 :: []) _ _ _
    refine j_i2lz dL_part_7 ?_
    refine j_lastore dL_part_8 g ⟨by decide, by decide⟩ (by decide) ?_
    refine j_goto (tgt := 18) dL_part_9 (by decide) ?_
    refine j_iconst dL_part_18 ?_
    subst hZ
    exact j_ireturn dL_part_19 rfl rfl (.inl ⟨x, h1, rfl, hp9, rfl⟩) (Nat.le_of_ble_eq_true rfl) (Nat.le_of_ble_eq_true rfl)
  · obtain ⟨g, hE⟩ := hx E h1 hp9
    rcases hE with rfl | rfl
    · refine j_catch (e9 := 300) (i9 := 0) (pre := []) (suf := [(0, 9, 15, 13)]) (a := 0) (b := 9) (g := 12) (ct := 19) rfl (fun q hq => by cases hq) ⟨by decide, by decide⟩ (by decide) (jw_mem 731 (by decide +kernel) (by decide +kernel)) (by decide +kernel) g (by decide) (jfr_of rfl rfl) ?_
      refine j_astore_n (L' := [(0, _), (1, _), (2, _), (3, _)]) dL_part_12 rfl (by decide) rfl ?_
      refine j_iconst dL_part_13 ?_
      subst hZ
      exact j_ireturn dL_part_14 rfl rfl (.inr ⟨1, _, rfl, (.head _), hp9⟩) (Nat.le_of_ble_eq_true rfl) (Nat.le_of_ble_eq_true rfl)
    · refine j_catch (e9 := 300) (i9 := 0) (pre := [(0, 9, 12, 19)]) (suf := []) (a := 0) (b := 9) (g := 15) (ct := 13) rfl (fun q hq => by rw [List.mem_singleton.mp hq]; exact ⟨by decide, "java/lang/IndexOutOfBoundsException", (jw_mem 731 (by decide +kernel) (by decide +kernel)), by decide +kernel⟩) ⟨by decide, by decide⟩ (by decide) (jw_mem 438 (by decide +kernel) (by decide +kernel)) (by decide +kernel) g (by decide) (jfr_of rfl rfl) ?_
      refine j_astore_n (L' := [(0, _), (1, _), (2, _), (3, _)]) dL_part_15 rfl (by decide) rfl ?_
      refine j_iconst dL_part_16 ?_
      subst hZ
      exact j_ireturn dL_part_17 rfl rfl (.inr ⟨2, _, rfl, (.tail _ (.head _)), hp9⟩) (Nat.le_of_ble_eq_true rfl) (Nat.le_of_ble_eq_true rfl)
set_option maxHeartbeats 2000000 in
theorem w_quarrel {h : jH} {fs : List Value} {f : Int → Int} {Pn : jPn} {Px : jPx} {p o : Int} (hM : jM mX4_quarrel 9 1 6 [] [.ref 0, iv p, iv o] h Pn Px) (h0 : h 0 = some (jO 4 fs)) (hn : ∀ r h', Pn r h' → (∃ x, r = some (iv x)) ∧ h' 220 = some (jA 4 1 f)) (hx : ∀ E h', Px E h' → h' 300 = none ∧ (E = "java/lang/IndexOutOfBoundsException" ∨ E = "java/lang/UnsupportedOperationException")) : jM mL_quarrel 10 1 6 [300] [.ref 0, iv p, iv o, .ref 220] h (wP f Pn Px [(1, "java/lang/IndexOutOfBoundsException"), (2, "java/lang/UnsupportedOperationException")]) jno := by
  refine j_methodH (by decide +kernel) (fun q => by cases q) (fun _ _ _ => trivial) (Nat.le_of_ble_eq_true rfl) ?_
  generalize hZ : jZ [300] 1 6 _ _ = Z
  show J mL_quarrel (jR 10 1 6) [300] Z 0 [(0, .ref 0), (1, iv p), (2, iv o), (3, .ref 220)] [] h 0 0
  refine j_aload_n dL_quarrel_0 rfl rfl ?_
  refine j_iconst dL_quarrel_1 ?_
  refine j_aload_n dL_quarrel_2 rfl rfl ?_
  refine j_iload_n dL_quarrel_3 rfl rfl ?_
  refine j_iload_n dL_quarrel_4 rfl rfl ?_
  refine j_callV hM dL_quarrel_5 jc_L_60 jmV_X4_quarrel rfl rfl h0 rfl rfl (by simp) (jfr_of rfl rfl) (Nat.le_of_ble_eq_true rfl) ⟨Nat.le_of_ble_eq_true rfl, Nat.le_of_ble_eq_true rfl⟩ ⟨Nat.le_of_ble_eq_true rfl, Nat.le_of_ble_eq_true rfl⟩ (fun r h1 hp9 => ?_) (fun E h1 hp9 => ?_)
  · obtain ⟨⟨x, rfl⟩, g⟩ := hn r h1 hp9
    show J mL_quarrel _ _ _ 8 _ (iv x :: iv 0 :: .ref 220 :: []) _ _ _
    refine j_i2lz dL_quarrel_8 ?_
    refine j_lastore dL_quarrel_9 g ⟨by decide, by decide⟩ (by decide) ?_
    refine j_goto (tgt := 21) dL_quarrel_10 (by decide) ?_
    refine j_iconst dL_quarrel_21 ?_
    subst hZ
    exact j_ireturn dL_quarrel_22 rfl rfl (.inl ⟨x, h1, rfl, hp9, rfl⟩) (Nat.le_of_ble_eq_true rfl) (Nat.le_of_ble_eq_true rfl)
  · obtain ⟨g, hE⟩ := hx E h1 hp9
    rcases hE with rfl | rfl
    · refine j_catch (e9 := 300) (i9 := 0) (pre := []) (suf := [(0, 10, 17, 13)]) (a := 0) (b := 10) (g := 13) (ct := 19) rfl (fun q hq => by cases hq) ⟨by decide, by decide⟩ (by decide) (jw_mem 731 (by decide +kernel) (by decide +kernel)) (by decide +kernel) g (by decide) (jfr_of rfl rfl) ?_
      refine j_astore (L' := [(0, _), (1, _), (2, _), (3, _), (4, _)]) dL_quarrel_13 (by decide) rfl ?_
      refine j_iconst dL_quarrel_15 ?_
      subst hZ
      exact j_ireturn dL_quarrel_16 rfl rfl (.inr ⟨1, _, rfl, (.head _), hp9⟩) (Nat.le_of_ble_eq_true rfl) (Nat.le_of_ble_eq_true rfl)
    · refine j_catch (e9 := 300) (i9 := 0) (pre := [(0, 10, 13, 19)]) (suf := []) (a := 0) (b := 10) (g := 17) (ct := 13) rfl (fun q hq => by rw [List.mem_singleton.mp hq]; exact ⟨by decide, "java/lang/IndexOutOfBoundsException", (jw_mem 731 (by decide +kernel) (by decide +kernel)), by decide +kernel⟩) ⟨by decide, by decide⟩ (by decide) (jw_mem 438 (by decide +kernel) (by decide +kernel)) (by decide +kernel) g (by decide) (jfr_of rfl rfl) ?_
      refine j_astore (L' := [(0, _), (1, _), (2, _), (3, _), (4, _)]) dL_quarrel_17 (by decide) rfl ?_
      refine j_iconst dL_quarrel_19 ?_
      subst hZ
      exact j_ireturn dL_quarrel_20 rfl rfl (.inr ⟨2, _, rfl, (.tail _ (.head _)), hp9⟩) (Nat.le_of_ble_eq_true rfl) (Nat.le_of_ble_eq_true rfl)
set_option maxHeartbeats 2000000 in
theorem w_quarrelAt {h : jH} {fs : List Value} {f : Int → Int} {Pn : jPn} {Px : jPx} {p d : Int} (hM : jM mX4_quarrelAt 6 1 6 [] [.ref 0, iv p, iv d] h Pn Px) (h0 : h 0 = some (jO 4 fs)) (hn : ∀ r h', Pn r h' → (∃ x, r = some (iv x)) ∧ h' 220 = some (jA 4 1 f)) (hx : ∀ E h', Px E h' → h' 300 = none ∧ (E = "java/util/NoSuchElementException")) : jM mL_quarrelAt 7 1 6 [300] [.ref 0, iv p, iv d, .ref 220] h (wP f Pn Px [(1, "java/util/NoSuchElementException")]) jno := by
  refine j_methodH (by decide +kernel) (fun q => by cases q) (fun _ _ _ => trivial) (Nat.le_of_ble_eq_true rfl) ?_
  generalize hZ : jZ [300] 1 6 _ _ = Z
  show J mL_quarrelAt (jR 7 1 6) [300] Z 0 [(0, .ref 0), (1, iv p), (2, iv d), (3, .ref 220)] [] h 0 0
  refine j_aload_n dL_quarrelAt_0 rfl rfl ?_
  refine j_iconst dL_quarrelAt_1 ?_
  refine j_aload_n dL_quarrelAt_2 rfl rfl ?_
  refine j_iload_n dL_quarrelAt_3 rfl rfl ?_
  refine j_iload_n dL_quarrelAt_4 rfl rfl ?_
  refine j_callV hM dL_quarrelAt_5 jc_L_63 jmV_X4_quarrelAt rfl rfl h0 rfl rfl (by simp) (jfr_of rfl rfl) (Nat.le_of_ble_eq_true rfl) ⟨Nat.le_of_ble_eq_true rfl, Nat.le_of_ble_eq_true rfl⟩ ⟨Nat.le_of_ble_eq_true rfl, Nat.le_of_ble_eq_true rfl⟩ (fun r h1 hp9 => ?_) (fun E h1 hp9 => ?_)
  · obtain ⟨⟨x, rfl⟩, g⟩ := hn r h1 hp9
    show J mL_quarrelAt _ _ _ 8 _ (iv x :: iv 0 :: .ref 220 :: []) _ _ _
    refine j_i2lz dL_quarrelAt_8 ?_
    refine j_lastore dL_quarrelAt_9 g ⟨by decide, by decide⟩ (by decide) ?_
    refine j_goto (tgt := 17) dL_quarrelAt_10 (by decide) ?_
    refine j_iconst dL_quarrelAt_17 ?_
    subst hZ
    exact j_ireturn dL_quarrelAt_18 rfl rfl (.inl ⟨x, h1, rfl, hp9, rfl⟩) (Nat.le_of_ble_eq_true rfl) (Nat.le_of_ble_eq_true rfl)
  · obtain ⟨g, hE⟩ := hx E h1 hp9
    subst hE
    refine j_catch (e9 := 300) (i9 := 0) (pre := []) (suf := []) (a := 0) (b := 10) (g := 13) (ct := 37) rfl (fun q hq => by cases hq) ⟨by decide, by decide⟩ (by decide) (jw_mem 798 (by decide +kernel) (by decide +kernel)) (by decide +kernel) g (by decide) (jfr_of rfl rfl) ?_
    refine j_astore (L' := [(0, _), (1, _), (2, _), (3, _), (4, _)]) dL_quarrelAt_13 (by decide) rfl ?_
    refine j_iconst dL_quarrelAt_15 ?_
    subst hZ
    exact j_ireturn dL_quarrelAt_16 rfl rfl (.inr ⟨1, _, rfl, (.head _), hp9⟩) (Nat.le_of_ble_eq_true rfl) (Nat.le_of_ble_eq_true rfl)
set_option maxHeartbeats 2000000 in
theorem w_wouldEnd {h : jH} {fs : List Value} {f : Int → Int} {Pn : jPn} {Px : jPx} {p o : Int} (hM : jM mX4_wouldEnd 7 3 18 [] [.ref 0, iv p, iv o] h Pn Px) (h0 : h 0 = some (jO 4 fs)) (hn : ∀ r h', Pn r h' → (∃ x, r = some (iv x)) ∧ h' 220 = some (jA 4 1 f)) (hx : ∀ E h', Px E h' → h' 300 = none ∧ (E = "java/lang/IndexOutOfBoundsException" ∨ E = "java/lang/IllegalStateException")) : jM mL_wouldEnd 8 3 18 [300] [.ref 0, iv p, iv o, .ref 220] h (wP f Pn Px [(1, "java/lang/IndexOutOfBoundsException"), (2, "java/lang/IllegalStateException")]) jno := by
  refine j_methodH (by decide +kernel) (fun q => by cases q) (fun _ _ _ => trivial) (Nat.le_of_ble_eq_true rfl) ?_
  generalize hZ : jZ [300] 3 18 _ _ = Z
  show J mL_wouldEnd (jR 8 3 18) [300] Z 0 [(0, .ref 0), (1, iv p), (2, iv o), (3, .ref 220)] [] h 0 0
  refine j_aload_n dL_wouldEnd_0 rfl rfl ?_
  refine j_iconst dL_wouldEnd_1 ?_
  refine j_aload_n dL_wouldEnd_2 rfl rfl ?_
  refine j_iload_n dL_wouldEnd_3 rfl rfl ?_
  refine j_iload_n dL_wouldEnd_4 rfl rfl ?_
  refine j_callV hM dL_wouldEnd_5 jc_L_67 jmV_X4_wouldEnd rfl rfl h0 rfl rfl (by simp) (jfr_of rfl rfl) (Nat.le_of_ble_eq_true rfl) ⟨Nat.le_of_ble_eq_true rfl, Nat.le_of_ble_eq_true rfl⟩ ⟨Nat.le_of_ble_eq_true rfl, Nat.le_of_ble_eq_true rfl⟩ (fun r h1 hp9 => ?_) (fun E h1 hp9 => ?_)
  · obtain ⟨⟨x, rfl⟩, g⟩ := hn r h1 hp9
    show J mL_wouldEnd _ _ _ 8 _ (iv x :: iv 0 :: .ref 220 :: []) _ _ _
    refine j_i2lz dL_wouldEnd_8 ?_
    refine j_lastore dL_wouldEnd_9 g ⟨by decide, by decide⟩ (by decide) ?_
    refine j_goto (tgt := 21) dL_wouldEnd_10 (by decide) ?_
    refine j_iconst dL_wouldEnd_21 ?_
    subst hZ
    exact j_ireturn dL_wouldEnd_22 rfl rfl (.inl ⟨x, h1, rfl, hp9, rfl⟩) (Nat.le_of_ble_eq_true rfl) (Nat.le_of_ble_eq_true rfl)
  · obtain ⟨g, hE⟩ := hx E h1 hp9
    rcases hE with rfl | rfl
    · refine j_catch (e9 := 300) (i9 := 0) (pre := []) (suf := [(0, 10, 17, 70)]) (a := 0) (b := 10) (g := 13) (ct := 19) rfl (fun q hq => by cases hq) ⟨by decide, by decide⟩ (by decide) (jw_mem 731 (by decide +kernel) (by decide +kernel)) (by decide +kernel) g (by decide) (jfr_of rfl rfl) ?_
      refine j_astore (L' := [(0, _), (1, _), (2, _), (3, _), (4, _)]) dL_wouldEnd_13 (by decide) rfl ?_
      refine j_iconst dL_wouldEnd_15 ?_
      subst hZ
      exact j_ireturn dL_wouldEnd_16 rfl rfl (.inr ⟨1, _, rfl, (.head _), hp9⟩) (Nat.le_of_ble_eq_true rfl) (Nat.le_of_ble_eq_true rfl)
    · refine j_catch (e9 := 300) (i9 := 0) (pre := [(0, 10, 13, 19)]) (suf := []) (a := 0) (b := 10) (g := 17) (ct := 70) rfl (fun q hq => by rw [List.mem_singleton.mp hq]; exact ⟨by decide, "java/lang/IndexOutOfBoundsException", (jw_mem 731 (by decide +kernel) (by decide +kernel)), by decide +kernel⟩) ⟨by decide, by decide⟩ (by decide) (jw_mem 900 (by decide +kernel) (by decide +kernel)) (by decide +kernel) g (by decide) (jfr_of rfl rfl) ?_
      refine j_astore (L' := [(0, _), (1, _), (2, _), (3, _), (4, _)]) dL_wouldEnd_17 (by decide) rfl ?_
      refine j_iconst dL_wouldEnd_19 ?_
      subst hZ
      exact j_ireturn dL_wouldEnd_20 rfl rfl (.inr ⟨2, _, rfl, (.tail _ (.head _)), hp9⟩) (Nat.le_of_ble_eq_true rfl) (Nat.le_of_ble_eq_true rfl)
set_option maxHeartbeats 2000000 in
theorem w_give {h : jH} {fs : List Value} {f : Int → Int} {Pn : jPn} {Px : jPx} {p o : Int} (hM : jM mX4_give 9 1 6 [] [.ref 0, iv p, iv o] h Pn Px) (h0 : h 0 = some (jO 4 fs)) (hn : ∀ r h', Pn r h' → (∃ x, r = some (iv x)) ∧ h' 220 = some (jA 4 1 f)) (hx : ∀ E h', Px E h' → h' 300 = none ∧ (E = "java/lang/IndexOutOfBoundsException" ∨ E = "java/lang/IllegalArgumentException" ∨ E = "java/lang/UnsupportedOperationException")) : jM mL_give 10 1 6 [300] [.ref 0, iv p, iv o, .ref 220] h (wP f Pn Px [(1, "java/lang/IndexOutOfBoundsException"), (2, "java/lang/IllegalArgumentException"), (3, "java/lang/UnsupportedOperationException")]) jno := by
  refine j_methodH (by decide +kernel) (fun q => by cases q) (fun _ _ _ => trivial) (Nat.le_of_ble_eq_true rfl) ?_
  generalize hZ : jZ [300] 1 6 _ _ = Z
  show J mL_give (jR 10 1 6) [300] Z 0 [(0, .ref 0), (1, iv p), (2, iv o), (3, .ref 220)] [] h 0 0
  refine j_aload_n dL_give_0 rfl rfl ?_
  refine j_iconst dL_give_1 ?_
  refine j_aload_n dL_give_2 rfl rfl ?_
  refine j_iload_n dL_give_3 rfl rfl ?_
  refine j_iload_n dL_give_4 rfl rfl ?_
  refine j_callV hM dL_give_5 jc_L_72 jmV_X4_give rfl rfl h0 rfl rfl (by simp) (jfr_of rfl rfl) (Nat.le_of_ble_eq_true rfl) ⟨Nat.le_of_ble_eq_true rfl, Nat.le_of_ble_eq_true rfl⟩ ⟨Nat.le_of_ble_eq_true rfl, Nat.le_of_ble_eq_true rfl⟩ (fun r h1 hp9 => ?_) (fun E h1 hp9 => ?_)
  · obtain ⟨⟨x, rfl⟩, g⟩ := hn r h1 hp9
    show J mL_give _ _ _ 8 _ (iv x :: iv 0 :: .ref 220 :: []) _ _ _
    refine j_i2lz dL_give_8 ?_
    refine j_lastore dL_give_9 g ⟨by decide, by decide⟩ (by decide) ?_
    refine j_goto (tgt := 25) dL_give_10 (by decide) ?_
    refine j_iconst dL_give_25 ?_
    subst hZ
    exact j_ireturn dL_give_26 rfl rfl (.inl ⟨x, h1, rfl, hp9, rfl⟩) (Nat.le_of_ble_eq_true rfl) (Nat.le_of_ble_eq_true rfl)
  · obtain ⟨g, hE⟩ := hx E h1 hp9
    rcases hE with rfl | rfl | rfl
    · refine j_catch (e9 := 300) (i9 := 0) (pre := []) (suf := [(0, 10, 17, 31), (0, 10, 21, 13)]) (a := 0) (b := 10) (g := 13) (ct := 19) rfl (fun q hq => by cases hq) ⟨by decide, by decide⟩ (by decide) (jw_mem 731 (by decide +kernel) (by decide +kernel)) (by decide +kernel) g (by decide) (jfr_of rfl rfl) ?_
      refine j_astore (L' := [(0, _), (1, _), (2, _), (3, _), (4, _)]) dL_give_13 (by decide) rfl ?_
      refine j_iconst dL_give_15 ?_
      subst hZ
      exact j_ireturn dL_give_16 rfl rfl (.inr ⟨1, _, rfl, (.head _), hp9⟩) (Nat.le_of_ble_eq_true rfl) (Nat.le_of_ble_eq_true rfl)
    · refine j_catch (e9 := 300) (i9 := 0) (pre := [(0, 10, 13, 19)]) (suf := [(0, 10, 21, 13)]) (a := 0) (b := 10) (g := 17) (ct := 31) rfl (fun q hq => by rw [List.mem_singleton.mp hq]; exact ⟨by decide, "java/lang/IndexOutOfBoundsException", (jw_mem 731 (by decide +kernel) (by decide +kernel)), by decide +kernel⟩) ⟨by decide, by decide⟩ (by decide) (jw_mem 773 (by decide +kernel) (by decide +kernel)) (by decide +kernel) g (by decide) (jfr_of rfl rfl) ?_
      refine j_astore (L' := [(0, _), (1, _), (2, _), (3, _), (4, _)]) dL_give_17 (by decide) rfl ?_
      refine j_iconst dL_give_19 ?_
      subst hZ
      exact j_ireturn dL_give_20 rfl rfl (.inr ⟨2, _, rfl, (.tail _ (.head _)), hp9⟩) (Nat.le_of_ble_eq_true rfl) (Nat.le_of_ble_eq_true rfl)
    · refine j_catch (e9 := 300) (i9 := 0) (pre := [(0, 10, 13, 19), (0, 10, 17, 31)]) (suf := []) (a := 0) (b := 10) (g := 21) (ct := 13) rfl (fun q hq => by
        rcases List.mem_cons.mp hq with rfl | hq
        · exact ⟨by decide, "java/lang/IndexOutOfBoundsException", (jw_mem 731 (by decide +kernel) (by decide +kernel)), by decide +kernel⟩
        · rw [List.mem_singleton.mp hq]; exact ⟨by decide, "java/lang/IllegalArgumentException", (jw_mem 773 (by decide +kernel) (by decide +kernel)), by decide +kernel⟩) ⟨by decide, by decide⟩ (by decide) (jw_mem 438 (by decide +kernel) (by decide +kernel)) (by decide +kernel) g (by decide) (jfr_of rfl rfl) ?_
      refine j_astore (L' := [(0, _), (1, _), (2, _), (3, _), (4, _)]) dL_give_21 (by decide) rfl ?_
      refine j_iconst dL_give_23 ?_
      subst hZ
      exact j_ireturn dL_give_24 rfl rfl (.inr ⟨3, _, rfl, (.tail _ (.tail _ (.head _))), hp9⟩) (Nat.le_of_ble_eq_true rfl) (Nat.le_of_ble_eq_true rfl)
set_option maxHeartbeats 2000000 in
theorem w_die {h : jH} {fs : List Value} {f : Int → Int} {Pn : jPn} {Px : jPx} {p : Int} (hM : jM mX4_die 9 1 6 [] [.ref 0, iv p] h Pn Px) (h0 : h 0 = some (jO 4 fs)) (hn : ∀ r h', Pn r h' → (∃ x, r = some (iv x)) ∧ h' 220 = some (jA 4 1 f)) (hx : ∀ E h', Px E h' → h' 300 = none ∧ (E = "java/lang/IndexOutOfBoundsException" ∨ E = "java/lang/UnsupportedOperationException")) : jM mL_die 10 1 6 [300] [.ref 0, iv p, .ref 220] h (wP f Pn Px [(1, "java/lang/IndexOutOfBoundsException"), (2, "java/lang/UnsupportedOperationException")]) jno := by
  refine j_methodH (by decide +kernel) (fun q => by cases q) (fun _ _ _ => trivial) (Nat.le_of_ble_eq_true rfl) ?_
  generalize hZ : jZ [300] 1 6 _ _ = Z
  show J mL_die (jR 10 1 6) [300] Z 0 [(0, .ref 0), (1, iv p), (2, .ref 220)] [] h 0 0
  refine j_aload_n dL_die_0 rfl rfl ?_
  refine j_iconst dL_die_1 ?_
  refine j_aload_n dL_die_2 rfl rfl ?_
  refine j_iload_n dL_die_3 rfl rfl ?_
  refine j_callV hM dL_die_4 jc_L_75 jmV_X4_die rfl rfl h0 rfl rfl (by simp) (jfr_of rfl rfl) (Nat.le_of_ble_eq_true rfl) ⟨Nat.le_of_ble_eq_true rfl, Nat.le_of_ble_eq_true rfl⟩ ⟨Nat.le_of_ble_eq_true rfl, Nat.le_of_ble_eq_true rfl⟩ (fun r h1 hp9 => ?_) (fun E h1 hp9 => ?_)
  · obtain ⟨⟨x, rfl⟩, g⟩ := hn r h1 hp9
    show J mL_die _ _ _ 7 _ (iv x :: iv 0 :: .ref 220 :: []) _ _ _
    refine j_i2lz dL_die_7 ?_
    refine j_lastore dL_die_8 g ⟨by decide, by decide⟩ (by decide) ?_
    refine j_goto (tgt := 18) dL_die_9 (by decide) ?_
    refine j_iconst dL_die_18 ?_
    subst hZ
    exact j_ireturn dL_die_19 rfl rfl (.inl ⟨x, h1, rfl, hp9, rfl⟩) (Nat.le_of_ble_eq_true rfl) (Nat.le_of_ble_eq_true rfl)
  · obtain ⟨g, hE⟩ := hx E h1 hp9
    rcases hE with rfl | rfl
    · refine j_catch (e9 := 300) (i9 := 0) (pre := []) (suf := [(0, 9, 15, 13)]) (a := 0) (b := 9) (g := 12) (ct := 19) rfl (fun q hq => by cases hq) ⟨by decide, by decide⟩ (by decide) (jw_mem 731 (by decide +kernel) (by decide +kernel)) (by decide +kernel) g (by decide) (jfr_of rfl rfl) ?_
      refine j_astore_n (L' := [(0, _), (1, _), (2, _), (3, _)]) dL_die_12 rfl (by decide) rfl ?_
      refine j_iconst dL_die_13 ?_
      subst hZ
      exact j_ireturn dL_die_14 rfl rfl (.inr ⟨1, _, rfl, (.head _), hp9⟩) (Nat.le_of_ble_eq_true rfl) (Nat.le_of_ble_eq_true rfl)
    · refine j_catch (e9 := 300) (i9 := 0) (pre := [(0, 9, 12, 19)]) (suf := []) (a := 0) (b := 9) (g := 15) (ct := 13) rfl (fun q hq => by rw [List.mem_singleton.mp hq]; exact ⟨by decide, "java/lang/IndexOutOfBoundsException", (jw_mem 731 (by decide +kernel) (by decide +kernel)), by decide +kernel⟩) ⟨by decide, by decide⟩ (by decide) (jw_mem 438 (by decide +kernel) (by decide +kernel)) (by decide +kernel) g (by decide) (jfr_of rfl rfl) ?_
      refine j_astore_n (L' := [(0, _), (1, _), (2, _), (3, _)]) dL_die_15 rfl (by decide) rfl ?_
      refine j_iconst dL_die_16 ?_
      subst hZ
      exact j_ireturn dL_die_17 rfl rfl (.inr ⟨2, _, rfl, (.tail _ (.head _)), hp9⟩) (Nat.le_of_ble_eq_true rfl) (Nat.le_of_ble_eq_true rfl)
set_option maxHeartbeats 2000000 in
theorem w_heir {h : jH} {fs : List Value} {f : Int → Int} {Pn : jPn} {Px : jPx} {p : Int} (hM : jM mX4_heir 7 2 12 [] [.ref 0, iv p] h Pn Px) (h0 : h 0 = some (jO 4 fs)) (hn : ∀ r h', Pn r h' → (∃ x, r = some (iv x)) ∧ h' 220 = some (jA 4 1 f)) (hx : ∀ E h', Px E h' → h' 300 = none ∧ (E = "java/lang/IndexOutOfBoundsException" ∨ E = "java/lang/IllegalStateException")) : jM mL_heir 8 2 12 [300] [.ref 0, iv p, .ref 220] h (wP f Pn Px [(1, "java/lang/IndexOutOfBoundsException"), (2, "java/lang/IllegalStateException")]) jno := by
  refine j_methodH (by decide +kernel) (fun q => by cases q) (fun _ _ _ => trivial) (Nat.le_of_ble_eq_true rfl) ?_
  generalize hZ : jZ [300] 2 12 _ _ = Z
  show J mL_heir (jR 8 2 12) [300] Z 0 [(0, .ref 0), (1, iv p), (2, .ref 220)] [] h 0 0
  refine j_aload_n dL_heir_0 rfl rfl ?_
  refine j_iconst dL_heir_1 ?_
  refine j_aload_n dL_heir_2 rfl rfl ?_
  refine j_iload_n dL_heir_3 rfl rfl ?_
  refine j_callV hM dL_heir_4 jc_L_78 jmV_X4_heir rfl rfl h0 rfl rfl (by simp) (jfr_of rfl rfl) (Nat.le_of_ble_eq_true rfl) ⟨Nat.le_of_ble_eq_true rfl, Nat.le_of_ble_eq_true rfl⟩ ⟨Nat.le_of_ble_eq_true rfl, Nat.le_of_ble_eq_true rfl⟩ (fun r h1 hp9 => ?_) (fun E h1 hp9 => ?_)
  · obtain ⟨⟨x, rfl⟩, g⟩ := hn r h1 hp9
    show J mL_heir _ _ _ 7 _ (iv x :: iv 0 :: .ref 220 :: []) _ _ _
    refine j_i2lz dL_heir_7 ?_
    refine j_lastore dL_heir_8 g ⟨by decide, by decide⟩ (by decide) ?_
    refine j_goto (tgt := 18) dL_heir_9 (by decide) ?_
    refine j_iconst dL_heir_18 ?_
    subst hZ
    exact j_ireturn dL_heir_19 rfl rfl (.inl ⟨x, h1, rfl, hp9, rfl⟩) (Nat.le_of_ble_eq_true rfl) (Nat.le_of_ble_eq_true rfl)
  · obtain ⟨g, hE⟩ := hx E h1 hp9
    rcases hE with rfl | rfl
    · refine j_catch (e9 := 300) (i9 := 0) (pre := []) (suf := [(0, 9, 15, 70)]) (a := 0) (b := 9) (g := 12) (ct := 19) rfl (fun q hq => by cases hq) ⟨by decide, by decide⟩ (by decide) (jw_mem 731 (by decide +kernel) (by decide +kernel)) (by decide +kernel) g (by decide) (jfr_of rfl rfl) ?_
      refine j_astore_n (L' := [(0, _), (1, _), (2, _), (3, _)]) dL_heir_12 rfl (by decide) rfl ?_
      refine j_iconst dL_heir_13 ?_
      subst hZ
      exact j_ireturn dL_heir_14 rfl rfl (.inr ⟨1, _, rfl, (.head _), hp9⟩) (Nat.le_of_ble_eq_true rfl) (Nat.le_of_ble_eq_true rfl)
    · refine j_catch (e9 := 300) (i9 := 0) (pre := [(0, 9, 12, 19)]) (suf := []) (a := 0) (b := 9) (g := 15) (ct := 70) rfl (fun q hq => by rw [List.mem_singleton.mp hq]; exact ⟨by decide, "java/lang/IndexOutOfBoundsException", (jw_mem 731 (by decide +kernel) (by decide +kernel)), by decide +kernel⟩) ⟨by decide, by decide⟩ (by decide) (jw_mem 900 (by decide +kernel) (by decide +kernel)) (by decide +kernel) g (by decide) (jfr_of rfl rfl) ?_
      refine j_astore_n (L' := [(0, _), (1, _), (2, _), (3, _)]) dL_heir_15 rfl (by decide) rfl ?_
      refine j_iconst dL_heir_16 ?_
      subst hZ
      exact j_ireturn dL_heir_17 rfl rfl (.inr ⟨2, _, rfl, (.tail _ (.head _)), hp9⟩) (Nat.le_of_ble_eq_true rfl) (Nat.le_of_ble_eq_true rfl)
set_option maxHeartbeats 2000000 in
theorem w_ranked {h : jH} {fs : List Value} {f : Int → Int} {Pn : jPn} {Px : jPx} {q : Int} (hM : jM mX4_ranked 6 1 6 [] [.ref 0, iv q] h Pn Px) (h0 : h 0 = some (jO 4 fs)) (hn : ∀ r h', Pn r h' → (∃ x, r = some (iv x)) ∧ h' 220 = some (jA 4 1 f)) (hx : ∀ E h', Px E h' → h' 300 = none ∧ (E = "java/util/NoSuchElementException")) : jM mL_ranked 7 1 6 [300] [.ref 0, iv q, .ref 220] h (wP f Pn Px [(1, "java/util/NoSuchElementException")]) jno := by
  refine j_methodH (by decide +kernel) (fun q => by cases q) (fun _ _ _ => trivial) (Nat.le_of_ble_eq_true rfl) ?_
  generalize hZ : jZ [300] 1 6 _ _ = Z
  show J mL_ranked (jR 7 1 6) [300] Z 0 [(0, .ref 0), (1, iv q), (2, .ref 220)] [] h 0 0
  refine j_aload_n dL_ranked_0 rfl rfl ?_
  refine j_iconst dL_ranked_1 ?_
  refine j_aload_n dL_ranked_2 rfl rfl ?_
  refine j_iload_n dL_ranked_3 rfl rfl ?_
  refine j_callV hM dL_ranked_4 jc_L_81 jmV_X4_ranked rfl rfl h0 rfl rfl (by simp) (jfr_of rfl rfl) (Nat.le_of_ble_eq_true rfl) ⟨Nat.le_of_ble_eq_true rfl, Nat.le_of_ble_eq_true rfl⟩ ⟨Nat.le_of_ble_eq_true rfl, Nat.le_of_ble_eq_true rfl⟩ (fun r h1 hp9 => ?_) (fun E h1 hp9 => ?_)
  · obtain ⟨⟨x, rfl⟩, g⟩ := hn r h1 hp9
    show J mL_ranked _ _ _ 7 _ (iv x :: iv 0 :: .ref 220 :: []) _ _ _
    refine j_i2lz dL_ranked_7 ?_
    refine j_lastore dL_ranked_8 g ⟨by decide, by decide⟩ (by decide) ?_
    refine j_goto (tgt := 15) dL_ranked_9 (by decide) ?_
    refine j_iconst dL_ranked_15 ?_
    subst hZ
    exact j_ireturn dL_ranked_16 rfl rfl (.inl ⟨x, h1, rfl, hp9, rfl⟩) (Nat.le_of_ble_eq_true rfl) (Nat.le_of_ble_eq_true rfl)
  · obtain ⟨g, hE⟩ := hx E h1 hp9
    subst hE
    refine j_catch (e9 := 300) (i9 := 0) (pre := []) (suf := []) (a := 0) (b := 9) (g := 12) (ct := 37) rfl (fun q hq => by cases hq) ⟨by decide, by decide⟩ (by decide) (jw_mem 798 (by decide +kernel) (by decide +kernel)) (by decide +kernel) g (by decide) (jfr_of rfl rfl) ?_
    refine j_astore_n (L' := [(0, _), (1, _), (2, _), (3, _)]) dL_ranked_12 rfl (by decide) rfl ?_
    refine j_iconst dL_ranked_13 ?_
    subst hZ
    exact j_ireturn dL_ranked_14 rfl rfl (.inr ⟨1, _, rfl, (.head _), hp9⟩) (Nat.le_of_ble_eq_true rfl) (Nat.le_of_ble_eq_true rfl)
set_option maxHeartbeats 2000000 in
theorem w_line {h : jH} {fs : List Value} {f : Int → Int} {Pn : jPn} {Px : jPx} {p : Int} (hM : jM mX4_line 9 11 346 [35] [.ref 0, iv p] h Pn Px) (h0 : h 0 = some (jO 4 fs)) (hn : ∀ r h', Pn r h' → (∃ x, r = some (iv x)) ∧ h' 220 = some (jA 4 1 f)) (hx : ∀ E h', Px E h' → h' 300 = none ∧ (E = "java/lang/IndexOutOfBoundsException")) : jM mL_line 10 11 346 [300, 35] [.ref 0, iv p, .ref 220] h (wP f Pn Px [(1, "java/lang/IndexOutOfBoundsException")]) jno := by
  refine j_methodH (by decide +kernel) (fun q => by cases q) (fun _ _ _ => trivial) (Nat.le_of_ble_eq_true rfl) ?_
  generalize hZ : jZ [300, 35] 11 346 _ _ = Z
  show J mL_line (jR 10 11 346) [300, 35] Z 0 [(0, .ref 0), (1, iv p), (2, .ref 220)] [] h 0 0
  refine j_aload_n dL_line_0 rfl rfl ?_
  refine j_iconst dL_line_1 ?_
  refine j_aload_n dL_line_2 rfl rfl ?_
  refine j_iload_n dL_line_3 rfl rfl ?_
  refine j_callV hM dL_line_4 jc_L_84 jmV_X4_line rfl rfl h0 rfl rfl (by simp) (jfr_of rfl rfl) (Nat.le_of_ble_eq_true rfl) ⟨Nat.le_of_ble_eq_true rfl, Nat.le_of_ble_eq_true rfl⟩ ⟨Nat.le_of_ble_eq_true rfl, Nat.le_of_ble_eq_true rfl⟩ (fun r h1 hp9 => ?_) (fun E h1 hp9 => ?_)
  · obtain ⟨⟨x, rfl⟩, g⟩ := hn r h1 hp9
    show J mL_line _ _ _ 7 _ (iv x :: iv 0 :: .ref 220 :: []) _ _ _
    refine j_i2lz dL_line_7 ?_
    refine j_lastore dL_line_8 g ⟨by decide, by decide⟩ (by decide) ?_
    refine j_goto (tgt := 15) dL_line_9 (by decide) ?_
    refine j_iconst dL_line_15 ?_
    subst hZ
    exact j_ireturn dL_line_16 rfl rfl (.inl ⟨x, h1, rfl, hp9, rfl⟩) (Nat.le_of_ble_eq_true rfl) (Nat.le_of_ble_eq_true rfl)
  · obtain ⟨g, hE⟩ := hx E h1 hp9
    subst hE
    refine j_catch (e9 := 300) (i9 := 0) (pre := []) (suf := []) (a := 0) (b := 9) (g := 12) (ct := 19) rfl (fun q hq => by cases hq) ⟨by decide, by decide⟩ (by decide) (jw_mem 731 (by decide +kernel) (by decide +kernel)) (by decide +kernel) g (by decide) (jfr_of rfl rfl) ?_
    refine j_astore_n (L' := [(0, _), (1, _), (2, _), (3, _)]) dL_line_12 rfl (by decide) rfl ?_
    refine j_iconst dL_line_13 ?_
    subst hZ
    exact j_ireturn dL_line_14 rfl rfl (.inr ⟨1, _, rfl, (.head _), hp9⟩) (Nat.le_of_ble_eq_true rfl) (Nat.le_of_ble_eq_true rfl)
set_option maxHeartbeats 2000000 in
theorem w_character {h : jH} {fs : List Value} {f : Int → Int} {Pn : jPn} {Px : jPx} {i : Int} (hM : jM mX4_character 6 1 6 [300] [.ref 0, iv i] h Pn Px) (h0 : h 0 = some (jO 4 fs)) (hn : ∀ r h', Pn r h' → (∃ x, r = some (iv x)) ∧ h' 220 = some (jA 4 1 f)) (hx : ∀ E h', Px E h' → h' 300 = none ∧ (E = "java/lang/IndexOutOfBoundsException")) : jM mL_character 7 1 6 [300] [.ref 0, iv i, .ref 220] h (wP f Pn Px [(1, "java/lang/IndexOutOfBoundsException")]) jno := by
  refine j_methodH (by decide +kernel) (fun q => by cases q) (fun _ _ _ => trivial) (Nat.le_of_ble_eq_true rfl) ?_
  generalize hZ : jZ [300] 1 6 _ _ = Z
  show J mL_character (jR 7 1 6) [300] Z 0 [(0, .ref 0), (1, iv i), (2, .ref 220)] [] h 0 0
  refine j_aload_n dL_character_0 rfl rfl ?_
  refine j_iconst dL_character_1 ?_
  refine j_aload_n dL_character_2 rfl rfl ?_
  refine j_iload_n dL_character_3 rfl rfl ?_
  refine j_callV hM dL_character_4 jc_L_87 jmV_X4_character rfl rfl h0 rfl rfl (by simp) (jfr_of rfl rfl) (Nat.le_of_ble_eq_true rfl) ⟨Nat.le_of_ble_eq_true rfl, Nat.le_of_ble_eq_true rfl⟩ ⟨Nat.le_of_ble_eq_true rfl, Nat.le_of_ble_eq_true rfl⟩ (fun r h1 hp9 => ?_) (fun E h1 hp9 => ?_)
  · obtain ⟨⟨x, rfl⟩, g⟩ := hn r h1 hp9
    show J mL_character _ _ _ 7 _ (iv x :: iv 0 :: .ref 220 :: []) _ _ _
    refine j_i2lz dL_character_7 ?_
    refine j_lastore dL_character_8 g ⟨by decide, by decide⟩ (by decide) ?_
    refine j_goto (tgt := 15) dL_character_9 (by decide) ?_
    refine j_iconst dL_character_15 ?_
    subst hZ
    exact j_ireturn dL_character_16 rfl rfl (.inl ⟨x, h1, rfl, hp9, rfl⟩) (Nat.le_of_ble_eq_true rfl) (Nat.le_of_ble_eq_true rfl)
  · obtain ⟨g, hE⟩ := hx E h1 hp9
    subst hE
    refine j_catch (e9 := 300) (i9 := 0) (pre := []) (suf := []) (a := 0) (b := 9) (g := 12) (ct := 19) rfl (fun q hq => by cases hq) ⟨by decide, by decide⟩ (by decide) (jw_mem 731 (by decide +kernel) (by decide +kernel)) (by decide +kernel) g (by decide) (jfr_of rfl rfl) ?_
    refine j_astore_n (L' := [(0, _), (1, _), (2, _), (3, _)]) dL_character_12 rfl (by decide) rfl ?_
    refine j_iconst dL_character_13 ?_
    subst hZ
    exact j_ireturn dL_character_14 rfl rfl (.inr ⟨1, _, rfl, (.head _), hp9⟩) (Nat.le_of_ble_eq_true rfl) (Nat.le_of_ble_eq_true rfl)
set_option maxHeartbeats 2000000 in
theorem w_append {h : jH} {fs : List Value} {f : Int → Int} {Pn : jPn} {Px : jPx} {ch : Int} (hM : jM mX4_append 6 1 6 [] [.ref 0, iv ch] h Pn Px) (h0 : h 0 = some (jO 4 fs)) (hn : ∀ r h', Pn r h' → (∃ x, r = some (iv x)) ∧ h' 220 = some (jA 4 1 f)) (hx : ∀ E h', Px E h' → h' 300 = none ∧ (E = "java/lang/IllegalStateException")) : jM mL_append 7 1 6 [300] [.ref 0, iv ch, .ref 220] h (wP f Pn Px [(1, "java/lang/IllegalStateException")]) jno := by
  refine j_methodH (by decide +kernel) (fun q => by cases q) (fun _ _ _ => trivial) (Nat.le_of_ble_eq_true rfl) ?_
  generalize hZ : jZ [300] 1 6 _ _ = Z
  show J mL_append (jR 7 1 6) [300] Z 0 [(0, .ref 0), (1, iv ch), (2, .ref 220)] [] h 0 0
  refine j_aload_n dL_append_0 rfl rfl ?_
  refine j_iconst dL_append_1 ?_
  refine j_aload_n dL_append_2 rfl rfl ?_
  refine j_iload_n dL_append_3 rfl rfl ?_
  refine j_callV hM dL_append_4 jc_L_91 jmV_X4_append rfl rfl h0 rfl rfl (by simp) (jfr_of rfl rfl) (Nat.le_of_ble_eq_true rfl) ⟨Nat.le_of_ble_eq_true rfl, Nat.le_of_ble_eq_true rfl⟩ ⟨Nat.le_of_ble_eq_true rfl, Nat.le_of_ble_eq_true rfl⟩ (fun r h1 hp9 => ?_) (fun E h1 hp9 => ?_)
  · obtain ⟨⟨x, rfl⟩, g⟩ := hn r h1 hp9
    show J mL_append _ _ _ 7 _ (iv x :: iv 0 :: .ref 220 :: []) _ _ _
    refine j_i2lz dL_append_7 ?_
    refine j_lastore dL_append_8 g ⟨by decide, by decide⟩ (by decide) ?_
    refine j_goto (tgt := 15) dL_append_9 (by decide) ?_
    refine j_iconst dL_append_15 ?_
    subst hZ
    exact j_ireturn dL_append_16 rfl rfl (.inl ⟨x, h1, rfl, hp9, rfl⟩) (Nat.le_of_ble_eq_true rfl) (Nat.le_of_ble_eq_true rfl)
  · obtain ⟨g, hE⟩ := hx E h1 hp9
    subst hE
    refine j_catch (e9 := 300) (i9 := 0) (pre := []) (suf := []) (a := 0) (b := 9) (g := 12) (ct := 70) rfl (fun q hq => by cases hq) ⟨by decide, by decide⟩ (by decide) (jw_mem 900 (by decide +kernel) (by decide +kernel)) (by decide +kernel) g (by decide) (jfr_of rfl rfl) ?_
    refine j_astore_n (L' := [(0, _), (1, _), (2, _), (3, _)]) dL_append_12 rfl (by decide) rfl ?_
    refine j_iconst dL_append_13 ?_
    subst hZ
    exact j_ireturn dL_append_14 rfl rfl (.inr ⟨1, _, rfl, (.head _), hp9⟩) (Nat.le_of_ble_eq_true rfl) (Nat.le_of_ble_eq_true rfl)
set_option maxHeartbeats 2000000 in
theorem w_run {h : jH} {fs : List Value} {f : Int → Int} {Pn : jPn} {Px : jPx} (hM : jM mX4_run 10 1 6 [] [.ref 0] h Pn Px) (h0 : h 0 = some (jO 4 fs)) (hn : ∀ r h', Pn r h' → (∃ x, r = some (iv x)) ∧ h' 220 = some (jA 4 1 f)) (hx : ∀ E h', Px E h' → h' 300 = none ∧ (E = "java/lang/IllegalArgumentException" ∨ E = "java/lang/UnsupportedOperationException")) : jM mL_run 11 1 6 [300] [.ref 0, .ref 220] h (wP f Pn Px [(1, "java/lang/IllegalArgumentException"), (2, "java/lang/UnsupportedOperationException")]) jno := by
  refine j_methodH (by decide +kernel) (fun q => by cases q) (fun _ _ _ => trivial) (Nat.le_of_ble_eq_true rfl) ?_
  generalize hZ : jZ [300] 1 6 _ _ = Z
  show J mL_run (jR 11 1 6) [300] Z 0 [(0, .ref 0), (1, .ref 220)] [] h 0 0
  refine j_aload_n dL_run_0 rfl rfl ?_
  refine j_iconst dL_run_1 ?_
  refine j_aload_n dL_run_2 rfl rfl ?_
  refine j_callV hM dL_run_3 jc_L_95 jmV_X4_run rfl rfl h0 rfl rfl (by simp) (jfr_of rfl rfl) (Nat.le_of_ble_eq_true rfl) ⟨Nat.le_of_ble_eq_true rfl, Nat.le_of_ble_eq_true rfl⟩ ⟨Nat.le_of_ble_eq_true rfl, Nat.le_of_ble_eq_true rfl⟩ (fun r h1 hp9 => ?_) (fun E h1 hp9 => ?_)
  · obtain ⟨⟨x, rfl⟩, g⟩ := hn r h1 hp9
    show J mL_run _ _ _ 6 _ (iv x :: iv 0 :: .ref 220 :: []) _ _ _
    refine j_i2lz dL_run_6 ?_
    refine j_lastore dL_run_7 g ⟨by decide, by decide⟩ (by decide) ?_
    refine j_goto (tgt := 17) dL_run_8 (by decide) ?_
    refine j_iconst dL_run_17 ?_
    subst hZ
    exact j_ireturn dL_run_18 rfl rfl (.inl ⟨x, h1, rfl, hp9, rfl⟩) (Nat.le_of_ble_eq_true rfl) (Nat.le_of_ble_eq_true rfl)
  · obtain ⟨g, hE⟩ := hx E h1 hp9
    rcases hE with rfl | rfl
    · refine j_catch (e9 := 300) (i9 := 0) (pre := []) (suf := [(0, 8, 14, 13)]) (a := 0) (b := 8) (g := 11) (ct := 31) rfl (fun q hq => by cases hq) ⟨by decide, by decide⟩ (by decide) (jw_mem 773 (by decide +kernel) (by decide +kernel)) (by decide +kernel) g (by decide) (jfr_of rfl rfl) ?_
      refine j_astore_n (L' := [(0, _), (1, _), (2, _)]) dL_run_11 rfl (by decide) rfl ?_
      refine j_iconst dL_run_12 ?_
      subst hZ
      exact j_ireturn dL_run_13 rfl rfl (.inr ⟨1, _, rfl, (.head _), hp9⟩) (Nat.le_of_ble_eq_true rfl) (Nat.le_of_ble_eq_true rfl)
    · refine j_catch (e9 := 300) (i9 := 0) (pre := [(0, 8, 11, 31)]) (suf := []) (a := 0) (b := 8) (g := 14) (ct := 13) rfl (fun q hq => by rw [List.mem_singleton.mp hq]; exact ⟨by decide, "java/lang/IllegalArgumentException", (jw_mem 773 (by decide +kernel) (by decide +kernel)), by decide +kernel⟩) ⟨by decide, by decide⟩ (by decide) (jw_mem 438 (by decide +kernel) (by decide +kernel)) (by decide +kernel) g (by decide) (jfr_of rfl rfl) ?_
      refine j_astore_n (L' := [(0, _), (1, _), (2, _)]) dL_run_14 rfl (by decide) rfl ?_
      refine j_iconst dL_run_15 ?_
      subst hZ
      exact j_ireturn dL_run_16 rfl rfl (.inr ⟨2, _, rfl, (.tail _ (.head _)), hp9⟩) (Nat.le_of_ble_eq_true rfl) (Nat.le_of_ble_eq_true rfl)
set_option maxHeartbeats 2000000 in
theorem w_refusal {h : jH} {fs : List Value} {f : Int → Int} {Pn : jPn} {Px : jPx} {d : Int} (hM : jM mX4_refusal 6 1 6 [] [.ref 0, iv d] h Pn Px) (h0 : h 0 = some (jO 4 fs)) (hn : ∀ r h', Pn r h' → (∃ x, r = some (iv x)) ∧ h' 220 = some (jA 4 1 f)) (hx : ∀ E h', Px E h' → h' 300 = none ∧ (E = "java/util/NoSuchElementException")) : jM mL_refusal 7 1 6 [300] [.ref 0, iv d, .ref 220] h (wP f Pn Px [(1, "java/util/NoSuchElementException")]) jno := by
  refine j_methodH (by decide +kernel) (fun q => by cases q) (fun _ _ _ => trivial) (Nat.le_of_ble_eq_true rfl) ?_
  generalize hZ : jZ [300] 1 6 _ _ = Z
  show J mL_refusal (jR 7 1 6) [300] Z 0 [(0, .ref 0), (1, iv d), (2, .ref 220)] [] h 0 0
  refine j_aload_n dL_refusal_0 rfl rfl ?_
  refine j_iconst dL_refusal_1 ?_
  refine j_aload_n dL_refusal_2 rfl rfl ?_
  refine j_iload_n dL_refusal_3 rfl rfl ?_
  refine j_callV hM dL_refusal_4 jc_L_98 jmV_X4_refusal rfl rfl h0 rfl rfl (by simp) (jfr_of rfl rfl) (Nat.le_of_ble_eq_true rfl) ⟨Nat.le_of_ble_eq_true rfl, Nat.le_of_ble_eq_true rfl⟩ ⟨Nat.le_of_ble_eq_true rfl, Nat.le_of_ble_eq_true rfl⟩ (fun r h1 hp9 => ?_) (fun E h1 hp9 => ?_)
  · obtain ⟨⟨x, rfl⟩, g⟩ := hn r h1 hp9
    show J mL_refusal _ _ _ 7 _ (iv x :: iv 0 :: .ref 220 :: []) _ _ _
    refine j_i2lz dL_refusal_7 ?_
    refine j_lastore dL_refusal_8 g ⟨by decide, by decide⟩ (by decide) ?_
    refine j_goto (tgt := 15) dL_refusal_9 (by decide) ?_
    refine j_iconst dL_refusal_15 ?_
    subst hZ
    exact j_ireturn dL_refusal_16 rfl rfl (.inl ⟨x, h1, rfl, hp9, rfl⟩) (Nat.le_of_ble_eq_true rfl) (Nat.le_of_ble_eq_true rfl)
  · obtain ⟨g, hE⟩ := hx E h1 hp9
    subst hE
    refine j_catch (e9 := 300) (i9 := 0) (pre := []) (suf := []) (a := 0) (b := 9) (g := 12) (ct := 37) rfl (fun q hq => by cases hq) ⟨by decide, by decide⟩ (by decide) (jw_mem 798 (by decide +kernel) (by decide +kernel)) (by decide +kernel) g (by decide) (jfr_of rfl rfl) ?_
    refine j_astore_n (L' := [(0, _), (1, _), (2, _), (3, _)]) dL_refusal_12 rfl (by decide) rfl ?_
    refine j_iconst dL_refusal_13 ?_
    subst hZ
    exact j_ireturn dL_refusal_14 rfl rfl (.inr ⟨1, _, rfl, (.head _), hp9⟩) (Nat.le_of_ble_eq_true rfl) (Nat.le_of_ble_eq_true rfl)
set_option maxHeartbeats 2000000 in
theorem w_account {h : jH} {fs : List Value} {f : Int → Int} {Pn : jPn} {Px : jPx} {w : Int} (hM : jM mX4_account 6 1 6 [] [.ref 0, iv w] h Pn Px) (h0 : h 0 = some (jO 4 fs)) (hn : ∀ r h', Pn r h' → (∃ x, r = some (iv x)) ∧ h' 220 = some (jA 4 1 f)) (hx : ∀ E h', Px E h' → h' 300 = none ∧ (E = "java/lang/IllegalArgumentException")) : jM mL_account 7 1 6 [300] [.ref 0, iv w, .ref 220] h (wP f Pn Px [(1, "java/lang/IllegalArgumentException")]) jno := by
  refine j_methodH (by decide +kernel) (fun q => by cases q) (fun _ _ _ => trivial) (Nat.le_of_ble_eq_true rfl) ?_
  generalize hZ : jZ [300] 1 6 _ _ = Z
  show J mL_account (jR 7 1 6) [300] Z 0 [(0, .ref 0), (1, iv w), (2, .ref 220)] [] h 0 0
  refine j_aload_n dL_account_0 rfl rfl ?_
  refine j_iconst dL_account_1 ?_
  refine j_aload_n dL_account_2 rfl rfl ?_
  refine j_iload_n dL_account_3 rfl rfl ?_
  refine j_callV hM dL_account_4 jc_L_102 jmV_X4_account rfl rfl h0 rfl rfl (by simp) (jfr_of rfl rfl) (Nat.le_of_ble_eq_true rfl) ⟨Nat.le_of_ble_eq_true rfl, Nat.le_of_ble_eq_true rfl⟩ ⟨Nat.le_of_ble_eq_true rfl, Nat.le_of_ble_eq_true rfl⟩ (fun r h1 hp9 => ?_) (fun E h1 hp9 => ?_)
  · obtain ⟨⟨x, rfl⟩, g⟩ := hn r h1 hp9
    show J mL_account _ _ _ 7 _ (iv x :: iv 0 :: .ref 220 :: []) _ _ _
    refine j_i2lz dL_account_7 ?_
    refine j_lastore dL_account_8 g ⟨by decide, by decide⟩ (by decide) ?_
    refine j_goto (tgt := 15) dL_account_9 (by decide) ?_
    refine j_iconst dL_account_15 ?_
    subst hZ
    exact j_ireturn dL_account_16 rfl rfl (.inl ⟨x, h1, rfl, hp9, rfl⟩) (Nat.le_of_ble_eq_true rfl) (Nat.le_of_ble_eq_true rfl)
  · obtain ⟨g, hE⟩ := hx E h1 hp9
    subst hE
    refine j_catch (e9 := 300) (i9 := 0) (pre := []) (suf := []) (a := 0) (b := 9) (g := 12) (ct := 31) rfl (fun q hq => by cases hq) ⟨by decide, by decide⟩ (by decide) (jw_mem 773 (by decide +kernel) (by decide +kernel)) (by decide +kernel) g (by decide) (jfr_of rfl rfl) ?_
    refine j_astore_n (L' := [(0, _), (1, _), (2, _), (3, _)]) dL_account_12 rfl (by decide) rfl ?_
    refine j_iconst dL_account_13 ?_
    subst hZ
    exact j_ireturn dL_account_14 rfl rfl (.inr ⟨1, _, rfl, (.head _), hp9⟩) (Nat.le_of_ble_eq_true rfl) (Nat.le_of_ble_eq_true rfl)
set_option maxHeartbeats 2000000 in
theorem w_undo {h : jH} {fs : List Value} {f : Int → Int} {Pn : jPn} {Px : jPx} (hM : jM mX4_undo 7 1 6 [] [.ref 0] h Pn Px) (h0 : h 0 = some (jO 4 fs)) (hn : ∀ r h', Pn r h' → (∃ x, r = some (iv x)) ∧ h' 220 = some (jA 4 1 f)) (hx : ∀ E h', Px E h' → h' 300 = none ∧ (E = "java/lang/IllegalStateException")) : jM mL_undo 8 1 6 [300] [.ref 0, .ref 220] h (wP f Pn Px [(1, "java/lang/IllegalStateException")]) jno := by
  refine j_methodH (by decide +kernel) (fun q => by cases q) (fun _ _ _ => trivial) (Nat.le_of_ble_eq_true rfl) ?_
  generalize hZ : jZ [300] 1 6 _ _ = Z
  show J mL_undo (jR 8 1 6) [300] Z 0 [(0, .ref 0), (1, .ref 220)] [] h 0 0
  refine j_aload_n dL_undo_0 rfl rfl ?_
  refine j_iconst dL_undo_1 ?_
  refine j_aload_n dL_undo_2 rfl rfl ?_
  refine j_callV hM dL_undo_3 jc_L_115 jmV_X4_undo rfl rfl h0 rfl rfl (by simp) (jfr_of rfl rfl) (Nat.le_of_ble_eq_true rfl) ⟨Nat.le_of_ble_eq_true rfl, Nat.le_of_ble_eq_true rfl⟩ ⟨Nat.le_of_ble_eq_true rfl, Nat.le_of_ble_eq_true rfl⟩ (fun r h1 hp9 => ?_) (fun E h1 hp9 => ?_)
  · obtain ⟨⟨x, rfl⟩, g⟩ := hn r h1 hp9
    show J mL_undo _ _ _ 6 _ (iv x :: iv 0 :: .ref 220 :: []) _ _ _
    refine j_i2lz dL_undo_6 ?_
    refine j_lastore dL_undo_7 g ⟨by decide, by decide⟩ (by decide) ?_
    refine j_goto (tgt := 14) dL_undo_8 (by decide) ?_
    refine j_iconst dL_undo_14 ?_
    subst hZ
    exact j_ireturn dL_undo_15 rfl rfl (.inl ⟨x, h1, rfl, hp9, rfl⟩) (Nat.le_of_ble_eq_true rfl) (Nat.le_of_ble_eq_true rfl)
  · obtain ⟨g, hE⟩ := hx E h1 hp9
    subst hE
    refine j_catch (e9 := 300) (i9 := 0) (pre := []) (suf := []) (a := 0) (b := 8) (g := 11) (ct := 70) rfl (fun q hq => by cases hq) ⟨by decide, by decide⟩ (by decide) (jw_mem 900 (by decide +kernel) (by decide +kernel)) (by decide +kernel) g (by decide) (jfr_of rfl rfl) ?_
    refine j_astore_n (L' := [(0, _), (1, _), (2, _)]) dL_undo_11 rfl (by decide) rfl ?_
    refine j_iconst dL_undo_12 ?_
    subst hZ
    exact j_ireturn dL_undo_13 rfl rfl (.inr ⟨1, _, rfl, (.head _), hp9⟩) (Nat.le_of_ble_eq_true rfl) (Nat.le_of_ble_eq_true rfl)
set_option maxHeartbeats 2000000 in
theorem w_restore {h : jH} {fs : List Value} {f : Int → Int} {Pn : jPn} {Px : jPx} (hM : jM mX4_restore 7 1 6 [] [.ref 0] h Pn Px) (h0 : h 0 = some (jO 4 fs)) (hn : ∀ r h', Pn r h' → (∃ x, r = some (iv x)) ∧ h' 220 = some (jA 4 1 f)) (hx : ∀ E h', Px E h' → h' 300 = none ∧ (E = "java/lang/IllegalStateException")) : jM mL_restore 8 1 6 [300] [.ref 0, .ref 220] h (wP f Pn Px [(1, "java/lang/IllegalStateException")]) jno := by
  refine j_methodH (by decide +kernel) (fun q => by cases q) (fun _ _ _ => trivial) (Nat.le_of_ble_eq_true rfl) ?_
  generalize hZ : jZ [300] 1 6 _ _ = Z
  show J mL_restore (jR 8 1 6) [300] Z 0 [(0, .ref 0), (1, .ref 220)] [] h 0 0
  refine j_aload_n dL_restore_0 rfl rfl ?_
  refine j_iconst dL_restore_1 ?_
  refine j_aload_n dL_restore_2 rfl rfl ?_
  refine j_callV hM dL_restore_3 jc_L_118 jmV_X4_restore rfl rfl h0 rfl rfl (by simp) (jfr_of rfl rfl) (Nat.le_of_ble_eq_true rfl) ⟨Nat.le_of_ble_eq_true rfl, Nat.le_of_ble_eq_true rfl⟩ ⟨Nat.le_of_ble_eq_true rfl, Nat.le_of_ble_eq_true rfl⟩ (fun r h1 hp9 => ?_) (fun E h1 hp9 => ?_)
  · obtain ⟨⟨x, rfl⟩, g⟩ := hn r h1 hp9
    show J mL_restore _ _ _ 6 _ (iv x :: iv 0 :: .ref 220 :: []) _ _ _
    refine j_i2lz dL_restore_6 ?_
    refine j_lastore dL_restore_7 g ⟨by decide, by decide⟩ (by decide) ?_
    refine j_goto (tgt := 14) dL_restore_8 (by decide) ?_
    refine j_iconst dL_restore_14 ?_
    subst hZ
    exact j_ireturn dL_restore_15 rfl rfl (.inl ⟨x, h1, rfl, hp9, rfl⟩) (Nat.le_of_ble_eq_true rfl) (Nat.le_of_ble_eq_true rfl)
  · obtain ⟨g, hE⟩ := hx E h1 hp9
    subst hE
    refine j_catch (e9 := 300) (i9 := 0) (pre := []) (suf := []) (a := 0) (b := 8) (g := 11) (ct := 70) rfl (fun q hq => by cases hq) ⟨by decide, by decide⟩ (by decide) (jw_mem 900 (by decide +kernel) (by decide +kernel)) (by decide +kernel) g (by decide) (jfr_of rfl rfl) ?_
    refine j_astore_n (L' := [(0, _), (1, _), (2, _)]) dL_restore_11 rfl (by decide) rfl ?_
    refine j_iconst dL_restore_12 ?_
    subst hZ
    exact j_ireturn dL_restore_13 rfl rfl (.inr ⟨1, _, rfl, (.head _), hp9⟩) (Nat.le_of_ble_eq_true rfl) (Nat.le_of_ble_eq_true rfl)
/-- the end of a wrapper whose answer is a double, or a float -/
def wD (f : Int → Int) (Pn : jPn) (Px : jPx) (es : List (Int × String)) : jPn := fun r h' => (∃ (x : UInt64) (v : Value) (h1 : jH), r = some (iv 0) ∧ Pn (some v) h1 ∧ (v = .double x ∨ ∃ y, v = .float y ∧ x = FP.f2d y) ∧ h' = jup h1 221 (jA 5 1 (jfu f 0 (x.toNat : Int)))) ∨ (∃ k E, r = some (iv k) ∧ (k, E) ∈ es ∧ Px E h')
set_option maxHeartbeats 2000000 in
theorem w_meanDepth {h : jH} {fs : List Value} {f : Int → Int} {Pn : jPn} {Px : jPx} (hM : jM mX4_meanDepth 6 1 6 [] [.ref 0] h Pn Px) (h0 : h 0 = some (jO 4 fs)) (hn : ∀ r h', Pn r h' → (∃ x, r = some (.double x)) ∧ h' 221 = some (jA 5 1 f)) (hx : ∀ E h', Px E h' → h' 300 = none ∧ (E = "java/lang/ArithmeticException")) : jM mL_meanDepth 7 1 6 [300] [.ref 0, .ref 221] h (wD f Pn Px [(1, "java/lang/ArithmeticException")]) jno := by
  refine j_methodH (by decide +kernel) (fun q => by cases q) (fun _ _ _ => trivial) (Nat.le_of_ble_eq_true rfl) ?_
  generalize hZ : jZ [300] 1 6 _ _ = Z
  show J mL_meanDepth (jR 7 1 6) [300] Z 0 [(0, .ref 0), (1, .ref 221)] [] h 0 0
  refine j_aload_n dL_meanDepth_0 rfl rfl ?_
  refine j_iconst dL_meanDepth_1 ?_
  refine j_aload_n dL_meanDepth_2 rfl rfl ?_
  refine j_callV hM dL_meanDepth_3 jc_L_105 jmV_X4_meanDepth rfl rfl h0 rfl rfl (by simp) (jfr_of rfl rfl) (Nat.le_of_ble_eq_true rfl) ⟨Nat.le_of_ble_eq_true rfl, Nat.le_of_ble_eq_true rfl⟩ ⟨Nat.le_of_ble_eq_true rfl, Nat.le_of_ble_eq_true rfl⟩ (fun r h1 hp9 => ?_) (fun E h1 hp9 => ?_)
  · obtain ⟨⟨x, rfl⟩, g⟩ := hn r h1 hp9
    show J mL_meanDepth _ _ _ 6 _ (.double x :: iv 0 :: .ref 221 :: []) _ _ _
    refine j_dastore dL_meanDepth_6 g ⟨by decide, by decide⟩ (by decide) ?_
    refine j_goto (tgt := 13) dL_meanDepth_7 (by decide) ?_
    refine j_iconst dL_meanDepth_13 ?_
    subst hZ
    exact j_ireturn dL_meanDepth_14 rfl rfl (.inl ⟨x, _, h1, rfl, hp9, .inl rfl, rfl⟩) (Nat.le_of_ble_eq_true rfl) (Nat.le_of_ble_eq_true rfl)
  · obtain ⟨g, hE⟩ := hx E h1 hp9
    subst hE
    refine j_catch (e9 := 300) (i9 := 0) (pre := []) (suf := []) (a := 0) (b := 7) (g := 10) (ct := 109) rfl (fun q hq => by cases hq) ⟨by decide, by decide⟩ (by decide) (jw_mem 1376 (by decide +kernel) (by decide +kernel)) (by decide +kernel) g (by decide) (jfr_of rfl rfl) ?_
    refine j_astore_n (L' := [(0, _), (1, _), (2, _)]) dL_meanDepth_10 rfl (by decide) rfl ?_
    refine j_iconst dL_meanDepth_11 ?_
    subst hZ
    exact j_ireturn dL_meanDepth_12 rfl rfl (.inr ⟨1, _, rfl, (.head _), hp9⟩) (Nat.le_of_ble_eq_true rfl) (Nat.le_of_ble_eq_true rfl)
set_option maxHeartbeats 2000000 in
theorem w_livingShare {h : jH} {fs : List Value} {f : Int → Int} {Pn : jPn} {Px : jPx} (hM : jM mX4_livingShare 6 1 6 [] [.ref 0] h Pn Px) (h0 : h 0 = some (jO 4 fs)) (hn : ∀ r h', Pn r h' → (∃ x, r = some (.float x)) ∧ h' 221 = some (jA 5 1 f) ∧ ∀ x, r = some (.float x) → vf_n64 (FP.f2d x)) (hx : ∀ E h', Px E h' → h' 300 = none ∧ (E = "java/lang/ArithmeticException")) : jM mL_livingShare 7 1 6 [300] [.ref 0, .ref 221] h (wD f Pn Px [(1, "java/lang/ArithmeticException")]) jno := by
  refine j_methodH (by decide +kernel) (fun q => by cases q) (fun _ _ _ => trivial) (Nat.le_of_ble_eq_true rfl) ?_
  generalize hZ : jZ [300] 1 6 _ _ = Z
  show J mL_livingShare (jR 7 1 6) [300] Z 0 [(0, .ref 0), (1, .ref 221)] [] h 0 0
  refine j_aload_n dL_livingShare_0 rfl rfl ?_
  refine j_iconst dL_livingShare_1 ?_
  refine j_aload_n dL_livingShare_2 rfl rfl ?_
  refine j_callV hM dL_livingShare_3 jc_L_111 jmV_X4_livingShare rfl rfl h0 rfl rfl (by simp) (jfr_of rfl rfl) (Nat.le_of_ble_eq_true rfl) ⟨Nat.le_of_ble_eq_true rfl, Nat.le_of_ble_eq_true rfl⟩ ⟨Nat.le_of_ble_eq_true rfl, Nat.le_of_ble_eq_true rfl⟩ (fun r h1 hp9 => ?_) (fun E h1 hp9 => ?_)
  · obtain ⟨⟨x, rfl⟩, g, gf⟩ := hn r h1 hp9
    show J mL_livingShare _ _ _ 6 _ (.float x :: iv 0 :: .ref 221 :: []) _ _ _
    refine j_f2d dL_livingShare_6 (gf x rfl) ?_
    refine j_dastore dL_livingShare_7 g ⟨by decide, by decide⟩ (by decide) ?_
    refine j_goto (tgt := 14) dL_livingShare_8 (by decide) ?_
    refine j_iconst dL_livingShare_14 ?_
    subst hZ
    exact j_ireturn dL_livingShare_15 rfl rfl (.inl ⟨FP.f2d x, _, h1, rfl, hp9, .inr ⟨x, rfl, rfl⟩, rfl⟩) (Nat.le_of_ble_eq_true rfl) (Nat.le_of_ble_eq_true rfl)
  · obtain ⟨g, hE⟩ := hx E h1 hp9
    subst hE
    refine j_catch (e9 := 300) (i9 := 0) (pre := []) (suf := []) (a := 0) (b := 8) (g := 11) (ct := 109) rfl (fun q hq => by cases hq) ⟨by decide, by decide⟩ (by decide) (jw_mem 1376 (by decide +kernel) (by decide +kernel)) (by decide +kernel) g (by decide) (jfr_of rfl rfl) ?_
    refine j_astore_n (L' := [(0, _), (1, _), (2, _)]) dL_livingShare_11 rfl (by decide) rfl ?_
    refine j_iconst dL_livingShare_12 ?_
    subst hZ
    exact j_ireturn dL_livingShare_13 rfl rfl (.inr ⟨1, _, rfl, (.head _), hp9⟩) (Nat.le_of_ble_eq_true rfl) (Nat.le_of_ble_eq_true rfl)
