/-! THE START -/
theorem l_arr {s : State} {args : Array Value} {ty : FieldType} (h : (Cond.arrayClass ty).before args s = true) : ∃ cA, ArrOfT s cA ty ∧ s.vm.findClass ("[" ++ ty.toString) = some cA := by
  obtain ⟨c, k, comp, h1, h2, h3⟩ := Cond.arrayClass_spec h
  exact ⟨c, fun n z => ⟨fun k h => (by cases h), k, h2, comp, h3⟩, h1⟩
theorem l_aro {s : State} {args : Array Value} {C : String} (h : (Cond.arrayOver (.object C)).before args s = true) : ∃ cA, ArrOfT s cA (.object C) ∧ va_RA s cA (.object C) := by
  obtain ⟨comp, c, k, h1, h2, h3, h4, h5⟩ := Cond.arrayOver_spec h
  exact ⟨c, fun n z => ⟨fun k h => (by cases h), k, h3, comp, h4⟩, k, comp, h3, h4, h1, h5⟩
theorem l_K {s : State} {args : Array Value} (hts : ∀ w ∈ lw_tbl, w.before args s = true) : ∃ D cy, va_K D jcl (jtys cy) s := by
  obtain ⟨k0, s0, q0⟩ := u_known (C := RX0) (T := TX0) (N := 2) (n := 2) hts (fun w h => (jin_0 w h).1) (hts _ (List.mem_of_getElem? (i := 180) (by decide +kernel)))
  obtain ⟨k1, s1, q1⟩ := u_known (C := RX1) (T := TX1) (N := 11) (n := 11) hts (fun w h => (jin_1 w h).1) (hts _ (List.mem_of_getElem? (i := 131) (by decide +kernel)))
  obtain ⟨k2, s2, q2⟩ := u_known (C := RX2) (T := TX2) (N := 2) (n := 2) hts (fun w h => (jin_2 w h).1) (hts _ (List.mem_of_getElem? (i := 193) (by decide +kernel)))
  obtain ⟨k3, s3, q3⟩ := u_known (C := RX3) (T := TX3) (N := 7) (n := 7) hts (fun w h => (jin_3 w h).1) (hts _ (List.mem_of_getElem? (i := 206) (by decide +kernel)))
  obtain ⟨k4, s4, q4⟩ := u_known (C := RX4) (T := TX4) (N := 13) (n := 13) hts (fun w h => (jin_4 w h).1) (hts _ (List.mem_of_getElem? (i := 123) (by decide +kernel)))
  obtain ⟨k5, s5, q5⟩ := u_known (C := RX5) (T := TX5) (N := 22) (n := 22) hts (fun w h => (jin_5 w h).1) (hts _ (List.mem_of_getElem? (i := 1425) (by decide +kernel)))
  obtain ⟨k6, s6, q6⟩ := u_known (C := RJ4) (T := TJ4) (N := 4) (n := 4) hts (fun w h => (jin_6 w h).1) (hts _ (List.mem_of_getElem? (i := 237) (by decide +kernel)))
  obtain ⟨c0, a0, b0⟩ := l_arr (ty := .int) (hts _ (List.mem_of_getElem? (i := 176) (by decide +kernel)))
  obtain ⟨c1, a1, b1⟩ := l_arr (ty := .boolean) (hts _ (List.mem_of_getElem? (i := 177) (by decide +kernel)))
  obtain ⟨c2, a2, b2⟩ := l_arr (ty := .char) (hts _ (List.mem_of_getElem? (i := 235) (by decide +kernel)))
  obtain ⟨c3, a3, b3⟩ := l_arr (ty := .byte) (hts _ (List.mem_of_getElem? (i := 268) (by decide +kernel)))
  obtain ⟨c4, a4, b4⟩ := l_arr (ty := .long) (hts _ (List.mem_of_getElem? (i := 1828) (by decide +kernel)))
  obtain ⟨c5, a5, b5⟩ := l_arr (ty := .double) (hts _ (List.mem_of_getElem? (i := 1829) (by decide +kernel)))
  obtain ⟨c6, a6, b6⟩ := l_aro (C := RX1) (hts _ (List.mem_of_getElem? (i := 178) (by decide +kernel)))
  refine ⟨(fun k => if k = 0 then k0 else if k = 1 then k1 else if k = 2 then k2 else if k = 3 then k3 else if k = 4 then k4 else if k = 5 then k5 else k6, fun k => if k = 0 then s0 else if k = 1 then s1 else if k = 2 then s2 else if k = 3 then s3 else if k = 4 then s4 else if k = 5 then s5 else s6), fun k => if k = 0 then c0 else if k = 1 then c1 else if k = 2 then c2 else if k = 3 then c3 else if k = 4 then c4 else if k = 5 then c5 else c6, fun c q hq => ?_, fun k q hq => ?_⟩
  · match c, hq with
    | 0, hq => cases hq; exact q0
    | 1, hq => cases hq; exact q1
    | 2, hq => cases hq; exact q2
    | 3, hq => cases hq; exact q3
    | 4, hq => cases hq; exact q4
    | 5, hq => cases hq; exact q5
    | 6, hq => cases hq; exact q6
    | c + 7, hq => simp at hq
  · match k, hq with
    | 0, hq => cases hq; exact ⟨a0, b0⟩
    | 1, hq => cases hq; exact ⟨a1, b1⟩
    | 2, hq => cases hq; exact ⟨a2, b2⟩
    | 3, hq => cases hq; exact ⟨a3, b3⟩
    | 4, hq => cases hq; exact ⟨a4, b4⟩
    | 5, hq => cases hq; exact ⟨a5, b5⟩
    | 6, hq => cases hq; exact ⟨a6, b6⟩
    | k + 7, hq => simp [jtys] at hq
set_option maxHeartbeats 8000000 in
theorem l_S {s : State} {args : Array Value} (hts : ∀ w ∈ lw_tbl, w.before args s = true) (hs : ∀ w ∈ XT.flat (Jvm.Cond.and given_1 narrow_1), w.before args s = true) : jS s.heap.size s s.heap := by
  have hA : ∀ a : Nat, a < s.heap.size → ¬ jB s.heap.size a := fun a ha hb => Nat.not_le.mpr ha hb
  refine ⟨⟨vx_Zqof (hts _ (List.mem_of_getElem? (i := 639) (by decide +kernel))) (hts _ (List.mem_of_getElem? (i := 103) (by decide +kernel))) (hs _ (List.mem_of_getElem? (i := 5) (by decide +kernel))) hA, vx_Zqof (hts _ (List.mem_of_getElem? (i := 641) (by decide +kernel))) (hts _ (List.mem_of_getElem? (i := 103) (by decide +kernel))) (hs _ (List.mem_of_getElem? (i := 6) (by decide +kernel))) hA, va_Zqof (hts _ (List.mem_of_getElem? (i := 1044) (by decide +kernel))) (hts _ (List.mem_of_getElem? (i := 117) (by decide +kernel))) (hs _ (List.mem_of_getElem? (i := 7) (by decide +kernel))) hA⟩, ?_, ?_, va_Zof (hts _ (List.mem_of_getElem? (i := 246) (by decide +kernel))) (hts _ (List.mem_of_getElem? (i := 100) (by decide +kernel))) (va_eqi (hs _ (List.mem_of_getElem? (i := 4) (by decide +kernel)))) hA, ?_, ?_, ?_, ?_⟩
  · obtain ⟨cF, kF, hcF, -⟩ := Cond.instantiable_spec (hts (Cond.instantiable RX4 13) (List.mem_of_getElem? (i := 123) (by decide +kernel)))
    have key : ∀ (k : Nat) (tx : String), Cond.stringRef "FamilyOaks" k tx ∈ lw_tbl → ∃ sa, vk_R "FamilyOaks" k tx sa s := fun k tx hm => by
      have h := hts _ hm
      obtain ⟨-, -, -, sa, -, -, -, -, -, hev⟩ := Cond.stringRef_spec hcF h
      exact ⟨sa, vk_R.of h hev⟩
    intro q hq
    simp only [jStrs, List.mem_cons, List.not_mem_nil, or_false] at hq
    rcases hq with rfl | rfl | rfl | rfl | rfl | rfl | rfl | rfl | rfl | rfl | rfl | rfl | rfl | rfl | rfl | rfl | rfl | rfl | rfl
    · exact key _ _ (List.mem_of_getElem? (i := 658) (by decide +kernel))
    · exact key _ _ (List.mem_of_getElem? (i := 693) (by decide +kernel))
    · exact key _ _ (List.mem_of_getElem? (i := 709) (by decide +kernel))
    · exact key _ _ (List.mem_of_getElem? (i := 794) (by decide +kernel))
    · exact key _ _ (List.mem_of_getElem? (i := 816) (by decide +kernel))
    · exact key _ _ (List.mem_of_getElem? (i := 834) (by decide +kernel))
    · exact key _ _ (List.mem_of_getElem? (i := 867) (by decide +kernel))
    · exact key _ _ (List.mem_of_getElem? (i := 914) (by decide +kernel))
    · exact key _ _ (List.mem_of_getElem? (i := 946) (by decide +kernel))
    · exact key _ _ (List.mem_of_getElem? (i := 1257) (by decide +kernel))
    · exact key _ _ (List.mem_of_getElem? (i := 1275) (by decide +kernel))
    · exact key _ _ (List.mem_of_getElem? (i := 1324) (by decide +kernel))
    · exact key _ _ (List.mem_of_getElem? (i := 1341) (by decide +kernel))
    · exact key _ _ (List.mem_of_getElem? (i := 1342) (by decide +kernel))
    · exact key _ _ (List.mem_of_getElem? (i := 1350) (by decide +kernel))
    · exact key _ _ (List.mem_of_getElem? (i := 1372) (by decide +kernel))
    · exact key _ _ (List.mem_of_getElem? (i := 1395) (by decide +kernel))
    · exact key _ _ (List.mem_of_getElem? (i := 1415) (by decide +kernel))
    · exact key _ _ (List.mem_of_getElem? (i := 1423) (by decide +kernel))
  · intro q hq
    simp only [jRows, List.mem_cons, List.not_mem_nil, or_false] at hq
    rcases hq with rfl | rfl | rfl | rfl
    · have hm : ∀ j : Fin 9, (XT.flat (Jvm.Cond.and given_1 narrow_1))[220 + j.val]? = some (Cond.eq (.elem (.static "FamilyOaks" "LETTERS" "[C") (.int (Int32.ofNat j.val))) (.int (Int32.ofInt ((fun j => [102, 98, 103, 99, 109, 112, 113, 101, 100].getD j 0 : Nat → Int) j.val)))) := by decide +kernel
      obtain ⟨t, ht, hT⟩ := va_Tof (tm := (.static "FamilyOaks" "LETTERS" "[C")) (ty := .char) (N := 9) (f := fun j => iv ((fun j => [102, 98, 103, 99, 109, 112, 113, 101, 100].getD j 0 : Nat → Int) j)) (A := jB s.heap.size) (by decide) (hs _ (List.mem_of_getElem? (i := 218) (by decide +kernel))) (va_eqt (hs _ (List.mem_of_getElem? (i := 219) (by decide +kernel)))) (fun j hj => va_eqt (hs _ (List.mem_of_getElem? (hm ⟨j, hj⟩)))) hA
      exact ⟨t, va_Zref (hts _ (List.mem_of_getElem? (i := 1304) (by decide +kernel))) (hts _ (List.mem_of_getElem? (i := 93) (by decide +kernel))) ht hA, hT⟩
    · have hm : ∀ j : Fin 9, (XT.flat (Jvm.Cond.and given_1 narrow_1))[232 + j.val]? = some (Cond.eq (.elem (.static "FamilyOaks" "SIGNS" "[C") (.int (Int32.ofNat j.val))) (.int (Int32.ofInt ((fun j => [32, 32, 60, 32, 43, 32, 45, 61, 32].getD j 0 : Nat → Int) j.val)))) := by decide +kernel
      obtain ⟨t, ht, hT⟩ := va_Tof (tm := (.static "FamilyOaks" "SIGNS" "[C")) (ty := .char) (N := 9) (f := fun j => iv ((fun j => [32, 32, 60, 32, 43, 32, 45, 61, 32].getD j 0 : Nat → Int) j)) (A := jB s.heap.size) (by decide) (hs _ (List.mem_of_getElem? (i := 230) (by decide +kernel))) (va_eqt (hs _ (List.mem_of_getElem? (i := 231) (by decide +kernel)))) (fun j hj => va_eqt (hs _ (List.mem_of_getElem? (hm ⟨j, hj⟩)))) hA
      exact ⟨t, va_Zref (hts _ (List.mem_of_getElem? (i := 1315) (by decide +kernel))) (hts _ (List.mem_of_getElem? (i := 93) (by decide +kernel))) ht hA, hT⟩
    · have hm : ∀ j : Fin 100, (XT.flat (Jvm.Cond.and given_1 narrow_1))[14 + j.val]? = some (Cond.eq (.elem (.static "java/lang/Integer" "DigitOnes" "[B") (.int (Int32.ofNat j.val))) (.int (Int32.ofInt ((fun j => 48 + (j % 10 : Nat) : Nat → Int) j.val)))) := by decide +kernel
      obtain ⟨t, ht, hT⟩ := va_Tof (tm := (.static "java/lang/Integer" "DigitOnes" "[B")) (ty := .byte) (N := 100) (f := fun j => iv ((fun j => 48 + (j % 10 : Nat) : Nat → Int) j)) (A := jB s.heap.size) (by decide) (hs _ (List.mem_of_getElem? (i := 12) (by decide +kernel))) (va_eqt (hs _ (List.mem_of_getElem? (i := 13) (by decide +kernel)))) (fun j hj => va_eqt (hs _ (List.mem_of_getElem? (hm ⟨j, hj⟩)))) hA
      exact ⟨t, va_Zref (hts _ (List.mem_of_getElem? (i := 1114) (by decide +kernel))) (hts _ (List.mem_of_getElem? (i := 120) (by decide +kernel))) ht hA, hT⟩
    · have hm : ∀ j : Fin 100, (XT.flat (Jvm.Cond.and given_1 narrow_1))[117 + j.val]? = some (Cond.eq (.elem (.static "java/lang/Integer" "DigitTens" "[B") (.int (Int32.ofNat j.val))) (.int (Int32.ofInt ((fun j => 48 + (j / 10 : Nat) : Nat → Int) j.val)))) := by decide +kernel
      obtain ⟨t, ht, hT⟩ := va_Tof (tm := (.static "java/lang/Integer" "DigitTens" "[B")) (ty := .byte) (N := 100) (f := fun j => iv ((fun j => 48 + (j / 10 : Nat) : Nat → Int) j)) (A := jB s.heap.size) (by decide) (hs _ (List.mem_of_getElem? (i := 115) (by decide +kernel))) (va_eqt (hs _ (List.mem_of_getElem? (i := 116) (by decide +kernel)))) (fun j hj => va_eqt (hs _ (List.mem_of_getElem? (hm ⟨j, hj⟩)))) hA
      exact ⟨t, va_Zref (hts _ (List.mem_of_getElem? (i := 1116) (by decide +kernel))) (hts _ (List.mem_of_getElem? (i := 120) (by decide +kernel))) ht hA, hT⟩
  · intro q hq
    simp only [jCst, List.mem_cons, List.not_mem_nil, or_false] at hq
    rcases hq with rfl | rfl | rfl | rfl | rfl | rfl
    · exact va_Nw.of rfl (hts _ (List.mem_of_getElem? (i := 614) (by decide +kernel)))
    · exact va_Nw.of rfl (hts _ (List.mem_of_getElem? (i := 686) (by decide +kernel)))
    · exact va_Nw.of rfl (hts _ (List.mem_of_getElem? (i := 702) (by decide +kernel)))
    · exact va_Nw.of rfl (hts _ (List.mem_of_getElem? (i := 809) (by decide +kernel)))
    · exact va_Nw.of rfl (hts _ (List.mem_of_getElem? (i := 907) (by decide +kernel)))
    · exact va_Nw.of rfl (hts _ (List.mem_of_getElem? (i := 1388) (by decide +kernel)))
  · intro q hq
    simp only [jNcs, List.mem_cons, List.not_mem_nil, or_false] at hq
    rcases hq with rfl | rfl | rfl | rfl | rfl
    · exact va_Nc.of (hs _ (List.mem_of_getElem? (i := 264) (by decide +kernel)))
    · exact va_Nc.of (hs _ (List.mem_of_getElem? (i := 263) (by decide +kernel)))
    · exact va_Nc.of (hs _ (List.mem_of_getElem? (i := 265) (by decide +kernel)))
    · exact va_Nc.of (hs _ (List.mem_of_getElem? (i := 266) (by decide +kernel)))
    · exact va_Nc.of (hs _ (List.mem_of_getElem? (i := 277) (by decide +kernel)))
  · intro q hq
    simp only [jNst, List.mem_cons, List.not_mem_nil, or_false] at hq
    rcases hq with rfl | rfl | rfl
    · exact va_Nw.of rfl (hts _ (List.mem_of_getElem? (i := 181) (by decide +kernel)))
    · exact va_Nw.of rfl (hts _ (List.mem_of_getElem? (i := 194) (by decide +kernel)))
    · exact va_Nw.of rfl (hts _ (List.mem_of_getElem? (i := 207) (by decide +kernel)))
  · intro q hq
    simp only [jNsf, List.mem_cons, List.not_mem_nil, or_false] at hq
    rcases hq with rfl | rfl
    · exact va_Nw.of rfl (hts _ (List.mem_of_getElem? (i := 1303) (by decide +kernel)))
    · exact va_Nw.of rfl (hts _ (List.mem_of_getElem? (i := 1314) (by decide +kernel)))
theorem l_W {s : State} {args : Array Value} (hts : ∀ w ∈ lw_tbl, w.before args s = true) : ∀ w ∈ jWL, w.before args s = true := fun w hw => by
  have hsel : (Cond.selects RJ4 yJ5_isLatin1_aae02 yJ5_isLatin1_aae02).before args s = true := (hts _ (List.mem_of_getElem? (i := 1029) (by decide +kernel)))
  rcases List.mem_append.mp (jw_good hw).1 with h | h
  · exact hts w h
  · simp only [lw_ext, List.mem_cons, List.not_mem_nil, or_false] at h
    rcases h with rfl | rfl
    · exact j_selp hsel rfl (hts _ (List.mem_of_getElem? (i := 992) (by decide +kernel))) (hts _ (List.mem_of_getElem? (i := 993) (by decide +kernel))) ⟨by decide +kernel, by decide +kernel⟩
    · exact j_selp hsel rfl (hts _ (List.mem_of_getElem? (i := 996) (by decide +kernel))) (hts _ (List.mem_of_getElem? (i := 997) (by decide +kernel))) ⟨by decide +kernel, by decide +kernel⟩
theorem jW_0 {D : va_G} {cy : Nat → ClassId} {ad : Nat → Nat} {H : Heap} : jW D cy ad H.size (fun _ => none) H := by
  refine ⟨Nat.le_refl _, ?_, ?_, ?_, ?_⟩
  · intro k c h; cases h
  · intro j k h; exact absurd rfl h
  · intro k h; exact absurd rfl h
  · intro k c h; cases h
