/-! THE START -/
theorem l_arr {s : State} {args : Array Value} {ty : FieldType} (h : (Cond.arrayClass ty).before args s = true) : ∃ cA, ArrOfT s cA ty ∧ s.vm.findClass ("[" ++ ty.toString) = some cA := by
  obtain ⟨c, k, comp, h1, h2, h3⟩ := Cond.arrayClass_spec h
  exact ⟨c, fun n z => ⟨fun k h => (by cases h), k, h2, comp, h3⟩, h1⟩
theorem l_aro {s : State} {args : Array Value} {C : String} (h : (Cond.arrayOver (.object C)).before args s = true) : ∃ cA, ArrOfT s cA (.object C) ∧ va_RA s cA (.object C) := by
  obtain ⟨comp, c, k, h1, h2, h3, h4, h5⟩ := Cond.arrayOver_spec h
  exact ⟨c, fun n z => ⟨fun k h => (by cases h), k, h3, comp, h4⟩, k, comp, h3, h4, h1, h5⟩
theorem l_K {s : State} {args : Array Value} (hts : ∀ w ∈ lw_tbl, w.before args s = true) : ∃ D cy, va_K D jcl (jtys cy) s := by
  obtain ⟨k0, s0, q0⟩ := u_known (C := RX0) (T := TX0) (N := 2) (n := 2) hts (fun w h => (jin_0 w h).1) (hts _ (List.mem_of_getElem? (i := 136) (by decide +kernel)))
  obtain ⟨k1, s1, q1⟩ := u_known (C := RX1) (T := TX1) (N := 11) (n := 11) hts (fun w h => (jin_1 w h).1) (hts _ (List.mem_of_getElem? (i := 87) (by decide +kernel)))
  obtain ⟨k2, s2, q2⟩ := u_known (C := RX2) (T := TX2) (N := 2) (n := 2) hts (fun w h => (jin_2 w h).1) (hts _ (List.mem_of_getElem? (i := 149) (by decide +kernel)))
  obtain ⟨k3, s3, q3⟩ := u_known (C := RX3) (T := TX3) (N := 7) (n := 7) hts (fun w h => (jin_3 w h).1) (hts _ (List.mem_of_getElem? (i := 162) (by decide +kernel)))
  obtain ⟨k4, s4, q4⟩ := u_known (C := RX4) (T := TX4) (N := 13) (n := 13) hts (fun w h => (jin_4 w h).1) (hts _ (List.mem_of_getElem? (i := 79) (by decide +kernel)))
  obtain ⟨k5, s5, q5⟩ := u_known (C := RJ0) (T := TJ0) (N := 4) (n := 4) hts (fun w h => (jin_5 w h).1) (hts _ (List.mem_of_getElem? (i := 671) (by decide +kernel)))
  obtain ⟨k6, s6, q6⟩ := u_known (C := RJ4) (T := TJ4) (N := 4) (n := 4) hts (fun w h => (jin_6 w h).1) (hts _ (List.mem_of_getElem? (i := 193) (by decide +kernel)))
  obtain ⟨c0, a0, b0⟩ := l_arr (ty := .int) (hts _ (List.mem_of_getElem? (i := 132) (by decide +kernel)))
  obtain ⟨c1, a1, b1⟩ := l_arr (ty := .boolean) (hts _ (List.mem_of_getElem? (i := 133) (by decide +kernel)))
  obtain ⟨c2, a2, b2⟩ := l_arr (ty := .char) (hts _ (List.mem_of_getElem? (i := 191) (by decide +kernel)))
  obtain ⟨c3, a3, b3⟩ := l_arr (ty := .byte) (hts _ (List.mem_of_getElem? (i := 224) (by decide +kernel)))
  obtain ⟨c4, a4, b4⟩ := l_arr (ty := .long) (hts _ (List.mem_of_getElem? (i := 1405) (by decide +kernel)))
  obtain ⟨c5, a5, b5⟩ := l_arr (ty := .long) (hts _ (List.mem_of_getElem? (i := 1405) (by decide +kernel)))
  obtain ⟨c6, a6, b6⟩ := l_aro (C := RX1) (hts _ (List.mem_of_getElem? (i := 134) (by decide +kernel)))
  refine ⟨(fun k => if k = 0 then k0 else if k = 1 then k1 else if k = 2 then k2 else if k = 3 then k3 else if k = 4 then k4 else if k = 5 then k5 else k6, fun k => if k = 0 then s0 else if k = 1 then s1 else if k = 2 then s2 else if k = 3 then s3 else if k = 4 then s4 else if k = 5 then s5 else s6), fun k => if k = 0 then c0 else if k = 1 then c1 else if k = 2 then c2 else if k = 3 then c3 else if k = 4 then c4 else if k = 5 then c5 else c6, fun c q hq => ?_, fun k q hq => ?_⟩
  · match c, hq with
    | 0, hq => cases hq; exact q0
    | 1, hq => cases hq; exact q1
    | 2, hq => cases hq; exact q2
    | 3, hq => cases hq; exact q3
    | 4, hq => cases hq; exact q4
    | 5, hq => cases hq; exact q5
    | 6, hq => cases hq; exact q6
    | c + 7, hq => simp at hq
  · match k, hq with
    | 0, hq => cases hq; exact ⟨a0, b0⟩
    | 1, hq => cases hq; exact ⟨a1, b1⟩
    | 2, hq => cases hq; exact ⟨a2, b2⟩
    | 3, hq => cases hq; exact ⟨a3, b3⟩
    | 4, hq => cases hq; exact ⟨a4, b4⟩
    | 5, hq => cases hq; exact ⟨a5, b5⟩
    | 6, hq => cases hq; exact ⟨a6, b6⟩
    | k + 7, hq => simp [jtys] at hq
set_option maxHeartbeats 8000000 in
theorem l_S {s : State} {args : Array Value} (hts : ∀ w ∈ lw_tbl, w.before args s = true) (hs : ∀ w ∈ XT.flat (Jvm.Cond.and given_1 narrow_1), w.before args s = true) : jS s.heap.size s s.heap := by
  have hA : ∀ a : Nat, a < s.heap.size → ¬ jB s.heap.size a := fun a ha hb => Nat.not_le.mpr ha hb
  refine ⟨⟨vx_Zqof (hts _ (List.mem_of_getElem? (i := 343) (by decide +kernel))) (hts _ (List.mem_of_getElem? (i := 57) (by decide +kernel))) (hs _ (List.mem_of_getElem? (i := 5) (by decide +kernel))) hA, vx_Zqof (hts _ (List.mem_of_getElem? (i := 345) (by decide +kernel))) (hts _ (List.mem_of_getElem? (i := 57) (by decide +kernel))) (hs _ (List.mem_of_getElem? (i := 6) (by decide +kernel))) hA, va_Zqof (hts _ (List.mem_of_getElem? (i := 963) (by decide +kernel))) (hts _ (List.mem_of_getElem? (i := 69) (by decide +kernel))) (hs _ (List.mem_of_getElem? (i := 7) (by decide +kernel))) hA⟩, ?_, ?_, va_Zof (hts _ (List.mem_of_getElem? (i := 202) (by decide +kernel))) (hts _ (List.mem_of_getElem? (i := 54) (by decide +kernel))) (va_eqi (hs _ (List.mem_of_getElem? (i := 4) (by decide +kernel)))) hA, ?_, ?_, ?_, ?_⟩
  · obtain ⟨cF, kF, hcF, -⟩ := Cond.instantiable_spec (hts (Cond.instantiable RX4 13) (List.mem_of_getElem? (i := 79) (by decide +kernel)))
    have key : ∀ (k : Nat) (tx : String), Cond.stringRef "FamilyOaks" k tx ∈ lw_tbl → ∃ sa, vk_R "FamilyOaks" k tx sa s := fun k tx hm => by
      have h := hts _ hm
      obtain ⟨-, -, -, sa, -, -, -, -, -, hev⟩ := Cond.stringRef_spec hcF h
      exact ⟨sa, vk_R.of h hev⟩
    intro q hq
    simp only [jStrs, List.mem_cons, List.not_mem_nil, or_false] at hq
    rcases hq with rfl | rfl | rfl | rfl | rfl | rfl | rfl | rfl | rfl | rfl | rfl | rfl | rfl | rfl | rfl | rfl
    · exact key _ _ (List.mem_of_getElem? (i := 616) (by decide +kernel))
    · exact key _ _ (List.mem_of_getElem? (i := 623) (by decide +kernel))
    · exact key _ _ (List.mem_of_getElem? (i := 633) (by decide +kernel))
    · exact key _ _ (List.mem_of_getElem? (i := 759) (by decide +kernel))
    · exact key _ _ (List.mem_of_getElem? (i := 781) (by decide +kernel))
    · exact key _ _ (List.mem_of_getElem? (i := 844) (by decide +kernel))
    · exact key _ _ (List.mem_of_getElem? (i := 800) (by decide +kernel))
    · exact key _ _ (List.mem_of_getElem? (i := 877) (by decide +kernel))
    · exact key _ _ (List.mem_of_getElem? (i := 1207) (by decide +kernel))
    · exact key _ _ (List.mem_of_getElem? (i := 1329) (by decide +kernel))
    · exact key _ _ (List.mem_of_getElem? (i := 1378) (by decide +kernel))
    · exact key _ _ (List.mem_of_getElem? (i := 1395) (by decide +kernel))
    · exact key _ _ (List.mem_of_getElem? (i := 1396) (by decide +kernel))
    · exact key _ _ (List.mem_of_getElem? (i := 362) (by decide +kernel))
    · exact key _ _ (List.mem_of_getElem? (i := 1289) (by decide +kernel))
    · exact key _ _ (List.mem_of_getElem? (i := 1404) (by decide +kernel))
  · intro q hq
    simp only [jRows, List.mem_cons, List.not_mem_nil, or_false] at hq
    rcases hq with rfl | rfl | rfl | rfl
    · have hm : ∀ j : Fin 9, (XT.flat (Jvm.Cond.and given_1 narrow_1))[220 + j.val]? = some (Cond.eq (.elem (.static "FamilyOaks" "LETTERS" "[C") (.int (Int32.ofNat j.val))) (.int (Int32.ofInt ((fun j => [102, 98, 103, 99, 109, 112, 113, 101, 100].getD j 0 : Nat → Int) j.val)))) := by decide +kernel
      obtain ⟨t, ht, hT⟩ := va_Tof (tm := (.static "FamilyOaks" "LETTERS" "[C")) (ty := .char) (N := 9) (f := fun j => iv ((fun j => [102, 98, 103, 99, 109, 112, 113, 101, 100].getD j 0 : Nat → Int) j)) (A := jB s.heap.size) (by decide) (hs _ (List.mem_of_getElem? (i := 218) (by decide +kernel))) (va_eqt (hs _ (List.mem_of_getElem? (i := 219) (by decide +kernel)))) (fun j hj => va_eqt (hs _ (List.mem_of_getElem? (hm ⟨j, hj⟩)))) hA
      exact ⟨t, va_Zref (hts _ (List.mem_of_getElem? (i := 1358) (by decide +kernel))) (hts _ (List.mem_of_getElem? (i := 47) (by decide +kernel))) ht hA, hT⟩
    · have hm : ∀ j : Fin 9, (XT.flat (Jvm.Cond.and given_1 narrow_1))[232 + j.val]? = some (Cond.eq (.elem (.static "FamilyOaks" "SIGNS" "[C") (.int (Int32.ofNat j.val))) (.int (Int32.ofInt ((fun j => [32, 32, 60, 32, 43, 32, 45, 61, 32].getD j 0 : Nat → Int) j.val)))) := by decide +kernel
      obtain ⟨t, ht, hT⟩ := va_Tof (tm := (.static "FamilyOaks" "SIGNS" "[C")) (ty := .char) (N := 9) (f := fun j => iv ((fun j => [32, 32, 60, 32, 43, 32, 45, 61, 32].getD j 0 : Nat → Int) j)) (A := jB s.heap.size) (by decide) (hs _ (List.mem_of_getElem? (i := 230) (by decide +kernel))) (va_eqt (hs _ (List.mem_of_getElem? (i := 231) (by decide +kernel)))) (fun j hj => va_eqt (hs _ (List.mem_of_getElem? (hm ⟨j, hj⟩)))) hA
      exact ⟨t, va_Zref (hts _ (List.mem_of_getElem? (i := 1369) (by decide +kernel))) (hts _ (List.mem_of_getElem? (i := 47) (by decide +kernel))) ht hA, hT⟩
    · have hm : ∀ j : Fin 100, (XT.flat (Jvm.Cond.and given_1 narrow_1))[14 + j.val]? = some (Cond.eq (.elem (.static "java/lang/Integer" "DigitOnes" "[B") (.int (Int32.ofNat j.val))) (.int (Int32.ofInt ((fun j => 48 + (j % 10 : Nat) : Nat → Int) j.val)))) := by decide +kernel
      obtain ⟨t, ht, hT⟩ := va_Tof (tm := (.static "java/lang/Integer" "DigitOnes" "[B")) (ty := .byte) (N := 100) (f := fun j => iv ((fun j => 48 + (j % 10 : Nat) : Nat → Int) j)) (A := jB s.heap.size) (by decide) (hs _ (List.mem_of_getElem? (i := 12) (by decide +kernel))) (va_eqt (hs _ (List.mem_of_getElem? (i := 13) (by decide +kernel)))) (fun j hj => va_eqt (hs _ (List.mem_of_getElem? (hm ⟨j, hj⟩)))) hA
      exact ⟨t, va_Zref (hts _ (List.mem_of_getElem? (i := 1033) (by decide +kernel))) (hts _ (List.mem_of_getElem? (i := 72) (by decide +kernel))) ht hA, hT⟩
    · have hm : ∀ j : Fin 100, (XT.flat (Jvm.Cond.and given_1 narrow_1))[117 + j.val]? = some (Cond.eq (.elem (.static "java/lang/Integer" "DigitTens" "[B") (.int (Int32.ofNat j.val))) (.int (Int32.ofInt ((fun j => 48 + (j / 10 : Nat) : Nat → Int) j.val)))) := by decide +kernel
      obtain ⟨t, ht, hT⟩ := va_Tof (tm := (.static "java/lang/Integer" "DigitTens" "[B")) (ty := .byte) (N := 100) (f := fun j => iv ((fun j => 48 + (j / 10 : Nat) : Nat → Int) j)) (A := jB s.heap.size) (by decide) (hs _ (List.mem_of_getElem? (i := 115) (by decide +kernel))) (va_eqt (hs _ (List.mem_of_getElem? (i := 116) (by decide +kernel)))) (fun j hj => va_eqt (hs _ (List.mem_of_getElem? (hm ⟨j, hj⟩)))) hA
      exact ⟨t, va_Zref (hts _ (List.mem_of_getElem? (i := 1035) (by decide +kernel))) (hts _ (List.mem_of_getElem? (i := 72) (by decide +kernel))) ht hA, hT⟩
  · intro q hq
    simp only [jCst, List.mem_cons, List.not_mem_nil, or_false] at hq
    rcases hq with rfl | rfl | rfl | rfl | rfl | rfl
    · exact va_Nw.of rfl (hts _ (List.mem_of_getElem? (i := 609) (by decide +kernel)))
    · exact va_Nw.of rfl (hts _ (List.mem_of_getElem? (i := 318) (by decide +kernel)))
    · exact va_Nw.of rfl (hts _ (List.mem_of_getElem? (i := 626) (by decide +kernel)))
    · exact va_Nw.of rfl (hts _ (List.mem_of_getElem? (i := 774) (by decide +kernel)))
    · exact va_Nw.of rfl (hts _ (List.mem_of_getElem? (i := 870) (by decide +kernel)))
    · exact va_Nw.of rfl (hts _ (List.mem_of_getElem? (i := 1282) (by decide +kernel)))
  · intro q hq
    simp only [jNcs, List.mem_cons, List.not_mem_nil, or_false] at hq
    rcases hq with rfl | rfl | rfl | rfl | rfl
    · exact va_Nc.of (hs _ (List.mem_of_getElem? (i := 262) (by decide +kernel)))
    · exact va_Nc.of (hs _ (List.mem_of_getElem? (i := 261) (by decide +kernel)))
    · exact va_Nc.of (hs _ (List.mem_of_getElem? (i := 263) (by decide +kernel)))
    · exact va_Nc.of (hs _ (List.mem_of_getElem? (i := 264) (by decide +kernel)))
    · exact va_Nc.of (hs _ (List.mem_of_getElem? (i := 274) (by decide +kernel)))
  · intro q hq
    simp only [jNst, List.mem_cons, List.not_mem_nil, or_false] at hq
    rcases hq with rfl | rfl | rfl
    · exact va_Nw.of rfl (hts _ (List.mem_of_getElem? (i := 137) (by decide +kernel)))
    · exact va_Nw.of rfl (hts _ (List.mem_of_getElem? (i := 150) (by decide +kernel)))
    · exact va_Nw.of rfl (hts _ (List.mem_of_getElem? (i := 163) (by decide +kernel)))
  · intro q hq
    simp only [jNsf, List.mem_cons, List.not_mem_nil, or_false] at hq
    rcases hq with rfl | rfl
    · exact va_Nw.of rfl (hts _ (List.mem_of_getElem? (i := 1357) (by decide +kernel)))
    · exact va_Nw.of rfl (hts _ (List.mem_of_getElem? (i := 1368) (by decide +kernel)))
theorem l_W {s : State} {args : Array Value} (hts : ∀ w ∈ lw_tbl, w.before args s = true) : ∀ w ∈ jWL, w.before args s = true := fun w hw => by
  have hsel : (Cond.selects RJ4 yJ5_isLatin1_aae02 yJ5_isLatin1_aae02).before args s = true := (hts _ (List.mem_of_getElem? (i := 948) (by decide +kernel)))
  rcases List.mem_append.mp (jw_good hw).1 with h | h
  · exact hts w h
  · simp only [lw_ext, List.mem_cons, List.not_mem_nil, or_false] at h
    rcases h with rfl | rfl | rfl | rfl
    · exact j_selp hsel rfl (hts _ (List.mem_of_getElem? (i := 913) (by decide +kernel))) (hts _ (List.mem_of_getElem? (i := 914) (by decide +kernel))) ⟨by decide +kernel, by decide +kernel⟩
    · exact j_selp hsel rfl (hts _ (List.mem_of_getElem? (i := 917) (by decide +kernel))) (hts _ (List.mem_of_getElem? (i := 918) (by decide +kernel))) ⟨by decide +kernel, by decide +kernel⟩
    · exact j_selp hsel rfl (hts _ (List.mem_of_getElem? (i := 986) (by decide +kernel))) (hts _ (List.mem_of_getElem? (i := 987) (by decide +kernel))) ⟨by decide +kernel, by decide +kernel⟩
    · exact j_selp hsel rfl (hts _ (List.mem_of_getElem? (i := 990) (by decide +kernel))) (hts _ (List.mem_of_getElem? (i := 991) (by decide +kernel))) ⟨by decide +kernel, by decide +kernel⟩
theorem jW_0 {D : va_G} {cy : Nat → ClassId} {ad : Nat → Nat} {H : Heap} : jW D cy ad H.size (fun _ => none) H := by
  refine ⟨Nat.le_refl _, ?_, ?_, ?_, ?_⟩
  · intro k c h; cases h
  · intro j k h; exact absurd rfl h
  · intro k h; exact absurd rfl h
  · intro k c h; cases h
theorem l_no (k n : Nat) : ¬ n + k < k := by omega
theorem l_n1 {i n : Nat} (hi : i < 1) (h : n < 1000) : List.getD [n] i 0 < 2 ^ 31 := by
  have : i = 0 := by omega
  subst this
  show n < 2 ^ 31
  omega
theorem l_n2 {i n k : Nat} {args : Array Value} {s : State} (hi : i < 1) (h : (Cond.eq (.length (.field (Term.string RL k) "java/lang/String" "value" "[B")) (.int (Int32.ofNat n))).before args s = true) : (Cond.eq (.length (.field (Term.string RL k) "java/lang/String" "value" "[B")) (.int (Int32.ofNat (List.getD [n] i 0)))).before args s = true := by
  have : i = 0 := by omega
  subst this
  exact h
theorem l_gd (l : List Int) (j : Nat) : (l.map Int32.ofInt).getD j 0 = Int32.ofInt (l.getD j 0) := by
  rw [List.getD_eq_getElem?_getD, List.getD_eq_getElem?_getD, List.getElem?_map]
  cases l[j]? with
  | none => rfl
  | some x => rfl
theorem l_txt {s : State} {args : Array Value} {tx : String} {k : Nat} {l : List Int} (hl : l.length < 1000) (hex : (Cond.exactly (Term.string RL k) "java/lang/String").before args s = true) (hco : (Cond.eq (.field (Term.string RL k) "java/lang/String" "coder" "B") (.int 0)).before args s = true) (har : (Cond.arrayOf (.field (Term.string RL k) "java/lang/String" "value" "[B") .byte).before args s = true)
    (hle : (Cond.eq (.length (.field (Term.string RL k) "java/lang/String" "value" "[B")) (.int (Int32.ofNat l.length))).before args s = true) (hel : ∀ j : Nat, j < l.length → (Cond.eq (.elem (.field (Term.string RL k) "java/lang/String" "value" "[B") (.int (Int32.ofNat j))) (.int (Int32.ofInt (l.getD j 0)))).before args s = true) (hr : (Cond.stringRef RL k tx).before args s = true) :
    ∃ a v : Nat, va_O "java/lang/String" a (jB s.heap.size) s s.heap ∧ va_OF "java/lang/String" "coder" "B" (.int 0) a (jB s.heap.size) s s.heap ∧ va_OF "java/lang/String" "value" "[B" (.ref v) a (jB s.heap.size) s s.heap ∧ va_T .byte v l.length (fun j => .int (Int32.ofInt (l.getD j 0))) (jB s.heap.size) s s.heap ∧ vk_R RL k tx a s := by
  have hA : ∀ a : Nat, a < s.heap.size → ¬ jB s.heap.size a := fun a ha hb => Nat.not_le.mpr ha hb
  obtain ⟨adK, adV, ⟨h1, -⟩, h2⟩ := vk_Sof (args := args) (s := s) (N := 1) (tm := fun _ => Term.string RL k) (len := [l.length]) (byt := [l.map Int32.ofInt]) (A := jB s.heap.size) (fun i hi => l_n1 hi hl) (fun i _ => hex) (fun i _ => hco) (fun i _ => har) (fun i hi => l_n2 hi hle) (fun i hi j hj => by
    have : i = 0 := by omega
    subst this
    have e : (List.getD [l.map Int32.ofInt] 0 []).getD j 0 = Int32.ofInt (l.getD j 0) := l_gd l j
    rw [e]
    exact hel j hj) (fun i j hi hj hij => absurd (show i = j by omega) hij) hA
  obtain ⟨g1, g2, g3, g4⟩ := h1 0 (by decide)
  refine ⟨adK 0, adV 0, g1, g2, g3, ?_, vk_R.of hr (h2 0 (by decide))⟩
  have e : (fun j => Value.int (Int32.ofInt (l.getD j 0))) = fun j => Value.int ((List.getD [l.map Int32.ofInt] 0 []).getD j 0) := funext fun j => by rw [show (List.getD [l.map Int32.ofInt] 0 []).getD j 0 = Int32.ofInt (l.getD j 0) from l_gd l j]
  rw [e]
  exact g4
/-- what the law's methods know, at the start -/
theorem l_F {s : State} {args : Array Value} {b L : Nat} {xs : Nat → Int32} (hts : ∀ w ∈ lw_tbl, w.before args s = true) (hs : ∀ w ∈ XT.flat (Jvm.Cond.and given_1 narrow_1), w.before args s = true) (hX : va_X b L xs s s.heap) (hbl : b < s.heap.size) : ∃ ad : Nat → Nat, ad 150 = b ∧ pF L xs ad s.heap.size s := by
  obtain ⟨a0, v0, p0⟩ := l_txt (tx := "#") (k := 214) (l := [35]) (by decide) (hs _ (List.mem_of_getElem? (i := 539) (by decide +kernel))) (hs _ (List.mem_of_getElem? (i := 540) (by decide +kernel))) (hs _ (List.mem_of_getElem? (i := 541) (by decide +kernel))) (hs _ (List.mem_of_getElem? (i := 542) (by decide +kernel))) (fun j hj => match j, hj with | 0, _ => (hs _ (List.mem_of_getElem? (i := 543) (by decide +kernel))) | n9 + 1, hj => absurd hj (l_no 1 n9)) (hts _ (List.mem_of_getElem? (i := 900) (by decide +kernel)))
  obtain ⟨a1, v1, p1⟩ := l_txt (tx := "") (k := 222) (l := []) (by decide) (hs _ (List.mem_of_getElem? (i := 544) (by decide +kernel))) (hs _ (List.mem_of_getElem? (i := 545) (by decide +kernel))) (hs _ (List.mem_of_getElem? (i := 546) (by decide +kernel))) (hs _ (List.mem_of_getElem? (i := 547) (by decide +kernel))) (fun j hj => match j, hj with  | n9 + 0, hj => absurd hj (l_no 0 n9)) (hts _ (List.mem_of_getElem? (i := 1044) (by decide +kernel)))
  obtain ⟨a2, v2, p2⟩ := l_txt (tx := "<") (k := 224) (l := [60]) (by decide) (hs _ (List.mem_of_getElem? (i := 548) (by decide +kernel))) (hs _ (List.mem_of_getElem? (i := 549) (by decide +kernel))) (hs _ (List.mem_of_getElem? (i := 550) (by decide +kernel))) (hs _ (List.mem_of_getElem? (i := 551) (by decide +kernel))) (fun j hj => match j, hj with | 0, _ => (hs _ (List.mem_of_getElem? (i := 552) (by decide +kernel))) | n9 + 1, hj => absurd hj (l_no 1 n9)) (hts _ (List.mem_of_getElem? (i := 1045) (by decide +kernel)))
  obtain ⟨a3, v3, p3⟩ := l_txt (tx := "+") (k := 230) (l := [43]) (by decide) (hs _ (List.mem_of_getElem? (i := 560) (by decide +kernel))) (hs _ (List.mem_of_getElem? (i := 561) (by decide +kernel))) (hs _ (List.mem_of_getElem? (i := 562) (by decide +kernel))) (hs _ (List.mem_of_getElem? (i := 563) (by decide +kernel))) (fun j hj => match j, hj with | 0, _ => (hs _ (List.mem_of_getElem? (i := 564) (by decide +kernel))) | n9 + 1, hj => absurd hj (l_no 1 n9)) (hts _ (List.mem_of_getElem? (i := 1109) (by decide +kernel)))
  obtain ⟨a4, v4, p4⟩ := l_txt (tx := "=") (k := 232) (l := [61]) (by decide) (hs _ (List.mem_of_getElem? (i := 565) (by decide +kernel))) (hs _ (List.mem_of_getElem? (i := 566) (by decide +kernel))) (hs _ (List.mem_of_getElem? (i := 567) (by decide +kernel))) (hs _ (List.mem_of_getElem? (i := 568) (by decide +kernel))) (fun j hj => match j, hj with | 0, _ => (hs _ (List.mem_of_getElem? (i := 569) (by decide +kernel))) | n9 + 1, hj => absurd hj (l_no 1 n9)) (hts _ (List.mem_of_getElem? (i := 1110) (by decide +kernel)))
  obtain ⟨a5, v5, p5⟩ := l_txt (tx := "x") (k := 234) (l := [120]) (by decide) (hs _ (List.mem_of_getElem? (i := 570) (by decide +kernel))) (hs _ (List.mem_of_getElem? (i := 571) (by decide +kernel))) (hs _ (List.mem_of_getElem? (i := 572) (by decide +kernel))) (hs _ (List.mem_of_getElem? (i := 573) (by decide +kernel))) (fun j hj => match j, hj with | 0, _ => (hs _ (List.mem_of_getElem? (i := 574) (by decide +kernel))) | n9 + 1, hj => absurd hj (l_no 1 n9)) (hts _ (List.mem_of_getElem? (i := 1111) (by decide +kernel)))
  obtain ⟨a6, v6, p6⟩ := l_txt (tx := "f;b") (k := 271) (l := [102, 59, 98]) (by decide) (hs _ (List.mem_of_getElem? (i := 721) (by decide +kernel))) (hs _ (List.mem_of_getElem? (i := 722) (by decide +kernel))) (hs _ (List.mem_of_getElem? (i := 723) (by decide +kernel))) (hs _ (List.mem_of_getElem? (i := 724) (by decide +kernel))) (fun j hj => match j, hj with | 0, _ => (hs _ (List.mem_of_getElem? (i := 725) (by decide +kernel))) | 1, _ => (hs _ (List.mem_of_getElem? (i := 726) (by decide +kernel))) | 2, _ => (hs _ (List.mem_of_getElem? (i := 727) (by decide +kernel))) | n9 + 3, hj => absurd hj (l_no 3 n9)) (hts _ (List.mem_of_getElem? (i := 1315) (by decide +kernel)))
  obtain ⟨a7, v7, p7⟩ := l_txt (tx := ";e") (k := 273) (l := [59, 101]) (by decide) (hs _ (List.mem_of_getElem? (i := 728) (by decide +kernel))) (hs _ (List.mem_of_getElem? (i := 729) (by decide +kernel))) (hs _ (List.mem_of_getElem? (i := 730) (by decide +kernel))) (hs _ (List.mem_of_getElem? (i := 731) (by decide +kernel))) (fun j hj => match j, hj with | 0, _ => (hs _ (List.mem_of_getElem? (i := 732) (by decide +kernel))) | 1, _ => (hs _ (List.mem_of_getElem? (i := 733) (by decide +kernel))) | n9 + 2, hj => absurd hj (l_no 2 n9)) (hts _ (List.mem_of_getElem? (i := 1316) (by decide +kernel)))
  obtain ⟨a8, v8, p8⟩ := l_txt (tx := ";m") (k := 275) (l := [59, 109]) (by decide) (hs _ (List.mem_of_getElem? (i := 734) (by decide +kernel))) (hs _ (List.mem_of_getElem? (i := 735) (by decide +kernel))) (hs _ (List.mem_of_getElem? (i := 736) (by decide +kernel))) (hs _ (List.mem_of_getElem? (i := 737) (by decide +kernel))) (fun j hj => match j, hj with | 0, _ => (hs _ (List.mem_of_getElem? (i := 738) (by decide +kernel))) | 1, _ => (hs _ (List.mem_of_getElem? (i := 739) (by decide +kernel))) | n9 + 2, hj => absurd hj (l_no 2 n9)) (hts _ (List.mem_of_getElem? (i := 1317) (by decide +kernel)))
  obtain ⟨a9, v9, p9⟩ := l_txt (tx := ";d") (k := 277) (l := [59, 100]) (by decide) (hs _ (List.mem_of_getElem? (i := 740) (by decide +kernel))) (hs _ (List.mem_of_getElem? (i := 741) (by decide +kernel))) (hs _ (List.mem_of_getElem? (i := 742) (by decide +kernel))) (hs _ (List.mem_of_getElem? (i := 743) (by decide +kernel))) (fun j hj => match j, hj with | 0, _ => (hs _ (List.mem_of_getElem? (i := 744) (by decide +kernel))) | 1, _ => (hs _ (List.mem_of_getElem? (i := 745) (by decide +kernel))) | n9 + 2, hj => absurd hj (l_no 2 n9)) (hts _ (List.mem_of_getElem? (i := 1318) (by decide +kernel)))
  refine ⟨fun k => if k = 150 then b else [a0, v0, a1, v1, a2, v2, a3, v3, a4, v4, a5, v5, a6, v6, a7, v7, a8, v8, a9, v9].getD (k - 400) 0, rfl, va_AO.of (hts _ (List.mem_of_getElem? (i := 134) (by decide +kernel))), ⟨hX, hbl, Nat.not_le.mpr hbl⟩, fun i hi => ?_, va_Nw.of rfl (hts _ (List.mem_of_getElem? (i := 937) (by decide +kernel)))⟩
  match i, hi with
  | 0, _ => exact p0
  | 1, _ => exact p1
  | 2, _ => exact p2
  | 3, _ => exact p3
  | 4, _ => exact p4
  | 5, _ => exact p5
  | 6, _ => exact p6
  | 7, _ => exact p7
  | 8, _ => exact p8
  | 9, _ => exact p9
  | n9 + 10, hi => exact absurd hi (by omega)
