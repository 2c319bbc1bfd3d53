theorem wd96_132 : (Jvm.Cond.arrayClass Jvm.ClassFile.FieldType.int) ∈ jWL := jw_mem 132 (by decide +kernel) (by decide +kernel)
/-! THE LAW'S PERSONS -/
set_option maxHeartbeats 16000000 in
theorem m_persons {B : Int} {K : fS} {P : Int → fS} {n : Int} {h : jH} (hC : lC B K P n h) (hN : ∀ j, 120 ≤ j ∧ j < 400 → h j = none) : jM mL_persons 10 115000 690200 [300, 301, 302] [.ref 0] h (jRet (iv 1) h) jno := by
  have hn := hC.n
  have hO := hC.O
  have hA := hC.A
  have hS : kSy K := hC.1.1.2.2.1
  have hV : kV K := hC.1.2
  have hQ := hO.q
  obtain ⟨fs, hO0⟩ := hC.o
  refine j_method (by decide +kernel) rfl (fun _ _ _ => trivial) (Nat.le_of_ble_eq_true rfl) ?_
  generalize hZ : jZ [300, 301, 302] 115000 690200 _ _ = Z
  show J mL_persons (jR 10 115000 690200) [300, 301, 302] Z 0 [(0, .ref 0)] [] h 0 0
  refine J.cl fun hcl => ?_
  refine j_aload_n dL_persons_0 rfl rfl ?_
  refine j_iconst dL_persons_1 ?_
  refine j_callV ((l_account hC (w := 0) (by decide)).is acc_0) dL_persons_2 jc_L_128 jmV_X4_account rfl rfl hO0 rfl rfl (by simp) jfr_nil (Nat.le_of_ble_eq_true rfl) ⟨Nat.le_of_ble_eq_true rfl, Nat.le_of_ble_eq_true rfl⟩ (show 0 + 1 ≤ 115000 ∧ 0 + 6 ≤ 690200 by omega) (fun r h1 hp9 => ?_) (fun E h9 q => q.elim)
  obtain ⟨rfl, rfl⟩ := hp9
  refine j_istore_n (L' := [(0, _), (1, _)]) dL_persons_5 rfl (Nat.le_of_ble_eq_true rfl) rfl ?_
  refine j_aload_n dL_persons_6 rfl rfl ?_
  refine j_callS (m_houses hC hN) dL_persons_7 jc_L_178 jmS_L_houses rfl rfl rfl (by decide) (jfr_of rfl rfl) (Nat.le_of_ble_eq_true rfl) ⟨Nat.le_of_ble_eq_true rfl, Nat.le_of_ble_eq_true rfl⟩ (show 0 + 1 + 4000 ≤ 115000 ∧ 0 + 6 + 24100 ≤ 690200 by omega) (fun r h2 hp9 => ?_) (fun E h9 q => q.elim)
  obtain ⟨rfl, H, rfl, hH⟩ := hp9
  refine j_astore_n (L' := [(0, _), (1, _), (2, _)]) dL_persons_10 rfl (Nat.le_of_ble_eq_true rfl) rfl ?_
  refine j_iload_n dL_persons_11 rfl rfl ?_
  refine j_newarrayI (t := 0) (k := 302) (n := ((K 6 0).toNat)) (by omega) rfl dL_persons_12 rfl (by decide) wd96_132 (by omega) (jup_n (by decide) (hN 302 (by decide))) (by decide) (jfr_of rfl rfl) (show 0 + 1 + 4000 + 1 ≤ 115000 ∧ 0 + 6 + 24100 + ((K 6 0).toNat) ≤ 690200 by omega) ?_
  refine j_astore_n (L' := [(0, _), (1, _), (2, _), (3, _)]) dL_persons_14 rfl (Nat.le_of_ble_eq_true rfl) rfl ?_
  refine j_iconst dL_persons_15 ?_
  refine j_istore (L' := [(0, _), (1, _), (2, _), (3, _), (4, _)]) dL_persons_16 (Nat.le_of_ble_eq_true rfl) rfl ?_
  refine jloop (P := fun z9 : Int × (Int → Int) × Nat × Nat => J mL_persons (jR 10 115000 690200) [300, 301, 302] Z 18 [(0, .ref 0), (1, iv (K 6 0)), (2, .ref 301), (3, .ref 302), (4, iv z9.1)] [] (jup (jup h 301 (jA 0 ((K 6 0).toNat) H)) 302 (jA 0 ((K 6 0).toNat) z9.2.1)) z9.2.2.1 z9.2.2.2) (fun z9 => (0 ≤ z9.1 ∧ z9.1 ≤ K 6 0) ∧ (∀ x, 0 ≤ x → x < K 6 0 → z9.2.1 x = csum (blw K x) z9.1.toNat) ∧ (z9.2.2.1 : Int) + 52 * (24 - z9.1) ≤ 5300 ∧ z9.2.2.2 ≤ 6 * z9.2.2.1 + 130) (fun z9 => (24 - z9.1).toNat) ?_ (0, fun _ => 0, 0 + 1 + 4000 + 1, 0 + 6 + 24100 + ((K 6 0).toNat)) ?_
  · rintro ⟨p, F, nc18, ns18⟩ hinv18 ih18
    dsimp only at hinv18 ih18 ⊢
    obtain ⟨i1, i2, b1, bs18⟩ := hinv18
    refine j_iload dL_persons_18 rfl ?_
    refine j_iload_n dL_persons_20 rfl rfl ?_
    refine j_icmp_ge (tgt := 64) dL_persons_21 (by decide) (by omega) (fun c21 => ?_) (fun c21 => ?_)
    · have hF : ∀ x, 0 ≤ x → x < K 6 0 → F x = ((des K 24 x).length : Int) := fun x a b => by rw [i2 x a b, show p = K 6 0 by omega]; exact (des_cnt hO hA ⟨a, b⟩).symm
      clear i2
      refine j_iconst dL_persons_64 ?_
      refine j_istore (L' := [(0, _), (1, _), (2, _), (3, _), (4, _)]) dL_persons_65 (Nat.le_of_ble_eq_true rfl) rfl ?_
      refine jloop (P := fun z9 : Int × Nat × Nat => J mL_persons (jR 10 115000 690200) [300, 301, 302] Z 67 [(0, .ref 0), (1, iv (K 6 0)), (2, .ref 301), (3, .ref 302), (4, iv z9.1)] [] (jup (jup h 301 (jA 0 ((K 6 0).toNat) H)) 302 (jA 0 ((K 6 0).toNat) F)) z9.2.1 z9.2.2) (fun z9 => (0 ≤ z9.1 ∧ z9.1 ≤ K 6 0) ∧ (z9.2.1 : Int) + 4500 * (24 - z9.1) ≤ 5300 + 108000 ∧ z9.2.2 ≤ 6 * z9.2.1 + 130) (fun z9 => (24 - z9.1).toNat) ?_ (0, nc18, ns18) ?_
      · rintro ⟨p, nc67, ns67⟩ hinv67 ih67
        dsimp only at hinv67 ih67 ⊢
        obtain ⟨m1, b4, bs67⟩ := hinv67
        refine j_iload dL_persons_67 rfl ?_
        refine j_iload_n dL_persons_69 rfl rfl ?_
        refine j_icmp_ge (tgt := 538) dL_persons_70 (by decide) (by omega) (fun c70 => ?_) (fun c70 => ?_)
        · refine j_aload_n dL_persons_538 rfl rfl ?_
          refine j_iload_n dL_persons_539 rfl rfl ?_
          refine j_iconst dL_persons_540 ?_
          refine j_callSW (l_ofN ((hC.up (k := 301) (x := (jA 0 ((K 6 0).toNat) H)) (by decide)).up (k := 302) (x := (jA 0 ((K 6 0).toNat) F)) (by decide)) (p := K 6 0) (w := 0) (by omega) (by decide)) dL_persons_541 jc_L_151 jmS_L_of (fun q => by cases q) rfl rfl (by decide) (jfr_of rfl rfl) (Nat.le_of_ble_eq_true rfl) ⟨Nat.le_of_ble_eq_true rfl, Nat.le_of_ble_eq_true rfl⟩ (show nc67 + 2 ≤ 115000 ∧ ns67 + 12 ≤ 690200 by omega) (fun r h3 hp9 => ?_)
          obtain ⟨rfl, rfl⟩ := hp9
          refine j_bipush dL_persons_544 (by decide +kernel) ?_
          refine j_icmp_ne (tgt := 575) dL_persons_546 (by decide) (by omega) (fun c546 => (False.elim (by omega))) (fun c546 => ?_)
          refine j_aload_n dL_persons_549 rfl rfl ?_
          refine j_iload_n dL_persons_550 rfl rfl ?_
          refine j_iconst dL_persons_551 ?_
          refine j_iconst dL_persons_552 ?_
          refine j_callSW (l_elderO ((hC.up (k := 301) (x := (jA 0 ((K 6 0).toNat) H)) (by decide)).up (k := 302) (x := (jA 0 ((K 6 0).toNat) F)) (by decide)) (p := K 6 0) (e := 0) (d := 0) rfl (by omega) (by decide)) dL_persons_553 jc_L_182 jmS_L_elder (fun q => by cases q) rfl rfl (by decide) (jfr_of rfl rfl) (Nat.le_of_ble_eq_true rfl) ⟨Nat.le_of_ble_eq_true rfl, Nat.le_of_ble_eq_true rfl⟩ (show nc67 + 2 + 2 ≤ 115000 ∧ ns67 + 12 + 12 ≤ 690200 by omega) (fun r h4 hp9 => ?_)
          obtain ⟨rfl, rfl⟩ := hp9
          refine j_bipush dL_persons_556 (by decide +kernel) ?_
          refine j_icmp_ne (tgt := 575) dL_persons_558 (by decide) (by omega) (fun c558 => (False.elim (by omega))) (fun c558 => ?_)
          refine j_aload_n dL_persons_561 rfl rfl ?_
          refine j_iload_n dL_persons_562 rfl rfl ?_
          refine j_callSW (l_farthestO ((hC.up (k := 301) (x := (jA 0 ((K 6 0).toNat) H)) (by decide)).up (k := 302) (x := (jA 0 ((K 6 0).toNat) F)) (by decide)) (p := K 6 0) rfl) dL_persons_563 jc_L_194 jmS_L_farthest (fun q => by cases q) rfl rfl (by decide) (jfr_of rfl rfl) (Nat.le_of_ble_eq_true rfl) ⟨Nat.le_of_ble_eq_true rfl, Nat.le_of_ble_eq_true rfl⟩ (show nc67 + 2 + 2 + 1 ≤ 115000 ∧ ns67 + 12 + 12 + 6 ≤ 690200 by omega) (fun r h5 hp9 => ?_)
          obtain ⟨rfl, rfl⟩ := hp9
          refine j_bipush dL_persons_566 (by decide +kernel) ?_
          refine j_icmp_ne (tgt := 575) dL_persons_568 (by decide) (by omega) (fun c568 => (False.elim (by omega))) (fun c568 => ?_)
          refine j_iconst dL_persons_571 ?_
          refine j_goto (tgt := 576) dL_persons_572 (by decide) ?_
          refine J.drop (h' := h) (drop2 (hN 301 (by decide)) (hN 302 (by decide))) hcl ?_
          subst hZ
          exact j_ireturn dL_persons_576 rfl rfl ⟨rfl, rfl⟩ (show nc67 + 2 + 2 + 1 ≤ 115000 by omega) (show ns67 + 12 + 12 + 6 ≤ 690200 by omega)
        · have hp : 0 ≤ p ∧ p < K 6 0 := by omega
          have hpp := hO.p p
          have hps := hO.s p
          have hFp := hF p hp.1 hp.2
          have hl := des_len hO hA 24 (p := p) (by omega)
          have hd := fdep_rg K p
          have hpl := hO.l p
          have hpc := hO.c p
          have hcb := hO.b
          refine j_iconst dL_persons_73 ?_
          refine j_istore (L' := [(0, _), (1, _), (2, _), (3, _), (4, _), (5, _)]) dL_persons_74 (Nat.le_of_ble_eq_true rfl) rfl ?_
          refine j_iload dL_persons_76 rfl ?_
          refine j_istore (L' := [(0, _), (1, _), (2, _), (3, _), (4, _), (5, _), (6, _)]) dL_persons_78 (Nat.le_of_ble_eq_true rfl) rfl ?_
          refine jloop (P := fun z9 : Int × Int × Nat × Nat => J mL_persons (jR 10 115000 690200) [300, 301, 302] Z 80 [(0, .ref 0), (1, iv (K 6 0)), (2, .ref 301), (3, .ref 302), (4, iv p), (5, iv z9.1), (6, iv z9.2.1)] [] (jup (jup h 301 (jA 0 ((K 6 0).toNat) H)) 302 (jA 0 ((K 6 0).toNat) F)) z9.2.2.1 z9.2.2.2) (fun z9 => (0 ≤ z9.1 ∧ z9.1 ≤ fdep K p) ∧ z9.2.1 = upk (K 0) z9.1.toNat p ∧ (0 ≤ z9.2.1 ∧ z9.2.1 < K 6 0) ∧ (z9.2.2.1 : Int) + 8 * (24 - z9.1) ≤ nc67 + 192 ∧ z9.2.2.2 ≤ 6 * z9.2.2.1 + 130) (fun z9 => (24 - z9.1).toNat) ?_ (0, p, nc67, ns67) ?_
          · rintro ⟨i, u, nc80, ns80⟩ hinv80 ih80
            dsimp only at hinv80 ih80 ⊢
            obtain ⟨k1, k2, k3, b5, bs80⟩ := hinv80
            refine j_aload_n dL_persons_80 rfl rfl ?_
            refine j_iload dL_persons_81 rfl ?_
            have hup9 := hO.p u
            refine j_iconst dL_persons_83 ?_
            refine j_callSW (l_of0 ((hC.up (k := 301) (x := (jA 0 ((K 6 0).toNat) H)) (by decide)).up (k := 302) (x := (jA 0 ((K 6 0).toNat) F)) (by decide)) (p := u) (by omega)) dL_persons_84 jc_L_151 jmS_L_of (fun q => by cases q) rfl rfl (by decide) (jfr_of rfl rfl) (Nat.le_of_ble_eq_true rfl) ⟨Nat.le_of_ble_eq_true rfl, Nat.le_of_ble_eq_true rfl⟩ (show nc80 + 2 ≤ 115000 ∧ ns80 + 12 ≤ 690200 by omega) (fun r h6 hp9 => ?_)
            obtain ⟨rfl, rfl⟩ := hp9
            refine j_if_lt (tgt := 132) dL_persons_87 (by decide) (by omega) (fun c87 => ?_) (fun c87 => ?_)
            · have hdz := fdep_up hO hA i.toNat p (by omega)
              rw [← k2, fdep_z hO (x := u) (by omega)] at hdz
              have hid : fdep K p = i := by omega
              have hru := frt_up hO hA i.toNat p (by omega)
              rw [← k2, frt_z (F := K) (x := u) (by omega)] at hru
              refine j_iconst dL_persons_132 ?_
              refine j_istore (L' := [(0, _), (1, _), (2, _), (3, _), (4, _), (5, _), (6, _), (7, _)]) dL_persons_133 (Nat.le_of_ble_eq_true rfl) rfl ?_
              refine j_iconst dL_persons_135 ?_
              refine j_istore (L' := [(0, _), (1, _), (2, _), (3, _), (4, _), (5, _), (6, _), (7, _), (8, _)]) dL_persons_136 (Nat.le_of_ble_eq_true rfl) rfl ?_
              refine j_iconst dL_persons_138 ?_
              refine j_istore (L' := [(0, _), (1, _), (2, _), (3, _), (4, _), (5, _), (6, _), (7, _), (8, _), (9, _)]) dL_persons_139 (Nat.le_of_ble_eq_true rfl) rfl ?_
              refine jloop (P := fun z9 : Int × Int × Nat × Nat => J mL_persons (jR 10 115000 690200) [300, 301, 302] Z 141 [(0, .ref 0), (1, iv (K 6 0)), (2, .ref 301), (3, .ref 302), (4, iv p), (5, iv i), (6, iv u), (7, iv z9.1), (8, iv 0), (9, iv z9.2.1)] [] (jup (jup h 301 (jA 0 ((K 6 0).toNat) H)) 302 (jA 0 ((K 6 0).toNat) F)) z9.2.2.1 z9.2.2.2) (fun z9 => (0 ≤ z9.2.1 ∧ z9.2.1 ≤ K 6 0) ∧ z9.1 = csum (fun z => bi (K 0 z = p)) z9.2.1.toNat ∧ (z9.2.2.1 : Int) + 2 * (24 - z9.2.1) ≤ nc67 + 194 + 48 ∧ z9.2.2.2 ≤ 6 * z9.2.2.1 + 130) (fun z9 => (24 - z9.2.1).toNat) ?_ (0, 0, nc80 + 2, ns80 + 12) ?_
              · rintro ⟨c, q, nc141, ns141⟩ hinv141 ih141
                dsimp only at hinv141 ih141 ⊢
                obtain ⟨l1, l2, b6, bs141⟩ := hinv141
                refine j_iload dL_persons_141 rfl ?_
                refine j_iload_n dL_persons_143 rfl rfl ?_
                refine j_icmp_ge (tgt := 175) dL_persons_144 (by decide) (by omega) (fun c144 => ?_) (fun c144 => ?_)
                · have hc9 : csum (fun c => bi (K 0 c = p)) (K 6 0).toNat = c := by rw [l2, show q = K 6 0 by omega]
                  have hc8 := csum_bi (P := fun z => K 0 z = p) (K 6 0).toNat
                  refine j_iconst dL_persons_175 ?_
                  refine j_istore (L' := [(0, _), (1, _), (2, _), (3, _), (4, _), (5, _), (6, _), (7, _), (8, _), (9, _)]) dL_persons_176 (Nat.le_of_ble_eq_true rfl) rfl ?_
                  refine jloop (P := fun z9 : Int × Int × Nat × Nat => J mL_persons (jR 10 115000 690200) [300, 301, 302] Z 178 [(0, .ref 0), (1, iv (K 6 0)), (2, .ref 301), (3, .ref 302), (4, iv p), (5, iv i), (6, iv u), (7, iv c), (8, iv z9.1), (9, iv z9.2.1)] [] (jup (jup h 301 (jA 0 ((K 6 0).toNat) H)) 302 (jA 0 ((K 6 0).toNat) F)) z9.2.2.1 z9.2.2.2) (fun z9 => (0 ≤ z9.2.1 ∧ z9.2.1 ≤ K 7 0) ∧ (z9.1 = csum (fun y => bi (K 4 y = p ∨ K 5 y = p)) z9.2.1.toNat) ∧ (z9.2.2.1 : Int) + 3 * (20 - z9.2.1) ≤ nc67 + 194 + 48 + 60 ∧ z9.2.2.2 ≤ 6 * z9.2.2.1 + 130) (fun z9 => (20 - z9.2.1).toNat) ?_ (0, 0, nc141, ns141) ?_
                  · rintro ⟨sq, z, nc178, ns178⟩ hinv178 ih178
                    dsimp only at hinv178 ih178 ⊢
                    obtain ⟨o1, o2, b7, bs178⟩ := hinv178
                    refine j_iload dL_persons_178 rfl ?_
                    refine j_aload_n dL_persons_180 rfl rfl ?_
                    refine j_iconst dL_persons_181 ?_
                    refine j_callV ((l_account ((hC.up (k := 301) (x := (jA 0 ((K 6 0).toNat) H)) (by decide)).up (k := 302) (x := (jA 0 ((K 6 0).toNat) F)) (by decide)) (w := 4) (by decide)).is acc_4) dL_persons_182 jc_L_128 jmV_X4_account rfl rfl (jup_n (by decide) (jup_n (by decide) hO0)) rfl rfl (by simp) jfr_nil (Nat.le_of_ble_eq_true rfl) ⟨Nat.le_of_ble_eq_true rfl, Nat.le_of_ble_eq_true rfl⟩ (show nc178 + 1 ≤ 115000 ∧ ns178 + 6 ≤ 690200 by omega) (fun r h7 hp9 => ?_) (fun E h9 q => q.elim)
                    obtain ⟨rfl, rfl⟩ := hp9
                    refine j_icmp_ge (tgt := 228) dL_persons_185 (by decide) (by omega) (fun c185 => ?_) (fun c185 => ?_)
                    · have hs9 : csum (fun z => bi (K 4 z = p ∨ K 5 z = p)) (K 7 0).toNat = sq := by rw [o2, show z = K 7 0 by omega]
                      have hs8 := csum_bi (P := fun z => K 4 z = p ∨ K 5 z = p) (K 7 0).toNat
                      have hHp := hH p hp.1 hp.2
                      have hfr := fho_rg hO hp
                      refine j_aload_n dL_persons_228 rfl rfl ?_
                      refine j_iload dL_persons_229 rfl ?_
                      refine j_iconst dL_persons_231 ?_
                      refine j_callSW (l_of4 ((hC.up (k := 301) (x := (jA 0 ((K 6 0).toNat) H)) (by decide)).up (k := 302) (x := (jA 0 ((K 6 0).toNat) F)) (by decide)) (p := p) (by omega)) dL_persons_232 jc_L_151 jmS_L_of (fun q => by cases q) rfl rfl (by decide) (jfr_of rfl rfl) (Nat.le_of_ble_eq_true rfl) ⟨Nat.le_of_ble_eq_true rfl, Nat.le_of_ble_eq_true rfl⟩ (show nc178 + 1 + 2 ≤ 115000 ∧ ns178 + 6 + 12 ≤ 690200 by omega) (fun r h8 hp9 => ?_)
                      obtain ⟨rfl, rfl⟩ := hp9
                      refine j_istore (L' := [(0, _), (1, _), (2, _), (3, _), (4, _), (5, _), (6, _), (7, _), (8, _), (9, _)]) dL_persons_235 (Nat.le_of_ble_eq_true rfl) rfl ?_
                      refine j_aload_n dL_persons_237 rfl rfl ?_
                      refine j_iload dL_persons_238 rfl ?_
                      refine j_iconst dL_persons_240 ?_
                      refine j_callSW (l_of1 ((hC.up (k := 301) (x := (jA 0 ((K 6 0).toNat) H)) (by decide)).up (k := 302) (x := (jA 0 ((K 6 0).toNat) F)) (by decide)) (p := p) (by omega)) dL_persons_241 jc_L_151 jmS_L_of (fun q => by cases q) rfl rfl (by decide) (jfr_of rfl rfl) (Nat.le_of_ble_eq_true rfl) ⟨Nat.le_of_ble_eq_true rfl, Nat.le_of_ble_eq_true rfl⟩ (show nc178 + 1 + 2 + 2 ≤ 115000 ∧ ns178 + 6 + 12 + 12 ≤ 690200 by omega) (fun r h9 hp9 => ?_)
                      obtain ⟨rfl, rfl⟩ := hp9
                      refine j_iload dL_persons_244 rfl ?_
                      refine j_icmp_ne (tgt := 349) dL_persons_246 (by decide) (by omega) (fun c246 => (False.elim (by omega))) (fun c246 => ?_)
                      refine j_aload_n dL_persons_249 rfl rfl ?_
                      refine j_iload dL_persons_250 rfl ?_
                      refine j_bipush dL_persons_252 (by decide +kernel) ?_
                      refine j_callSW (l_of7 ((hC.up (k := 301) (x := (jA 0 ((K 6 0).toNat) H)) (by decide)).up (k := 302) (x := (jA 0 ((K 6 0).toNat) F)) (by decide)) (p := p) (by omega)) dL_persons_254 jc_L_151 jmS_L_of (fun q => by cases q) rfl rfl (by decide) (jfr_of rfl rfl) (Nat.le_of_ble_eq_true rfl) ⟨Nat.le_of_ble_eq_true rfl, Nat.le_of_ble_eq_true rfl⟩ (show nc178 + 1 + 2 + 2 + 2 ≤ 115000 ∧ ns178 + 6 + 12 + 12 + 12 ≤ 690200 by omega) (fun r h10 hp9 => ?_)
                      obtain ⟨rfl, rfl⟩ := hp9
                      refine j_iload dL_persons_257 rfl ?_
                      refine j_icmp_ne (tgt := 349) dL_persons_259 (by decide) (by omega) (fun c259 => (False.elim (by omega))) (fun c259 => ?_)
                      refine j_aload_n dL_persons_262 rfl rfl ?_
                      refine j_iload dL_persons_263 rfl ?_
                      refine j_iconst dL_persons_265 ?_
                      refine j_callSW (l_of2 ((hC.up (k := 301) (x := (jA 0 ((K 6 0).toNat) H)) (by decide)).up (k := 302) (x := (jA 0 ((K 6 0).toNat) F)) (by decide)) (p := p) (by omega)) dL_persons_266 jc_L_151 jmS_L_of (fun q => by cases q) rfl rfl (by decide) (jfr_of rfl rfl) (Nat.le_of_ble_eq_true rfl) ⟨Nat.le_of_ble_eq_true rfl, Nat.le_of_ble_eq_true rfl⟩ (show nc178 + 1 + 2 + 2 + 2 + 2 ≤ 115000 ∧ ns178 + 6 + 12 + 12 + 12 + 12 ≤ 690200 by omega) (fun r h11 hp9 => ?_)
                      obtain ⟨rfl, rfl⟩ := hp9
                      refine j_iload dL_persons_269 rfl ?_
                      refine j_icmp_ne (tgt := 349) dL_persons_271 (by decide) (by omega) (fun c271 => (False.elim (by omega))) (fun c271 => ?_)
                      refine j_aload_n dL_persons_274 rfl rfl ?_
                      refine j_iload dL_persons_275 rfl ?_
                      refine j_iconst dL_persons_277 ?_
                      refine j_callSW (l_of3 ((hC.up (k := 301) (x := (jA 0 ((K 6 0).toNat) H)) (by decide)).up (k := 302) (x := (jA 0 ((K 6 0).toNat) F)) (by decide)) (p := p) (by omega)) dL_persons_278 jc_L_151 jmS_L_of (fun q => by cases q) rfl rfl (by decide) (jfr_of rfl rfl) (Nat.le_of_ble_eq_true rfl) ⟨Nat.le_of_ble_eq_true rfl, Nat.le_of_ble_eq_true rfl⟩ (show nc178 + 1 + 2 + 2 + 2 + 2 + 2 ≤ 115000 ∧ ns178 + 6 + 12 + 12 + 12 + 12 + 12 ≤ 690200 by omega) (fun r h12 hp9 => ?_)
                      obtain ⟨rfl, rfl⟩ := hp9
                      refine j_aload_n dL_persons_281 rfl rfl ?_
                      refine j_iload dL_persons_282 rfl ?_
                      refine j_iaload (f := F) dL_persons_284 jup_s (by omega) (by omega) ?_
                      refine j_icmp_ne (tgt := 349) dL_persons_285 (by decide) (by omega) (fun c285 => (False.elim (by omega))) (fun c285 => ?_)
                      refine j_aload_n dL_persons_288 rfl rfl ?_
                      refine j_iload dL_persons_289 rfl ?_
                      refine j_bipush dL_persons_291 (by decide +kernel) ?_
                      refine j_callSW (l_of8 ((hC.up (k := 301) (x := (jA 0 ((K 6 0).toNat) H)) (by decide)).up (k := 302) (x := (jA 0 ((K 6 0).toNat) F)) (by decide)) (p := p) (by omega)) dL_persons_293 jc_L_151 jmS_L_of (fun q => by cases q) rfl rfl (by decide) (jfr_of rfl rfl) (Nat.le_of_ble_eq_true rfl) ⟨Nat.le_of_ble_eq_true rfl, Nat.le_of_ble_eq_true rfl⟩ (show nc178 + 1 + 2 + 2 + 2 + 2 + 2 + 2 ≤ 115000 ∧ ns178 + 6 + 12 + 12 + 12 + 12 + 12 + 12 ≤ 690200 by omega) (fun r h13 hp9 => ?_)
                      obtain ⟨rfl, rfl⟩ := hp9
                      refine j_aload_n dL_persons_296 rfl rfl ?_
                      refine j_iload dL_persons_297 rfl ?_
                      refine j_iaload (f := H) dL_persons_299 (jup_n (by decide) jup_s) (by omega) (by omega) ?_
                      refine j_icmp_ne (tgt := 349) dL_persons_300 (by decide) (by omega) (fun c300 => (False.elim (by omega))) (fun c300 => ?_)
                      refine j_aload_n dL_persons_303 rfl rfl ?_
                      refine j_iload dL_persons_304 rfl ?_
                      refine j_bipush dL_persons_306 (by decide +kernel) ?_
                      refine j_callSW (l_of9 ((hC.up (k := 301) (x := (jA 0 ((K 6 0).toNat) H)) (by decide)).up (k := 302) (x := (jA 0 ((K 6 0).toNat) F)) (by decide)) (p := p) (by omega)) dL_persons_308 jc_L_151 jmS_L_of (fun q => by cases q) rfl rfl (by decide) (jfr_of rfl rfl) (Nat.le_of_ble_eq_true rfl) ⟨Nat.le_of_ble_eq_true rfl, Nat.le_of_ble_eq_true rfl⟩ (show nc178 + 1 + 2 + 2 + 2 + 2 + 2 + 2 + 2 ≤ 115000 ∧ ns178 + 6 + 12 + 12 + 12 + 12 + 12 + 12 + 12 ≤ 690200 by omega) (fun r h14 hp9 => ?_)
                      obtain ⟨rfl, rfl⟩ := hp9
                      refine j_iload dL_persons_311 rfl ?_
                      refine j_icmp_ne (tgt := 349) dL_persons_313 (by decide) (by omega) (fun c313 => (False.elim (by omega))) (fun c313 => ?_)
                      refine j_iload dL_persons_316 rfl ?_
                      refine j_if_lt (tgt := 345) dL_persons_318 (by decide) (by omega) (fun c318 => ?_) (fun c318 => ?_)
                      · refine j_iconst dL_persons_345 ?_
                        refine j_goto (tgt := 350) dL_persons_346 (by decide) ?_
                        refine j_istore (L' := [(0, _), (1, _), (2, _), (3, _), (4, _), (5, _), (6, _), (7, _), (8, _), (9, _), (10, _)]) dL_persons_350 (Nat.le_of_ble_eq_true rfl) rfl ?_
                        refine j_iload dL_persons_352 rfl ?_
                        refine j_if_eq (tgt := 469) dL_persons_354 (by decide) (by omega) (fun c354 => (False.elim (by omega))) (fun c354 => ?_)
                        have hu0 : upk (K 0) (Int.toNat 0) p = p := rfl
                        refine j_aload_n dL_persons_357 rfl rfl ?_
                        refine j_iload dL_persons_358 rfl ?_
                        refine j_iconst dL_persons_360 ?_
                        refine j_iconst dL_persons_361 ?_
                        refine j_callSW (l_elderY ((hC.up (k := 301) (x := (jA 0 ((K 6 0).toNat) H)) (by decide)).up (k := 302) (x := (jA 0 ((K 6 0).toNat) F)) (by decide)) (p := p) (e := 0) (d := 0) (by omega) (by omega) (by decide)) dL_persons_362 jc_L_182 jmS_L_elder (fun q => by cases q) rfl rfl (by decide) (jfr_of rfl rfl) (Nat.le_of_ble_eq_true rfl) ⟨Nat.le_of_ble_eq_true rfl, Nat.le_of_ble_eq_true rfl⟩ (show nc178 + 1 + 2 + 2 + 2 + 2 + 2 + 2 + 2 + 2 ≤ 115000 ∧ ns178 + 6 + 12 + 12 + 12 + 12 + 12 + 12 + 12 + 12 ≤ 690200 by omega) (fun r h15 hp9 => ?_)
                        obtain ⟨rfl, rfl⟩ := hp9
                        refine j_iload dL_persons_365 rfl ?_
                        refine j_icmp_ne (tgt := 469) dL_persons_367 (by decide) (by omega) (fun c367 => (absurd hu0 c367)) (fun c367 => ?_)
                        refine j_aload_n dL_persons_370 rfl rfl ?_
                        refine j_iload dL_persons_371 rfl ?_
                        refine j_iload dL_persons_373 rfl ?_
                        refine j_iconst dL_persons_375 ?_
                        refine j_iadd dL_persons_376 ?_
                        refine j_iconst dL_persons_377 ?_
                        refine j_callSW (l_elderN ((hC.up (k := 301) (x := (jA 0 ((K 6 0).toNat) H)) (by decide)).up (k := 302) (x := (jA 0 ((K 6 0).toNat) F)) (by decide)) (p := p) (e := i + 1) (d := 0) (by omega) (by omega) (by omega) (by decide)) dL_persons_378 jc_L_182 jmS_L_elder (fun q => by cases q) rfl rfl (by decide) (jfr_of rfl rfl) (Nat.le_of_ble_eq_true rfl) ⟨Nat.le_of_ble_eq_true rfl, Nat.le_of_ble_eq_true rfl⟩ (show nc178 + 1 + 2 + 2 + 2 + 2 + 2 + 2 + 2 + 2 + 2 ≤ 115000 ∧ ns178 + 6 + 12 + 12 + 12 + 12 + 12 + 12 + 12 + 12 + 12 ≤ 690200 by omega) (fun r h16 hp9 => ?_)
                        obtain ⟨rfl, rfl⟩ := hp9
                        refine j_bipush dL_persons_381 (by decide +kernel) ?_
                        refine j_icmp_ne (tgt := 469) dL_persons_383 (by decide) (by omega) (fun c383 => (False.elim (by omega))) (fun c383 => ?_)
                        refine j_aload_n dL_persons_386 rfl rfl ?_
                        refine j_iload dL_persons_387 rfl ?_
                        refine j_iload dL_persons_389 rfl ?_
                        refine j_iconst dL_persons_391 ?_
                        refine j_iadd dL_persons_392 ?_
                        refine j_iconst dL_persons_393 ?_
                        refine j_callSW (l_elderN ((hC.up (k := 301) (x := (jA 0 ((K 6 0).toNat) H)) (by decide)).up (k := 302) (x := (jA 0 ((K 6 0).toNat) F)) (by decide)) (p := p) (e := i + 1) (d := 1) (by omega) (by omega) (by omega) (by decide)) dL_persons_394 jc_L_182 jmS_L_elder (fun q => by cases q) rfl rfl (by decide) (jfr_of rfl rfl) (Nat.le_of_ble_eq_true rfl) ⟨Nat.le_of_ble_eq_true rfl, Nat.le_of_ble_eq_true rfl⟩ (show nc178 + 1 + 2 + 2 + 2 + 2 + 2 + 2 + 2 + 2 + 2 + 2 ≤ 115000 ∧ ns178 + 6 + 12 + 12 + 12 + 12 + 12 + 12 + 12 + 12 + 12 + 12 ≤ 690200 by omega) (fun r h17 hp9 => ?_)
                        obtain ⟨rfl, rfl⟩ := hp9
                        refine j_bipush dL_persons_397 (by decide +kernel) ?_
                        refine j_icmp_ne (tgt := 469) dL_persons_399 (by decide) (by omega) (fun c399 => (False.elim (by omega))) (fun c399 => ?_)
                        refine j_aload_n dL_persons_402 rfl rfl ?_
                        refine j_iload dL_persons_403 rfl ?_
                        refine j_iconst dL_persons_405 ?_
                        refine j_iconst dL_persons_406 ?_
                        refine j_callSW (l_elderN ((hC.up (k := 301) (x := (jA 0 ((K 6 0).toNat) H)) (by decide)).up (k := 302) (x := (jA 0 ((K 6 0).toNat) F)) (by decide)) (p := p) (e := -1) (d := 0) (by omega) (by omega) (by omega) (by decide)) dL_persons_407 jc_L_182 jmS_L_elder (fun q => by cases q) rfl rfl (by decide) (jfr_of rfl rfl) (Nat.le_of_ble_eq_true rfl) ⟨Nat.le_of_ble_eq_true rfl, Nat.le_of_ble_eq_true rfl⟩ (show nc178 + 1 + 2 + 2 + 2 + 2 + 2 + 2 + 2 + 2 + 2 + 2 + 2 ≤ 115000 ∧ ns178 + 6 + 12 + 12 + 12 + 12 + 12 + 12 + 12 + 12 + 12 + 12 + 12 ≤ 690200 by omega) (fun r h18 hp9 => ?_)
                        obtain ⟨rfl, rfl⟩ := hp9
                        refine j_bipush dL_persons_410 (by decide +kernel) ?_
                        refine j_icmp_ne (tgt := 469) dL_persons_412 (by decide) (by omega) (fun c412 => (False.elim (by omega))) (fun c412 => ?_)
                        refine j_aload_n dL_persons_415 rfl rfl ?_
                        refine j_iload dL_persons_416 rfl ?_
                        refine j_iload dL_persons_418 rfl ?_
                        refine j_iconst dL_persons_420 ?_
                        refine j_iadd dL_persons_421 ?_
                        refine j_callSW (l_leapsN ((hC.up (k := 301) (x := (jA 0 ((K 6 0).toNat) H)) (by decide)).up (k := 302) (x := (jA 0 ((K 6 0).toNat) F)) (by decide)) (p := p) (e := i + 1) (by omega) (by omega) (by omega)) dL_persons_422 jc_L_188 jmS_L_leaps (fun q => by cases q) rfl rfl (by decide) (jfr_of rfl rfl) (Nat.le_of_ble_eq_true rfl) ⟨Nat.le_of_ble_eq_true rfl, Nat.le_of_ble_eq_true rfl⟩ (show nc178 + 1 + 2 + 2 + 2 + 2 + 2 + 2 + 2 + 2 + 2 + 2 + 2 + 2 ≤ 115000 ∧ ns178 + 6 + 12 + 12 + 12 + 12 + 12 + 12 + 12 + 12 + 12 + 12 + 12 + 12 ≤ 690200 by omega) (fun r h19 hp9 => ?_)
                        obtain ⟨rfl, rfl⟩ := hp9
                        refine j_bipush dL_persons_425 (by decide +kernel) ?_
                        refine j_icmp_ne (tgt := 469) dL_persons_427 (by decide) (by omega) (fun c427 => (False.elim (by omega))) (fun c427 => ?_)
                        refine j_aload_n dL_persons_430 rfl rfl ?_
                        refine j_iload dL_persons_431 rfl ?_
                        refine j_bipush dL_persons_433 (by decide +kernel) ?_
                        refine j_callSW (l_of10 ((hC.up (k := 301) (x := (jA 0 ((K 6 0).toNat) H)) (by decide)).up (k := 302) (x := (jA 0 ((K 6 0).toNat) F)) (by decide)) (p := p) (by omega)) dL_persons_435 jc_L_151 jmS_L_of (fun q => by cases q) rfl rfl (by decide) (jfr_of rfl rfl) (Nat.le_of_ble_eq_true rfl) ⟨Nat.le_of_ble_eq_true rfl, Nat.le_of_ble_eq_true rfl⟩ (show nc178 + 1 + 2 + 2 + 2 + 2 + 2 + 2 + 2 + 2 + 2 + 2 + 2 + 2 + 2 ≤ 115000 ∧ ns178 + 6 + 12 + 12 + 12 + 12 + 12 + 12 + 12 + 12 + 12 + 12 + 12 + 12 + 12 ≤ 690200 by omega) (fun r h20 hp9 => ?_)
                        obtain ⟨rfl, rfl⟩ := hp9
                        refine j_bipush dL_persons_438 (by decide +kernel) ?_
                        refine j_icmp_ne (tgt := 469) dL_persons_440 (by decide) (by omega) (fun c440 => (False.elim (by omega))) (fun c440 => ?_)
                        refine j_aload_n dL_persons_443 rfl rfl ?_
                        refine j_iload dL_persons_444 rfl ?_
                        refine j_bipush dL_persons_446 (by decide +kernel) ?_
                        refine j_callSW (l_of6 ((hC.up (k := 301) (x := (jA 0 ((K 6 0).toNat) H)) (by decide)).up (k := 302) (x := (jA 0 ((K 6 0).toNat) F)) (by decide)) (p := p) (by omega)) dL_persons_448 jc_L_151 jmS_L_of (fun q => by cases q) rfl rfl (by decide) (jfr_of rfl rfl) (Nat.le_of_ble_eq_true rfl) ⟨Nat.le_of_ble_eq_true rfl, Nat.le_of_ble_eq_true rfl⟩ (show nc178 + 1 + 2 + 2 + 2 + 2 + 2 + 2 + 2 + 2 + 2 + 2 + 2 + 2 + 2 + 2 ≤ 115000 ∧ ns178 + 6 + 12 + 12 + 12 + 12 + 12 + 12 + 12 + 12 + 12 + 12 + 12 + 12 + 12 + 12 ≤ 690200 by omega) (fun r h21 hp9 => ?_)
                        obtain ⟨rfl, rfl⟩ := hp9
                        refine j_iconst dL_persons_451 ?_
                        refine j_icmp_eq (tgt := 465) dL_persons_452 (by decide) (by omega) (fun c452 => ?_) (fun c452 => ?_)
                        · refine j_iconst dL_persons_465 ?_
                          refine j_goto (tgt := 470) dL_persons_466 (by decide) ?_
                          refine j_istore (L' := [(0, _), (1, _), (2, _), (3, _), (4, _), (5, _), (6, _), (7, _), (8, _), (9, _), (10, _)]) dL_persons_470 (Nat.le_of_ble_eq_true rfl) rfl ?_
                          refine j_iconst dL_persons_472 ?_
                          refine j_istore (L' := [(0, _), (1, _), (2, _), (3, _), (4, _), (5, _), (6, _), (7, _), (8, _), (9, _), (10, _), (11, _)]) dL_persons_473 (Nat.le_of_ble_eq_true rfl) rfl ?_
                          refine j_iload dL_persons_475 rfl ?_
                          refine j_istore (L' := [(0, _), (1, _), (2, _), (3, _), (4, _), (5, _), (6, _), (7, _), (8, _), (9, _), (10, _), (11, _), (12, _)]) dL_persons_477 (Nat.le_of_ble_eq_true rfl) rfl ?_
                          refine J.keep [0, 1, 2, 3, 4, 5, 10, 11, 12] (L' := [(0, _), (1, _), (2, _), (3, _), (4, _), (5, _), (10, _), (11, _), (12, _)]) rfl ?_
                          refine jloop (P := fun z9 : Int × Int × Nat × Nat => J mL_persons (jR 10 115000 690200) [300, 301, 302] Z 479 [(0, .ref 0), (1, iv (K 6 0)), (2, .ref 301), (3, .ref 302), (4, iv p), (5, iv i), (10, iv 1), (11, iv z9.1), (12, iv z9.2.1)] [] (jup (jup h 301 (jA 0 ((K 6 0).toNat) H)) 302 (jA 0 ((K 6 0).toNat) F)) z9.2.2.1 z9.2.2.2) (fun z9 => (0 ≤ z9.2.1 ∧ z9.2.1 ≤ 24) ∧ (0 ≤ z9.1 ∧ z9.1 + z9.2.1 ≤ i) ∧ mlp 5 z9.2.1 + z9.1 = mlp 5 i ∧ (z9.2.2.1 : Int) ≤ nc67 + 450 ∧ z9.2.2.2 ≤ 6 * z9.2.2.1 + 130) (fun z9 => z9.2.1.toNat) ?_ (0, i, nc178 + 1 + 2 + 2 + 2 + 2 + 2 + 2 + 2 + 2 + 2 + 2 + 2 + 2 + 2 + 2, ns178 + 6 + 12 + 12 + 12 + 12 + 12 + 12 + 12 + 12 + 12 + 12 + 12 + 12 + 12 + 12) ?_
                          · rintro ⟨bt, xx, nc479, ns479⟩ hinv479 ih479
                            dsimp only at hinv479 ih479 ⊢
                            obtain ⟨r1, r2, r3, b8, bs479⟩ := hinv479
                            refine j_iload dL_persons_479 rfl ?_
                            refine j_if_le (tgt := 499) dL_persons_481 (by decide) (by omega) (fun c481 => ?_) (fun c481 => ?_)
                            · have hm0 : mlp 5 0 = 0 := rfl
                              have hxx : xx = 0 := by omega
                              rw [hxx] at r3
                              refine j_iload dL_persons_499 rfl ?_
                              refine j_if_eq (tgt := 530) dL_persons_501 (by decide) (by omega) (fun c501 => (False.elim (by omega))) (fun c501 => ?_)
                              refine j_aload_n dL_persons_504 rfl rfl ?_
                              refine j_iload dL_persons_505 rfl ?_
                              refine j_iload dL_persons_507 rfl ?_
                              refine j_callSW (l_leapsY ((hC.up (k := 301) (x := (jA 0 ((K 6 0).toNat) H)) (by decide)).up (k := 302) (x := (jA 0 ((K 6 0).toNat) F)) (by decide)) (p := p) (e := i) (by omega) (by omega)) dL_persons_509 jc_L_188 jmS_L_leaps (fun q => by cases q) rfl rfl (by decide) (jfr_of rfl rfl) (Nat.le_of_ble_eq_true rfl) ⟨Nat.le_of_ble_eq_true rfl, Nat.le_of_ble_eq_true rfl⟩ (show nc479 + 2 ≤ 115000 ∧ ns479 + 12 ≤ 690200 by omega) (fun r h22 hp9 => ?_)
                              obtain ⟨rfl, rfl⟩ := hp9
                              refine j_iload dL_persons_512 rfl ?_
                              refine j_icmp_ne (tgt := 530) dL_persons_514 (by decide) (by omega) (fun c514 => (False.elim (by omega))) (fun c514 => ?_)
                              refine j_aload_n dL_persons_517 rfl rfl ?_
                              refine j_iload dL_persons_518 rfl ?_
                              refine j_aload_n dL_persons_520 rfl rfl ?_
                              refine j_iload dL_persons_521 rfl ?_
                              refine j_iaload (f := F) dL_persons_523 jup_s (by omega) (by omega) ?_
                              refine j_callS (m_descend ((hC.up (k := 301) (x := (jA 0 ((K 6 0).toNat) H)) (by decide)).up (k := 302) (x := (jA 0 ((K 6 0).toNat) F)) (by decide)) (p := p) (many := F p) (by omega) hFp) dL_persons_524 jc_L_190 jmS_L_descend rfl rfl rfl (by decide) (jfr_of rfl rfl) (Nat.le_of_ble_eq_true rfl) ⟨Nat.le_of_ble_eq_true rfl, Nat.le_of_ble_eq_true rfl⟩ (show nc479 + 2 + 4000 ≤ 115000 ∧ ns479 + 12 + 24000 ≤ 690200 by omega) (fun r h23 hp9 => ?_) (fun E h9 q => q.elim)
                              obtain ⟨rfl, rfl⟩ := hp9
                              refine j_if_ne (tgt := 532) dL_persons_527 (by decide) (by omega) (fun c527 => ?_) (fun c527 => (False.elim (by omega)))
                              refine j_iinc (L' := [(0, _), (1, _), (2, _), (3, _), (4, _), (5, _), (10, _), (11, _), (12, _)]) dL_persons_532 rfl (Nat.le_of_ble_eq_true rfl) rfl ?_
                              refine j_goto (tgt := 67) dL_persons_535 (by decide) ?_
                              refine J.keep [0, 1, 2, 3, 4] (L' := [(0, _), (1, _), (2, _), (3, _), (4, _)]) rfl ?_
                              refine ih67 (p + 1, nc479 + 2 + 4000, ns479 + 12 + 24000) ?_ ?_
                              · dsimp only
                                exact ⟨by omega, by omega, by omega⟩
                              · dsimp only
                                omega
                            · have ha9 := andp_s (x := xx) (by omega)
                              refine j_iinc (L' := [(0, _), (1, _), (2, _), (3, _), (4, _), (5, _), (10, _), (11, _), (12, _)]) dL_persons_484 rfl (Nat.le_of_ble_eq_true rfl) rfl ?_
                              refine j_iload dL_persons_487 rfl ?_
                              refine j_iload dL_persons_489 rfl ?_
                              refine j_iconst dL_persons_491 ?_
                              refine j_isub dL_persons_492 ?_
                              refine j_iand (z := andp xx) dL_persons_493 (andp_e xx) ?_
                              refine j_istore (L' := [(0, _), (1, _), (2, _), (3, _), (4, _), (5, _), (10, _), (11, _), (12, _)]) dL_persons_494 (Nat.le_of_ble_eq_true rfl) rfl ?_
                              refine j_goto (tgt := 479) dL_persons_496 (by decide) ?_
                              refine ih479 (bt + 1, andp xx, nc479, ns479) ?_ ?_
                              · dsimp only
                                exact ⟨by omega, by omega, by omega, by omega, by omega⟩
                              · dsimp only
                                omega
                          · dsimp only
                            exact ⟨by omega, by omega, by omega, by omega, by omega⟩
                        · have hv2 := hV.2.1 p (by omega)
                          refine j_aload_n dL_persons_455 rfl rfl ?_
                          refine j_iload dL_persons_456 rfl ?_
                          refine j_iconst dL_persons_458 ?_
                          refine j_callSW (l_of5 ((hC.up (k := 301) (x := (jA 0 ((K 6 0).toNat) H)) (by decide)).up (k := 302) (x := (jA 0 ((K 6 0).toNat) F)) (by decide)) (p := p) (by omega)) dL_persons_459 jc_L_151 jmS_L_of (fun q => by cases q) rfl rfl (by decide) (jfr_of rfl rfl) (Nat.le_of_ble_eq_true rfl) ⟨Nat.le_of_ble_eq_true rfl, Nat.le_of_ble_eq_true rfl⟩ (show nc178 + 1 + 2 + 2 + 2 + 2 + 2 + 2 + 2 + 2 + 2 + 2 + 2 + 2 + 2 + 2 + 2 ≤ 115000 ∧ ns178 + 6 + 12 + 12 + 12 + 12 + 12 + 12 + 12 + 12 + 12 + 12 + 12 + 12 + 12 + 12 + 12 ≤ 690200 by omega) (fun r h24 hp9 => ?_)
                          obtain ⟨rfl, rfl⟩ := hp9
                          refine j_if_ne (tgt := 469) dL_persons_462 (by decide) (by omega) (fun c462 => (False.elim (by omega))) (fun c462 => ?_)
                          refine j_iconst dL_persons_465 ?_
                          refine j_goto (tgt := 470) dL_persons_466 (by decide) ?_
                          refine j_istore (L' := [(0, _), (1, _), (2, _), (3, _), (4, _), (5, _), (6, _), (7, _), (8, _), (9, _), (10, _)]) dL_persons_470 (Nat.le_of_ble_eq_true rfl) rfl ?_
                          refine j_iconst dL_persons_472 ?_
                          refine j_istore (L' := [(0, _), (1, _), (2, _), (3, _), (4, _), (5, _), (6, _), (7, _), (8, _), (9, _), (10, _), (11, _)]) dL_persons_473 (Nat.le_of_ble_eq_true rfl) rfl ?_
                          refine j_iload dL_persons_475 rfl ?_
                          refine j_istore (L' := [(0, _), (1, _), (2, _), (3, _), (4, _), (5, _), (6, _), (7, _), (8, _), (9, _), (10, _), (11, _), (12, _)]) dL_persons_477 (Nat.le_of_ble_eq_true rfl) rfl ?_
                          refine J.keep [0, 1, 2, 3, 4, 5, 10, 11, 12] (L' := [(0, _), (1, _), (2, _), (3, _), (4, _), (5, _), (10, _), (11, _), (12, _)]) rfl ?_
                          refine jloop (P := fun z9 : Int × Int × Nat × Nat => J mL_persons (jR 10 115000 690200) [300, 301, 302] Z 479 [(0, .ref 0), (1, iv (K 6 0)), (2, .ref 301), (3, .ref 302), (4, iv p), (5, iv i), (10, iv 1), (11, iv z9.1), (12, iv z9.2.1)] [] (jup (jup h 301 (jA 0 ((K 6 0).toNat) H)) 302 (jA 0 ((K 6 0).toNat) F)) z9.2.2.1 z9.2.2.2) (fun z9 => (0 ≤ z9.2.1 ∧ z9.2.1 ≤ 24) ∧ (0 ≤ z9.1 ∧ z9.1 + z9.2.1 ≤ i) ∧ mlp 5 z9.2.1 + z9.1 = mlp 5 i ∧ (z9.2.2.1 : Int) ≤ nc67 + 450 ∧ z9.2.2.2 ≤ 6 * z9.2.2.1 + 130) (fun z9 => z9.2.1.toNat) ?_ (0, i, nc178 + 1 + 2 + 2 + 2 + 2 + 2 + 2 + 2 + 2 + 2 + 2 + 2 + 2 + 2 + 2 + 2, ns178 + 6 + 12 + 12 + 12 + 12 + 12 + 12 + 12 + 12 + 12 + 12 + 12 + 12 + 12 + 12 + 12) ?_
                          · rintro ⟨bt, xx, nc479, ns479⟩ hinv479 ih479
                            dsimp only at hinv479 ih479 ⊢
                            obtain ⟨r1, r2, r3, b8, bs479⟩ := hinv479
                            refine j_iload dL_persons_479 rfl ?_
                            refine j_if_le (tgt := 499) dL_persons_481 (by decide) (by omega) (fun c481 => ?_) (fun c481 => ?_)
                            · have hm0 : mlp 5 0 = 0 := rfl
                              have hxx : xx = 0 := by omega
                              rw [hxx] at r3
                              refine j_iload dL_persons_499 rfl ?_
                              refine j_if_eq (tgt := 530) dL_persons_501 (by decide) (by omega) (fun c501 => (False.elim (by omega))) (fun c501 => ?_)
                              refine j_aload_n dL_persons_504 rfl rfl ?_
                              refine j_iload dL_persons_505 rfl ?_
                              refine j_iload dL_persons_507 rfl ?_
                              refine j_callSW (l_leapsY ((hC.up (k := 301) (x := (jA 0 ((K 6 0).toNat) H)) (by decide)).up (k := 302) (x := (jA 0 ((K 6 0).toNat) F)) (by decide)) (p := p) (e := i) (by omega) (by omega)) dL_persons_509 jc_L_188 jmS_L_leaps (fun q => by cases q) rfl rfl (by decide) (jfr_of rfl rfl) (Nat.le_of_ble_eq_true rfl) ⟨Nat.le_of_ble_eq_true rfl, Nat.le_of_ble_eq_true rfl⟩ (show nc479 + 2 ≤ 115000 ∧ ns479 + 12 ≤ 690200 by omega) (fun r h25 hp9 => ?_)
                              obtain ⟨rfl, rfl⟩ := hp9
                              refine j_iload dL_persons_512 rfl ?_
                              refine j_icmp_ne (tgt := 530) dL_persons_514 (by decide) (by omega) (fun c514 => (False.elim (by omega))) (fun c514 => ?_)
                              refine j_aload_n dL_persons_517 rfl rfl ?_
                              refine j_iload dL_persons_518 rfl ?_
                              refine j_aload_n dL_persons_520 rfl rfl ?_
                              refine j_iload dL_persons_521 rfl ?_
                              refine j_iaload (f := F) dL_persons_523 jup_s (by omega) (by omega) ?_
                              refine j_callS (m_descend ((hC.up (k := 301) (x := (jA 0 ((K 6 0).toNat) H)) (by decide)).up (k := 302) (x := (jA 0 ((K 6 0).toNat) F)) (by decide)) (p := p) (many := F p) (by omega) hFp) dL_persons_524 jc_L_190 jmS_L_descend rfl rfl rfl (by decide) (jfr_of rfl rfl) (Nat.le_of_ble_eq_true rfl) ⟨Nat.le_of_ble_eq_true rfl, Nat.le_of_ble_eq_true rfl⟩ (show nc479 + 2 + 4000 ≤ 115000 ∧ ns479 + 12 + 24000 ≤ 690200 by omega) (fun r h26 hp9 => ?_) (fun E h9 q => q.elim)
                              obtain ⟨rfl, rfl⟩ := hp9
                              refine j_if_ne (tgt := 532) dL_persons_527 (by decide) (by omega) (fun c527 => ?_) (fun c527 => (False.elim (by omega)))
                              refine j_iinc (L' := [(0, _), (1, _), (2, _), (3, _), (4, _), (5, _), (10, _), (11, _), (12, _)]) dL_persons_532 rfl (Nat.le_of_ble_eq_true rfl) rfl ?_
                              refine j_goto (tgt := 67) dL_persons_535 (by decide) ?_
                              refine J.keep [0, 1, 2, 3, 4] (L' := [(0, _), (1, _), (2, _), (3, _), (4, _)]) rfl ?_
                              refine ih67 (p + 1, nc479 + 2 + 4000, ns479 + 12 + 24000) ?_ ?_
                              · dsimp only
                                exact ⟨by omega, by omega, by omega⟩
                              · dsimp only
                                omega
                            · have ha9 := andp_s (x := xx) (by omega)
                              refine j_iinc (L' := [(0, _), (1, _), (2, _), (3, _), (4, _), (5, _), (10, _), (11, _), (12, _)]) dL_persons_484 rfl (Nat.le_of_ble_eq_true rfl) rfl ?_
                              refine j_iload dL_persons_487 rfl ?_
                              refine j_iload dL_persons_489 rfl ?_
                              refine j_iconst dL_persons_491 ?_
                              refine j_isub dL_persons_492 ?_
                              refine j_iand (z := andp xx) dL_persons_493 (andp_e xx) ?_
                              refine j_istore (L' := [(0, _), (1, _), (2, _), (3, _), (4, _), (5, _), (10, _), (11, _), (12, _)]) dL_persons_494 (Nat.le_of_ble_eq_true rfl) rfl ?_
                              refine j_goto (tgt := 479) dL_persons_496 (by decide) ?_
                              refine ih479 (bt + 1, andp xx, nc479, ns479) ?_ ?_
                              · dsimp only
                                exact ⟨by omega, by omega, by omega, by omega, by omega⟩
                              · dsimp only
                                omega
                          · dsimp only
                            exact ⟨by omega, by omega, by omega, by omega, by omega⟩
                      · have hsy := hS p (by omega)
                        have hsl := hV.1 p (by omega)
                        refine j_aload_n dL_persons_321 rfl rfl ?_
                        refine j_iload dL_persons_322 rfl ?_
                        refine j_iconst dL_persons_324 ?_
                        refine j_callSW (l_of4 ((hC.up (k := 301) (x := (jA 0 ((K 6 0).toNat) H)) (by decide)).up (k := 302) (x := (jA 0 ((K 6 0).toNat) F)) (by decide)) (p := K 1 p) (by omega)) dL_persons_325 jc_L_151 jmS_L_of (fun q => by cases q) rfl rfl (by decide) (jfr_of rfl rfl) (Nat.le_of_ble_eq_true rfl) ⟨Nat.le_of_ble_eq_true rfl, Nat.le_of_ble_eq_true rfl⟩ (show nc178 + 1 + 2 + 2 + 2 + 2 + 2 + 2 + 2 + 2 ≤ 115000 ∧ ns178 + 6 + 12 + 12 + 12 + 12 + 12 + 12 + 12 + 12 ≤ 690200 by omega) (fun r h27 hp9 => ?_)
                        obtain ⟨rfl, rfl⟩ := hp9
                        refine j_iload dL_persons_328 rfl ?_
                        refine j_icmp_ne (tgt := 349) dL_persons_330 (by decide) (by omega) (fun c330 => (False.elim (by omega))) (fun c330 => ?_)
                        refine j_aload_n dL_persons_333 rfl rfl ?_
                        refine j_iload dL_persons_334 rfl ?_
                        refine j_bipush dL_persons_336 (by decide +kernel) ?_
                        refine j_callSW (l_of6 ((hC.up (k := 301) (x := (jA 0 ((K 6 0).toNat) H)) (by decide)).up (k := 302) (x := (jA 0 ((K 6 0).toNat) F)) (by decide)) (p := p) (by omega)) dL_persons_338 jc_L_151 jmS_L_of (fun q => by cases q) rfl rfl (by decide) (jfr_of rfl rfl) (Nat.le_of_ble_eq_true rfl) ⟨Nat.le_of_ble_eq_true rfl, Nat.le_of_ble_eq_true rfl⟩ (show nc178 + 1 + 2 + 2 + 2 + 2 + 2 + 2 + 2 + 2 + 2 ≤ 115000 ∧ ns178 + 6 + 12 + 12 + 12 + 12 + 12 + 12 + 12 + 12 + 12 ≤ 690200 by omega) (fun r h28 hp9 => ?_)
                        obtain ⟨rfl, rfl⟩ := hp9
                        refine j_iconst dL_persons_341 ?_
                        refine j_icmp_ne (tgt := 349) dL_persons_342 (by decide) (by omega) (fun c342 => (False.elim (by omega))) (fun c342 => ?_)
                        refine j_iconst dL_persons_345 ?_
                        refine j_goto (tgt := 350) dL_persons_346 (by decide) ?_
                        refine j_istore (L' := [(0, _), (1, _), (2, _), (3, _), (4, _), (5, _), (6, _), (7, _), (8, _), (9, _), (10, _)]) dL_persons_350 (Nat.le_of_ble_eq_true rfl) rfl ?_
                        refine j_iload dL_persons_352 rfl ?_
                        refine j_if_eq (tgt := 469) dL_persons_354 (by decide) (by omega) (fun c354 => (False.elim (by omega))) (fun c354 => ?_)
                        have hu0 : upk (K 0) (Int.toNat 0) p = p := rfl
                        refine j_aload_n dL_persons_357 rfl rfl ?_
                        refine j_iload dL_persons_358 rfl ?_
                        refine j_iconst dL_persons_360 ?_
                        refine j_iconst dL_persons_361 ?_
                        refine j_callSW (l_elderY ((hC.up (k := 301) (x := (jA 0 ((K 6 0).toNat) H)) (by decide)).up (k := 302) (x := (jA 0 ((K 6 0).toNat) F)) (by decide)) (p := p) (e := 0) (d := 0) (by omega) (by omega) (by decide)) dL_persons_362 jc_L_182 jmS_L_elder (fun q => by cases q) rfl rfl (by decide) (jfr_of rfl rfl) (Nat.le_of_ble_eq_true rfl) ⟨Nat.le_of_ble_eq_true rfl, Nat.le_of_ble_eq_true rfl⟩ (show nc178 + 1 + 2 + 2 + 2 + 2 + 2 + 2 + 2 + 2 + 2 + 2 ≤ 115000 ∧ ns178 + 6 + 12 + 12 + 12 + 12 + 12 + 12 + 12 + 12 + 12 + 12 ≤ 690200 by omega) (fun r h29 hp9 => ?_)
                        obtain ⟨rfl, rfl⟩ := hp9
                        refine j_iload dL_persons_365 rfl ?_
                        refine j_icmp_ne (tgt := 469) dL_persons_367 (by decide) (by omega) (fun c367 => (absurd hu0 c367)) (fun c367 => ?_)
                        refine j_aload_n dL_persons_370 rfl rfl ?_
                        refine j_iload dL_persons_371 rfl ?_
                        refine j_iload dL_persons_373 rfl ?_
                        refine j_iconst dL_persons_375 ?_
                        refine j_iadd dL_persons_376 ?_
                        refine j_iconst dL_persons_377 ?_
                        refine j_callSW (l_elderN ((hC.up (k := 301) (x := (jA 0 ((K 6 0).toNat) H)) (by decide)).up (k := 302) (x := (jA 0 ((K 6 0).toNat) F)) (by decide)) (p := p) (e := i + 1) (d := 0) (by omega) (by omega) (by omega) (by decide)) dL_persons_378 jc_L_182 jmS_L_elder (fun q => by cases q) rfl rfl (by decide) (jfr_of rfl rfl) (Nat.le_of_ble_eq_true rfl) ⟨Nat.le_of_ble_eq_true rfl, Nat.le_of_ble_eq_true rfl⟩ (show nc178 + 1 + 2 + 2 + 2 + 2 + 2 + 2 + 2 + 2 + 2 + 2 + 2 ≤ 115000 ∧ ns178 + 6 + 12 + 12 + 12 + 12 + 12 + 12 + 12 + 12 + 12 + 12 + 12 ≤ 690200 by omega) (fun r h30 hp9 => ?_)
                        obtain ⟨rfl, rfl⟩ := hp9
                        refine j_bipush dL_persons_381 (by decide +kernel) ?_
                        refine j_icmp_ne (tgt := 469) dL_persons_383 (by decide) (by omega) (fun c383 => (False.elim (by omega))) (fun c383 => ?_)
                        refine j_aload_n dL_persons_386 rfl rfl ?_
                        refine j_iload dL_persons_387 rfl ?_
                        refine j_iload dL_persons_389 rfl ?_
                        refine j_iconst dL_persons_391 ?_
                        refine j_iadd dL_persons_392 ?_
                        refine j_iconst dL_persons_393 ?_
                        refine j_callSW (l_elderN ((hC.up (k := 301) (x := (jA 0 ((K 6 0).toNat) H)) (by decide)).up (k := 302) (x := (jA 0 ((K 6 0).toNat) F)) (by decide)) (p := p) (e := i + 1) (d := 1) (by omega) (by omega) (by omega) (by decide)) dL_persons_394 jc_L_182 jmS_L_elder (fun q => by cases q) rfl rfl (by decide) (jfr_of rfl rfl) (Nat.le_of_ble_eq_true rfl) ⟨Nat.le_of_ble_eq_true rfl, Nat.le_of_ble_eq_true rfl⟩ (show nc178 + 1 + 2 + 2 + 2 + 2 + 2 + 2 + 2 + 2 + 2 + 2 + 2 + 2 ≤ 115000 ∧ ns178 + 6 + 12 + 12 + 12 + 12 + 12 + 12 + 12 + 12 + 12 + 12 + 12 + 12 ≤ 690200 by omega) (fun r h31 hp9 => ?_)
                        obtain ⟨rfl, rfl⟩ := hp9
                        refine j_bipush dL_persons_397 (by decide +kernel) ?_
                        refine j_icmp_ne (tgt := 469) dL_persons_399 (by decide) (by omega) (fun c399 => (False.elim (by omega))) (fun c399 => ?_)
                        refine j_aload_n dL_persons_402 rfl rfl ?_
                        refine j_iload dL_persons_403 rfl ?_
                        refine j_iconst dL_persons_405 ?_
                        refine j_iconst dL_persons_406 ?_
                        refine j_callSW (l_elderN ((hC.up (k := 301) (x := (jA 0 ((K 6 0).toNat) H)) (by decide)).up (k := 302) (x := (jA 0 ((K 6 0).toNat) F)) (by decide)) (p := p) (e := -1) (d := 0) (by omega) (by omega) (by omega) (by decide)) dL_persons_407 jc_L_182 jmS_L_elder (fun q => by cases q) rfl rfl (by decide) (jfr_of rfl rfl) (Nat.le_of_ble_eq_true rfl) ⟨Nat.le_of_ble_eq_true rfl, Nat.le_of_ble_eq_true rfl⟩ (show nc178 + 1 + 2 + 2 + 2 + 2 + 2 + 2 + 2 + 2 + 2 + 2 + 2 + 2 + 2 ≤ 115000 ∧ ns178 + 6 + 12 + 12 + 12 + 12 + 12 + 12 + 12 + 12 + 12 + 12 + 12 + 12 + 12 ≤ 690200 by omega) (fun r h32 hp9 => ?_)
                        obtain ⟨rfl, rfl⟩ := hp9
                        refine j_bipush dL_persons_410 (by decide +kernel) ?_
                        refine j_icmp_ne (tgt := 469) dL_persons_412 (by decide) (by omega) (fun c412 => (False.elim (by omega))) (fun c412 => ?_)
                        refine j_aload_n dL_persons_415 rfl rfl ?_
                        refine j_iload dL_persons_416 rfl ?_
                        refine j_iload dL_persons_418 rfl ?_
                        refine j_iconst dL_persons_420 ?_
                        refine j_iadd dL_persons_421 ?_
                        refine j_callSW (l_leapsN ((hC.up (k := 301) (x := (jA 0 ((K 6 0).toNat) H)) (by decide)).up (k := 302) (x := (jA 0 ((K 6 0).toNat) F)) (by decide)) (p := p) (e := i + 1) (by omega) (by omega) (by omega)) dL_persons_422 jc_L_188 jmS_L_leaps (fun q => by cases q) rfl rfl (by decide) (jfr_of rfl rfl) (Nat.le_of_ble_eq_true rfl) ⟨Nat.le_of_ble_eq_true rfl, Nat.le_of_ble_eq_true rfl⟩ (show nc178 + 1 + 2 + 2 + 2 + 2 + 2 + 2 + 2 + 2 + 2 + 2 + 2 + 2 + 2 + 2 ≤ 115000 ∧ ns178 + 6 + 12 + 12 + 12 + 12 + 12 + 12 + 12 + 12 + 12 + 12 + 12 + 12 + 12 + 12 ≤ 690200 by omega) (fun r h33 hp9 => ?_)
                        obtain ⟨rfl, rfl⟩ := hp9
                        refine j_bipush dL_persons_425 (by decide +kernel) ?_
                        refine j_icmp_ne (tgt := 469) dL_persons_427 (by decide) (by omega) (fun c427 => (False.elim (by omega))) (fun c427 => ?_)
                        refine j_aload_n dL_persons_430 rfl rfl ?_
                        refine j_iload dL_persons_431 rfl ?_
                        refine j_bipush dL_persons_433 (by decide +kernel) ?_
                        refine j_callSW (l_of10 ((hC.up (k := 301) (x := (jA 0 ((K 6 0).toNat) H)) (by decide)).up (k := 302) (x := (jA 0 ((K 6 0).toNat) F)) (by decide)) (p := p) (by omega)) dL_persons_435 jc_L_151 jmS_L_of (fun q => by cases q) rfl rfl (by decide) (jfr_of rfl rfl) (Nat.le_of_ble_eq_true rfl) ⟨Nat.le_of_ble_eq_true rfl, Nat.le_of_ble_eq_true rfl⟩ (show nc178 + 1 + 2 + 2 + 2 + 2 + 2 + 2 + 2 + 2 + 2 + 2 + 2 + 2 + 2 + 2 + 2 ≤ 115000 ∧ ns178 + 6 + 12 + 12 + 12 + 12 + 12 + 12 + 12 + 12 + 12 + 12 + 12 + 12 + 12 + 12 + 12 ≤ 690200 by omega) (fun r h34 hp9 => ?_)
                        obtain ⟨rfl, rfl⟩ := hp9
                        refine j_bipush dL_persons_438 (by decide +kernel) ?_
                        refine j_icmp_ne (tgt := 469) dL_persons_440 (by decide) (by omega) (fun c440 => (False.elim (by omega))) (fun c440 => ?_)
                        refine j_aload_n dL_persons_443 rfl rfl ?_
                        refine j_iload dL_persons_444 rfl ?_
                        refine j_bipush dL_persons_446 (by decide +kernel) ?_
                        refine j_callSW (l_of6 ((hC.up (k := 301) (x := (jA 0 ((K 6 0).toNat) H)) (by decide)).up (k := 302) (x := (jA 0 ((K 6 0).toNat) F)) (by decide)) (p := p) (by omega)) dL_persons_448 jc_L_151 jmS_L_of (fun q => by cases q) rfl rfl (by decide) (jfr_of rfl rfl) (Nat.le_of_ble_eq_true rfl) ⟨Nat.le_of_ble_eq_true rfl, Nat.le_of_ble_eq_true rfl⟩ (show nc178 + 1 + 2 + 2 + 2 + 2 + 2 + 2 + 2 + 2 + 2 + 2 + 2 + 2 + 2 + 2 + 2 + 2 ≤ 115000 ∧ ns178 + 6 + 12 + 12 + 12 + 12 + 12 + 12 + 12 + 12 + 12 + 12 + 12 + 12 + 12 + 12 + 12 + 12 ≤ 690200 by omega) (fun r h35 hp9 => ?_)
                        obtain ⟨rfl, rfl⟩ := hp9
                        refine j_iconst dL_persons_451 ?_
                        refine j_icmp_eq (tgt := 465) dL_persons_452 (by decide) (by omega) (fun c452 => ?_) (fun c452 => ?_)
                        · refine j_iconst dL_persons_465 ?_
                          refine j_goto (tgt := 470) dL_persons_466 (by decide) ?_
                          refine j_istore (L' := [(0, _), (1, _), (2, _), (3, _), (4, _), (5, _), (6, _), (7, _), (8, _), (9, _), (10, _)]) dL_persons_470 (Nat.le_of_ble_eq_true rfl) rfl ?_
                          refine j_iconst dL_persons_472 ?_
                          refine j_istore (L' := [(0, _), (1, _), (2, _), (3, _), (4, _), (5, _), (6, _), (7, _), (8, _), (9, _), (10, _), (11, _)]) dL_persons_473 (Nat.le_of_ble_eq_true rfl) rfl ?_
                          refine j_iload dL_persons_475 rfl ?_
                          refine j_istore (L' := [(0, _), (1, _), (2, _), (3, _), (4, _), (5, _), (6, _), (7, _), (8, _), (9, _), (10, _), (11, _), (12, _)]) dL_persons_477 (Nat.le_of_ble_eq_true rfl) rfl ?_
                          refine J.keep [0, 1, 2, 3, 4, 5, 10, 11, 12] (L' := [(0, _), (1, _), (2, _), (3, _), (4, _), (5, _), (10, _), (11, _), (12, _)]) rfl ?_
                          refine jloop (P := fun z9 : Int × Int × Nat × Nat => J mL_persons (jR 10 115000 690200) [300, 301, 302] Z 479 [(0, .ref 0), (1, iv (K 6 0)), (2, .ref 301), (3, .ref 302), (4, iv p), (5, iv i), (10, iv 1), (11, iv z9.1), (12, iv z9.2.1)] [] (jup (jup h 301 (jA 0 ((K 6 0).toNat) H)) 302 (jA 0 ((K 6 0).toNat) F)) z9.2.2.1 z9.2.2.2) (fun z9 => (0 ≤ z9.2.1 ∧ z9.2.1 ≤ 24) ∧ (0 ≤ z9.1 ∧ z9.1 + z9.2.1 ≤ i) ∧ mlp 5 z9.2.1 + z9.1 = mlp 5 i ∧ (z9.2.2.1 : Int) ≤ nc67 + 450 ∧ z9.2.2.2 ≤ 6 * z9.2.2.1 + 130) (fun z9 => z9.2.1.toNat) ?_ (0, i, nc178 + 1 + 2 + 2 + 2 + 2 + 2 + 2 + 2 + 2 + 2 + 2 + 2 + 2 + 2 + 2 + 2 + 2, ns178 + 6 + 12 + 12 + 12 + 12 + 12 + 12 + 12 + 12 + 12 + 12 + 12 + 12 + 12 + 12 + 12 + 12) ?_
                          · rintro ⟨bt, xx, nc479, ns479⟩ hinv479 ih479
                            dsimp only at hinv479 ih479 ⊢
                            obtain ⟨r1, r2, r3, b8, bs479⟩ := hinv479
                            refine j_iload dL_persons_479 rfl ?_
                            refine j_if_le (tgt := 499) dL_persons_481 (by decide) (by omega) (fun c481 => ?_) (fun c481 => ?_)
                            · have hm0 : mlp 5 0 = 0 := rfl
                              have hxx : xx = 0 := by omega
                              rw [hxx] at r3
                              refine j_iload dL_persons_499 rfl ?_
                              refine j_if_eq (tgt := 530) dL_persons_501 (by decide) (by omega) (fun c501 => (False.elim (by omega))) (fun c501 => ?_)
                              refine j_aload_n dL_persons_504 rfl rfl ?_
                              refine j_iload dL_persons_505 rfl ?_
                              refine j_iload dL_persons_507 rfl ?_
                              refine j_callSW (l_leapsY ((hC.up (k := 301) (x := (jA 0 ((K 6 0).toNat) H)) (by decide)).up (k := 302) (x := (jA 0 ((K 6 0).toNat) F)) (by decide)) (p := p) (e := i) (by omega) (by omega)) dL_persons_509 jc_L_188 jmS_L_leaps (fun q => by cases q) rfl rfl (by decide) (jfr_of rfl rfl) (Nat.le_of_ble_eq_true rfl) ⟨Nat.le_of_ble_eq_true rfl, Nat.le_of_ble_eq_true rfl⟩ (show nc479 + 2 ≤ 115000 ∧ ns479 + 12 ≤ 690200 by omega) (fun r h36 hp9 => ?_)
                              obtain ⟨rfl, rfl⟩ := hp9
                              refine j_iload dL_persons_512 rfl ?_
                              refine j_icmp_ne (tgt := 530) dL_persons_514 (by decide) (by omega) (fun c514 => (False.elim (by omega))) (fun c514 => ?_)
                              refine j_aload_n dL_persons_517 rfl rfl ?_
                              refine j_iload dL_persons_518 rfl ?_
                              refine j_aload_n dL_persons_520 rfl rfl ?_
                              refine j_iload dL_persons_521 rfl ?_
                              refine j_iaload (f := F) dL_persons_523 jup_s (by omega) (by omega) ?_
                              refine j_callS (m_descend ((hC.up (k := 301) (x := (jA 0 ((K 6 0).toNat) H)) (by decide)).up (k := 302) (x := (jA 0 ((K 6 0).toNat) F)) (by decide)) (p := p) (many := F p) (by omega) hFp) dL_persons_524 jc_L_190 jmS_L_descend rfl rfl rfl (by decide) (jfr_of rfl rfl) (Nat.le_of_ble_eq_true rfl) ⟨Nat.le_of_ble_eq_true rfl, Nat.le_of_ble_eq_true rfl⟩ (show nc479 + 2 + 4000 ≤ 115000 ∧ ns479 + 12 + 24000 ≤ 690200 by omega) (fun r h37 hp9 => ?_) (fun E h9 q => q.elim)
                              obtain ⟨rfl, rfl⟩ := hp9
                              refine j_if_ne (tgt := 532) dL_persons_527 (by decide) (by omega) (fun c527 => ?_) (fun c527 => (False.elim (by omega)))
                              refine j_iinc (L' := [(0, _), (1, _), (2, _), (3, _), (4, _), (5, _), (10, _), (11, _), (12, _)]) dL_persons_532 rfl (Nat.le_of_ble_eq_true rfl) rfl ?_
                              refine j_goto (tgt := 67) dL_persons_535 (by decide) ?_
                              refine J.keep [0, 1, 2, 3, 4] (L' := [(0, _), (1, _), (2, _), (3, _), (4, _)]) rfl ?_
                              refine ih67 (p + 1, nc479 + 2 + 4000, ns479 + 12 + 24000) ?_ ?_
                              · dsimp only
                                exact ⟨by omega, by omega, by omega⟩
                              · dsimp only
                                omega
                            · have ha9 := andp_s (x := xx) (by omega)
                              refine j_iinc (L' := [(0, _), (1, _), (2, _), (3, _), (4, _), (5, _), (10, _), (11, _), (12, _)]) dL_persons_484 rfl (Nat.le_of_ble_eq_true rfl) rfl ?_
                              refine j_iload dL_persons_487 rfl ?_
                              refine j_iload dL_persons_489 rfl ?_
                              refine j_iconst dL_persons_491 ?_
                              refine j_isub dL_persons_492 ?_
                              refine j_iand (z := andp xx) dL_persons_493 (andp_e xx) ?_
                              refine j_istore (L' := [(0, _), (1, _), (2, _), (3, _), (4, _), (5, _), (10, _), (11, _), (12, _)]) dL_persons_494 (Nat.le_of_ble_eq_true rfl) rfl ?_
                              refine j_goto (tgt := 479) dL_persons_496 (by decide) ?_
                              refine ih479 (bt + 1, andp xx, nc479, ns479) ?_ ?_
                              · dsimp only
                                exact ⟨by omega, by omega, by omega, by omega, by omega⟩
                              · dsimp only
                                omega
                          · dsimp only
                            exact ⟨by omega, by omega, by omega, by omega, by omega⟩
                        · have hv2 := hV.2.1 p (by omega)
                          refine j_aload_n dL_persons_455 rfl rfl ?_
                          refine j_iload dL_persons_456 rfl ?_
                          refine j_iconst dL_persons_458 ?_
                          refine j_callSW (l_of5 ((hC.up (k := 301) (x := (jA 0 ((K 6 0).toNat) H)) (by decide)).up (k := 302) (x := (jA 0 ((K 6 0).toNat) F)) (by decide)) (p := p) (by omega)) dL_persons_459 jc_L_151 jmS_L_of (fun q => by cases q) rfl rfl (by decide) (jfr_of rfl rfl) (Nat.le_of_ble_eq_true rfl) ⟨Nat.le_of_ble_eq_true rfl, Nat.le_of_ble_eq_true rfl⟩ (show nc178 + 1 + 2 + 2 + 2 + 2 + 2 + 2 + 2 + 2 + 2 + 2 + 2 + 2 + 2 + 2 + 2 + 2 + 2 ≤ 115000 ∧ ns178 + 6 + 12 + 12 + 12 + 12 + 12 + 12 + 12 + 12 + 12 + 12 + 12 + 12 + 12 + 12 + 12 + 12 + 12 ≤ 690200 by omega) (fun r h38 hp9 => ?_)
                          obtain ⟨rfl, rfl⟩ := hp9
                          refine j_if_ne (tgt := 469) dL_persons_462 (by decide) (by omega) (fun c462 => (False.elim (by omega))) (fun c462 => ?_)
                          refine j_iconst dL_persons_465 ?_
                          refine j_goto (tgt := 470) dL_persons_466 (by decide) ?_
                          refine j_istore (L' := [(0, _), (1, _), (2, _), (3, _), (4, _), (5, _), (6, _), (7, _), (8, _), (9, _), (10, _)]) dL_persons_470 (Nat.le_of_ble_eq_true rfl) rfl ?_
                          refine j_iconst dL_persons_472 ?_
                          refine j_istore (L' := [(0, _), (1, _), (2, _), (3, _), (4, _), (5, _), (6, _), (7, _), (8, _), (9, _), (10, _), (11, _)]) dL_persons_473 (Nat.le_of_ble_eq_true rfl) rfl ?_
                          refine j_iload dL_persons_475 rfl ?_
                          refine j_istore (L' := [(0, _), (1, _), (2, _), (3, _), (4, _), (5, _), (6, _), (7, _), (8, _), (9, _), (10, _), (11, _), (12, _)]) dL_persons_477 (Nat.le_of_ble_eq_true rfl) rfl ?_
                          refine J.keep [0, 1, 2, 3, 4, 5, 10, 11, 12] (L' := [(0, _), (1, _), (2, _), (3, _), (4, _), (5, _), (10, _), (11, _), (12, _)]) rfl ?_
                          refine jloop (P := fun z9 : Int × Int × Nat × Nat => J mL_persons (jR 10 115000 690200) [300, 301, 302] Z 479 [(0, .ref 0), (1, iv (K 6 0)), (2, .ref 301), (3, .ref 302), (4, iv p), (5, iv i), (10, iv 1), (11, iv z9.1), (12, iv z9.2.1)] [] (jup (jup h 301 (jA 0 ((K 6 0).toNat) H)) 302 (jA 0 ((K 6 0).toNat) F)) z9.2.2.1 z9.2.2.2) (fun z9 => (0 ≤ z9.2.1 ∧ z9.2.1 ≤ 24) ∧ (0 ≤ z9.1 ∧ z9.1 + z9.2.1 ≤ i) ∧ mlp 5 z9.2.1 + z9.1 = mlp 5 i ∧ (z9.2.2.1 : Int) ≤ nc67 + 450 ∧ z9.2.2.2 ≤ 6 * z9.2.2.1 + 130) (fun z9 => z9.2.1.toNat) ?_ (0, i, nc178 + 1 + 2 + 2 + 2 + 2 + 2 + 2 + 2 + 2 + 2 + 2 + 2 + 2 + 2 + 2 + 2 + 2 + 2, ns178 + 6 + 12 + 12 + 12 + 12 + 12 + 12 + 12 + 12 + 12 + 12 + 12 + 12 + 12 + 12 + 12 + 12 + 12) ?_
                          · rintro ⟨bt, xx, nc479, ns479⟩ hinv479 ih479
                            dsimp only at hinv479 ih479 ⊢
                            obtain ⟨r1, r2, r3, b8, bs479⟩ := hinv479
                            refine j_iload dL_persons_479 rfl ?_
                            refine j_if_le (tgt := 499) dL_persons_481 (by decide) (by omega) (fun c481 => ?_) (fun c481 => ?_)
                            · have hm0 : mlp 5 0 = 0 := rfl
                              have hxx : xx = 0 := by omega
                              rw [hxx] at r3
                              refine j_iload dL_persons_499 rfl ?_
                              refine j_if_eq (tgt := 530) dL_persons_501 (by decide) (by omega) (fun c501 => (False.elim (by omega))) (fun c501 => ?_)
                              refine j_aload_n dL_persons_504 rfl rfl ?_
                              refine j_iload dL_persons_505 rfl ?_
                              refine j_iload dL_persons_507 rfl ?_
                              refine j_callSW (l_leapsY ((hC.up (k := 301) (x := (jA 0 ((K 6 0).toNat) H)) (by decide)).up (k := 302) (x := (jA 0 ((K 6 0).toNat) F)) (by decide)) (p := p) (e := i) (by omega) (by omega)) dL_persons_509 jc_L_188 jmS_L_leaps (fun q => by cases q) rfl rfl (by decide) (jfr_of rfl rfl) (Nat.le_of_ble_eq_true rfl) ⟨Nat.le_of_ble_eq_true rfl, Nat.le_of_ble_eq_true rfl⟩ (show nc479 + 2 ≤ 115000 ∧ ns479 + 12 ≤ 690200 by omega) (fun r h39 hp9 => ?_)
                              obtain ⟨rfl, rfl⟩ := hp9
                              refine j_iload dL_persons_512 rfl ?_
                              refine j_icmp_ne (tgt := 530) dL_persons_514 (by decide) (by omega) (fun c514 => (False.elim (by omega))) (fun c514 => ?_)
                              refine j_aload_n dL_persons_517 rfl rfl ?_
                              refine j_iload dL_persons_518 rfl ?_
                              refine j_aload_n dL_persons_520 rfl rfl ?_
                              refine j_iload dL_persons_521 rfl ?_
                              refine j_iaload (f := F) dL_persons_523 jup_s (by omega) (by omega) ?_
                              refine j_callS (m_descend ((hC.up (k := 301) (x := (jA 0 ((K 6 0).toNat) H)) (by decide)).up (k := 302) (x := (jA 0 ((K 6 0).toNat) F)) (by decide)) (p := p) (many := F p) (by omega) hFp) dL_persons_524 jc_L_190 jmS_L_descend rfl rfl rfl (by decide) (jfr_of rfl rfl) (Nat.le_of_ble_eq_true rfl) ⟨Nat.le_of_ble_eq_true rfl, Nat.le_of_ble_eq_true rfl⟩ (show nc479 + 2 + 4000 ≤ 115000 ∧ ns479 + 12 + 24000 ≤ 690200 by omega) (fun r h40 hp9 => ?_) (fun E h9 q => q.elim)
                              obtain ⟨rfl, rfl⟩ := hp9
                              refine j_if_ne (tgt := 532) dL_persons_527 (by decide) (by omega) (fun c527 => ?_) (fun c527 => (False.elim (by omega)))
                              refine j_iinc (L' := [(0, _), (1, _), (2, _), (3, _), (4, _), (5, _), (10, _), (11, _), (12, _)]) dL_persons_532 rfl (Nat.le_of_ble_eq_true rfl) rfl ?_
                              refine j_goto (tgt := 67) dL_persons_535 (by decide) ?_
                              refine J.keep [0, 1, 2, 3, 4] (L' := [(0, _), (1, _), (2, _), (3, _), (4, _)]) rfl ?_
                              refine ih67 (p + 1, nc479 + 2 + 4000, ns479 + 12 + 24000) ?_ ?_
                              · dsimp only
                                exact ⟨by omega, by omega, by omega⟩
                              · dsimp only
                                omega
                            · have ha9 := andp_s (x := xx) (by omega)
                              refine j_iinc (L' := [(0, _), (1, _), (2, _), (3, _), (4, _), (5, _), (10, _), (11, _), (12, _)]) dL_persons_484 rfl (Nat.le_of_ble_eq_true rfl) rfl ?_
                              refine j_iload dL_persons_487 rfl ?_
                              refine j_iload dL_persons_489 rfl ?_
                              refine j_iconst dL_persons_491 ?_
                              refine j_isub dL_persons_492 ?_
                              refine j_iand (z := andp xx) dL_persons_493 (andp_e xx) ?_
                              refine j_istore (L' := [(0, _), (1, _), (2, _), (3, _), (4, _), (5, _), (10, _), (11, _), (12, _)]) dL_persons_494 (Nat.le_of_ble_eq_true rfl) rfl ?_
                              refine j_goto (tgt := 479) dL_persons_496 (by decide) ?_
                              refine ih479 (bt + 1, andp xx, nc479, ns479) ?_ ?_
                              · dsimp only
                                exact ⟨by omega, by omega, by omega, by omega, by omega⟩
                              · dsimp only
                                omega
                          · dsimp only
                            exact ⟨by omega, by omega, by omega, by omega, by omega⟩
                    · have hz9 := hO.qq z (by omega) (by omega)
                      refine j_iload dL_persons_188 rfl ?_
                      refine j_aload_n dL_persons_190 rfl rfl ?_
                      refine j_iload dL_persons_191 rfl ?_
                      refine j_iconst dL_persons_193 ?_
                      refine j_callSW (l_quarrelAt0 ((hC.up (k := 301) (x := (jA 0 ((K 6 0).toNat) H)) (by decide)).up (k := 302) (x := (jA 0 ((K 6 0).toNat) F)) (by decide)) (p := z) (by omega)) dL_persons_194 jc_L_185 jmS_L_quarrelAt (fun q => by cases q) rfl rfl (by decide) (jfr_of rfl rfl) (Nat.le_of_ble_eq_true rfl) ⟨Nat.le_of_ble_eq_true rfl, Nat.le_of_ble_eq_true rfl⟩ (show nc178 + 1 + 1 ≤ 115000 ∧ ns178 + 6 + 6 ≤ 690200 by omega) (fun r h41 hp9 => ?_)
                      obtain ⟨rfl, rfl⟩ := hp9
                      refine j_iload dL_persons_197 rfl ?_
                      refine j_icmp_eq (tgt := 214) dL_persons_199 (by decide) (by omega) (fun c199 => ?_) (fun c199 => ?_)
                      · refine j_iconst dL_persons_214 ?_
                        refine j_goto (tgt := 219) dL_persons_215 (by decide) ?_
                        refine j_iadd dL_persons_219 ?_
                        refine j_istore (L' := [(0, _), (1, _), (2, _), (3, _), (4, _), (5, _), (6, _), (7, _), (8, _), (9, _)]) dL_persons_220 (Nat.le_of_ble_eq_true rfl) rfl ?_
                        refine j_iinc (L' := [(0, _), (1, _), (2, _), (3, _), (4, _), (5, _), (6, _), (7, _), (8, _), (9, _)]) dL_persons_222 rfl (Nat.le_of_ble_eq_true rfl) rfl ?_
                        refine j_goto (tgt := 178) dL_persons_225 (by decide) ?_
                        refine ih178 (sq + 1, z + 1, nc178 + 1 + 1, ns178 + 6 + 6) ?_ ?_
                        · dsimp only
                          exact ⟨by omega, csum_st o1.1 o2 (bi_t (by omega)), by omega, by omega⟩
                        · dsimp only
                          omega
                      · refine j_aload_n dL_persons_202 rfl rfl ?_
                        refine j_iload dL_persons_203 rfl ?_
                        refine j_iconst dL_persons_205 ?_
                        refine j_callSW (l_quarrelAt1 ((hC.up (k := 301) (x := (jA 0 ((K 6 0).toNat) H)) (by decide)).up (k := 302) (x := (jA 0 ((K 6 0).toNat) F)) (by decide)) (p := z) (by omega)) dL_persons_206 jc_L_185 jmS_L_quarrelAt (fun q => by cases q) rfl rfl (by decide) (jfr_of rfl rfl) (Nat.le_of_ble_eq_true rfl) ⟨Nat.le_of_ble_eq_true rfl, Nat.le_of_ble_eq_true rfl⟩ (show nc178 + 1 + 1 + 1 ≤ 115000 ∧ ns178 + 6 + 6 + 6 ≤ 690200 by omega) (fun r h42 hp9 => ?_)
                        obtain ⟨rfl, rfl⟩ := hp9
                        refine j_iload dL_persons_209 rfl ?_
                        refine j_icmp_ne (tgt := 218) dL_persons_211 (by decide) (by omega) (fun c211 => ?_) (fun c211 => ?_)
                        · refine j_iconst dL_persons_218 ?_
                          refine j_iadd dL_persons_219 ?_
                          refine j_istore (L' := [(0, _), (1, _), (2, _), (3, _), (4, _), (5, _), (6, _), (7, _), (8, _), (9, _)]) dL_persons_220 (Nat.le_of_ble_eq_true rfl) rfl ?_
                          refine j_iinc (L' := [(0, _), (1, _), (2, _), (3, _), (4, _), (5, _), (6, _), (7, _), (8, _), (9, _)]) dL_persons_222 rfl (Nat.le_of_ble_eq_true rfl) rfl ?_
                          refine j_goto (tgt := 178) dL_persons_225 (by decide) ?_
                          refine ih178 (sq + 0, z + 1, nc178 + 1 + 1 + 1, ns178 + 6 + 6 + 6) ?_ ?_
                          · dsimp only
                            exact ⟨by omega, csum_st o1.1 o2 (bi_f (by omega)), by omega, by omega⟩
                          · dsimp only
                            omega
                        · refine j_iconst dL_persons_214 ?_
                          refine j_goto (tgt := 219) dL_persons_215 (by decide) ?_
                          refine j_iadd dL_persons_219 ?_
                          refine j_istore (L' := [(0, _), (1, _), (2, _), (3, _), (4, _), (5, _), (6, _), (7, _), (8, _), (9, _)]) dL_persons_220 (Nat.le_of_ble_eq_true rfl) rfl ?_
                          refine j_iinc (L' := [(0, _), (1, _), (2, _), (3, _), (4, _), (5, _), (6, _), (7, _), (8, _), (9, _)]) dL_persons_222 rfl (Nat.le_of_ble_eq_true rfl) rfl ?_
                          refine j_goto (tgt := 178) dL_persons_225 (by decide) ?_
                          refine ih178 (sq + 1, z + 1, nc178 + 1 + 1 + 1, ns178 + 6 + 6 + 6) ?_ ?_
                          · dsimp only
                            exact ⟨by omega, csum_st o1.1 o2 (bi_t (by omega)), by omega, by omega⟩
                          · dsimp only
                            omega
                  · dsimp only
                    exact ⟨by omega, rfl, by omega, by omega⟩
                · have hq9 := hO.p q
                  refine j_iload dL_persons_147 rfl ?_
                  refine j_aload_n dL_persons_149 rfl rfl ?_
                  refine j_iload dL_persons_150 rfl ?_
                  refine j_iconst dL_persons_152 ?_
                  refine j_callSW (l_of0 ((hC.up (k := 301) (x := (jA 0 ((K 6 0).toNat) H)) (by decide)).up (k := 302) (x := (jA 0 ((K 6 0).toNat) F)) (by decide)) (p := q) (by omega)) dL_persons_153 jc_L_151 jmS_L_of (fun q => by cases q) rfl rfl (by decide) (jfr_of rfl rfl) (Nat.le_of_ble_eq_true rfl) ⟨Nat.le_of_ble_eq_true rfl, Nat.le_of_ble_eq_true rfl⟩ (show nc141 + 2 ≤ 115000 ∧ ns141 + 12 ≤ 690200 by omega) (fun r h43 hp9 => ?_)
                  obtain ⟨rfl, rfl⟩ := hp9
                  refine j_iload dL_persons_156 rfl ?_
                  refine j_icmp_ne (tgt := 165) dL_persons_158 (by decide) (by omega) (fun c158 => ?_) (fun c158 => ?_)
                  · refine j_iconst dL_persons_165 ?_
                    refine j_iadd dL_persons_166 ?_
                    refine j_istore (L' := [(0, _), (1, _), (2, _), (3, _), (4, _), (5, _), (6, _), (7, _), (8, _), (9, _)]) dL_persons_167 (Nat.le_of_ble_eq_true rfl) rfl ?_
                    refine j_iinc (L' := [(0, _), (1, _), (2, _), (3, _), (4, _), (5, _), (6, _), (7, _), (8, _), (9, _)]) dL_persons_169 rfl (Nat.le_of_ble_eq_true rfl) rfl ?_
                    refine j_goto (tgt := 141) dL_persons_172 (by decide) ?_
                    refine ih141 (c + 0, q + 1, nc141 + 2, ns141 + 12) ?_ ?_
                    · dsimp only
                      exact ⟨by omega, csum_st l1.1 l2 (bi_f (by omega)), by omega, by omega⟩
                    · dsimp only
                      omega
                  · refine j_iconst dL_persons_161 ?_
                    refine j_goto (tgt := 166) dL_persons_162 (by decide) ?_
                    refine j_iadd dL_persons_166 ?_
                    refine j_istore (L' := [(0, _), (1, _), (2, _), (3, _), (4, _), (5, _), (6, _), (7, _), (8, _), (9, _)]) dL_persons_167 (Nat.le_of_ble_eq_true rfl) rfl ?_
                    refine j_iinc (L' := [(0, _), (1, _), (2, _), (3, _), (4, _), (5, _), (6, _), (7, _), (8, _), (9, _)]) dL_persons_169 rfl (Nat.le_of_ble_eq_true rfl) rfl ?_
                    refine j_goto (tgt := 141) dL_persons_172 (by decide) ?_
                    refine ih141 (c + 1, q + 1, nc141 + 2, ns141 + 12) ?_ ?_
                    · dsimp only
                      exact ⟨by omega, csum_st l1.1 l2 (bi_t (by omega)), by omega, by omega⟩
                    · dsimp only
                      omega
              · dsimp only
                exact ⟨by omega, rfl, by omega, by omega⟩
            · have hup : upk (K 0) (i + 1).toNat p = K 0 u := by rw [show (i + 1).toNat = i.toNat + 1 by omega, upk_s, ← k2]
              have hdu := fdep_up hO hA (i + 1).toNat p (by omega)
              have hdr := fdep_rg K (upk (K 0) (i + 1).toNat p)
              refine j_iinc (L' := [(0, _), (1, _), (2, _), (3, _), (4, _), (5, _), (6, _)]) dL_persons_90 rfl (Nat.le_of_ble_eq_true rfl) rfl ?_
              refine j_aload_n dL_persons_93 rfl rfl ?_
              refine j_iload dL_persons_94 rfl ?_
              refine j_iconst dL_persons_96 ?_
              refine j_callSW (l_of0 ((hC.up (k := 301) (x := (jA 0 ((K 6 0).toNat) H)) (by decide)).up (k := 302) (x := (jA 0 ((K 6 0).toNat) F)) (by decide)) (p := u) (by omega)) dL_persons_97 jc_L_151 jmS_L_of (fun q => by cases q) rfl rfl (by decide) (jfr_of rfl rfl) (Nat.le_of_ble_eq_true rfl) ⟨Nat.le_of_ble_eq_true rfl, Nat.le_of_ble_eq_true rfl⟩ (show nc80 + 2 + 2 ≤ 115000 ∧ ns80 + 12 + 12 ≤ 690200 by omega) (fun r h44 hp9 => ?_)
              obtain ⟨rfl, rfl⟩ := hp9
              refine j_istore (L' := [(0, _), (1, _), (2, _), (3, _), (4, _), (5, _), (6, _)]) dL_persons_100 (Nat.le_of_ble_eq_true rfl) rfl ?_
              refine j_aload_n dL_persons_102 rfl rfl ?_
              refine j_iload dL_persons_103 rfl ?_
              refine j_iload dL_persons_105 rfl ?_
              refine j_iconst dL_persons_107 ?_
              refine j_callSW (l_elderY ((hC.up (k := 301) (x := (jA 0 ((K 6 0).toNat) H)) (by decide)).up (k := 302) (x := (jA 0 ((K 6 0).toNat) F)) (by decide)) (p := p) (e := i + 1) (d := 0) (by omega) (by omega) (by decide)) dL_persons_108 jc_L_182 jmS_L_elder (fun q => by cases q) rfl rfl (by decide) (jfr_of rfl rfl) (Nat.le_of_ble_eq_true rfl) ⟨Nat.le_of_ble_eq_true rfl, Nat.le_of_ble_eq_true rfl⟩ (show nc80 + 2 + 2 + 2 ≤ 115000 ∧ ns80 + 12 + 12 + 12 ≤ 690200 by omega) (fun r h45 hp9 => ?_)
              obtain ⟨rfl, rfl⟩ := hp9
              refine j_iload dL_persons_111 rfl ?_
              refine j_icmp_ne (tgt := 130) dL_persons_113 (by decide) (by omega) (fun c113 => (absurd hup c113)) (fun c113 => ?_)
              refine j_aload_n dL_persons_116 rfl rfl ?_
              refine j_iload dL_persons_117 rfl ?_
              refine j_iload dL_persons_119 rfl ?_
              refine j_iconst dL_persons_121 ?_
              refine j_callSW (l_elderY ((hC.up (k := 301) (x := (jA 0 ((K 6 0).toNat) H)) (by decide)).up (k := 302) (x := (jA 0 ((K 6 0).toNat) F)) (by decide)) (p := p) (e := i + 1) (d := 1) (by omega) (by omega) (by decide)) dL_persons_122 jc_L_182 jmS_L_elder (fun q => by cases q) rfl rfl (by decide) (jfr_of rfl rfl) (Nat.le_of_ble_eq_true rfl) ⟨Nat.le_of_ble_eq_true rfl, Nat.le_of_ble_eq_true rfl⟩ (show nc80 + 2 + 2 + 2 + 2 ≤ 115000 ∧ ns80 + 12 + 12 + 12 + 12 ≤ 690200 by omega) (fun r h46 hp9 => ?_)
              obtain ⟨rfl, rfl⟩ := hp9
              refine j_iload dL_persons_125 rfl ?_
              refine j_icmp_eq (tgt := 80) dL_persons_127 (by decide) (by omega) (fun c127 => ?_) (fun c127 => (absurd hup c127))
              refine ih80 (i + 1, K 0 u, nc80 + 2 + 2 + 2 + 2, ns80 + 12 + 12 + 12 + 12) ?_ ?_
              · dsimp only
                exact ⟨by omega, hup.symm, by omega, by omega, by omega⟩
              · dsimp only
                omega
          · dsimp only
            exact ⟨by omega, rfl, by omega, by omega, by omega⟩
      · dsimp only
        exact ⟨by omega, by omega, by omega⟩
    · have hp : 0 ≤ p ∧ p < K 6 0 := by omega
      have hpp := hO.p p
      refine j_aload_n dL_persons_24 rfl rfl ?_
      refine j_iload dL_persons_25 rfl ?_
      refine j_iconst dL_persons_27 ?_
      refine j_callSW (l_of0 ((hC.up (k := 301) (x := (jA 0 ((K 6 0).toNat) H)) (by decide)).up (k := 302) (x := (jA 0 ((K 6 0).toNat) F)) (by decide)) (p := p) (by omega)) dL_persons_28 jc_L_151 jmS_L_of (fun q => by cases q) rfl rfl (by decide) (jfr_of rfl rfl) (Nat.le_of_ble_eq_true rfl) ⟨Nat.le_of_ble_eq_true rfl, Nat.le_of_ble_eq_true rfl⟩ (show nc18 + 2 ≤ 115000 ∧ ns18 + 12 ≤ 690200 by omega) (fun r h47 hp9 => ?_)
      obtain ⟨rfl, rfl⟩ := hp9
      refine j_istore (L' := [(0, _), (1, _), (2, _), (3, _), (4, _), (5, _)]) dL_persons_31 (Nat.le_of_ble_eq_true rfl) rfl ?_
      refine jloop (P := fun z9 : Int × (Int → Int) × Nat × Nat × Nat => J mL_persons (jR 10 115000 690200) [300, 301, 302] Z 33 [(0, .ref 0), (1, iv (K 6 0)), (2, .ref 301), (3, .ref 302), (4, iv p), (5, iv z9.1)] [] (jup (jup h 301 (jA 0 ((K 6 0).toNat) H)) 302 (jA 0 ((K 6 0).toNat) z9.2.1)) z9.2.2.2.1 z9.2.2.2.2) (fun z9 => (-1 ≤ z9.1 ∧ z9.1 < K 6 0) ∧ (∀ x, 0 ≤ x → x < K 6 0 → z9.2.1 x + bi (fab K x z9.1 = true) = csum (blw K x) p.toNat + blw K x p) ∧ z9.1 = upk (K 0) z9.2.2.1 (K 0 p) ∧ (z9.2.2.2.1 : Int) + 2 * (24 - (z9.2.2.1 : Int)) ≤ 5300 - 52 * (24 - p) + 50 ∧ z9.2.2.1 ≤ 24 ∧ z9.2.2.2.2 ≤ 6 * z9.2.2.2.1 + 130) (fun z9 => 24 - z9.2.2.1) ?_ (K 0 p, F, 0, nc18 + 2, ns18 + 12) ?_
      · rintro ⟨q, G, k, nc33, ns33⟩ hinv33 ih33
        dsimp only at hinv33 ih33 ⊢
        obtain ⟨j1, j2, j3, b2, b3, bs33⟩ := hinv33
        refine j_iload dL_persons_33 rfl ?_
        refine j_if_lt (tgt := 58) dL_persons_35 (by decide) (by omega) (fun c35 => ?_) (fun c35 => ?_)
        · refine j_iinc (L' := [(0, _), (1, _), (2, _), (3, _), (4, _), (5, _)]) dL_persons_58 rfl (Nat.le_of_ble_eq_true rfl) rfl ?_
          refine j_goto (tgt := 18) dL_persons_61 (by decide) ?_
          refine J.keep [0, 1, 2, 3, 4] (L' := [(0, _), (1, _), (2, _), (3, _), (4, _)]) rfl ?_
          refine ih18 (p + 1, G, nc33, ns33) ?_ ?_
          · dsimp only
            exact ⟨by omega, fun x a b => by rw [blw_e (by omega) (j2 x a b)]; exact (csum_s (blw K x) i1.1).symm, by omega, by omega⟩
          · dsimp only
            omega
        · have hk9 := upk_lt hO hA j3 (by omega)
          have hqp := hO.p q
          refine j_aload_n dL_persons_38 rfl rfl ?_
          refine j_iload dL_persons_39 rfl ?_
          refine j_dup2 dL_persons_41 rfl rfl ?_
          refine j_iaload (f := G) dL_persons_42 jup_s (by omega) (by omega) ?_
          refine j_iconst dL_persons_43 ?_
          refine j_iadd dL_persons_44 ?_
          refine j_iastore (f := G) dL_persons_45 jup_s (by omega) (by omega) ?_
          refine J.heap (h2 := (jup (jup h 301 (jA 0 ((K 6 0).toNat) H)) 302 (jA 0 ((K 6 0).toNat) (jfu G q ((G q) + 1))))) jup_up.symm ?_
          refine j_aload_n dL_persons_46 rfl rfl ?_
          refine j_iload dL_persons_47 rfl ?_
          refine j_iconst dL_persons_49 ?_
          refine j_callSW (l_of0 ((hC.up (k := 301) (x := (jA 0 ((K 6 0).toNat) H)) (by decide)).up (k := 302) (x := (jA 0 ((K 6 0).toNat) (jfu G q ((G q) + 1)))) (by decide)) (p := q) (by omega)) dL_persons_50 jc_L_151 jmS_L_of (fun q => by cases q) rfl rfl (by decide) (jfr_of rfl rfl) (Nat.le_of_ble_eq_true rfl) ⟨Nat.le_of_ble_eq_true rfl, Nat.le_of_ble_eq_true rfl⟩ (show nc33 + 2 ≤ 115000 ∧ ns33 + 12 ≤ 690200 by omega) (fun r h48 hp9 => ?_)
          obtain ⟨rfl, rfl⟩ := hp9
          refine j_istore (L' := [(0, _), (1, _), (2, _), (3, _), (4, _), (5, _)]) dL_persons_53 (Nat.le_of_ble_eq_true rfl) rfl ?_
          refine j_goto (tgt := 33) dL_persons_55 (by decide) ?_
          refine ih33 (K 0 q, (jfu G q ((G q) + 1)), k + 1, nc33 + 2, ns33 + 12) ?_ ?_
          · dsimp only
            exact ⟨hqp, fun x a b => blw_st hO hA (by omega) (j2 x a b), by rw [upk_s, ← j3], by omega, by omega, by omega⟩
          · dsimp only
            omega
      · dsimp only
        exact ⟨hpp, fun x a b => by rw [i2 x a b]; rfl, rfl, by omega, by omega, by omega⟩
  · dsimp only
    exact ⟨by omega, fun x a b => rfl, by omega, by omega⟩
