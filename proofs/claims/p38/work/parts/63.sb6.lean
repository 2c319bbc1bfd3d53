set_option maxHeartbeats 4000000 in
/-- J6_getChars_ba4f3 -/
theorem cb_getChars {k p n : Nat} {G : fS} {h : jH} (hpn : (p = 1 ∧ n = 16) ∨ (p = 2 ∧ n = 34)) (hG : jOb (sB p n) k G h) (hb : ∀ j, 0 ≤ G 0 j ∧ G 0 j < 128) {v ix : Int} (hv : 0 ≤ v ∧ v ≤ 20000000) (hix : dl v ≤ ix ∧ ix ≤ n) : jM mJ6_getChars_ba4f3 0 0 0 [] [iv v, iv ix, .ref (k + p)] h (fun r h' => r = some (iv (ix - dl v)) ∧ ∃ f, jOb (sB p n) k (gs G 0 f) h' ∧ (∀ j : Nat, (j : Int) < dl v → f (ix - 1 - j) = dgt v j) ∧ (∀ j : Int, j < ix - dl v → f j = G 0 j) ∧ (∀ j, 0 ≤ f j ∧ f j < 128) ∧ jEx k (p + 1) h h') jno := by
  refine j_method (by decide +kernel) rfl (fun _ _ _ => trivial) (Nat.le_of_ble_eq_true rfl) ?_
  generalize hZ : jZ [] 0 0 _ _ = Z
  show J mJ6_getChars_ba4f3 (jR 0 0 0) [] Z 0 [(0, iv v), (1, iv ix), (2, .ref (k + p))] [] h 0 0
  have hE0 : jEx k (p + 1) h h := jEx.rf
  refine j_iload_n dJ6_getChars_ba4f3_0 rfl rfl ?_
  refine j_istore (L' := [(0, _), (1, _), (2, _), (5, _)]) dJ6_getChars_ba4f3_1 (by decide) rfl ?_
  refine j_iload_n dJ6_getChars_ba4f3_3 rfl rfl ?_
  refine j_if_ge (tgt := 11) dJ6_getChars_ba4f3_4 (by decide) (by omega) (fun c1 => ?_) (fun c1 => (by omega))
  refine j_iconst dJ6_getChars_ba4f3_11 ?_
  refine j_istore (L' := [(0, _), (1, _), (2, _), (5, _), (6, _)]) dJ6_getChars_ba4f3_12 (by decide) rfl ?_
  refine j_iload dJ6_getChars_ba4f3_14 rfl ?_
  refine j_if_ne (tgt := 22) dJ6_getChars_ba4f3_16 (by decide) (by omega) (fun c2 => (c2 rfl).elim) (fun c2 => ?_)
  refine j_iload_n dJ6_getChars_ba4f3_19 rfl rfl ?_
  refine j_ineg dJ6_getChars_ba4f3_20 ?_
  refine j_istore_n (L' := [(0, _), (1, _), (2, _), (5, _), (6, _)]) dJ6_getChars_ba4f3_21 rfl (by decide) rfl ?_
  have hGr : jOb (sB p n) k (gs G 0 (G 0)) h := by rw [gs_id rfl]; exact hG
  refine jloop (P := fun z9 : Int × Int × (Int → Int) => ∀ h3 : jH, jOb (sB p n) k (gs G 0 z9.2.2) h3 → jEx k (p + 1) h h3 → J mJ6_getChars_ba4f3 (jR 0 0 0) [] Z 22 [(0, iv (-z9.1)), (1, iv ix), (2, .ref (k + p)), (5, iv z9.2.1), (6, iv 0)] [] h3 0 0) (fun z9 => gIn v ix (G 0) z9.1 z9.2.1 z9.2.2) (fun z9 => z9.1.toNat) ?_ (v, ix, G 0) ?_ _ hGr hE0
  · rintro ⟨x, c, f⟩ hinv ih
    dsimp only at hinv ih ⊢
    intro h4 hG5 hE6
    have hgi := hinv
    obtain ⟨g1, g2, g3, g4, g5, g6, g7, g8⟩ := hgi
    have dx := dl_r x
    have dx2 : 10 ≤ x → 2 ≤ dl x := fun q => by have := dl_s (v := x) ⟨q, g1.2⟩; have := dl_r (x / 10); omega
    refine j_iload_n dJ6_getChars_ba4f3_22 rfl rfl ?_
    refine j_bipush dJ6_getChars_ba4f3_23 (by decide +kernel) ?_
    refine j_icmp_gt (tgt := 72) dJ6_getChars_ba4f3_25 (by decide) (by omega) (fun c7 => ?_) (fun c7 => ?_)
    · refine j_aload_n dJ6_getChars_ba4f3_72 rfl rfl ?_
      refine j_iinc (L' := [(0, _), (1, _), (2, _), (5, _), (6, _)]) dJ6_getChars_ba4f3_73 rfl (by decide) rfl ?_
      rw [show c + (-1) = c - 1 from rfl]
      refine j_iload dJ6_getChars_ba4f3_76 rfl ?_
      refine j_sldBn (x := x) jrO (jw_mem 1032 (by decide +kernel) (by decide +kernel)) dJ6_getChars_ba4f3_78 dJ6_getChars_ba4f3_81 dJ6_getChars_ba4f3_82 dJ6_getChars_ba4f3_83 rfl rfl (by omega) ?_
      rw [iOn_e (show 0 ≤ x by omega)]
      refine jo_bas (S := (sB p n)) (k := k) dJ6_getChars_ba4f3_84 (okB hpn) hG5 (i := 0) (p := p) rfl (by omega) (by omega) (by omega) (fun h8 hG8 hX8 => ?_)
      have hE9 : jEx k (p + 1) h h8 := hE6.tr (hX8.mo ⟨Nat.le_refl _, Nat.le_refl _⟩)
      refine j_iload_n dJ6_getChars_ba4f3_85 rfl rfl ?_
      refine j_bipush dJ6_getChars_ba4f3_86 (by decide +kernel) ?_
      refine j_icmp_ge (tgt := 104) dJ6_getChars_ba4f3_88 (by decide) (by omega) (fun c10 => ?_) (fun c10 => ?_)
      · refine j_iload dJ6_getChars_ba4f3_104 rfl ?_
        refine j_if_eq (tgt := 118) dJ6_getChars_ba4f3_106 (by decide) (by omega) (fun c11 => ?_) (fun c11 => absurd (by decide) c11)
        refine j_iload dJ6_getChars_ba4f3_118 rfl ?_
        subst hZ
        exact j_ireturn dJ6_getChars_ba4f3_120 rfl rfl ⟨congrArg (fun z => some (iv z)) (gIn_e hinv (by omega)).2.1, _, (Eq.mp (congrArg (fun z => jOb (sB p n) k z _) gs_gs) hG8), (gIn_e hinv (by omega)).1, (fun j hj => (gIn_e hinv (by omega)).2.2.1 j (by have := (gIn_e hinv (by omega)).2.1; omega)), (gIn_e hinv (by omega)).2.2.2, hE9⟩ (Nat.le_refl _) (Nat.le_refl _)
      · refine j_aload_n dJ6_getChars_ba4f3_91 rfl rfl ?_
        refine j_iinc (L' := [(0, _), (1, _), (2, _), (5, _), (6, _)]) dJ6_getChars_ba4f3_92 rfl (by decide) rfl ?_
        rw [show c - 1 + (-1) = c - 1 - 1 from rfl]
        refine j_iload dJ6_getChars_ba4f3_95 rfl ?_
        refine j_sldBn (x := x) jrT (jw_mem 1034 (by decide +kernel) (by decide +kernel)) dJ6_getChars_ba4f3_97 dJ6_getChars_ba4f3_100 dJ6_getChars_ba4f3_101 dJ6_getChars_ba4f3_102 rfl rfl (by omega) ?_
        rw [iTe_e (show 0 ≤ x by omega)]
        refine jo_bas (S := (sB p n)) (k := k) dJ6_getChars_ba4f3_103 (okB hpn) hG8 (i := 0) (p := p) rfl (by omega) (by omega) (by omega) (fun h12 hG12 hX12 => ?_)
        have hE13 : jEx k (p + 1) h h12 := hE9.tr (hX12.mo ⟨Nat.le_refl _, Nat.le_refl _⟩)
        refine j_iload dJ6_getChars_ba4f3_104 rfl ?_
        refine j_if_eq (tgt := 118) dJ6_getChars_ba4f3_106 (by decide) (by omega) (fun c14 => ?_) (fun c14 => absurd (by decide) c14)
        refine j_iload dJ6_getChars_ba4f3_118 rfl ?_
        subst hZ
        exact j_ireturn dJ6_getChars_ba4f3_120 rfl rfl ⟨congrArg (fun z => some (iv z)) (gIn_f hinv (by omega)).2.1, _, (Eq.mp (congrArg (fun z => jOb (sB p n) k z _) gs_gs) (Eq.mp (congrArg (fun z => jOb (sB p n) k z _) gs_gs) hG12)), (gIn_f hinv (by omega)).1, (fun j hj => (gIn_f hinv (by omega)).2.2.1 j (by have := (gIn_f hinv (by omega)).2.1; omega)), (gIn_f hinv (by omega)).2.2.2, hE13⟩ (Nat.le_refl _) (Nat.le_refl _)
    · refine j_iload_n dJ6_getChars_ba4f3_28 rfl rfl ?_
      refine j_bipush dJ6_getChars_ba4f3_29 (by decide +kernel) ?_
      refine j_idiv (z := -(x / 100)) dJ6_getChars_ba4f3_31 (jz_ne (by omega) (by omega)) (by rw [jz_div (by omega) (by omega), Int.neg_tdiv, Int.tdiv_eq_ediv_of_nonneg (by omega)]) ?_
      refine j_istore_n (L' := [(0, _), (1, _), (2, _), (3, _), (5, _), (6, _)]) dJ6_getChars_ba4f3_32 rfl (by decide) rfl ?_
      refine j_iload_n dJ6_getChars_ba4f3_33 rfl rfl ?_
      refine j_bipush dJ6_getChars_ba4f3_34 (by decide +kernel) ?_
      refine j_imul dJ6_getChars_ba4f3_36 ?_
      refine j_iload_n dJ6_getChars_ba4f3_37 rfl rfl ?_
      refine j_isub dJ6_getChars_ba4f3_38 ?_
      rw [show ((-(x / 100)) * 100) - (-x) = x % 100 by omega]
      refine j_istore (L' := [(0, _), (1, _), (2, _), (3, _), (4, _), (5, _), (6, _)]) dJ6_getChars_ba4f3_39 (by decide) rfl ?_
      refine j_iload_n dJ6_getChars_ba4f3_41 rfl rfl ?_
      refine j_istore_n (L' := [(0, _), (1, _), (2, _), (3, _), (4, _), (5, _), (6, _)]) dJ6_getChars_ba4f3_42 rfl (by decide) rfl ?_
      refine j_aload_n dJ6_getChars_ba4f3_43 rfl rfl ?_
      refine j_iinc (L' := [(0, _), (1, _), (2, _), (3, _), (4, _), (5, _), (6, _)]) dJ6_getChars_ba4f3_44 rfl (by decide) rfl ?_
      rw [show c + (-1) = c - 1 from rfl]
      refine j_iload dJ6_getChars_ba4f3_47 rfl ?_
      refine j_sldB (x := x % 100) jrO (jw_mem 1032 (by decide +kernel) (by decide +kernel)) dJ6_getChars_ba4f3_49 dJ6_getChars_ba4f3_52 dJ6_getChars_ba4f3_54 rfl (by omega) ?_
      rw [iOn_e (show 0 ≤ x % 100 by omega)]
      refine jo_bas (S := (sB p n)) (k := k) dJ6_getChars_ba4f3_55 (okB hpn) hG5 (i := 0) (p := p) rfl (by omega) (by omega) (by omega) (fun h15 hG15 hX15 => ?_)
      have hE16 : jEx k (p + 1) h h15 := hE6.tr (hX15.mo ⟨Nat.le_refl _, Nat.le_refl _⟩)
      refine j_aload_n dJ6_getChars_ba4f3_56 rfl rfl ?_
      refine j_iinc (L' := [(0, _), (1, _), (2, _), (3, _), (4, _), (5, _), (6, _)]) dJ6_getChars_ba4f3_57 rfl (by decide) rfl ?_
      rw [show c - 1 + (-1) = c - 1 - 1 from rfl]
      refine j_iload dJ6_getChars_ba4f3_60 rfl ?_
      refine j_sldB (x := x % 100) jrT (jw_mem 1034 (by decide +kernel) (by decide +kernel)) dJ6_getChars_ba4f3_62 dJ6_getChars_ba4f3_65 dJ6_getChars_ba4f3_67 rfl (by omega) ?_
      rw [iTe_e (show 0 ≤ x % 100 by omega)]
      refine jo_bas (S := (sB p n)) (k := k) dJ6_getChars_ba4f3_68 (okB hpn) hG15 (i := 0) (p := p) rfl (by omega) (by omega) (by omega) (fun h17 hG17 hX17 => ?_)
      have hE18 : jEx k (p + 1) h h17 := hE16.tr (hX17.mo ⟨Nat.le_refl _, Nat.le_refl _⟩)
      refine j_goto (tgt := 22) dJ6_getChars_ba4f3_69 (by decide) ?_
      refine J.keep [0, 1, 2, 5, 6] (L' := [(0, _), (1, _), (2, _), (5, _), (6, _)]) rfl ?_
      exact ih (x / 100, c - 1 - 1, _) (gIn_2 hinv (by omega)) (by show (x / 100).toNat < x.toNat; omega) _ (Eq.mp (congrArg (fun z => jOb (sB p n) k z _) gs_gs) (Eq.mp (congrArg (fun z => jOb (sB p n) k z _) gs_gs) hG17)) hE18
  · dsimp only
    exact ⟨hv, by omega, Int.le_refl _, by omega, by rw [show (ix - ix).toNat = 0 by omega]; rfl, fun j hj => by omega, fun _ _ => rfl, hb⟩
