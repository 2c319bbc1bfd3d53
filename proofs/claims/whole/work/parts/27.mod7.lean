def m_descendant (G : fS) (p q : Int) : Int × fS := if (bi (0 ≤ p ∧ p < (G 0) 0)) = 0 then (0, gn G 6 1) else if (bi (0 ≤ q ∧ q ≤ (((0 : Int) + ((des (mK (G 0)) 24 p).length : Int)) - 1))) = 0 then (0, gn (m_rows (gn G 6 0) p) 6 2) else ((jwl (G 10) 0 (des (mK (G 0)) 24 p)) q, gn (m_rows (gn G 6 0) p) 6 0)
set_option maxHeartbeats 4000000 in
/-- reference: descendant -/
theorem c5_descendant {k : Nat} {G : fS} {f : Int → Int} {B : Int} {h : jH} (hG : jOb sM k G h) (hf : G 0 = f) (hO : jOk B (mK f)) (hA : fAc (mK f)) {p q : Int} (hp : -2147483648 ≤ p ∧ p ≤ 2147483647) (hq : -2147483648 ≤ q ∧ q ≤ 2147483647) : jM mX5_descendant 32 0 0 [] [.ref k, iv p, iv q] h (jWi sM k (m_descendant G p q) h) jno := by
  refine j_method (by decide +kernel) rfl (fun _ _ _ => trivial) (Nat.le_of_ble_eq_true rfl) ?_
  generalize hZ : jZ [] 0 0 _ _ = Z
  show J mX5_descendant (jR 32 0 0) [] Z 0 [(0, .ref k), (1, iv p), (2, iv q)] [] h 0 0
  subst hf
  have hn := mK_n hO
  have hb := hO.b
  have hE0 : jEx k 10 h h := jEx.rf
  refine j_aload_n dX5_descendant_0 rfl rfl ?_
  refine j_aload_n dX5_descendant_1 rfl rfl ?_
  refine j_iload_n dX5_descendant_2 rfl rfl ?_
  refine j_callV (c5_has hG (f := (G 0)) rfl (by omega) (by omega)) dX5_descendant_3 jc_X5_89 jmV_X5_has rfl rfl hG.1 rfl rfl (by simp) jfr_nil (Nat.le_of_ble_eq_true rfl) ⟨Nat.le_of_ble_eq_true rfl, Nat.le_of_ble_eq_true rfl⟩ ⟨Nat.le_of_ble_eq_true rfl, Nat.le_of_ble_eq_true rfl⟩ (fun r h1 hp9 => ?_) (fun E h9 q => q.elim)
  obtain ⟨rfl, rfl⟩ := hp9
  refine j_if_eq (tgt := 13) dX5_descendant_6 (by decide) (bi_r32 _) (fun c2 => ?_) (fun c2 => ?_)
  · have qc2 := bi_z c2
    refine j_iconst dX5_descendant_13 ?_
    refine jo_put (S := sM) dX5_descendant_14 jf_X5_42 (fun q hq => by cases hq; exact ⟨rfl, rfl⟩) (jHold_int _) okM hG rfl (fun h3 hG3 hX3 => ?_)
    have hE4 := hE0.tr hX3
    refine j_aload_n dX5_descendant_17 rfl rfl ?_
    refine j_getfield (v := iv 1) dX5_descendant_18 jf_X5_42 hG3.1 rfl ?_
    refine j_if_ne (tgt := 52) dX5_descendant_21 (by decide) (by omega) (fun c5 => ?_) (fun c5 => absurd c5 (by decide))
    refine j_aload_n dX5_descendant_52 rfl rfl ?_
    refine j_getfield (v := iv 1) dX5_descendant_53 jf_X5_42 hG3.1 rfl ?_
    refine j_if_le (tgt := 63) dX5_descendant_56 (by decide) (by omega) (fun c6 => absurd c6 (by decide)) (fun c6 => ?_)
    refine j_iconst dX5_descendant_59 ?_
    refine j_goto (tgt := 69) dX5_descendant_60 (by decide) ?_
    subst hZ
    exact j_ireturn dX5_descendant_69 rfl rfl (jWi.i (if_pos c2) hG3 hE4) (Nat.le_refl _) (Nat.le_refl _)
  · have qc2 := bi_nz c2
    refine j_iconst dX5_descendant_9 ?_
    refine j_goto (tgt := 14) dX5_descendant_10 (by decide) ?_
    refine jo_put (S := sM) dX5_descendant_14 jf_X5_42 (fun q hq => by cases hq; exact ⟨rfl, rfl⟩) (jHold_int _) okM hG rfl (fun h7 hG7 hX7 => ?_)
    have hE8 := hE0.tr hX7
    refine j_aload_n dX5_descendant_17 rfl rfl ?_
    refine j_getfield (v := iv 0) dX5_descendant_18 jf_X5_42 hG7.1 rfl ?_
    refine j_if_ne (tgt := 52) dX5_descendant_21 (by decide) (by omega) (fun c9 => (c9 rfl).elim) (fun c9 => ?_)
    refine j_aload_n dX5_descendant_24 rfl rfl ?_
    refine j_iload_n dX5_descendant_25 rfl rfl ?_
    refine j_callV (c5_rows hG7 (show _ = G 0 from rfl) hO hA (by omega)) dX5_descendant_26 jc_X5_144 jmV_X5_rows rfl rfl hG7.1 rfl rfl (by simp) jfr_nil (Nat.le_of_ble_eq_true rfl) ⟨Nat.le_of_ble_eq_true rfl, Nat.le_of_ble_eq_true rfl⟩ ⟨Nat.le_of_ble_eq_true rfl, Nat.le_of_ble_eq_true rfl⟩ (fun r h10 hp9 => ?_) (fun E h9 q => q.elim)
    obtain ⟨rfl, hG11, hX12⟩ := hp9
    have hE13 := hE8.tr hX12
    have hln : (des (mK (G 0)) 24 p).length ≤ 24 := des_len hO hA 24 (by omega)
    refine j_aload_n dX5_descendant_29 rfl rfl ?_
    refine j_iload_n dX5_descendant_30 rfl rfl ?_
    refine j_iconst dX5_descendant_31 ?_
    refine j_aload_n dX5_descendant_32 rfl rfl ?_
    refine j_getfield (v := iv ((0 : Int) + ((des (mK (G 0)) 24 p).length : Int))) dX5_descendant_33 jf_X5_137 hG11.1 rfl ?_
    refine j_iconst dX5_descendant_36 ?_
    refine j_isub dX5_descendant_37 ?_
    refine j_callS (c5_in (by omega)) dX5_descendant_38 jc_X5_64 jmS_X5_in rfl rfl rfl (by simp) jfr_nil (Nat.le_of_ble_eq_true rfl) ⟨Nat.le_of_ble_eq_true rfl, Nat.le_of_ble_eq_true rfl⟩ ⟨Nat.le_of_ble_eq_true rfl, Nat.le_of_ble_eq_true rfl⟩ (fun r h14 hp9 => ?_) (fun E h9 q => q.elim)
    obtain ⟨rfl, rfl⟩ := hp9
    refine j_if_eq (tgt := 48) dX5_descendant_41 (by decide) (bi_r32 _) (fun c15 => ?_) (fun c15 => ?_)
    · have qc15 := bi_z c15
      refine j_iconst dX5_descendant_48 ?_
      refine jo_put (S := sM) dX5_descendant_49 jf_X5_42 (fun q hq => by cases hq; exact ⟨rfl, rfl⟩) (jHold_int _) okM hG11 rfl (fun h16 hG16 hX16 => ?_)
      have hE17 := hE13.tr hX16
      refine j_aload_n dX5_descendant_52 rfl rfl ?_
      refine j_getfield (v := iv 2) dX5_descendant_53 jf_X5_42 hG16.1 rfl ?_
      refine j_if_le (tgt := 63) dX5_descendant_56 (by decide) (by omega) (fun c18 => absurd c18 (by decide)) (fun c18 => ?_)
      refine j_iconst dX5_descendant_59 ?_
      refine j_goto (tgt := 69) dX5_descendant_60 (by decide) ?_
      subst hZ
      exact j_ireturn dX5_descendant_69 rfl rfl (jWi.i ((if_neg c2).trans (if_pos c15)) hG16 hE17) (Nat.le_refl _) (Nat.le_refl _)
    · have qc15 := bi_nz c15
      refine j_iconst dX5_descendant_44 ?_
      refine j_goto (tgt := 49) dX5_descendant_45 (by decide) ?_
      refine jo_put (S := sM) dX5_descendant_49 jf_X5_42 (fun q hq => by cases hq; exact ⟨rfl, rfl⟩) (jHold_int _) okM hG11 rfl (fun h19 hG19 hX19 => ?_)
      have hE20 := hE13.tr hX19
      refine j_aload_n dX5_descendant_52 rfl rfl ?_
      refine j_getfield (v := iv 0) dX5_descendant_53 jf_X5_42 hG19.1 rfl ?_
      refine j_if_le (tgt := 63) dX5_descendant_56 (by decide) (by omega) (fun c21 => ?_) (fun c21 => absurd (by decide) c21)
      refine j_aload_n dX5_descendant_63 rfl rfl ?_
      refine j_getfield (v := .ref (k + 5)) dX5_descendant_64 jf_X5_22 hG19.1 rfl ?_
      refine j_iload_n dX5_descendant_67 rfl rfl ?_
      refine j_iaload (f := jwl (G 10) 0 (des (mK (G 0)) 24 p)) dX5_descendant_68 (hG19.a 10 5 0 24 rfl) (by omega) (by decide) ?_
      subst hZ
      exact j_ireturn dX5_descendant_69 rfl rfl (jWi.i ((if_neg c2).trans (if_neg c15)) hG19 hE20) (Nat.le_refl _) (Nat.le_refl _)
def m_hangs (G : fS) (p o : Int) : Int × fS := if o < 0 then (0, G) else if ((G 12) p) = ((G 12) o) then (0, G) else (1, gs (gs G 12 (jfu (G 12) p (min ((G 12) p) ((G 12) o)))) 12 (jfu (jfu (G 12) p (min ((G 12) p) ((G 12) o))) o ((jfu (G 12) p (min ((G 12) p) ((G 12) o))) p)))
set_option maxHeartbeats 4000000 in
/-- reference: hangs -/
theorem c5_hangs {k : Nat} {G : fS} {h : jH} (hG : jOb sM k G h) {p o : Int} (hp : 0 ≤ p ∧ p < 24) (ho : -1 ≤ o ∧ o < 24) (h1 : 0 ≤ G 12 p ∧ G 12 p < 24) (h2 : 0 ≤ o → 0 ≤ G 12 o ∧ G 12 o < 24) : jM mX5_hangs 1 0 0 [] [.ref k, iv p, iv o] h (jWi sM k (m_hangs G p o) h) jno := by
  refine j_method (by decide +kernel) rfl (fun _ _ _ => trivial) (Nat.le_of_ble_eq_true rfl) ?_
  generalize hZ : jZ [] 0 0 _ _ = Z
  show J mX5_hangs (jR 1 0 0) [] Z 0 [(0, .ref k), (1, iv p), (2, iv o)] [] h 0 0
  have hE0 : jEx k 10 h h := jEx.rf
  refine j_iload_n dX5_hangs_0 rfl rfl ?_
  refine j_if_lt (tgt := 19) dX5_hangs_1 (by decide) (by omega) (fun c1 => ?_) (fun c1 => ?_)
  · refine j_iconst dX5_hangs_19 ?_
    subst hZ
    exact j_ireturn dX5_hangs_20 rfl rfl (jWi.i (if_pos c1) hG hE0) (Nat.le_refl _) (Nat.le_refl _)
  · have h3 := h2 (by omega)
    refine j_aload_n dX5_hangs_4 rfl rfl ?_
    refine j_getfield (v := .ref (k + 6)) dX5_hangs_5 jf_X5_25 hG.1 rfl ?_
    refine j_iload_n dX5_hangs_8 rfl rfl ?_
    refine j_iaload (f := G 12) dX5_hangs_9 (hG.a 12 6 0 24 rfl) (by omega) (by decide) ?_
    refine j_aload_n dX5_hangs_10 rfl rfl ?_
    refine j_getfield (v := .ref (k + 6)) dX5_hangs_11 jf_X5_25 hG.1 rfl ?_
    refine j_iload_n dX5_hangs_14 rfl rfl ?_
    refine j_iaload (f := G 12) dX5_hangs_15 (hG.a 12 6 0 24 rfl) (by omega) (by decide) ?_
    refine j_icmp_ne (tgt := 21) dX5_hangs_16 (by decide) (by omega) (fun c2 => ?_) (fun c2 => ?_)
    · refine j_aload_n dX5_hangs_21 rfl rfl ?_
      refine j_getfield (v := .ref (k + 6)) dX5_hangs_22 jf_X5_25 hG.1 rfl ?_
      refine j_iload_n dX5_hangs_25 rfl rfl ?_
      refine j_aload_n dX5_hangs_26 rfl rfl ?_
      refine j_getfield (v := .ref (k + 6)) dX5_hangs_27 jf_X5_25 hG.1 rfl ?_
      refine j_iload_n dX5_hangs_30 rfl rfl ?_
      refine j_iaload (f := G 12) dX5_hangs_31 (hG.a 12 6 0 24 rfl) (by omega) (by decide) ?_
      refine j_aload_n dX5_hangs_32 rfl rfl ?_
      refine j_getfield (v := .ref (k + 6)) dX5_hangs_33 jf_X5_25 hG.1 rfl ?_
      refine j_iload_n dX5_hangs_36 rfl rfl ?_
      refine j_iaload (f := G 12) dX5_hangs_37 (hG.a 12 6 0 24 rfl) (by omega) (by decide) ?_
      refine j_mmin (jw_mem 1581 (by decide +kernel) (by decide +kernel)) (jw_mem 1021 (by decide +kernel) (by decide +kernel)) (jw_mem 111 (by decide +kernel) (by decide +kernel)) (jw_mem 1022 (by decide +kernel) (by decide +kernel)) (by omega) dX5_hangs_38 (by decide) (by decide) (Nat.le_of_ble_eq_true rfl) ?_
      refine jo_ias (S := sM) (k := k) dX5_hangs_41 okM hG (i := 12) (p := 6) rfl (by omega) (by decide) (fun h3 hG3 hX3 => ?_)
      have hE4 := hE0.tr hX3
      refine j_aload_n dX5_hangs_42 rfl rfl ?_
      refine j_getfield (v := .ref (k + 6)) dX5_hangs_43 jf_X5_25 hG3.1 rfl ?_
      refine j_iload_n dX5_hangs_46 rfl rfl ?_
      refine j_aload_n dX5_hangs_47 rfl rfl ?_
      refine j_getfield (v := .ref (k + 6)) dX5_hangs_48 jf_X5_25 hG3.1 rfl ?_
      refine j_iload_n dX5_hangs_51 rfl rfl ?_
      refine j_iaload (f := jfu (G 12) p (min ((G 12) p) ((G 12) o))) dX5_hangs_52 (hG3.a 12 6 0 24 rfl) (by omega) (by decide) ?_
      refine jo_ias (S := sM) (k := k) dX5_hangs_53 okM hG3 (i := 12) (p := 6) rfl (by omega) (by decide) (fun h5 hG5 hX5 => ?_)
      have hE6 := hE4.tr hX5
      refine j_iconst dX5_hangs_54 ?_
      subst hZ
      exact j_ireturn dX5_hangs_55 rfl rfl (jWi.i ((if_neg c1).trans (if_neg c2)) hG5 hE6) (Nat.le_refl _) (Nat.le_refl _)
    · refine j_iconst dX5_hangs_19 ?_
      subst hZ
      exact j_ireturn dX5_hangs_20 rfl rfl (jWi.i ((if_neg c1).trans (if_pos c2)) hG hE0) (Nat.le_refl _) (Nat.le_refl _)
/-- what hangs does to the row of houses -/
def hng (H : Int → Int) (p o : Int) : Int × (Int → Int) := if o < 0 then (0, H) else if H p = H o then (0, H) else (1, jfu (jfu H p (min (H p) (H o))) o (jfu H p (min (H p) (H o)) p))
theorem m_hangs_e (G : fS) (p o : Int) : (m_hangs G p o).1 = (hng (G 12) p o).1 ∧ (m_hangs G p o).2 = (if o < 0 then G else if G 12 p = G 12 o then G else gs (gs G 12 (jfu (G 12) p (min (G 12 p) (G 12 o)))) 12 (hng (G 12) p o).2) := by
  unfold m_hangs hng
  split
  · exact ⟨rfl, rfl⟩
  · split
    · exact ⟨rfl, rfl⟩
    · exact ⟨rfl, rfl⟩
theorem gs_gs {G : fS} {i : Nat} {f g : Int → Int} : gs (gs G i f) i g = gs G i g := by
  funext j
  by_cases h : j = i
  · rw [h, gs_s, gs_s]
  · rw [gs_n h, gs_n h, gs_n h]
theorem gs_id {G : fS} {i : Nat} {f : Int → Int} (h : G i = f) : gs G i f = G := by
  funext j
  by_cases hj : j = i
  · rw [hj, gs_s, h]
  · rw [gs_n hj]
theorem m_hangs_g (G : fS) (p o : Int) : m_hangs G p o = ((hng (G 12) p o).1, gs G 12 (hng (G 12) p o).2) := by
  have h := m_hangs_e G p o
  refine Prod.ext h.1 (h.2.trans ?_)
  unfold hng
  split
  · exact (gs_id rfl).symm
  · split
    · exact (gs_id rfl).symm
    · exact gs_gs
/-- the row of houses on its way: each is one that hangs together with the person, and no higher -/
def hOk (F : fS) (H : Int → Int) : Prop := ∀ p, 0 ≤ p → p < F 6 0 → con F p (H p) ∧ H p ≤ p ∧ 0 ≤ H p
theorem hOk_hng {B : Int} {F : fS} (hO : jOk B F) {H : Int → Int} (h : hOk F H) {p o : Int} (hp : 0 ≤ p ∧ p < F 6 0) (ho : F 0 p = o ∨ F 1 p = o) : hOk F (hng H p o).2 ∧ csum (hng H p o).2 (F 6 0).toNat ≤ csum H (F 6 0).toNat ∧ ((hng H p o).1 = 0 ∧ (hng H p o).2 = H ∧ (0 ≤ o → H p = H o) ∨ (hng H p o).1 = 1 ∧ csum (hng H p o).2 (F 6 0).toNat < csum H (F 6 0).toNat) := by
  have ho2 : -1 ≤ o ∧ o < F 6 0 := by have := hO.p p; have := hO.s p; omega
  show hOk F (if o < 0 then (0, H) else if H p = H o then (0, H) else (1, jfu (jfu H p (min (H p) (H o))) o (jfu H p (min (H p) (H o)) p)) : Int × (Int → Int)).2 ∧ csum (if o < 0 then (0, H) else if H p = H o then (0, H) else (1, jfu (jfu H p (min (H p) (H o))) o (jfu H p (min (H p) (H o)) p)) : Int × (Int → Int)).2 (F 6 0).toNat ≤ csum H (F 6 0).toNat ∧ ((if o < 0 then (0, H) else if H p = H o then (0, H) else (1, jfu (jfu H p (min (H p) (H o))) o (jfu H p (min (H p) (H o)) p)) : Int × (Int → Int)).1 = 0 ∧ (if o < 0 then (0, H) else if H p = H o then (0, H) else (1, jfu (jfu H p (min (H p) (H o))) o (jfu H p (min (H p) (H o)) p)) : Int × (Int → Int)).2 = H ∧ (0 ≤ o → H p = H o) ∨ (if o < 0 then (0, H) else if H p = H o then (0, H) else (1, jfu (jfu H p (min (H p) (H o))) o (jfu H p (min (H p) (H o)) p)) : Int × (Int → Int)).1 = 1 ∧ csum (if o < 0 then (0, H) else if H p = H o then (0, H) else (1, jfu (jfu H p (min (H p) (H o))) o (jfu H p (min (H p) (H o)) p)) : Int × (Int → Int)).2 (F 6 0).toNat < csum H (F 6 0).toNat)
  by_cases h1 : o < 0
  · rw [if_pos h1]
    exact ⟨h, Int.le_refl _, Or.inl ⟨rfl, rfl, fun q => by omega⟩⟩
  · rw [if_neg h1]
    by_cases h2 : H p = H o
    · rw [if_pos h2]
      exact ⟨h, Int.le_refl _, Or.inl ⟨rfl, rfl, fun _ => h2⟩⟩
    · rw [if_neg h2]
      have e1 := con.ed hp.1 hp.2 (by omega : 0 ≤ o) ho
      obtain ⟨a1, a2, a3⟩ := h p hp.1 hp.2
      obtain ⟨b1, b2, b3⟩ := h o (by omega) ho2.2
      have hpo : p ≠ o := fun q => h2 (by rw [q])
      have hm : jfu H p (min (H p) (H o)) p = min (H p) (H o) := jfu_s
      have c1 : csum (jfu (jfu H p (min (H p) (H o))) o (jfu H p (min (H p) (H o)) p)) (F 6 0).toNat = csum H (F 6 0).toNat + (min (H p) (H o) - H p) + (min (H p) (H o) - H o) := by
        rw [csum_u (by omega : 0 ≤ o) _ (by omega), csum_u hp.1 _ (by omega), hm, jfu_n (fun q => hpo q.symm)]
      dsimp only
      refine ⟨fun x x0 x1 => ?_, by rw [c1]; omega, Or.inr ⟨rfl, by rw [c1]; omega⟩⟩
      by_cases hx : x = o
      · subst hx
        rw [jfu_s, hm]
        rcases Int.le_total (H p) (H x) with q | q
        · rw [Int.min_eq_left q]
          exact ⟨(con.sy e1).tr a1, by omega, a3⟩
        · rw [Int.min_eq_right q]
          exact ⟨b1, b2, b3⟩
      · rw [jfu_n hx]
        by_cases hx2 : x = p
        · subst hx2
          rw [hm]
          rcases Int.le_total (H x) (H o) with q | q
          · rw [Int.min_eq_left q]
            exact ⟨a1, a2, a3⟩
          · rw [Int.min_eq_right q]
            exact ⟨e1.tr b1, by omega, b3⟩
        · rw [jfu_n hx2]
          exact h x x0 x1
theorem hOk_hng2 {B : Int} {F : fS} (hO : jOk B F) {H : Int → Int} (h : hOk F H) {n : Int} (hn : F 6 0 = n) {p o : Int} (hp : 0 ≤ p ∧ p < n) (ho : F 0 p = o ∨ F 1 p = o) : hOk F (hng H p o).2 ∧ csum (hng H p o).2 n.toNat ≤ csum H n.toNat ∧ ((hng H p o).1 = 0 ∨ (hng H p o).1 = 1) ∧ ((hng H p o).1 ≠ 0 → csum (hng H p o).2 n.toNat < csum H n.toNat) ∧ ((hng H p o).1 = 0 → (hng H p o).2 = H ∧ (0 ≤ o → H p = H o)) := by
  subst hn
  obtain ⟨a, b, c⟩ := hOk_hng hO h hp ho
  refine ⟨a, b, ?_, ?_, ?_⟩
  · rcases c with c | c
    · exact Or.inl c.1
    · exact Or.inr c.1
  · intro q
    rcases c with c | c
    · exact absurd c.1 q
    · exact c.2
  · intro q
    rcases c with c | c
    · exact c.2
    · rw [c.1] at q; cases q
theorem hng_out {H : Int → Int} {p o q : Int} (hp : q ≠ p) (ho : q ≠ o) : (hng H p o).2 q = H q := by
  unfold hng
  split
  · rfl
  · split
    · rfl
    · show jfu (jfu H p _) o _ q = H q
      rw [jfu_n ho, jfu_n hp]
theorem c5_hang {k : Nat} {G : fS} {H : Int → Int} {h : jH} (hG : jOb sM k G h) (hH : G 12 = H) {p o : Int} (hp : 0 ≤ p ∧ p < 24) (ho : -1 ≤ o ∧ o < 24) (h1 : 0 ≤ H p ∧ H p < 24) (h2 : 0 ≤ o → 0 ≤ H o ∧ H o < 24) : jM mX5_hangs 1 0 0 [] [.ref k, iv p, iv o] h (jWi sM k ((hng H p o).1, gs G 12 (hng H p o).2) h) jno := by
  subst hH
  have := c5_hangs hG hp ho h1 h2
  rw [m_hangs_g] at this
  exact this
noncomputable def m_tells (G : fS) : fS := gs G 12 fun p => if 0 ≤ p ∧ p < G 0 0 then fho (mK (G 0)) p else G 12 p
/-- the row of houses is the same elsewhere -/
def hSame (n : Int) (H H0 : Int → Int) : Prop := ∀ q, ¬ (0 ≤ q ∧ q < n) → H q = H0 q
theorem hSame_hng {B : Int} {F : fS} (hO : jOk B F) {H H0 : Int → Int} {n : Int} (hn : F 6 0 = n) (h : hSame n H H0) {p o : Int} (hp : 0 ≤ p ∧ p < n) (ho : F 0 p = o ∨ F 1 p = o) : hSame n (hng H p o).2 H0 := by
  intro q hq
  have h1 := hO.p p
  have h2 := hO.s p
  by_cases h0 : o < 0
  · unfold hng
    rw [if_pos h0]
    exact h q hq
  · rw [hng_out (q := q) (p := p) (o := o) (fun e => hq (by omega)) (fun e => hq (by omega))]
    exact h q hq
set_option maxHeartbeats 4000000 in
/-- reference: tellsHouses -/
theorem c5_tellsHouses {k : Nat} {G : fS} {f : Int → Int} {B : Int} {h : jH} (hG : jOb sM k G h) (hf : G 0 = f) (hO : jOk B (mK f))  : jM mX5_tellsHouses 2 0 0 [] [.ref k] h (jWv sM k (m_tells G) h) jno := by
  refine j_method (by decide +kernel) rfl (fun _ _ _ => trivial) (Nat.le_of_ble_eq_true rfl) ?_
  generalize hZ : jZ [] 0 0 _ _ = Z
  show J mX5_tellsHouses (jR 2 0 0) [] Z 0 [(0, .ref k)] [] h 0 0
  subst hf
  have hn := mK_n hO
  have hb := hO.b
  have hE0 : jEx k 10 h h := jEx.rf
  refine j_iconst dX5_tellsHouses_0 ?_
  refine j_istore_n (L' := [(0, _), (1, _)]) dX5_tellsHouses_1 rfl (by decide) rfl ?_
  have hGr : jOb sM k (gs G 12 (G 12)) h := (gs_id (G := G) (i := 12) rfl).symm ▸ hG
  refine jloop (P := fun z9 : Int × (Int → Int) => ∀ h1 : jH, jOb sM k (gs G 12 z9.2) h1 → jEx k 10 h h1 → J mX5_tellsHouses (jR 2 0 0) [] Z 2 [(0, .ref k), (1, iv z9.1)] [] h1 0 0) (fun z9 => 0 ≤ z9.1 ∧ z9.1 ≤ G 0 0 ∧ (∀ q, 0 ≤ q → q < z9.1 → z9.2 q = q) ∧ hSame (G 0 0) z9.2 (G 12)) (fun z9 => (G 0 0 - z9.1).toNat) ?_ (0, G 12) ?_ _ hGr hE0
  · rintro ⟨i, H⟩ hinv ih
    dsimp only at hinv ih ⊢
    intro h2 hG3 hE4
    obtain ⟨i1, i2, i3, i4⟩ := hinv
    refine j_iload_n dX5_tellsHouses_2 rfl rfl ?_
    refine j_aload_n dX5_tellsHouses_3 rfl rfl ?_
    refine j_getfield (v := .ref (k + 1)) dX5_tellsHouses_4 jf_X5_9 hG3.1 rfl ?_
    refine j_iconst dX5_tellsHouses_7 ?_
    refine j_iaload (f := G 0) dX5_tellsHouses_8 (hG3.a 0 1 0 141 rfl) (by omega) (by decide) ?_
    refine j_icmp_ge (tgt := 25) dX5_tellsHouses_9 (by decide) (by omega) (fun c5 => ?_) (fun c5 => ?_)
    · refine j_iconst dX5_tellsHouses_25 ?_
      refine j_istore_n (L' := [(0, _), (1, _)]) dX5_tellsHouses_26 rfl (by decide) rfl ?_
      refine jloop (P := fun z9 : Int × (Int → Int) => ∀ h6 : jH, jOb sM k (gs G 12 z9.2) h6 → jEx k 10 h h6 → J mX5_tellsHouses (jR 2 0 0) [] Z 27 [(0, .ref k), (1, iv z9.1)] [] h6 0 0) (fun z9 => (z9.1 = 0 ∨ z9.1 = 1) ∧ hOk (mK (G 0)) z9.2 ∧ hSame (G 0 0) z9.2 (G 12) ∧ (z9.1 = 0 → ∀ x y, 0 ≤ x → x < G 0 0 → 0 ≤ y → (mK (G 0) 0 x = y ∨ mK (G 0) 1 x = y) → z9.2 x = z9.2 y)) (fun z9 => (2 * csum z9.2 (G 0 0).toNat + z9.1).toNat) ?_ (1, H) ?_ _ hG3 hE4
      · rintro ⟨gB, H0⟩ hinvB ihB
        dsimp only at hinvB ihB ⊢
        intro h7 hG8 hE9
        obtain ⟨l1, l2, l3, l4⟩ := hinvB
        have l5 : 0 ≤ csum H0 (G 0 0).toNat := csum_p _ fun q a b => (l2 q a (by show q < G 0 0; omega)).2.2
        refine j_iload_n dX5_tellsHouses_27 rfl rfl ?_
        refine j_if_eq (tgt := 104) dX5_tellsHouses_28 (by decide) (by omega) (fun c10 => ?_) (fun c10 => ?_)
        · subst hZ
          exact j_return dX5_tellsHouses_104 rfl (jWv.i (by unfold m_tells; exact congrArg (gs G 12) (funext fun p => by
      by_cases hp : 0 ≤ p ∧ p < G 0 0
      · rw [if_pos hp]; exact (isHo.fix hO (fun q a b => (l2 q a b).1) (fun q a b => (l2 q a b).2.1) (l4 (by omega)) hp).is
      · rw [if_neg hp]; exact (l3 p hp).symm)) hG8 hE9) (Nat.le_refl _) (Nat.le_refl _)
        · refine j_iconst dX5_tellsHouses_31 ?_
          refine j_istore_n (L' := [(0, _), (1, _)]) dX5_tellsHouses_32 rfl (by decide) rfl ?_
          refine j_iconst dX5_tellsHouses_33 ?_
          refine j_istore_n (L' := [(0, _), (1, _), (2, _)]) dX5_tellsHouses_34 rfl (by decide) rfl ?_
          refine jloop (P := fun z9 : Int × Int × (Int → Int) => ∀ h11 : jH, jOb sM k (gs G 12 z9.2.2) h11 → jEx k 10 h h11 → J mX5_tellsHouses (jR 2 0 0) [] Z 35 [(0, .ref k), (1, iv z9.1), (2, iv z9.2.1)] [] h11 0 0) (fun z9 => 0 ≤ z9.2.1 ∧ z9.2.1 ≤ G 0 0 ∧ (z9.1 = 0 ∨ z9.1 = 1) ∧ hOk (mK (G 0)) z9.2.2 ∧ hSame (G 0 0) z9.2.2 (G 12) ∧ csum z9.2.2 (G 0 0).toNat ≤ csum H0 (G 0 0).toNat ∧ (z9.1 = 1 → csum z9.2.2 (G 0 0).toNat < csum H0 (G 0 0).toNat) ∧ (z9.1 = 0 → z9.2.2 = H0 ∧ ∀ x y, 0 ≤ x → x < z9.2.1 → 0 ≤ y → (mK (G 0) 0 x = y ∨ mK (G 0) 1 x = y) → z9.2.2 x = z9.2.2 y)) (fun z9 => (G 0 0 - z9.2.1).toNat) ?_ (0, 0, H0) ?_ _ hG8 hE9
          · rintro ⟨g, i, H⟩ hinvC ihC
            dsimp only at hinvC ihC ⊢
            intro h12 hG13 hE14
            obtain ⟨i1, i2, j1, j2, j3, k6, k7, k8⟩ := hinvC
            have hx9 : _ ∧ _ < G 0 0 := hO.p i
            have hx8 : _ ∧ _ < G 0 0 := hO.s i
            refine j_iload_n dX5_tellsHouses_35 rfl rfl ?_
            refine j_aload_n dX5_tellsHouses_36 rfl rfl ?_
            refine j_getfield (v := .ref (k + 1)) dX5_tellsHouses_37 jf_X5_9 hG13.1 rfl ?_
            refine j_iconst dX5_tellsHouses_40 ?_
            refine j_iaload (f := G 0) dX5_tellsHouses_41 (hG13.a 0 1 0 141 rfl) (by omega) (by decide) ?_
            refine j_icmp_ge (tgt := 101) dX5_tellsHouses_42 (by decide) (by omega) (fun c15 => ?_) (fun c15 => ?_)
            · refine j_goto (tgt := 27) dX5_tellsHouses_101 (by decide) ?_
              refine J.keep [0, 1] (L' := [(0, _), (1, _)]) rfl ?_
              exact ihB (g, H) ⟨j1, j2, j3, fun q9 => by have u := (k8 q9).2; exact fun x y x0 x1 => u x y x0 (by omega)⟩ (by show (2 * csum H (G 0 0).toNat + g).toNat < (2 * csum H0 (G 0 0).toNat + gB).toNat; have l6 : 0 ≤ csum H (G 0 0).toNat := csum_p _ fun q a b => (j2 q a (by show q < G 0 0; omega)).2.2; omega) _ hG13 hE14
            · refine j_aload_n dX5_tellsHouses_45 rfl rfl ?_
              refine j_iload_n dX5_tellsHouses_46 rfl rfl ?_
              refine j_aload_n dX5_tellsHouses_47 rfl rfl ?_
              refine j_iload_n dX5_tellsHouses_48 rfl rfl ?_
              refine j_callV (c5_parent hG13 (f := (G 0)) rfl hO (by omega)) dX5_tellsHouses_49 jc_X5_68 jmV_X5_parent rfl rfl hG13.1 rfl rfl (by simp) jfr_nil (Nat.le_of_ble_eq_true rfl) ⟨Nat.le_of_ble_eq_true rfl, Nat.le_of_ble_eq_true rfl⟩ ⟨Nat.le_of_ble_eq_true rfl, Nat.le_of_ble_eq_true rfl⟩ (fun r h16 hp9 => ?_) (fun E h9 q => q.elim)
              obtain ⟨rfl, rfl⟩ := hp9
              have hpp9 : -1 ≤ mK (G 0) 0 i ∧ mK (G 0) 0 i < (G 0) 0 := hO.p i
              have f1 := hOk_hng2 hO j2 (n := G 0 0) rfl (p := i) (o := (mK (G 0) 0 i)) (by omega) (Or.inl rfl)
              have s1 := hSame_hng hO (n := G 0 0) rfl j3 (p := i) (o := (mK (G 0) 0 i)) (by omega) (Or.inl rfl)
              have g1 := j2 i (by omega) (by show i < G 0 0; omega)
              refine j_callV (c5_hang hG13 (H := H) rfl (p := i) (o := (mK (G 0) 0 i)) (by omega) (by omega) (by omega) (fun q9 => by have := j2 (mK (G 0) 0 i) q9 (by show (mK (G 0) 0 i) < G 0 0; omega); omega)) dX5_tellsHouses_52 jc_X5_147 jmV_X5_hangs rfl rfl hG13.1 rfl rfl (by simp) jfr_nil (Nat.le_of_ble_eq_true rfl) ⟨Nat.le_of_ble_eq_true rfl, Nat.le_of_ble_eq_true rfl⟩ ⟨Nat.le_of_ble_eq_true rfl, Nat.le_of_ble_eq_true rfl⟩ (fun r h17 hp9 => ?_) (fun E h9 q => q.elim)
              obtain ⟨rfl, hG18, hX19⟩ := hp9
              have hE20 := hE14.tr hX19
              have hG21 : jOb sM k (gs G 12 (hng H i (mK (G 0) 0 i)).2) h17 := Eq.mp (congrArg (fun z => jOb sM k z _) gs_gs) hG18
              refine j_if_ne (tgt := 62) dX5_tellsHouses_55 (by decide) (by omega) (fun c22 => ?_) (fun c22 => ?_)
              · refine j_iconst dX5_tellsHouses_62 ?_
                refine j_goto (tgt := 67) dX5_tellsHouses_63 (by decide) ?_
                refine j_istore_n (L' := [(0, _), (1, _), (2, _)]) dX5_tellsHouses_67 rfl (by decide) rfl ?_
                refine j_aload_n dX5_tellsHouses_68 rfl rfl ?_
                refine j_iload_n dX5_tellsHouses_69 rfl rfl ?_
                refine j_aload_n dX5_tellsHouses_70 rfl rfl ?_
                refine j_getfield (v := .ref (k + 1)) dX5_tellsHouses_71 jf_X5_9 hG21.1 rfl ?_
                refine j_bipush dX5_tellsHouses_74 (by decide +kernel) ?_
                refine j_iload_n dX5_tellsHouses_76 rfl rfl ?_
                refine j_iadd dX5_tellsHouses_77 ?_
                refine j_iaload (f := G 0) dX5_tellsHouses_78 (hG21.a 0 1 0 141 rfl) (by omega) (by decide) ?_
                have e9 : G 0 (29 + i) = mK (G 0) 1 i := (mK_1 (by omega)).symm
                have f2 := hOk_hng2 hO f1.1 (n := G 0 0) rfl (p := i) (o := ((G 0) (29 + i))) (by omega) (Or.inr (mK_1 (by omega)))
                have s2 := hSame_hng hO (n := G 0 0) rfl s1 (p := i) (o := ((G 0) (29 + i))) (by omega) (Or.inr (mK_1 (by omega)))
                have g1 := f1.1 i (by omega) (by show i < G 0 0; omega)
                refine j_callV (c5_hang hG21 (H := ((hng H i (mK (G 0) 0 i)).2)) rfl (p := i) (o := ((G 0) (29 + i))) (by omega) (by omega) (by omega) (fun q9 => by have := f1.1 ((G 0) (29 + i)) q9 (by show ((G 0) (29 + i)) < G 0 0; omega); omega)) dX5_tellsHouses_79 jc_X5_147 jmV_X5_hangs rfl rfl hG21.1 rfl rfl (by simp) jfr_nil (Nat.le_of_ble_eq_true rfl) ⟨Nat.le_of_ble_eq_true rfl, Nat.le_of_ble_eq_true rfl⟩ ⟨Nat.le_of_ble_eq_true rfl, Nat.le_of_ble_eq_true rfl⟩ (fun r h23 hp9 => ?_) (fun E h9 q => q.elim)
                obtain ⟨rfl, hG24, hX25⟩ := hp9
                have hE26 := hE20.tr hX25
                have hG27 : jOb sM k (gs G 12 (hng ((hng H i (mK (G 0) 0 i)).2) i ((G 0) (29 + i))).2) h23 := Eq.mp (congrArg (fun z => jOb sM k z _) gs_gs) hG24
                refine j_if_ne (tgt := 89) dX5_tellsHouses_82 (by decide) (by omega) (fun c28 => ?_) (fun c28 => ?_)
                · refine j_iconst dX5_tellsHouses_89 ?_
                  refine j_goto (tgt := 94) dX5_tellsHouses_90 (by decide) ?_
                  refine j_istore_n (L' := [(0, _), (1, _), (2, _)]) dX5_tellsHouses_94 rfl (by decide) rfl ?_
                  refine j_iinc (L' := [(0, _), (1, _), (2, _)]) dX5_tellsHouses_95 rfl (by decide) rfl ?_
                  refine j_goto (tgt := 35) dX5_tellsHouses_98 (by decide) ?_
                  exact ihC (1, i + 1, (hng (hng H i (mK (G 0) 0 i)).2 i (G 0 (29 + i))).2) ⟨by show 0 ≤ i + 1; omega, by show i + 1 ≤ G 0 0; omega, Or.inr rfl, f2.1, s2, by show csum (hng (hng H i (mK (G 0) 0 i)).2 i (G 0 (29 + i))).2 (G 0 0).toNat ≤ _; omega, fun _ => by show csum (hng (hng H i (mK (G 0) 0 i)).2 i (G 0 (29 + i))).2 (G 0 0).toNat < _; omega, fun q9 => by cases q9⟩ (by show (G 0 0 - (i + 1)).toNat < (G 0 0 - i).toNat; omega) _ hG27 hE26
                · refine j_iload_n dX5_tellsHouses_85 rfl rfl ?_
                  refine j_if_eq (tgt := 93) dX5_tellsHouses_86 (by decide) (by omega) (fun c29 => absurd c29 (by decide)) (fun c29 => ?_)
                  refine j_iconst dX5_tellsHouses_89 ?_
                  refine j_goto (tgt := 94) dX5_tellsHouses_90 (by decide) ?_
                  refine j_istore_n (L' := [(0, _), (1, _), (2, _)]) dX5_tellsHouses_94 rfl (by decide) rfl ?_
                  refine j_iinc (L' := [(0, _), (1, _), (2, _)]) dX5_tellsHouses_95 rfl (by decide) rfl ?_
                  refine j_goto (tgt := 35) dX5_tellsHouses_98 (by decide) ?_
                  exact ihC (1, i + 1, (hng (hng H i (mK (G 0) 0 i)).2 i (G 0 (29 + i))).2) ⟨by show 0 ≤ i + 1; omega, by show i + 1 ≤ G 0 0; omega, Or.inr rfl, f2.1, s2, by show csum (hng (hng H i (mK (G 0) 0 i)).2 i (G 0 (29 + i))).2 (G 0 0).toNat ≤ _; omega, fun _ => by show csum (hng (hng H i (mK (G 0) 0 i)).2 i (G 0 (29 + i))).2 (G 0 0).toNat < _; omega, fun q9 => by cases q9⟩ (by show (G 0 0 - (i + 1)).toNat < (G 0 0 - i).toNat; omega) _ hG27 hE26
              · refine j_iload_n dX5_tellsHouses_58 rfl rfl ?_
                refine j_if_eq (tgt := 66) dX5_tellsHouses_59 (by decide) (by omega) (fun c30 => ?_) (fun c30 => ?_)
                · refine j_iconst dX5_tellsHouses_66 ?_
                  refine j_istore_n (L' := [(0, _), (1, _), (2, _)]) dX5_tellsHouses_67 rfl (by decide) rfl ?_
                  refine j_aload_n dX5_tellsHouses_68 rfl rfl ?_
                  refine j_iload_n dX5_tellsHouses_69 rfl rfl ?_
                  refine j_aload_n dX5_tellsHouses_70 rfl rfl ?_
                  refine j_getfield (v := .ref (k + 1)) dX5_tellsHouses_71 jf_X5_9 hG21.1 rfl ?_
                  refine j_bipush dX5_tellsHouses_74 (by decide +kernel) ?_
                  refine j_iload_n dX5_tellsHouses_76 rfl rfl ?_
                  refine j_iadd dX5_tellsHouses_77 ?_
                  refine j_iaload (f := G 0) dX5_tellsHouses_78 (hG21.a 0 1 0 141 rfl) (by omega) (by decide) ?_
                  have e9 : G 0 (29 + i) = mK (G 0) 1 i := (mK_1 (by omega)).symm
                  have f2 := hOk_hng2 hO f1.1 (n := G 0 0) rfl (p := i) (o := ((G 0) (29 + i))) (by omega) (Or.inr (mK_1 (by omega)))
                  have s2 := hSame_hng hO (n := G 0 0) rfl s1 (p := i) (o := ((G 0) (29 + i))) (by omega) (Or.inr (mK_1 (by omega)))
                  have g1 := f1.1 i (by omega) (by show i < G 0 0; omega)
                  refine j_callV (c5_hang hG21 (H := ((hng H i (mK (G 0) 0 i)).2)) rfl (p := i) (o := ((G 0) (29 + i))) (by omega) (by omega) (by omega) (fun q9 => by have := f1.1 ((G 0) (29 + i)) q9 (by show ((G 0) (29 + i)) < G 0 0; omega); omega)) dX5_tellsHouses_79 jc_X5_147 jmV_X5_hangs rfl rfl hG21.1 rfl rfl (by simp) jfr_nil (Nat.le_of_ble_eq_true rfl) ⟨Nat.le_of_ble_eq_true rfl, Nat.le_of_ble_eq_true rfl⟩ ⟨Nat.le_of_ble_eq_true rfl, Nat.le_of_ble_eq_true rfl⟩ (fun r h31 hp9 => ?_) (fun E h9 q => q.elim)
                  obtain ⟨rfl, hG32, hX33⟩ := hp9
                  have hE34 := hE20.tr hX33
                  have hG35 : jOb sM k (gs G 12 (hng ((hng H i (mK (G 0) 0 i)).2) i ((G 0) (29 + i))).2) h31 := Eq.mp (congrArg (fun z => jOb sM k z _) gs_gs) hG32
                  refine j_if_ne (tgt := 89) dX5_tellsHouses_82 (by decide) (by omega) (fun c36 => ?_) (fun c36 => ?_)
                  · refine j_iconst dX5_tellsHouses_89 ?_
                    refine j_goto (tgt := 94) dX5_tellsHouses_90 (by decide) ?_
                    refine j_istore_n (L' := [(0, _), (1, _), (2, _)]) dX5_tellsHouses_94 rfl (by decide) rfl ?_
                    refine j_iinc (L' := [(0, _), (1, _), (2, _)]) dX5_tellsHouses_95 rfl (by decide) rfl ?_
                    refine j_goto (tgt := 35) dX5_tellsHouses_98 (by decide) ?_
                    exact ihC (1, i + 1, (hng (hng H i (mK (G 0) 0 i)).2 i (G 0 (29 + i))).2) ⟨by show 0 ≤ i + 1; omega, by show i + 1 ≤ G 0 0; omega, Or.inr rfl, f2.1, s2, by show csum (hng (hng H i (mK (G 0) 0 i)).2 i (G 0 (29 + i))).2 (G 0 0).toNat ≤ _; omega, fun _ => by show csum (hng (hng H i (mK (G 0) 0 i)).2 i (G 0 (29 + i))).2 (G 0 0).toNat < _; omega, fun q9 => by cases q9⟩ (by show (G 0 0 - (i + 1)).toNat < (G 0 0 - i).toNat; omega) _ hG35 hE34
                  · refine j_iload_n dX5_tellsHouses_85 rfl rfl ?_
                    refine j_if_eq (tgt := 93) dX5_tellsHouses_86 (by decide) (by omega) (fun c37 => ?_) (fun c37 => absurd (by decide) c37)
                    refine j_iconst dX5_tellsHouses_93 ?_
                    refine j_istore_n (L' := [(0, _), (1, _), (2, _)]) dX5_tellsHouses_94 rfl (by decide) rfl ?_
                    refine j_iinc (L' := [(0, _), (1, _), (2, _)]) dX5_tellsHouses_95 rfl (by decide) rfl ?_
                    refine j_goto (tgt := 35) dX5_tellsHouses_98 (by decide) ?_
                    have u1 := f1.2.2.2.2 (by omega)
                    have u2 := f2.2.2.2.2 (by omega)
                    have u3 := k8 (by omega)
                    have u4 : (hng (hng H i (mK (G 0) 0 i)).2 i (G 0 (29 + i))).2 = H0 := u2.1.trans (u1.1.trans u3.1)
                    refine ihC (0, i + 1, (hng (hng H i (mK (G 0) 0 i)).2 i (G 0 (29 + i))).2) ⟨by show 0 ≤ i + 1; omega, by show i + 1 ≤ G 0 0; omega, Or.inl rfl, f2.1, s2, by show csum (hng (hng H i (mK (G 0) 0 i)).2 i (G 0 (29 + i))).2 (G 0 0).toNat ≤ _; omega, fun q9 => (by cases q9), fun _ => ⟨u4, fun x y x0 x1 y0 e => ?_⟩⟩ (by show (G 0 0 - (i + 1)).toNat < (G 0 0 - i).toNat; omega) _ hG35 hE34
                    show (hng (hng H i (mK (G 0) 0 i)).2 i (G 0 (29 + i))).2 x = (hng (hng H i (mK (G 0) 0 i)).2 i (G 0 (29 + i))).2 y
                    rw [u2.1, u1.1]
                    have x1 : x < i + 1 := x1
                    by_cases hx : x = i
                    · subst hx
                      rcases e with e | e
                      · have := u1.2 (by omega); rw [e] at this; exact this
                      · have := u2.2 (by rw [e9, e]; exact y0); rw [u1.1, e9, e] at this; exact this
                    · exact u3.2 x y x0 (by omega) y0 e
                · refine j_iconst dX5_tellsHouses_62 ?_
                  refine j_goto (tgt := 67) dX5_tellsHouses_63 (by decide) ?_
                  refine j_istore_n (L' := [(0, _), (1, _), (2, _)]) dX5_tellsHouses_67 rfl (by decide) rfl ?_
                  refine j_aload_n dX5_tellsHouses_68 rfl rfl ?_
                  refine j_iload_n dX5_tellsHouses_69 rfl rfl ?_
                  refine j_aload_n dX5_tellsHouses_70 rfl rfl ?_
                  refine j_getfield (v := .ref (k + 1)) dX5_tellsHouses_71 jf_X5_9 hG21.1 rfl ?_
                  refine j_bipush dX5_tellsHouses_74 (by decide +kernel) ?_
                  refine j_iload_n dX5_tellsHouses_76 rfl rfl ?_
                  refine j_iadd dX5_tellsHouses_77 ?_
                  refine j_iaload (f := G 0) dX5_tellsHouses_78 (hG21.a 0 1 0 141 rfl) (by omega) (by decide) ?_
                  have e9 : G 0 (29 + i) = mK (G 0) 1 i := (mK_1 (by omega)).symm
                  have f2 := hOk_hng2 hO f1.1 (n := G 0 0) rfl (p := i) (o := ((G 0) (29 + i))) (by omega) (Or.inr (mK_1 (by omega)))
                  have s2 := hSame_hng hO (n := G 0 0) rfl s1 (p := i) (o := ((G 0) (29 + i))) (by omega) (Or.inr (mK_1 (by omega)))
                  have g1 := f1.1 i (by omega) (by show i < G 0 0; omega)
                  refine j_callV (c5_hang hG21 (H := ((hng H i (mK (G 0) 0 i)).2)) rfl (p := i) (o := ((G 0) (29 + i))) (by omega) (by omega) (by omega) (fun q9 => by have := f1.1 ((G 0) (29 + i)) q9 (by show ((G 0) (29 + i)) < G 0 0; omega); omega)) dX5_tellsHouses_79 jc_X5_147 jmV_X5_hangs rfl rfl hG21.1 rfl rfl (by simp) jfr_nil (Nat.le_of_ble_eq_true rfl) ⟨Nat.le_of_ble_eq_true rfl, Nat.le_of_ble_eq_true rfl⟩ ⟨Nat.le_of_ble_eq_true rfl, Nat.le_of_ble_eq_true rfl⟩ (fun r h38 hp9 => ?_) (fun E h9 q => q.elim)
                  obtain ⟨rfl, hG39, hX40⟩ := hp9
                  have hE41 := hE20.tr hX40
                  have hG42 : jOb sM k (gs G 12 (hng ((hng H i (mK (G 0) 0 i)).2) i ((G 0) (29 + i))).2) h38 := Eq.mp (congrArg (fun z => jOb sM k z _) gs_gs) hG39
                  refine j_if_ne (tgt := 89) dX5_tellsHouses_82 (by decide) (by omega) (fun c43 => ?_) (fun c43 => ?_)
                  · refine j_iconst dX5_tellsHouses_89 ?_
                    refine j_goto (tgt := 94) dX5_tellsHouses_90 (by decide) ?_
                    refine j_istore_n (L' := [(0, _), (1, _), (2, _)]) dX5_tellsHouses_94 rfl (by decide) rfl ?_
                    refine j_iinc (L' := [(0, _), (1, _), (2, _)]) dX5_tellsHouses_95 rfl (by decide) rfl ?_
                    refine j_goto (tgt := 35) dX5_tellsHouses_98 (by decide) ?_
                    exact ihC (1, i + 1, (hng (hng H i (mK (G 0) 0 i)).2 i (G 0 (29 + i))).2) ⟨by show 0 ≤ i + 1; omega, by show i + 1 ≤ G 0 0; omega, Or.inr rfl, f2.1, s2, by show csum (hng (hng H i (mK (G 0) 0 i)).2 i (G 0 (29 + i))).2 (G 0 0).toNat ≤ _; omega, fun _ => by show csum (hng (hng H i (mK (G 0) 0 i)).2 i (G 0 (29 + i))).2 (G 0 0).toNat < _; omega, fun q9 => by cases q9⟩ (by show (G 0 0 - (i + 1)).toNat < (G 0 0 - i).toNat; omega) _ hG42 hE41
                  · refine j_iload_n dX5_tellsHouses_85 rfl rfl ?_
                    refine j_if_eq (tgt := 93) dX5_tellsHouses_86 (by decide) (by omega) (fun c44 => absurd c44 (by decide)) (fun c44 => ?_)
                    refine j_iconst dX5_tellsHouses_89 ?_
                    refine j_goto (tgt := 94) dX5_tellsHouses_90 (by decide) ?_
                    refine j_istore_n (L' := [(0, _), (1, _), (2, _)]) dX5_tellsHouses_94 rfl (by decide) rfl ?_
                    refine j_iinc (L' := [(0, _), (1, _), (2, _)]) dX5_tellsHouses_95 rfl (by decide) rfl ?_
                    refine j_goto (tgt := 35) dX5_tellsHouses_98 (by decide) ?_
                    exact ihC (1, i + 1, (hng (hng H i (mK (G 0) 0 i)).2 i (G 0 (29 + i))).2) ⟨by show 0 ≤ i + 1; omega, by show i + 1 ≤ G 0 0; omega, Or.inr rfl, f2.1, s2, by show csum (hng (hng H i (mK (G 0) 0 i)).2 i (G 0 (29 + i))).2 (G 0 0).toNat ≤ _; omega, fun _ => by show csum (hng (hng H i (mK (G 0) 0 i)).2 i (G 0 (29 + i))).2 (G 0 0).toNat < _; omega, fun q9 => by cases q9⟩ (by show (G 0 0 - (i + 1)).toNat < (G 0 0 - i).toNat; omega) _ hG42 hE41
          · dsimp only
            exact ⟨by omega, by omega, Or.inl rfl, l2, l3, Int.le_refl _, fun q9 => (by cases q9), fun _ => ⟨rfl, fun x y a b => by omega⟩⟩
      · dsimp only
        exact ⟨Or.inr rfl, fun p h0 h1 => by have e := i3 p h0 (by have h1 : p < G 0 0 := h1; omega); rw [e]; exact ⟨con.rf, Int.le_refl _, h0⟩, i4, fun q9 => by cases q9⟩
    · refine j_aload_n dX5_tellsHouses_12 rfl rfl ?_
      refine j_getfield (v := .ref (k + 6)) dX5_tellsHouses_13 jf_X5_25 hG3.1 rfl ?_
      refine j_iload_n dX5_tellsHouses_16 rfl rfl ?_
      refine j_iload_n dX5_tellsHouses_17 rfl rfl ?_
      refine jo_ias (S := sM) (k := k) dX5_tellsHouses_18 okM hG3 (i := 12) (p := 6) rfl (by omega) (by decide) (fun h45 hG45 hX45 => ?_)
      have hE46 := hE4.tr hX45
      refine j_iinc (L' := [(0, _), (1, _)]) dX5_tellsHouses_19 rfl (by decide) rfl ?_
      refine j_goto (tgt := 2) dX5_tellsHouses_22 (by decide) ?_
      have hG9 : jOb sM k (gs G 12 (jfu H i i)) h45 := Eq.mp (congrArg (fun z => jOb sM k z _) gs_gs) hG45
      refine ih (i + 1, jfu H i i) ⟨by show 0 ≤ i + 1; omega, by show i + 1 ≤ G 0 0; omega, fun q a b => ?_, fun q hq => ?_⟩ (by show (G 0 0 - (i + 1)).toNat < (G 0 0 - i).toNat; omega) _ hG9 hE46
      · by_cases e : q = i
        · rw [e]; exact jfu_s
        · have b : q < i + 1 := b
          exact (jfu_n e).trans (i3 q a (by omega))
      · exact (jfu_n (fun e => hq (by omega))).trans (i4 q hq)
  · dsimp only
    exact ⟨by omega, by omega, fun q a b => by omega, fun _ _ => rfl⟩
