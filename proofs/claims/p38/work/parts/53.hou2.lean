def lLo (L : Int → Int) (p b : Int) : Int → Int := if (0 ≤ p ∧ p < 24 ∧ 0 ≤ b ∧ b < 24) ∧ L b < L p then jfu L p (L b) else L
def lBi (L : Int → Int) (p b : Int) : Int := bi ((0 ≤ p ∧ p < 24 ∧ 0 ≤ b ∧ b < 24) ∧ L b < L p)
theorem lLo_f {L : Int → Int} {p b : Int} (h : ¬ ((0 ≤ p ∧ p < 24 ∧ 0 ≤ b ∧ b < 24) ∧ L b < L p)) : lLo L p b = L := if_neg h
theorem lLo_0 {L : Int → Int} {p b : Int} (h : lBi L p b = 0) : lLo L p b = L := lLo_f (bi_z h)
theorem lLo_le {L : Int → Int} {p b : Int} (x : Int) : lLo L p b x ≤ L x := by
  by_cases e : (0 ≤ p ∧ p < 24 ∧ 0 ≤ b ∧ b < 24) ∧ L b < L p
  · rw [show lLo L p b = jfu L p (L b) from if_pos e]
    by_cases q : x = p
    · rw [q, jfu_s]; omega
    · rw [jfu_n q]; omega
  · rw [lLo_f e]; omega
theorem lLo_p {L : Int → Int} {p b : Int} (h : 0 ≤ p ∧ p < 24 ∧ 0 ≤ b ∧ b < 24) : lLo L p b p ≤ L b := by
  by_cases e : (0 ≤ p ∧ p < 24 ∧ 0 ≤ b ∧ b < 24) ∧ L b < L p
  · rw [show lLo L p b = jfu L p (L b) from if_pos e, jfu_s]; omega
  · rw [lLo_f e]; omega
/-- noted leasts of persons that hang together -/
def hLs (F : fS) (L : Int → Int) : Prop := ∀ x, 0 ≤ x → x < 24 → 0 ≤ L x ∧ L x ≤ x ∧ con F x (L x)
theorem hLs.lo {F : fS} {L : Int → Int} {p b : Int} (h : hLs F L) (hc : 0 ≤ p → 0 ≤ b → con F p b) : hLs F (lLo L p b) := by
  by_cases e : (0 ≤ p ∧ p < 24 ∧ 0 ≤ b ∧ b < 24) ∧ L b < L p
  · rw [show lLo L p b = jfu L p (L b) from if_pos e]
    intro x x0 x1
    by_cases q : x = p
    · rw [q, jfu_s]
      have hb := h b (by omega) (by omega)
      have hp := h p (by omega) (by omega)
      exact ⟨hb.1, by omega, (hc (by omega) (by omega)).tr hb.2.2⟩
    · rw [jfu_n q]; exact h x x0 x1
  · rw [lLo_f e]; exact h
def eLw (F : fS) (L0 L : Int → Int) (n : Int) : Prop := ∀ q, 0 ≤ q → q < n → (0 ≤ F 0 q → L q ≤ L0 (F 0 q) ∧ L (F 0 q) ≤ L0 q) ∧ (0 ≤ F 1 q → L (F 1 q) ≤ L0 q)
def lSt (F : fS) (L : Int → Int) (i : Int) : Int → Int := lLo (lLo (lLo L i (F 0 i)) (F 0 i) i) (F 1 i) i
theorem lSt_ls {B : Int} {F : fS} {L : Int → Int} {i : Int} (hO : jOk B F) (hi : 0 ≤ i ∧ i < 24) (h : hLs F L) : hLs F (lSt F L i) := by
  have key : ∀ y, 0 ≤ y → (F 0 i = y ∨ F 1 i = y) → con F i y := fun y hy e => by
    by_cases q : i < F 6 0
    · exact con.ed hi.1 q hy e
    · have := hO.df i (by omega); omega
  exact ((h.lo (fun _ q => key _ q (.inl rfl))).lo (fun q _ => (key _ q (.inl rfl)).sy)).lo (fun q _ => (key _ q (.inr rfl)).sy)
theorem kcn {B : Int} {F : fS} {i : Int} (hO : jOk B F) (hi : 0 ≤ i ∧ i < 24) : (0 ≤ i → 0 ≤ F 0 i → con F i (F 0 i)) ∧ (0 ≤ F 0 i → 0 ≤ i → con F (F 0 i) i) := by
  by_cases q : i < F 6 0
  · exact ⟨fun _ z => con.ed hi.1 q z (.inl rfl), fun z _ => con.de hi.1 q z (.inl rfl)⟩
  · have := hO.df i (by omega)
    exact ⟨fun _ z => absurd z (by omega), fun z _ => absurd z (by omega)⟩
theorem lSt_le {F : fS} {L : Int → Int} {i : Int} (x : Int) : lSt F L i x ≤ L x := Int.le_trans (lLo_le x) (Int.le_trans (lLo_le x) (lLo_le x))
theorem lSt_e {B : Int} {F : fS} {L L0 : Int → Int} {i : Int} (hO : jOk B F) (hi : 0 ≤ i ∧ i < 24) (hl : ∀ x, L x ≤ L0 x) (h : eLw F L0 L i) : eLw F L0 (lSt F L i) (i + 1) := by
  intro q q0 q1
  have hf := hf24 hO i
  by_cases e : q = i
  · rw [e]
    refine ⟨fun z => ⟨?_, ?_⟩, fun z => ?_⟩
    · exact Int.le_trans (lLo_le _) (Int.le_trans (lLo_le _) (Int.le_trans (lLo_p (by omega)) (hl _)))
    · exact Int.le_trans (lLo_le _) (Int.le_trans (lLo_p (by omega)) (Int.le_trans (lLo_le _) (hl _)))
    · exact Int.le_trans (lLo_p (by omega)) (Int.le_trans (lLo_le _) (Int.le_trans (lLo_le _) (hl _)))
  · have w := h q q0 (by omega)
    exact ⟨fun z => ⟨Int.le_trans (lSt_le _) (w.1 z).1, Int.le_trans (lSt_le _) (w.1 z).2⟩, fun z => Int.le_trans (lSt_le _) (w.2 z)⟩
theorem csum_mo {f g : Int → Int} : ∀ k : Nat, (∀ i : Int, 0 ≤ i → i < k → f i ≤ g i) → csum f k ≤ csum g k
  | 0, _ => Int.le_refl _
  | k + 1, h => by
    have h1 := csum_mo k fun i h0 h1 => h i h0 (by omega)
    have h2 := h k (by omega) (by omega)
    show csum f k + f k ≤ csum g k + g k
    omega
theorem csum_lt {f g : Int → Int} : ∀ k : Nat, (∀ i : Int, 0 ≤ i → i < k → f i ≤ g i) → ∀ i : Int, 0 ≤ i → i < k → f i + 1 ≤ g i → csum f k + 1 ≤ csum g k
  | 0, _, _, _, h, _ => absurd h (by omega)
  | k + 1, h, i, h0, h1, h2 => by
    show csum f k + f k + 1 ≤ csum g k + g k
    have h4 := h k (by omega) (by omega)
    by_cases hi : i = k
    · have h3 := csum_mo k fun i h0 h1 => h i h0 (by omega)
      rw [hi] at h2
      omega
    · have h3 := csum_lt k (fun i h0 h1 => h i h0 (by omega)) i h0 (by omega) h2
      omega
theorem fho_cn {B : Int} {F : fS} (hO : jOk B F) {p q : Int} (hp : 0 ≤ p ∧ p < F 6 0) (h : con F p q) : fho F q = fho F p := by
  have a := fho_is hO hp
  exact isHo.is ⟨h.sy.tr a.1, fun z w => a.2 z (h.tr w)⟩
noncomputable def lCt (F : fS) (L : Int → Int) : Int := csum (fun x => bi (L x = fho F x)) (F 6 0).toNat
def lAr (F : fS) (L : Int → Int) : Prop := ∀ x, 0 ≤ x → x < F 6 0 → L x = fho F x
theorem hLs.ge {B : Int} {F : fS} {L : Int → Int} (hO : jOk B F) (h : hLs F L) {x : Int} (hx : 0 ≤ x ∧ x < F 6 0) : fho F x ≤ L x := (fho_is hO hx).2 _ (h x hx.1 (by have := hO.n; omega)).2.2
/-- a round brings one more person to its house, or all were there -/
theorem lRound {B : Int} {F : fS} {L0 L : Int → Int} (hO : jOk B F) (hS : kSy F) (h0 : hLs F L0) (h : hLs F L) (hl : ∀ x, L x ≤ L0 x) (he : eLw F L0 L 24) : lAr F L0 ∨ lCt F L0 + 1 ≤ lCt F L := by
  have hn := hO.n
  have mono : ∀ i : Int, 0 ≤ i → i < (F 6 0).toNat → bi (L0 i = fho F i) ≤ bi (L i = fho F i) := fun i i0 i1 => by
    have a := h.ge hO (x := i) ⟨i0, by omega⟩
    have b := hl i
    by_cases e : L0 i = fho F i
    · rw [bi_t e, bi_t (show L i = fho F i by omega)]; exact Int.le_refl _
    · rw [bi_f e]
      by_cases e2 : L i = fho F i
      · rw [bi_t e2]; decide
      · rw [bi_f e2]; exact Int.le_refl _
  by_cases hx : ∃ x, (0 ≤ x ∧ x < F 6 0) ∧ L x = fho F x ∧ L0 x ≠ fho F x
  · obtain ⟨x, x0, x1, x2⟩ := hx
    refine .inr (csum_lt _ mono x x0.1 (by omega) ?_)
    show bi (L0 x = fho F x) + 1 ≤ bi (L x = fho F x)
    rw [bi_t x1, bi_f x2]
    decide
  · left
    intro p p0 p1
    have nw : ∀ x, 0 ≤ x → x < F 6 0 → L x = fho F x → L0 x = fho F x := fun x a b c => Decidable.not_not.mp fun q => hx ⟨x, ⟨a, b⟩, c, q⟩
    have im := fho_is hO (p := p) ⟨p0, p1⟩
    have rm := fho_rg hO (p := p) ⟨p0, p1⟩
    refine im.1.sy (fun z => L0 z = fho F z) ?_ fun x y x0 x1 y0 e => ?_
    · have a := h0 (fho F p) rm.1 (by omega)
      have b := im.2 _ (im.1.tr a.2.2)
      have c : fho F (fho F p) = fho F p := fho_cn hO ⟨p0, p1⟩ im.1
      show L0 (fho F p) = fho F (fho F p)
      omega
    · have hy : y < F 6 0 := by
        have := hO.p x
        have := hO.s x
        omega
      have c : fho F y = fho F x := fho_cn hO ⟨x0, x1⟩ (con.ed x0 x1 y0 e)
      have gx := h.ge hO (x := x) ⟨x0, x1⟩
      have gy := h.ge hO (x := y) ⟨y0, hy⟩
      have hb : L y ≤ L0 x ∧ L x ≤ L0 y := by
        rcases e with e | e
        · have w := (he x x0 (by omega)).1 (by omega)
          rw [e] at w
          exact ⟨w.2, w.1⟩
        · have w := (he x x0 (by omega)).2 (by omega)
          have s := hS x (by omega)
          rw [e] at w s
          have v := (he y y0 (by omega)).2 (by omega)
          rw [s] at v
          exact ⟨w, v⟩
      exact ⟨fun q => nw y y0 hy (by have : L0 x = fho F x := q; omega), fun q => nw x x0 x1 (by have : L0 y = fho F y := q; omega)⟩
theorem lCt_le {B : Int} {F : fS} {L : Int → Int} (hO : jOk B F) : lCt F L ≤ 24 := by
  have a := csum_bi (P := fun x => L x = fho F x) (F 6 0).toNat
  have := hO.n
  have b : lCt F L ≤ (F 6 0).toNat := a.2
  omega
theorem lAr.st {B : Int} {F : fS} {L0 L : Int → Int} (hO : jOk B F) (h : hLs F L) (hl : ∀ x, L x ≤ L0 x) (ha : lAr F L0) : lAr F L := fun x a b => by
  have := h.ge hO (x := x) ⟨a, b⟩
  have := hl x
  have := ha x a b
  omega
set_option maxHeartbeats 4000000 in
/-- Houses.lower -/
theorem c2_lower {k : Nat} {G : fS} {h : jH} (hG : jOb sH k G h) {p b : Int} (hp : -2147483648 ≤ p ∧ p ≤ 2147483647) (hb : -2147483648 ≤ b ∧ b ≤ 2147483647) (hL : ∀ x, 0 ≤ x → x < 24 → 0 ≤ G 1 x ∧ G 1 x ≤ x) : jM mX2_lower 1 0 0 [] [.ref k, iv p, iv b] h (jWi sH k (lBi (G 1) p b, gs G 1 (lLo (G 1) p b)) h) jno := by
  refine j_method (by decide +kernel) rfl (fun _ _ _ => trivial) (Nat.le_of_ble_eq_true rfl) ?_
  generalize hZ : jZ [] 0 0 _ _ = Z
  show J mX2_lower (jR 1 0 0) [] Z 0 [(0, .ref k), (1, iv p), (2, iv b)] [] h 0 0
  have hE0 : jEx k 3 h h := jEx.rf
  refine j_iload_n dX2_lower_0 rfl rfl ?_
  refine j_if_lt (tgt := 24) dX2_lower_1 (by decide) (by omega) (fun c1 => ?_) (fun c1 => ?_)
  · refine j_iconst dX2_lower_24 ?_
    refine j_istore_n (L' := [(0, _), (1, _), (2, _), (3, _)]) dX2_lower_25 rfl (by decide) rfl ?_
    refine j_iload_n dX2_lower_26 rfl rfl ?_
    refine j_if_eq (tgt := 45) dX2_lower_27 (by decide) (by omega) (fun c2 => ?_) (fun c2 => absurd (by decide) c2)
    refine j_iconst dX2_lower_45 ?_
    subst hZ
    exact j_ireturn dX2_lower_46 rfl rfl (jWi.i (by unfold lBi; rw [bi_f (by omega), lLo_f (by omega), gs_id rfl]) hG hE0) (Nat.le_refl _) (Nat.le_refl _)
  · refine j_iload_n dX2_lower_4 rfl rfl ?_
    refine j_bipush dX2_lower_5 (by decide +kernel) ?_
    refine j_icmp_ge (tgt := 24) dX2_lower_7 (by decide) (by omega) (fun c3 => ?_) (fun c3 => ?_)
    · refine j_iconst dX2_lower_24 ?_
      refine j_istore_n (L' := [(0, _), (1, _), (2, _), (3, _)]) dX2_lower_25 rfl (by decide) rfl ?_
      refine j_iload_n dX2_lower_26 rfl rfl ?_
      refine j_if_eq (tgt := 45) dX2_lower_27 (by decide) (by omega) (fun c4 => ?_) (fun c4 => absurd (by decide) c4)
      refine j_iconst dX2_lower_45 ?_
      subst hZ
      exact j_ireturn dX2_lower_46 rfl rfl (jWi.i (by unfold lBi; rw [bi_f (by omega), lLo_f (by omega), gs_id rfl]) hG hE0) (Nat.le_refl _) (Nat.le_refl _)
    · refine j_iload_n dX2_lower_10 rfl rfl ?_
      refine j_if_lt (tgt := 24) dX2_lower_11 (by decide) (by omega) (fun c5 => ?_) (fun c5 => ?_)
      · refine j_iconst dX2_lower_24 ?_
        refine j_istore_n (L' := [(0, _), (1, _), (2, _), (3, _)]) dX2_lower_25 rfl (by decide) rfl ?_
        refine j_iload_n dX2_lower_26 rfl rfl ?_
        refine j_if_eq (tgt := 45) dX2_lower_27 (by decide) (by omega) (fun c6 => ?_) (fun c6 => absurd (by decide) c6)
        refine j_iconst dX2_lower_45 ?_
        subst hZ
        exact j_ireturn dX2_lower_46 rfl rfl (jWi.i (by unfold lBi; rw [bi_f (by omega), lLo_f (by omega), gs_id rfl]) hG hE0) (Nat.le_refl _) (Nat.le_refl _)
      · refine j_iload_n dX2_lower_14 rfl rfl ?_
        refine j_bipush dX2_lower_15 (by decide +kernel) ?_
        refine j_icmp_ge (tgt := 24) dX2_lower_17 (by decide) (by omega) (fun c7 => ?_) (fun c7 => ?_)
        · refine j_iconst dX2_lower_24 ?_
          refine j_istore_n (L' := [(0, _), (1, _), (2, _), (3, _)]) dX2_lower_25 rfl (by decide) rfl ?_
          refine j_iload_n dX2_lower_26 rfl rfl ?_
          refine j_if_eq (tgt := 45) dX2_lower_27 (by decide) (by omega) (fun c8 => ?_) (fun c8 => absurd (by decide) c8)
          refine j_iconst dX2_lower_45 ?_
          subst hZ
          exact j_ireturn dX2_lower_46 rfl rfl (jWi.i (by unfold lBi; rw [bi_f (by omega), lLo_f (by omega), gs_id rfl]) hG hE0) (Nat.le_refl _) (Nat.le_refl _)
        · refine j_iconst dX2_lower_20 ?_
          refine j_goto (tgt := 25) dX2_lower_21 (by decide) ?_
          refine j_istore_n (L' := [(0, _), (1, _), (2, _), (3, _)]) dX2_lower_25 rfl (by decide) rfl ?_
          refine j_iload_n dX2_lower_26 rfl rfl ?_
          refine j_if_eq (tgt := 45) dX2_lower_27 (by decide) (by omega) (fun c9 => absurd c9 (by decide)) (fun c9 => ?_)
          refine j_aload_n dX2_lower_30 rfl rfl ?_
          refine j_getfield (v := .ref (k + 2)) dX2_lower_31 jf_X2_15 hG.1 rfl ?_
          refine j_iload_n dX2_lower_34 rfl rfl ?_
          have r8 := hL b (by omega) (by omega)
          have r9 := hL p (by omega) (by omega)
          refine j_iaload (f := G 1) dX2_lower_35 (hG.a 1 2 0 24 rfl) (by omega) (by decide) ?_
          refine j_aload_n dX2_lower_36 rfl rfl ?_
          refine j_getfield (v := .ref (k + 2)) dX2_lower_37 jf_X2_15 hG.1 rfl ?_
          refine j_iload_n dX2_lower_40 rfl rfl ?_
          refine j_iaload (f := G 1) dX2_lower_41 (hG.a 1 2 0 24 rfl) (by omega) (by decide) ?_
          refine j_icmp_lt (tgt := 47) dX2_lower_42 (by decide) (by omega) (fun c10 => ?_) (fun c10 => ?_)
          · refine j_aload_n dX2_lower_47 rfl rfl ?_
            refine j_getfield (v := .ref (k + 2)) dX2_lower_48 jf_X2_15 hG.1 rfl ?_
            refine j_iload_n dX2_lower_51 rfl rfl ?_
            refine j_aload_n dX2_lower_52 rfl rfl ?_
            refine j_getfield (v := .ref (k + 2)) dX2_lower_53 jf_X2_15 hG.1 rfl ?_
            refine j_iload_n dX2_lower_56 rfl rfl ?_
            refine j_iaload (f := G 1) dX2_lower_57 (hG.a 1 2 0 24 rfl) (by omega) (by decide) ?_
            refine jo_ias (S := sH) (k := k) dX2_lower_58 okH hG (i := 1) (p := 2) rfl (by omega) (by decide) (fun h11 hG11 hX11 => ?_)
            have hE12 := hE0.tr hX11
            refine j_iconst dX2_lower_59 ?_
            subst hZ
            exact j_ireturn dX2_lower_60 rfl rfl (jWi.i (by unfold lBi lLo; rw [bi_t (by omega), if_pos (by omega)]) hG11 hE12) (Nat.le_refl _) (Nat.le_refl _)
          · refine j_iconst dX2_lower_45 ?_
            subst hZ
            exact j_ireturn dX2_lower_46 rfl rfl (jWi.i (by unfold lBi; rw [bi_f (by omega), lLo_f (by omega), gs_id rfl]) hG hE0) (Nat.le_refl _) (Nat.le_refl _)
set_option maxHeartbeats 4000000 in
/-- Houses.lowerAll -/
theorem c2_lowerAll {k : Nat} {G : fS} {h : jH} (hG : jOb sH k G h) {kf : Nat} {F : fS} {B : Int} (hd : k + 3 ≤ kf ∨ kf + 7 ≤ k) (hF : jOb sF kf F h) (hO : jOk B F) (hl0 : hLs F (G 1)) : jM mX2_lowerAll 2 0 0 [] [.ref k, .ref kf] h (fun r h' => ∃ c L, r = some (iv c) ∧ jOb sH k (gs G 1 L) h' ∧ jEx k 3 h h' ∧ hLs F L ∧ (∀ x, L x ≤ G 1 x) ∧ eLw F (G 1) L 24 ∧ (c = 0 ∨ c = 1) ∧ (c = 0 → L = G 1)) jno := by
  refine j_method (by decide +kernel) rfl (fun _ _ _ => trivial) (Nat.le_of_ble_eq_true rfl) ?_
  generalize hZ : jZ [] 0 0 _ _ = Z
  show J mX2_lowerAll (jR 2 0 0) [] Z 0 [(0, .ref k), (1, .ref kf)] [] h 0 0
  have hE0 : jEx k 3 h h := jEx.rf
  refine j_iconst dX2_lowerAll_0 ?_
  refine j_istore_n (L' := [(0, _), (1, _), (2, _)]) dX2_lowerAll_1 rfl (by decide) rfl ?_
  refine j_iconst dX2_lowerAll_2 ?_
  refine j_istore_n (L' := [(0, _), (1, _), (2, _), (3, _)]) dX2_lowerAll_3 rfl (by decide) rfl ?_
  have hGr : jOb sH k (gs G 1 (G 1)) h := by rw [gs_id rfl]; exact hG
  refine jloop (P := fun z9 : Int × Int × (Int → Int) => ∀ h1 : jH, jOb sH k (gs G 1 z9.2.2) h1 → jOb sF kf F h1 → jEx k 3 h h1 → J mX2_lowerAll (jR 2 0 0) [] Z 4 [(0, .ref k), (1, .ref kf), (2, iv z9.1), (3, iv z9.2.1)] [] h1 0 0) (fun z9 => 0 ≤ z9.2.1 ∧ z9.2.1 ≤ 24 ∧ hLs F z9.2.2 ∧ (∀ x, z9.2.2 x ≤ G 1 x) ∧ eLw F (G 1) z9.2.2 z9.2.1 ∧ (z9.1 = 0 ∨ z9.1 = 1) ∧ (z9.1 = 0 → z9.2.2 = G 1)) (fun z9 => (24 - z9.2.1).toNat) ?_ (0, 0, G 1) ?_ _ hGr hF hE0
  · rintro ⟨c, i, L⟩ hinv ih
    dsimp only at hinv ih ⊢
    intro h2 hG3 hG4 hE5
    obtain ⟨i1, i2, i3, i4, i5, i6, i7⟩ := hinv
    have hff := hf24 hO i
    refine j_iload_n dX2_lowerAll_4 rfl rfl ?_
    refine j_bipush dX2_lowerAll_5 (by decide +kernel) ?_
    refine j_icmp_ge (tgt := 78) dX2_lowerAll_7 (by decide) (by omega) (fun c6 => ?_) (fun c6 => ?_)
    · refine j_iload_n dX2_lowerAll_78 rfl rfl ?_
      subst hZ
      exact j_ireturn dX2_lowerAll_79 rfl (by rcases i6 with q | q <;> rw [q] <;> rfl) ⟨_, _, rfl, hG3, hE5, i3, i4, (by rw [show i = 24 by omega] at i5; exact i5), i6, i7⟩ (Nat.le_refl _) (Nat.le_refl _)
    · refine j_aload_n dX2_lowerAll_10 rfl rfl ?_
      refine j_iload_n dX2_lowerAll_11 rfl rfl ?_
      refine j_callV (c_parentOf hG4.fam hO (by omega)) dX2_lowerAll_12 jc_X2_18 jmV_X1_parentOf rfl rfl hG4.1 rfl rfl (by simp) jfr_nil (Nat.le_of_ble_eq_true rfl) ⟨Nat.le_of_ble_eq_true rfl, Nat.le_of_ble_eq_true rfl⟩ ⟨Nat.le_of_ble_eq_true rfl, Nat.le_of_ble_eq_true rfl⟩ (fun r h7 hp9 => ?_) (fun E h9 q => q.elim)
      obtain ⟨rfl, rfl⟩ := hp9
      refine j_istore (L' := [(0, _), (1, _), (2, _), (3, _), (4, _)]) dX2_lowerAll_15 (by decide) rfl ?_
      refine j_aload_n dX2_lowerAll_17 rfl rfl ?_
      refine j_iload_n dX2_lowerAll_18 rfl rfl ?_
      refine j_iload dX2_lowerAll_19 rfl ?_
      refine j_callV (c2_lower hG3 (by omega) (by omega) (fun x a b => ⟨(i3 x a b).1, (i3 x a b).2.1⟩)) dX2_lowerAll_21 jc_X2_42 jmV_X2_lower rfl rfl hG3.1 rfl rfl (by simp) jfr_nil (Nat.le_of_ble_eq_true rfl) ⟨Nat.le_of_ble_eq_true rfl, Nat.le_of_ble_eq_true rfl⟩ ⟨Nat.le_of_ble_eq_true rfl, Nat.le_of_ble_eq_true rfl⟩ (fun r h8 hp9 => ?_) (fun E h9 q => q.elim)
      obtain ⟨rfl, hG9, hX10⟩ := hp9
      have hG11 := hG4.ex okF hX10 (by show kf + 7 ≤ k ∨ k + 3 ≤ kf; omega)
      have hE12 := hE5.tr hX10
      have hG13 : jOb sH k (gs G 1 (lLo L i (F 0 i))) h8 := Eq.mp (congrArg (fun z => jOb sH k z _) gs_gs) hG9
      show J _ _ _ _ _ _ (iv (lBi L i (F 0 i)) :: _) _ _ _
      refine j_istore (L' := [(0, _), (1, _), (2, _), (3, _), (4, _), (5, _)]) dX2_lowerAll_24 (by decide) rfl ?_
      refine j_aload_n dX2_lowerAll_26 rfl rfl ?_
      refine j_iload dX2_lowerAll_27 rfl ?_
      refine j_iload_n dX2_lowerAll_29 rfl rfl ?_
      refine j_callV (c2_lower hG13 (by omega) (by omega) (fun x a b => ⟨((i3.lo (kcn hO (by omega)).1) x a b).1, ((i3.lo (kcn hO (by omega)).1) x a b).2.1⟩)) dX2_lowerAll_30 jc_X2_42 jmV_X2_lower rfl rfl hG13.1 rfl rfl (by simp) jfr_nil (Nat.le_of_ble_eq_true rfl) ⟨Nat.le_of_ble_eq_true rfl, Nat.le_of_ble_eq_true rfl⟩ ⟨Nat.le_of_ble_eq_true rfl, Nat.le_of_ble_eq_true rfl⟩ (fun r h14 hp9 => ?_) (fun E h9 q => q.elim)
      obtain ⟨rfl, hG15, hX16⟩ := hp9
      have hG17 := hG11.ex okF hX16 (by show kf + 7 ≤ k ∨ k + 3 ≤ kf; omega)
      have hE18 := hE12.tr hX16
      have hG19 : jOb sH k (gs G 1 (lLo (lLo L i (F 0 i)) (F 0 i) i)) h14 := Eq.mp (congrArg (fun z => jOb sH k z _) gs_gs) hG15
      show J _ _ _ _ _ _ (iv (lBi (lLo L i (F 0 i)) (F 0 i) i) :: _) _ _ _
      refine j_istore (L' := [(0, _), (1, _), (2, _), (3, _), (4, _), (5, _), (6, _)]) dX2_lowerAll_33 (by decide) rfl ?_
      refine j_aload_n dX2_lowerAll_35 rfl rfl ?_
      refine j_aload_n dX2_lowerAll_36 rfl rfl ?_
      refine j_iload_n dX2_lowerAll_37 rfl rfl ?_
      refine j_callV (c_spouseOf hG17.fam hO (by omega)) dX2_lowerAll_38 jc_X2_28 jmV_X1_spouseOf rfl rfl hG17.1 rfl rfl (by simp) jfr_nil (Nat.le_of_ble_eq_true rfl) ⟨Nat.le_of_ble_eq_true rfl, Nat.le_of_ble_eq_true rfl⟩ ⟨Nat.le_of_ble_eq_true rfl, Nat.le_of_ble_eq_true rfl⟩ (fun r h20 hp9 => ?_) (fun E h9 q => q.elim)
      obtain ⟨rfl, rfl⟩ := hp9
      refine j_iload_n dX2_lowerAll_41 rfl rfl ?_
      refine j_callV (c2_lower hG19 (by omega) (by omega) (fun x a b => ⟨(((i3.lo (kcn hO (i := i) (by omega)).1).lo (kcn hO (by omega)).2) x a b).1, (((i3.lo (kcn hO (i := i) (by omega)).1).lo (kcn hO (by omega)).2) x a b).2.1⟩)) dX2_lowerAll_42 jc_X2_42 jmV_X2_lower rfl rfl hG19.1 rfl rfl (by simp) jfr_nil (Nat.le_of_ble_eq_true rfl) ⟨Nat.le_of_ble_eq_true rfl, Nat.le_of_ble_eq_true rfl⟩ ⟨Nat.le_of_ble_eq_true rfl, Nat.le_of_ble_eq_true rfl⟩ (fun r h21 hp9 => ?_) (fun E h9 q => q.elim)
      obtain ⟨rfl, hG22, hX23⟩ := hp9
      have hG24 := hG17.ex okF hX23 (by show kf + 7 ≤ k ∨ k + 3 ≤ kf; omega)
      have hE25 := hE18.tr hX23
      have hG26 : jOb sH k (gs G 1 (lLo (lLo (lLo L i (F 0 i)) (F 0 i) i) (F 1 i) i)) h21 := Eq.mp (congrArg (fun z => jOb sH k z _) gs_gs) hG22
      show J _ _ _ _ _ _ (iv (lBi (lLo (lLo L i (F 0 i)) (F 0 i) i) (F 1 i) i) :: _) _ _ _
      refine j_istore (L' := [(0, _), (1, _), (2, _), (3, _), (4, _), (5, _), (6, _), (7, _)]) dX2_lowerAll_45 (by decide) rfl ?_
      refine j_iload_n dX2_lowerAll_47 rfl rfl ?_
      refine j_if_ne (tgt := 66) dX2_lowerAll_48 (by decide) (by omega) (fun c27 => ?_) (fun c27 => ?_)
      · refine j_iconst dX2_lowerAll_66 ?_
        refine j_goto (tgt := 71) dX2_lowerAll_67 (by decide) ?_
        refine j_istore_n (L' := [(0, _), (1, _), (2, _), (3, _), (4, _), (5, _), (6, _), (7, _)]) dX2_lowerAll_71 rfl (by decide) rfl ?_
        refine j_iinc (L' := [(0, _), (1, _), (2, _), (3, _), (4, _), (5, _), (6, _), (7, _)]) dX2_lowerAll_72 rfl (by decide) rfl ?_
        refine j_goto (tgt := 4) dX2_lowerAll_75 (by decide) ?_
        refine J.keep [0, 1, 2, 3] (L' := [(0, _), (1, _), (2, _), (3, _)]) rfl ?_
        have w9 : ((1 : Int) = 0 → lSt F L i = G 1) := fun z => by cases z
        exact ih (1, i + 1, lSt F L i) ⟨by show 0 ≤ i + 1; omega, by show i + 1 ≤ 24; omega, lSt_ls hO (by omega) i3, fun x => Int.le_trans (lSt_le x) (i4 x), lSt_e hO (by omega) i4 i5, .inr rfl, w9⟩ (by show (24 - (i + 1)).toNat < (24 - i).toNat; omega) _ hG26 hG24 hE25
      · refine j_iload dX2_lowerAll_51 rfl ?_
        refine j_if_ne (tgt := 66) dX2_lowerAll_53 (by decide) (bi_r32 _) (fun c28 => ?_) (fun c28 => ?_)
        · refine j_iconst dX2_lowerAll_66 ?_
          refine j_goto (tgt := 71) dX2_lowerAll_67 (by decide) ?_
          refine j_istore_n (L' := [(0, _), (1, _), (2, _), (3, _), (4, _), (5, _), (6, _), (7, _)]) dX2_lowerAll_71 rfl (by decide) rfl ?_
          refine j_iinc (L' := [(0, _), (1, _), (2, _), (3, _), (4, _), (5, _), (6, _), (7, _)]) dX2_lowerAll_72 rfl (by decide) rfl ?_
          refine j_goto (tgt := 4) dX2_lowerAll_75 (by decide) ?_
          refine J.keep [0, 1, 2, 3] (L' := [(0, _), (1, _), (2, _), (3, _)]) rfl ?_
          have w9 : ((1 : Int) = 0 → lSt F L i = G 1) := fun z => by cases z
          exact ih (1, i + 1, lSt F L i) ⟨by show 0 ≤ i + 1; omega, by show i + 1 ≤ 24; omega, lSt_ls hO (by omega) i3, fun x => Int.le_trans (lSt_le x) (i4 x), lSt_e hO (by omega) i4 i5, .inr rfl, w9⟩ (by show (24 - (i + 1)).toNat < (24 - i).toNat; omega) _ hG26 hG24 hE25
        · refine j_iload dX2_lowerAll_56 rfl ?_
          refine j_if_ne (tgt := 66) dX2_lowerAll_58 (by decide) (bi_r32 _) (fun c29 => ?_) (fun c29 => ?_)
          · refine j_iconst dX2_lowerAll_66 ?_
            refine j_goto (tgt := 71) dX2_lowerAll_67 (by decide) ?_
            refine j_istore_n (L' := [(0, _), (1, _), (2, _), (3, _), (4, _), (5, _), (6, _), (7, _)]) dX2_lowerAll_71 rfl (by decide) rfl ?_
            refine j_iinc (L' := [(0, _), (1, _), (2, _), (3, _), (4, _), (5, _), (6, _), (7, _)]) dX2_lowerAll_72 rfl (by decide) rfl ?_
            refine j_goto (tgt := 4) dX2_lowerAll_75 (by decide) ?_
            refine J.keep [0, 1, 2, 3] (L' := [(0, _), (1, _), (2, _), (3, _)]) rfl ?_
            have w9 : ((1 : Int) = 0 → lSt F L i = G 1) := fun z => by cases z
            exact ih (1, i + 1, lSt F L i) ⟨by show 0 ≤ i + 1; omega, by show i + 1 ≤ 24; omega, lSt_ls hO (by omega) i3, fun x => Int.le_trans (lSt_le x) (i4 x), lSt_e hO (by omega) i4 i5, .inr rfl, w9⟩ (by show (24 - (i + 1)).toNat < (24 - i).toNat; omega) _ hG26 hG24 hE25
          · refine j_iload dX2_lowerAll_61 rfl ?_
            refine j_if_eq (tgt := 70) dX2_lowerAll_63 (by decide) (bi_r32 _) (fun c30 => ?_) (fun c30 => ?_)
            · refine j_iconst dX2_lowerAll_70 ?_
              refine j_istore_n (L' := [(0, _), (1, _), (2, _), (3, _), (4, _), (5, _), (6, _), (7, _)]) dX2_lowerAll_71 rfl (by decide) rfl ?_
              refine j_iinc (L' := [(0, _), (1, _), (2, _), (3, _), (4, _), (5, _), (6, _), (7, _)]) dX2_lowerAll_72 rfl (by decide) rfl ?_
              refine j_goto (tgt := 4) dX2_lowerAll_75 (by decide) ?_
              refine J.keep [0, 1, 2, 3] (L' := [(0, _), (1, _), (2, _), (3, _)]) rfl ?_
              have w9 : ((0 : Int) = 0 → lSt F L i = G 1) := fun _ => by unfold lSt; rw [lLo_0 (L := lLo (lLo L i (F 0 i)) (F 0 i) i) (p := F 1 i) (b := i) (by omega), lLo_0 (L := lLo L i (F 0 i)) (p := F 0 i) (b := i) (by omega), lLo_0 (L := L) (p := i) (b := F 0 i) (by omega)]; exact i7 (by omega)
              exact ih (0, i + 1, lSt F L i) ⟨by show 0 ≤ i + 1; omega, by show i + 1 ≤ 24; omega, lSt_ls hO (by omega) i3, fun x => Int.le_trans (lSt_le x) (i4 x), lSt_e hO (by omega) i4 i5, .inl rfl, w9⟩ (by show (24 - (i + 1)).toNat < (24 - i).toNat; omega) _ hG26 hG24 hE25
            · refine j_iconst dX2_lowerAll_66 ?_
              refine j_goto (tgt := 71) dX2_lowerAll_67 (by decide) ?_
              refine j_istore_n (L' := [(0, _), (1, _), (2, _), (3, _), (4, _), (5, _), (6, _), (7, _)]) dX2_lowerAll_71 rfl (by decide) rfl ?_
              refine j_iinc (L' := [(0, _), (1, _), (2, _), (3, _), (4, _), (5, _), (6, _), (7, _)]) dX2_lowerAll_72 rfl (by decide) rfl ?_
              refine j_goto (tgt := 4) dX2_lowerAll_75 (by decide) ?_
              refine J.keep [0, 1, 2, 3] (L' := [(0, _), (1, _), (2, _), (3, _)]) rfl ?_
              have w9 : ((1 : Int) = 0 → lSt F L i = G 1) := fun z => by cases z
              exact ih (1, i + 1, lSt F L i) ⟨by show 0 ≤ i + 1; omega, by show i + 1 ≤ 24; omega, lSt_ls hO (by omega) i3, fun x => Int.le_trans (lSt_le x) (i4 x), lSt_e hO (by omega) i4 i5, .inr rfl, w9⟩ (by show (24 - (i + 1)).toNat < (24 - i).toNat; omega) _ hG26 hG24 hE25
  · dsimp only
    exact ⟨by omega, by omega, hl0, fun _ => Int.le_refl _, fun q a b => absurd b (by omega), .inl rfl, fun _ => rfl⟩
set_option maxHeartbeats 4000000 in
/-- Houses.countAgain -/
theorem c2_countAgain {k : Nat} {G : fS} {h : jH} (hG : jOb sH k G h) {kf : Nat} {F : fS} {B : Int} (hd : k + 3 ≤ kf ∨ kf + 7 ≤ k) (hF : jOb sF kf F h) (hO : jOk B F) (hS : kSy F) : jM mX2_countAgain 3 0 0 [] [.ref k, .ref kf] h (fun r h' => r = some (iv (csum (fun p => bi (fho F p = p)) (F 6 0).toNat)) ∧ ∃ L, jOb sH k (gs G 1 L) h' ∧ jEx k 3 h h') jno := by
  refine j_method (by decide +kernel) rfl (fun _ _ _ => trivial) (Nat.le_of_ble_eq_true rfl) ?_
  generalize hZ : jZ [] 0 0 _ _ = Z
  show J mX2_countAgain (jR 3 0 0) [] Z 0 [(0, .ref k), (1, .ref kf)] [] h 0 0
  have hn := hO.n
  have hE0 : jEx k 3 h h := jEx.rf
  refine j_iconst dX2_countAgain_0 ?_
  refine j_istore_n (L' := [(0, _), (1, _), (2, _)]) dX2_countAgain_1 rfl (by decide) rfl ?_
  have hGr : jOb sH k (gs G 1 (G 1)) h := by rw [gs_id rfl]; exact hG
  refine jloop (P := fun z9 : Int × (Int → Int) => ∀ h1 : jH, jOb sH k (gs G 1 z9.2) h1 → jOb sF kf F h1 → jEx k 3 h h1 → J mX2_countAgain (jR 3 0 0) [] Z 2 [(0, .ref k), (1, .ref kf), (2, iv z9.1)] [] h1 0 0) (fun z9 => 0 ≤ z9.1 ∧ z9.1 ≤ 24 ∧ ∀ p, 0 ≤ p → p < z9.1 → z9.2 p = p) (fun z9 => (24 - z9.1).toNat) ?_ (0, G 1) ?_ _ hGr hF hE0
  · rintro ⟨j, X⟩ hinv0 ih0
    dsimp only at hinv0 ih0 ⊢
    intro h2 hG3 hG4 hE5
    obtain ⟨j1, j2, j3⟩ := hinv0
    refine j_iload_n dX2_countAgain_2 rfl rfl ?_
    refine j_bipush dX2_countAgain_3 (by decide +kernel) ?_
    refine j_icmp_ge (tgt := 21) dX2_countAgain_5 (by decide) (by omega) (fun c6 => ?_) (fun c6 => ?_)
    · refine j_iconst dX2_countAgain_21 ?_
      refine j_istore_n (L' := [(0, _), (1, _), (2, _)]) dX2_countAgain_22 rfl (by decide) rfl ?_
      refine j_iconst dX2_countAgain_23 ?_
      refine j_istore_n (L' := [(0, _), (1, _), (2, _), (3, _)]) dX2_countAgain_24 rfl (by decide) rfl ?_
      refine jloop (P := fun z9 : Int × Int × (Int → Int) => ∀ h7 : jH, jOb sH k (gs G 1 z9.2.2) h7 → jOb sF kf F h7 → jEx k 3 h h7 → J mX2_countAgain (jR 3 0 0) [] Z 25 [(0, .ref k), (1, .ref kf), (2, iv z9.1), (3, iv z9.2.1)] [] h7 0 0) (fun z9 => 0 ≤ z9.2.1 ∧ z9.2.1 ≤ 25 ∧ hLs F z9.2.2 ∧ (z9.1 = 0 ∨ z9.1 = 1) ∧ (lAr F z9.2.2 ∨ (z9.2.1 ≤ lCt F z9.2.2 ∧ z9.1 = 1))) (fun z9 => (25 - z9.2.1).toNat) ?_ (1, 0, X) ?_ _ hG3 hG4 hE5
      · rintro ⟨c, r, L⟩ hinv ih
        dsimp only at hinv ih ⊢
        intro h8 hG9 hG10 hE11
        obtain ⟨i1, i2, i3, i6, i7⟩ := hinv
        have i8 := lCt_le (L := L) hO
        refine j_iload_n dX2_countAgain_25 rfl rfl ?_
        refine j_bipush dX2_countAgain_26 (by decide +kernel) ?_
        refine j_icmp_gt (tgt := 47) dX2_countAgain_28 (by decide) (by omega) (fun c12 => ?_) (fun c12 => ?_)
        · refine j_iconst dX2_countAgain_47 ?_
          refine j_istore_n (L' := [(0, _), (1, _), (2, _), (3, _)]) dX2_countAgain_48 rfl (by decide) rfl ?_
          refine j_iconst dX2_countAgain_49 ?_
          refine j_istore (L' := [(0, _), (1, _), (2, _), (3, _), (4, _)]) dX2_countAgain_50 (by decide) rfl ?_
          refine J.keep [0, 1, 3, 4] (L' := [(0, _), (1, _), (3, _), (4, _)]) rfl ?_
          have hA9 : lAr F L := i7.elim id (fun q => by omega)
          refine jloop (P := fun z9 : Int × Int => J mX2_countAgain (jR 3 0 0) [] Z 52 [(0, .ref k), (1, .ref kf), (3, iv z9.1), (4, iv z9.2)] [] h8 0 0) (fun z9 => 0 ≤ z9.2 ∧ z9.2 ≤ F 6 0 ∧ z9.1 = csum (fun p => bi (fho F p = p)) z9.2.toNat) (fun z9 => (F 6 0 - z9.2).toNat) ?_ (0, 0) ?_
          · rintro ⟨a, i⟩ hinv2 ih2
            dsimp only at hinv2 ih2 ⊢
            obtain ⟨k1, k2, k3⟩ := hinv2
            refine j_iload dX2_countAgain_52 rfl ?_
            refine j_aload_n dX2_countAgain_54 rfl rfl ?_
            refine j_getfield (v := iv (F 6 0)) dX2_countAgain_55 jf_X2_34 hG10.1 rfl ?_
            refine j_icmp_ge (tgt := 94) dX2_countAgain_58 (by decide) (by omega) (fun c13 => ?_) (fun c13 => ?_)
            · refine j_iload_n dX2_countAgain_94 rfl rfl ?_
              subst hZ
              exact j_ireturn dX2_countAgain_95 rfl rfl ⟨by rw [k3, show i = F 6 0 by omega], _, hG9, hE11⟩ (Nat.le_refl _) (Nat.le_refl _)
            · refine j_iload dX2_countAgain_61 rfl ?_
              refine j_bipush dX2_countAgain_63 (by decide +kernel) ?_
              refine j_icmp_ge (tgt := 94) dX2_countAgain_65 (by decide) (by omega) (fun c14 => ?_) (fun c14 => ?_)
              · refine j_iload_n dX2_countAgain_94 rfl rfl ?_
                subst hZ
                exact j_ireturn dX2_countAgain_95 rfl rfl ⟨by rw [k3, show i = F 6 0 by omega], _, hG9, hE11⟩ (Nat.le_refl _) (Nat.le_refl _)
              · refine j_iload_n dX2_countAgain_68 rfl rfl ?_
                refine j_aload_n dX2_countAgain_69 rfl rfl ?_
                refine j_getfield (v := .ref (k + 2)) dX2_countAgain_70 jf_X2_15 hG9.1 rfl ?_
                refine j_iload dX2_countAgain_73 rfl ?_
                have r9 := i3 i k1 (by omega)
                refine j_iaload (f := L) dX2_countAgain_75 (hG9.a 1 2 0 24 rfl) (by omega) (by decide) ?_
                refine j_iload dX2_countAgain_76 rfl ?_
                refine j_icmp_ne (tgt := 85) dX2_countAgain_78 (by decide) (by omega) (fun c15 => ?_) (fun c15 => ?_)
                · refine j_iconst dX2_countAgain_85 ?_
                  refine j_iadd dX2_countAgain_86 ?_
                  refine j_istore_n (L' := [(0, _), (1, _), (3, _), (4, _)]) dX2_countAgain_87 rfl (by decide) rfl ?_
                  refine j_iinc (L' := [(0, _), (1, _), (3, _), (4, _)]) dX2_countAgain_88 rfl (by decide) rfl ?_
                  refine j_goto (tgt := 52) dX2_countAgain_91 (by decide) ?_
                  have e9 := csum_s (fun p => bi (fho F p = p)) k1
                  have e8 := hA9 i k1 (by omega)
                  rw [bi_f (by omega)] at e9
                  exact ih2 (a + 0, i + 1) ⟨by show 0 ≤ i + 1; omega, by show i + 1 ≤ F 6 0; omega, by rw [e9, k3]⟩ (by show (F 6 0 - (i + 1)).toNat < (F 6 0 - i).toNat; omega)
                · refine j_iconst dX2_countAgain_81 ?_
                  refine j_goto (tgt := 86) dX2_countAgain_82 (by decide) ?_
                  refine j_iadd dX2_countAgain_86 ?_
                  refine j_istore_n (L' := [(0, _), (1, _), (3, _), (4, _)]) dX2_countAgain_87 rfl (by decide) rfl ?_
                  refine j_iinc (L' := [(0, _), (1, _), (3, _), (4, _)]) dX2_countAgain_88 rfl (by decide) rfl ?_
                  refine j_goto (tgt := 52) dX2_countAgain_91 (by decide) ?_
                  have e9 := csum_s (fun p => bi (fho F p = p)) k1
                  have e8 := hA9 i k1 (by omega)
                  rw [bi_t (by omega)] at e9
                  exact ih2 (a + 1, i + 1) ⟨by show 0 ≤ i + 1; omega, by show i + 1 ≤ F 6 0; omega, by rw [e9, k3]⟩ (by show (F 6 0 - (i + 1)).toNat < (F 6 0 - i).toNat; omega)
          · dsimp only
            exact ⟨by omega, by omega, rfl⟩
        · refine j_iload_n dX2_countAgain_31 rfl rfl ?_
          refine j_if_eq (tgt := 47) dX2_countAgain_32 (by decide) (by omega) (fun c16 => ?_) (fun c16 => ?_)
          · refine j_iconst dX2_countAgain_47 ?_
            refine j_istore_n (L' := [(0, _), (1, _), (2, _), (3, _)]) dX2_countAgain_48 rfl (by decide) rfl ?_
            refine j_iconst dX2_countAgain_49 ?_
            refine j_istore (L' := [(0, _), (1, _), (2, _), (3, _), (4, _)]) dX2_countAgain_50 (by decide) rfl ?_
            refine J.keep [0, 1, 3, 4] (L' := [(0, _), (1, _), (3, _), (4, _)]) rfl ?_
            have hA9 : lAr F L := i7.elim id (fun q => by omega)
            refine jloop (P := fun z9 : Int × Int => J mX2_countAgain (jR 3 0 0) [] Z 52 [(0, .ref k), (1, .ref kf), (3, iv z9.1), (4, iv z9.2)] [] h8 0 0) (fun z9 => 0 ≤ z9.2 ∧ z9.2 ≤ F 6 0 ∧ z9.1 = csum (fun p => bi (fho F p = p)) z9.2.toNat) (fun z9 => (F 6 0 - z9.2).toNat) ?_ (0, 0) ?_
            · rintro ⟨a, i⟩ hinv2 ih2
              dsimp only at hinv2 ih2 ⊢
              obtain ⟨k1, k2, k3⟩ := hinv2
              refine j_iload dX2_countAgain_52 rfl ?_
              refine j_aload_n dX2_countAgain_54 rfl rfl ?_
              refine j_getfield (v := iv (F 6 0)) dX2_countAgain_55 jf_X2_34 hG10.1 rfl ?_
              refine j_icmp_ge (tgt := 94) dX2_countAgain_58 (by decide) (by omega) (fun c17 => ?_) (fun c17 => ?_)
              · refine j_iload_n dX2_countAgain_94 rfl rfl ?_
                subst hZ
                exact j_ireturn dX2_countAgain_95 rfl rfl ⟨by rw [k3, show i = F 6 0 by omega], _, hG9, hE11⟩ (Nat.le_refl _) (Nat.le_refl _)
              · refine j_iload dX2_countAgain_61 rfl ?_
                refine j_bipush dX2_countAgain_63 (by decide +kernel) ?_
                refine j_icmp_ge (tgt := 94) dX2_countAgain_65 (by decide) (by omega) (fun c18 => ?_) (fun c18 => ?_)
                · refine j_iload_n dX2_countAgain_94 rfl rfl ?_
                  subst hZ
                  exact j_ireturn dX2_countAgain_95 rfl rfl ⟨by rw [k3, show i = F 6 0 by omega], _, hG9, hE11⟩ (Nat.le_refl _) (Nat.le_refl _)
                · refine j_iload_n dX2_countAgain_68 rfl rfl ?_
                  refine j_aload_n dX2_countAgain_69 rfl rfl ?_
                  refine j_getfield (v := .ref (k + 2)) dX2_countAgain_70 jf_X2_15 hG9.1 rfl ?_
                  refine j_iload dX2_countAgain_73 rfl ?_
                  have r9 := i3 i k1 (by omega)
                  refine j_iaload (f := L) dX2_countAgain_75 (hG9.a 1 2 0 24 rfl) (by omega) (by decide) ?_
                  refine j_iload dX2_countAgain_76 rfl ?_
                  refine j_icmp_ne (tgt := 85) dX2_countAgain_78 (by decide) (by omega) (fun c19 => ?_) (fun c19 => ?_)
                  · refine j_iconst dX2_countAgain_85 ?_
                    refine j_iadd dX2_countAgain_86 ?_
                    refine j_istore_n (L' := [(0, _), (1, _), (3, _), (4, _)]) dX2_countAgain_87 rfl (by decide) rfl ?_
                    refine j_iinc (L' := [(0, _), (1, _), (3, _), (4, _)]) dX2_countAgain_88 rfl (by decide) rfl ?_
                    refine j_goto (tgt := 52) dX2_countAgain_91 (by decide) ?_
                    have e9 := csum_s (fun p => bi (fho F p = p)) k1
                    have e8 := hA9 i k1 (by omega)
                    rw [bi_f (by omega)] at e9
                    exact ih2 (a + 0, i + 1) ⟨by show 0 ≤ i + 1; omega, by show i + 1 ≤ F 6 0; omega, by rw [e9, k3]⟩ (by show (F 6 0 - (i + 1)).toNat < (F 6 0 - i).toNat; omega)
                  · refine j_iconst dX2_countAgain_81 ?_
                    refine j_goto (tgt := 86) dX2_countAgain_82 (by decide) ?_
                    refine j_iadd dX2_countAgain_86 ?_
                    refine j_istore_n (L' := [(0, _), (1, _), (3, _), (4, _)]) dX2_countAgain_87 rfl (by decide) rfl ?_
                    refine j_iinc (L' := [(0, _), (1, _), (3, _), (4, _)]) dX2_countAgain_88 rfl (by decide) rfl ?_
                    refine j_goto (tgt := 52) dX2_countAgain_91 (by decide) ?_
                    have e9 := csum_s (fun p => bi (fho F p = p)) k1
                    have e8 := hA9 i k1 (by omega)
                    rw [bi_t (by omega)] at e9
                    exact ih2 (a + 1, i + 1) ⟨by show 0 ≤ i + 1; omega, by show i + 1 ≤ F 6 0; omega, by rw [e9, k3]⟩ (by show (F 6 0 - (i + 1)).toNat < (F 6 0 - i).toNat; omega)
            · dsimp only
              exact ⟨by omega, by omega, rfl⟩
          · refine j_aload_n dX2_countAgain_35 rfl rfl ?_
            refine j_aload_n dX2_countAgain_36 rfl rfl ?_
            refine j_callV (c2_lowerAll hG9 hd hG10 hO i3) dX2_countAgain_37 jc_X2_38 jmV_X2_lowerAll rfl rfl hG9.1 rfl rfl (by simp) jfr_nil (Nat.le_of_ble_eq_true rfl) ⟨Nat.le_of_ble_eq_true rfl, Nat.le_of_ble_eq_true rfl⟩ ⟨Nat.le_of_ble_eq_true rfl, Nat.le_of_ble_eq_true rfl⟩ (fun r h21 hp9 => ?_) (fun E h9 q => q.elim)
            obtain ⟨d, M, rfl, hM, eM, m1, m2, m3, m4, m5⟩ := hp9
            have hG22 := hG10.ex okF eM (by show kf + 7 ≤ k ∨ k + 3 ≤ kf; omega)
            have hE23 := hE11.tr eM
            have hM2 : jOb sH k (gs G 1 M) h21 := Eq.mp (congrArg (fun z => jOb sH k z _) gs_gs) hM
            refine j_istore_n (L' := [(0, _), (1, _), (2, _), (3, _)]) dX2_countAgain_40 rfl (by decide) rfl ?_
            refine j_iinc (L' := [(0, _), (1, _), (2, _), (3, _)]) dX2_countAgain_41 rfl (by decide) rfl ?_
            refine j_goto (tgt := 25) dX2_countAgain_44 (by decide) ?_
            have w9 : lAr F M ∨ (r + 1 ≤ lCt F M ∧ d = 1) := by
              rcases lRound hO hS i3 m1 m2 m3 with q | q
              · exact .inl (q.st hO m1 m2)
              · rcases i7 with z | z
                · exact .inl (z.st hO m1 m2)
                · rcases m4 with w | w
                  · rw [show M = L from m5 w] at q; omega
                  · exact .inr ⟨by omega, w⟩
            exact ih (d, r + 1, M) ⟨by show 0 ≤ r + 1; omega, by show r + 1 ≤ 25; omega, m1, m4, w9⟩ (by show (25 - (r + 1)).toNat < (25 - r).toNat; omega) _ hM2 hG22 hE23
      · dsimp only
        exact ⟨by omega, by omega, fun x a b => by rw [j3 x a (by omega)]; exact ⟨a, Int.le_refl _, con.rf⟩, .inr rfl, .inr ⟨(csum_bi (P := fun x => X x = fho F x) _).1, rfl⟩⟩
    · refine j_aload_n dX2_countAgain_8 rfl rfl ?_
      refine j_getfield (v := .ref (k + 2)) dX2_countAgain_9 jf_X2_15 hG3.1 rfl ?_
      refine j_iload_n dX2_countAgain_12 rfl rfl ?_
      refine j_iload_n dX2_countAgain_13 rfl rfl ?_
      refine jo_ias (S := sH) (k := k) dX2_countAgain_14 okH hG3 (i := 1) (p := 2) rfl (by omega) (by decide) (fun h24 hG24 hX24 => ?_)
      have hG25 := hG4.ex okF hX24 (by show kf + 7 ≤ k ∨ k + 3 ≤ kf; omega)
      have hE26 := hE5.tr hX24
      refine j_iinc (L' := [(0, _), (1, _), (2, _)]) dX2_countAgain_15 rfl (by decide) rfl ?_
      refine j_goto (tgt := 2) dX2_countAgain_18 (by decide) ?_
      have hG9 : jOb sH k (gs G 1 (jfu X j j)) h24 := Eq.mp (congrArg (fun z => jOb sH k z _) gs_gs) hG24
      refine ih0 (j + 1, jfu X j j) ⟨by show 0 ≤ j + 1; omega, by show j + 1 ≤ 24; omega, fun p p0 p1 => ?_⟩ (by show (24 - (j + 1)).toNat < (24 - j).toNat; omega) _ hG9 hG25 hE26
      have p1 : p < j + 1 := p1
      show jfu X j j p = p
      by_cases hp : p = j
      · rw [hp, jfu_s]
      · rw [jfu_n hp]; exact j3 p p0 (by omega)
  · dsimp only
    exact ⟨by omega, by omega, fun p a b => by omega⟩
