def lLo (L : Int → Int) (p b : Int) : Int → Int := if (0 ≤ p ∧ p < 24 ∧ 0 ≤ b ∧ b < 24) ∧ L b < L p then jfu L p (L b) else L
def lBi (L : Int → Int) (p b : Int) : Int := bi ((0 ≤ p ∧ p < 24 ∧ 0 ≤ b ∧ b < 24) ∧ L b < L p)
theorem lLo_f {L : Int → Int} {p b : Int} (h : ¬ ((0 ≤ p ∧ p < 24 ∧ 0 ≤ b ∧ b < 24) ∧ L b < L p)) : lLo L p b = L := if_neg h
theorem lLo_0 {L : Int → Int} {p b : Int} (h : lBi L p b = 0) : lLo L p b = L := lLo_f (bi_z h)
theorem lLo_le {L : Int → Int} {p b : Int} (x : Int) : lLo L p b x ≤ L x := by
  by_cases e : (0 ≤ p ∧ p < 24 ∧ 0 ≤ b ∧ b < 24) ∧ L b < L p
  · rw [show lLo L p b = jfu L p (L b) from if_pos e]
    by_cases q : x = p
    · rw [q, jfu_s]; omega
    · rw [jfu_n q]; omega
  · rw [lLo_f e]; omega
theorem lLo_p {L : Int → Int} {p b : Int} (h : 0 ≤ p ∧ p < 24 ∧ 0 ≤ b ∧ b < 24) : lLo L p b p ≤ L b := by
  by_cases e : (0 ≤ p ∧ p < 24 ∧ 0 ≤ b ∧ b < 24) ∧ L b < L p
  · rw [show lLo L p b = jfu L p (L b) from if_pos e, jfu_s]; omega
  · rw [lLo_f e]; omega
/-- noted leasts of persons that hang together -/
def hLs (F : fS) (L : Int → Int) : Prop := ∀ x, 0 ≤ x → x < 24 → 0 ≤ L x ∧ L x ≤ x ∧ con F x (L x)
theorem hLs.lo {F : fS} {L : Int → Int} {p b : Int} (h : hLs F L) (hc : 0 ≤ p → 0 ≤ b → con F p b) : hLs F (lLo L p b) := by
  by_cases e : (0 ≤ p ∧ p < 24 ∧ 0 ≤ b ∧ b < 24) ∧ L b < L p
  · rw [show lLo L p b = jfu L p (L b) from if_pos e]
    intro x x0 x1
    by_cases q : x = p
    · rw [q, jfu_s]
      have hb := h b (by omega) (by omega)
      have hp := h p (by omega) (by omega)
      exact ⟨hb.1, by omega, (hc (by omega) (by omega)).tr hb.2.2⟩
    · rw [jfu_n q]; exact h x x0 x1
  · rw [lLo_f e]; exact h
def eLw (F : fS) (L0 L : Int → Int) (n : Int) : Prop := ∀ q, 0 ≤ q → q < n → (0 ≤ F 0 q → L q ≤ L0 (F 0 q) ∧ L (F 0 q) ≤ L0 q) ∧ (0 ≤ F 1 q → L (F 1 q) ≤ L0 q)
def lSt (F : fS) (L : Int → Int) (i : Int) : Int → Int := lLo (lLo (lLo L i (F 0 i)) (F 0 i) i) (F 1 i) i
theorem lSt_ls {B : Int} {F : fS} {L : Int → Int} {i : Int} (hO : jOk B F) (hi : 0 ≤ i ∧ i < 24) (h : hLs F L) : hLs F (lSt F L i) := by
  have key : ∀ y, 0 ≤ y → (F 0 i = y ∨ F 1 i = y) → con F i y := fun y hy e => by
    by_cases q : i < F 6 0
    · exact con.ed hi.1 q hy e
    · have := hO.df i (by omega); omega
  exact ((h.lo (fun _ q => key _ q (.inl rfl))).lo (fun q _ => (key _ q (.inl rfl)).sy)).lo (fun q _ => (key _ q (.inr rfl)).sy)
theorem lSt_le {F : fS} {L : Int → Int} {i : Int} (x : Int) : lSt F L i x ≤ L x := Int.le_trans (lLo_le x) (Int.le_trans (lLo_le x) (lLo_le x))
theorem lSt_e {B : Int} {F : fS} {L L0 : Int → Int} {i : Int} (hO : jOk B F) (hi : 0 ≤ i ∧ i < 24) (hl : ∀ x, L x ≤ L0 x) (h : eLw F L0 L i) : eLw F L0 (lSt F L i) (i + 1) := by
  intro q q0 q1
  have hf := hf24 hO i
  by_cases e : q = i
  · rw [e]
    refine ⟨fun z => ⟨?_, ?_⟩, fun z => ?_⟩
    · exact Int.le_trans (lLo_le _) (Int.le_trans (lLo_le _) (Int.le_trans (lLo_p (by omega)) (hl _)))
    · exact Int.le_trans (lLo_le _) (Int.le_trans (lLo_p (by omega)) (Int.le_trans (lLo_le _) (hl _)))
    · exact Int.le_trans (lLo_p (by omega)) (Int.le_trans (lLo_le _) (Int.le_trans (lLo_le _) (hl _)))
  · have w := h q q0 (by omega)
    exact ⟨fun z => ⟨Int.le_trans (lSt_le _) (w.1 z).1, Int.le_trans (lSt_le _) (w.1 z).2⟩, fun z => Int.le_trans (lSt_le _) (w.2 z)⟩
theorem csum_mo {f g : Int → Int} : ∀ k : Nat, (∀ i : Int, 0 ≤ i → i < k → f i ≤ g i) → csum f k ≤ csum g k
  | 0, _ => Int.le_refl _
  | k + 1, h => by
    have h1 := csum_mo k fun i h0 h1 => h i h0 (by omega)
    have h2 := h k (by omega) (by omega)
    show csum f k + f k ≤ csum g k + g k
    omega
theorem csum_lt {f g : Int → Int} : ∀ k : Nat, (∀ i : Int, 0 ≤ i → i < k → f i ≤ g i) → ∀ i : Int, 0 ≤ i → i < k → f i + 1 ≤ g i → csum f k + 1 ≤ csum g k
  | 0, _, _, _, h, _ => absurd h (by omega)
  | k + 1, h, i, h0, h1, h2 => by
    show csum f k + f k + 1 ≤ csum g k + g k
    have h4 := h k (by omega) (by omega)
    by_cases hi : i = k
    · have h3 := csum_mo k fun i h0 h1 => h i h0 (by omega)
      rw [hi] at h2
      omega
    · have h3 := csum_lt k (fun i h0 h1 => h i h0 (by omega)) i h0 (by omega) h2
      omega
theorem fho_cn {B : Int} {F : fS} (hO : jOk B F) {p q : Int} (hp : 0 ≤ p ∧ p < F 6 0) (h : con F p q) : fho F q = fho F p := by
  have a := fho_is hO hp
  exact isHo.is ⟨h.sy.tr a.1, fun z w => a.2 z (h.tr w)⟩
def lCt (F : fS) (L : Int → Int) : Int := csum (fun x => bi (L x = fho F x)) (F 6 0).toNat
def lAr (F : fS) (L : Int → Int) : Prop := ∀ x, 0 ≤ x → x < F 6 0 → L x = fho F x
theorem hLs.ge {B : Int} {F : fS} {L : Int → Int} (hO : jOk B F) (h : hLs F L) {x : Int} (hx : 0 ≤ x ∧ x < F 6 0) : fho F x ≤ L x := (fho_is hO hx).2 _ (h x hx.1 (by have := hO.n; omega)).2.2
/-- a round brings one more person to its house, or all were there -/
theorem lRound {B : Int} {F : fS} {L0 L : Int → Int} (hO : jOk B F) (hS : kSy F) (h0 : hLs F L0) (h : hLs F L) (hl : ∀ x, L x ≤ L0 x) (he : eLw F L0 L 24) : lAr F L0 ∨ lCt F L0 + 1 ≤ lCt F L := by
  have hn := hO.n
  have mono : ∀ i : Int, 0 ≤ i → i < (F 6 0).toNat → bi (L0 i = fho F i) ≤ bi (L i = fho F i) := fun i i0 i1 => by
    have a := h.ge hO (x := i) ⟨i0, by omega⟩
    have b := hl i
    by_cases e : L0 i = fho F i
    · rw [bi_t e, bi_t (show L i = fho F i by omega)]; exact Int.le_refl _
    · rw [bi_f e]
      by_cases e2 : L i = fho F i
      · rw [bi_t e2]; decide
      · rw [bi_f e2]; exact Int.le_refl _
  by_cases hx : ∃ x, (0 ≤ x ∧ x < F 6 0) ∧ L x = fho F x ∧ L0 x ≠ fho F x
  · obtain ⟨x, x0, x1, x2⟩ := hx
    refine .inr (csum_lt _ mono x x0.1 (by omega) ?_)
    show bi (L0 x = fho F x) + 1 ≤ bi (L x = fho F x)
    rw [bi_t x1, bi_f x2]
    decide
  · left
    intro p p0 p1
    have nw : ∀ x, 0 ≤ x → x < F 6 0 → L x = fho F x → L0 x = fho F x := fun x a b c => Decidable.not_not.mp fun q => hx ⟨x, ⟨a, b⟩, c, q⟩
    have im := fho_is hO (p := p) ⟨p0, p1⟩
    have rm := fho_rg hO (p := p) ⟨p0, p1⟩
    refine im.1.sy (fun z => L0 z = fho F z) ?_ fun x y x0 x1 y0 e => ?_
    · have a := h0 (fho F p) rm.1 (by omega)
      have b := im.2 _ (im.1.tr a.2.2)
      have c : fho F (fho F p) = fho F p := fho_cn hO ⟨p0, p1⟩ im.1
      show L0 (fho F p) = fho F (fho F p)
      omega
    · have hy : y < F 6 0 := by
        have := hO.p x
        have := hO.s x
        omega
      have c : fho F y = fho F x := fho_cn hO ⟨x0, x1⟩ (con.ed x0 x1 y0 e)
      have gx := h.ge hO (x := x) ⟨x0, x1⟩
      have gy := h.ge hO (x := y) ⟨y0, hy⟩
      have hb : L y ≤ L0 x ∧ L x ≤ L0 y := by
        rcases e with e | e
        · have w := (he x x0 (by omega)).1 (by omega)
          rw [e] at w
          exact ⟨w.2, w.1⟩
        · have w := (he x x0 (by omega)).2 (by omega)
          have s := hS x (by omega)
          rw [e] at w s
          have v := (he y y0 (by omega)).2 (by omega)
          rw [s] at v
          exact ⟨w, v⟩
      exact ⟨fun q => nw y y0 hy (by have : L0 x = fho F x := q; omega), fun q => nw x x0 x1 (by have : L0 y = fho F y := q; omega)⟩
theorem lCt_le {B : Int} {F : fS} {L : Int → Int} (hO : jOk B F) : lCt F L ≤ 24 := by
  have a := csum_bi (P := fun x => L x = fho F x) (F 6 0).toNat
  have := hO.n
  have b : lCt F L ≤ (F 6 0).toNat := a.2
  omega
theorem lAr.st {B : Int} {F : fS} {L0 L : Int → Int} (hO : jOk B F) (h : hLs F L) (hl : ∀ x, L x ≤ L0 x) (ha : lAr F L0) : lAr F L := fun x a b => by
  have := h.ge hO (x := x) ⟨a, b⟩
  have := hl x
  have := ha x a b
  omega
set_option maxHeartbeats 4000000 in
/-- Houses.lower -/
theorem c2_lower {k : Nat} {G : fS} {h : jH} (hG : jOb sH k G h) {p b : Int} (hp : -2147483648 ≤ p ∧ p ≤ 2147483647) (hb : -2147483648 ≤ b ∧ b ≤ 2147483647) (hL : ∀ x, 0 ≤ x → x < 24 → 0 ≤ G 1 x ∧ G 1 x ≤ x) : jM mX2_lower 1 0 0 [] [.ref k, iv p, iv b] h (jWi sH k (lBi (G 1) p b, gs G 1 (lLo (G 1) p b)) h) jno := by
  refine j_method (by decide +kernel) rfl (fun _ _ _ => trivial) (Nat.le_of_ble_eq_true rfl) ?_
  generalize hZ : jZ [] 0 0 _ _ = Z
  show J mX2_lower (jR 1 0 0) [] Z 0 [(0, .ref k), (1, iv p), (2, iv b)] [] h 0 0
  have hE0 : jEx k 3 h h := jEx.rf
  refine j_iload_n dX2_lower_0 rfl rfl ?_
  refine j_if_lt (tgt := 24) dX2_lower_1 (by decide) (by omega) (fun c1 => ?_) (fun c1 => ?_)
  · refine j_iconst dX2_lower_24 ?_
    refine j_istore_n (L' := [(0, _), (1, _), (2, _), (3, _)]) dX2_lower_25 rfl (by decide) rfl ?_
    refine j_iload_n dX2_lower_26 rfl rfl ?_
    refine j_if_eq (tgt := 45) dX2_lower_27 (by decide) (by omega) (fun c2 => ?_) (fun c2 => absurd (by decide) c2)
    refine j_iconst dX2_lower_45 ?_
    subst hZ
    exact j_ireturn dX2_lower_46 rfl rfl (jWi.i (by unfold lBi; rw [bi_f (by omega), lLo_f (by omega), gs_id rfl]) hG hE0) (Nat.le_refl _) (Nat.le_refl _)
  · refine j_iload_n dX2_lower_4 rfl rfl ?_
    refine j_bipush dX2_lower_5 (by decide +kernel) ?_
    refine j_icmp_ge (tgt := 24) dX2_lower_7 (by decide) (by omega) (fun c3 => ?_) (fun c3 => ?_)
    · refine j_iconst dX2_lower_24 ?_
      refine j_istore_n (L' := [(0, _), (1, _), (2, _), (3, _)]) dX2_lower_25 rfl (by decide) rfl ?_
      refine j_iload_n dX2_lower_26 rfl rfl ?_
      refine j_if_eq (tgt := 45) dX2_lower_27 (by decide) (by omega) (fun c4 => ?_) (fun c4 => absurd (by decide) c4)
      refine j_iconst dX2_lower_45 ?_
      subst hZ
      exact j_ireturn dX2_lower_46 rfl rfl (jWi.i (by unfold lBi; rw [bi_f (by omega), lLo_f (by omega), gs_id rfl]) hG hE0) (Nat.le_refl _) (Nat.le_refl _)
    · refine j_iload_n dX2_lower_10 rfl rfl ?_
      refine j_if_lt (tgt := 24) dX2_lower_11 (by decide) (by omega) (fun c5 => ?_) (fun c5 => ?_)
      · refine j_iconst dX2_lower_24 ?_
        refine j_istore_n (L' := [(0, _), (1, _), (2, _), (3, _)]) dX2_lower_25 rfl (by decide) rfl ?_
        refine j_iload_n dX2_lower_26 rfl rfl ?_
        refine j_if_eq (tgt := 45) dX2_lower_27 (by decide) (by omega) (fun c6 => ?_) (fun c6 => absurd (by decide) c6)
        refine j_iconst dX2_lower_45 ?_
        subst hZ
        exact j_ireturn dX2_lower_46 rfl rfl (jWi.i (by unfold lBi; rw [bi_f (by omega), lLo_f (by omega), gs_id rfl]) hG hE0) (Nat.le_refl _) (Nat.le_refl _)
      · refine j_iload_n dX2_lower_14 rfl rfl ?_
        refine j_bipush dX2_lower_15 (by decide +kernel) ?_
        refine j_icmp_ge (tgt := 24) dX2_lower_17 (by decide) (by omega) (fun c7 => ?_) (fun c7 => ?_)
        · refine j_iconst dX2_lower_24 ?_
          refine j_istore_n (L' := [(0, _), (1, _), (2, _), (3, _)]) dX2_lower_25 rfl (by decide) rfl ?_
          refine j_iload_n dX2_lower_26 rfl rfl ?_
          refine j_if_eq (tgt := 45) dX2_lower_27 (by decide) (by omega) (fun c8 => ?_) (fun c8 => absurd (by decide) c8)
          refine j_iconst dX2_lower_45 ?_
          subst hZ
          exact j_ireturn dX2_lower_46 rfl rfl (jWi.i (by unfold lBi; rw [bi_f (by omega), lLo_f (by omega), gs_id rfl]) hG hE0) (Nat.le_refl _) (Nat.le_refl _)
        · refine j_iconst dX2_lower_20 ?_
          refine j_goto (tgt := 25) dX2_lower_21 (by decide) ?_
          refine j_istore_n (L' := [(0, _), (1, _), (2, _), (3, _)]) dX2_lower_25 rfl (by decide) rfl ?_
          refine j_iload_n dX2_lower_26 rfl rfl ?_
          refine j_if_eq (tgt := 45) dX2_lower_27 (by decide) (by omega) (fun c9 => absurd c9 (by decide)) (fun c9 => ?_)
          refine j_aload_n dX2_lower_30 rfl rfl ?_
          refine j_getfield (v := .ref (k + 2)) dX2_lower_31 jf_X2_15 hG.1 rfl ?_
          refine j_iload_n dX2_lower_34 rfl rfl ?_
          have r8 := hL b (by omega) (by omega)
          have r9 := hL p (by omega) (by omega)
          refine j_iaload (f := G 1) dX2_lower_35 (hG.a 1 2 0 24 rfl) (by omega) (by decide) ?_
          refine j_aload_n dX2_lower_36 rfl rfl ?_
          refine j_getfield (v := .ref (k + 2)) dX2_lower_37 jf_X2_15 hG.1 rfl ?_
          refine j_iload_n dX2_lower_40 rfl rfl ?_
          refine j_iaload (f := G 1) dX2_lower_41 (hG.a 1 2 0 24 rfl) (by omega) (by decide) ?_
          refine j_icmp_lt (tgt := 47) dX2_lower_42 (by decide) (by omega) (fun c10 => ?_) (fun c10 => ?_)
          · refine j_aload_n dX2_lower_47 rfl rfl ?_
            refine j_getfield (v := .ref (k + 2)) dX2_lower_48 jf_X2_15 hG.1 rfl ?_
            refine j_iload_n dX2_lower_51 rfl rfl ?_
            refine j_aload_n dX2_lower_52 rfl rfl ?_
            refine j_getfield (v := .ref (k + 2)) dX2_lower_53 jf_X2_15 hG.1 rfl ?_
            refine j_iload_n dX2_lower_56 rfl rfl ?_
            refine j_iaload (f := G 1) dX2_lower_57 (hG.a 1 2 0 24 rfl) (by omega) (by decide) ?_
            refine jo_ias (S := sH) (k := k) dX2_lower_58 okH hG (i := 1) (p := 2) rfl (by omega) (by decide) (fun h11 hG11 hX11 => ?_)
            have hE12 := hE0.tr hX11
            refine j_iconst dX2_lower_59 ?_
            subst hZ
            exact j_ireturn dX2_lower_60 rfl rfl (jWi.i (by unfold lBi lLo; rw [bi_t (by omega), if_pos (by omega)]) hG11 hE12) (Nat.le_refl _) (Nat.le_refl _)
          · refine j_iconst dX2_lower_45 ?_
            subst hZ
            exact j_ireturn dX2_lower_46 rfl rfl (jWi.i (by unfold lBi; rw [bi_f (by omega), lLo_f (by omega), gs_id rfl]) hG hE0) (Nat.le_refl _) (Nat.le_refl _)
