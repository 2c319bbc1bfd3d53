/-- the head above x -/
def hfo (H : Int → Int) : Nat → Int → Int
  | 0, x => x
  | n + 1, x => if 0 ≤ H x ∧ H x < x then hfo H n (H x) else x
def hof (H : Int → Int) (p : Int) : Int := hfo H 24 p
def hRg (H : Int → Int) : Prop := ∀ x : Int, 0 ≤ x → x < 24 → 0 ≤ H x ∧ H x ≤ x
theorem hfo_st {H : Int → Int} {x : Int} {n : Nat} (h : 0 ≤ H x ∧ H x < x) : hfo H (n + 1) x = hfo H n (H x) := if_pos h
theorem hfo_e {H : Int → Int} {x : Int} {n : Nat} (h : ¬ (0 ≤ H x ∧ H x < x)) : hfo H n x = x := by
  cases n with
  | zero => rfl
  | succ n => exact if_neg h
theorem hfo_k {H : Int → Int} (hR : hRg H) : ∀ (n : Nat) (x : Int), 0 ≤ x → x < 24 → x ≤ n → ∀ m : Nat, n ≤ m → hfo H m x = hfo H n x
  | 0, x, h0, _, h2, m, _ => by
    have e : ¬ (0 ≤ H x ∧ H x < x) := by omega
    rw [hfo_e e, hfo_e e]
  | n + 1, x, h0, h1, h2, m, hm => by
    by_cases e : 0 ≤ H x ∧ H x < x
    · cases m with
      | zero => exact absurd hm (by omega)
      | succ m =>
        rw [hfo_st e, hfo_st e]
        exact hfo_k hR n (H x) e.1 (by omega) (by omega) m (by omega)
    · rw [hfo_e e, hfo_e e]
theorem hof_st {H : Int → Int} (hR : hRg H) {x : Int} (h0 : 0 ≤ x ∧ x < 24) (h : H x < x) : hof H x = hof H (H x) := by
  have r := hR x h0.1 h0.2
  show hfo H (23 + 1) x = hfo H 24 (H x)
  rw [hfo_st ⟨r.1, h⟩, hfo_k hR 23 (H x) r.1 (by omega) (by omega) 24 (by decide)]
theorem hof_rt {H : Int → Int} {x : Int} (h : H x = x) : hof H x = x := hfo_e (by omega)
theorem hof_i {H : Int → Int} (hR : hRg H) {Q : Int → Int → Prop} (h1 : ∀ x, 0 ≤ x → x < 24 → H x = x → Q x x) (h2 : ∀ x r, 0 ≤ x → x < 24 → H x < x → Q (H x) r → Q x r) : ∀ (n : Nat) (x : Int), 0 ≤ x → x < 24 → x ≤ n → Q x (hof H x)
  | 0, x, a, b, c => by
    have r := hR x a b
    have e : H x = x := by omega
    rw [hof_rt e]
    exact h1 x a b e
  | n + 1, x, a, b, c => by
    have r := hR x a b
    by_cases e : H x = x
    · rw [hof_rt e]
      exact h1 x a b e
    · rw [hof_st hR ⟨a, b⟩ (by omega)]
      exact h2 x _ a b (by omega) (hof_i hR h1 h2 n (H x) r.1 (by omega) (by omega))
theorem hof_ind {H : Int → Int} (hR : hRg H) {Q : Int → Int → Prop} (h1 : ∀ x, 0 ≤ x → x < 24 → H x = x → Q x x) (h2 : ∀ x r, 0 ≤ x → x < 24 → H x < x → Q (H x) r → Q x r) {x : Int} (hx : 0 ≤ x ∧ x < 24) : Q x (hof H x) := hof_i hR h1 h2 x.toNat x hx.1 hx.2 (by omega)
theorem hof_rg {H : Int → Int} (hR : hRg H) {x : Int} (hx : 0 ≤ x ∧ x < 24) : 0 ≤ hof H x ∧ hof H x ≤ x :=
  hof_ind (Q := fun x r => 0 ≤ r ∧ r ≤ x) hR (fun x a _ _ => ⟨a, Int.le_refl _⟩) (fun x r _ _ l q => ⟨q.1, by omega⟩) hx
theorem hof_root {H : Int → Int} (hR : hRg H) {x : Int} (hx : 0 ≤ x ∧ x < 24) : H (hof H x) = hof H x :=
  hof_ind (Q := fun _ r => H r = r) hR (fun _ _ _ e => e) (fun _ _ _ _ _ q => q) hx
theorem hRg_u {H : Int → Int} (hR : hRg H) {a b : Int} (h : 0 ≤ b ∧ b ≤ a) : hRg (jfu H a b) := fun x x0 x1 => by
  by_cases e : x = a
  · rw [e, jfu_s]; exact h
  · rw [jfu_n e]; exact hR x x0 x1
/-- one head laid under another -/
theorem hof_u {H : Int → Int} (hR : hRg H) {a b : Int} (ha : H a = a) (hb : H b = b) (h : 0 ≤ b ∧ b ≤ a ∧ a < 24) {x : Int} (hx : 0 ≤ x ∧ x < 24) : hof (jfu H a b) x = if hof H x = a then b else hof H x := by
  have hR2 := hRg_u hR (a := a) (b := b) ⟨h.1, h.2.1⟩
  refine hof_ind (Q := fun x r => hof (jfu H a b) x = if r = a then b else r) hR (fun x x0 x1 e => ?_) (fun x r x0 x1 l q => ?_) hx
  · by_cases z : x = a
    · rw [if_pos z, z]
      by_cases w : b = a
      · rw [hof_rt (by rw [jfu_s]; exact w)]; exact w.symm
      · rw [hof_st hR2 (x := a) ⟨by omega, by omega⟩ (by rw [jfu_s]; omega), jfu_s]
        exact hof_rt (by rw [jfu_n w]; exact hb)
    · rw [if_neg z]
      exact hof_rt (by rw [jfu_n z]; exact e)
  · have z : x ≠ a := fun z => by rw [z] at l; omega
    rw [hof_st hR2 ⟨x0, x1⟩ (by rw [jfu_n z]; exact l), jfu_n z]
    exact q
def hjo (H : Int → Int) (p o : Int) : Int → Int := if o < 0 then H else if hof H p < hof H o then jfu H (hof H o) (hof H p) else jfu H (hof H p) (hof H o)
/-- what holds while houses are told: of the persons before n all parents, of those before m all spouses are joined -/
def hIn (F : fS) (H : Int → Int) (n m : Int) : Prop := hRg H ∧ (∀ x, 0 ≤ x → x < 24 → con F x (H x)) ∧ (∀ x, 0 ≤ x → x < n → 0 ≤ F 0 x → hof H x = hof H (F 0 x)) ∧ ∀ x, 0 ≤ x → x < m → 0 ≤ F 1 x → hof H x = hof H (F 1 x)
theorem hof_con {F : fS} {H : Int → Int} (hR : hRg H) (hc : ∀ x, 0 ≤ x → x < 24 → con F x (H x)) {x : Int} (hx : 0 ≤ x ∧ x < 24) : con F x (hof H x) :=
  hof_ind (Q := fun x r => con F x r) hR (fun _ _ _ _ => con.rf) (fun x _ x0 x1 _ q => (hc x x0 x1).tr q) hx
theorem hjo_u {F : fS} {H : Int → Int} {p o : Int} (hR : hRg H) (hc : ∀ x, 0 ≤ x → x < 24 → con F x (H x)) (hp : 0 ≤ p ∧ p < 24) (ho : 0 ≤ o ∧ o < 24) (hpo : con F p o) : ∃ a b, hjo H p o = jfu H a b ∧ H a = a ∧ H b = b ∧ (0 ≤ b ∧ b ≤ a ∧ a < 24) ∧ con F a b ∧ (hof H p = a ∨ hof H p = b) ∧ (hof H o = a ∨ hof H o = b) := by
  have r1 := hof_rg hR hp
  have r2 := hof_rg hR ho
  have c1 := hof_con hR hc hp
  have c2 := hof_con hR hc ho
  have c3 : con F (hof H p) (hof H o) := c1.sy.tr (hpo.tr c2)
  unfold hjo
  rw [if_neg (by omega)]
  by_cases e : hof H p < hof H o
  · rw [if_pos e]
    exact ⟨_, _, rfl, hof_root hR ho, hof_root hR hp, by omega, c3.sy, .inr rfl, .inl rfl⟩
  · rw [if_neg e]
    exact ⟨_, _, rfl, hof_root hR hp, hof_root hR ho, by omega, c3, .inl rfl, .inr rfl⟩
theorem hjo_in {F : fS} {H : Int → Int} {n m p o : Int} (h : hIn F H n m) (hn : n ≤ 24 ∧ m ≤ 24) (hp : 0 ≤ p ∧ p < 24) (ho : -1 ≤ o ∧ o < 24) (hpo : 0 ≤ o → con F p o) (hf : ∀ x, -1 ≤ F 0 x ∧ F 0 x < 24 ∧ -1 ≤ F 1 x ∧ F 1 x < 24) : hIn F (hjo H p o) n m ∧ (0 ≤ o → hof (hjo H p o) p = hof (hjo H p o) o) := by
  obtain ⟨h1, h2, h3, h4⟩ := h
  by_cases e : o < 0
  · have : hjo H p o = H := if_pos e
    rw [this]
    exact ⟨⟨h1, h2, h3, h4⟩, fun q => absurd q (by omega)⟩
  · obtain ⟨a, b, e1, e2, e3, e4, e5, e6, e7⟩ := hjo_u h1 h2 hp (show 0 ≤ o ∧ o < 24 by omega) (hpo (by omega))
    rw [e1]
    have u := fun x (hx : 0 ≤ x ∧ x < 24) => hof_u h1 e2 e3 e4 (x := x) hx
    refine ⟨⟨hRg_u h1 ⟨e4.1, e4.2.1⟩, fun x x0 x1 => ?_, fun x x0 x1 x2 => ?_, fun x x0 x1 x2 => ?_⟩, fun _ => ?_⟩
    · by_cases z : x = a
      · rw [z, jfu_s]; exact e5
      · rw [jfu_n z]; exact h2 x x0 x1
    · rw [u x (by omega), u (F 0 x) (by have := hf x; omega), h3 x x0 x1 x2]
    · rw [u x (by omega), u (F 1 x) (by have := hf x; omega), h4 x x0 x1 x2]
    · rw [u p hp, u o (by omega)]
      rcases e6 with q | q <;> rcases e7 with w | w <;> rw [q, w]
      · rw [if_pos rfl]
        by_cases z : b = a
        · rw [if_pos z]
        · rw [if_neg z]
      · rw [if_pos rfl]
        by_cases z : b = a
        · rw [if_pos z]
        · rw [if_neg z]
/-- the heads tell the houses -/
def hHo (F H : fS) : Prop := hRg (H 0) ∧ ∀ p, 0 ≤ p → p < F 6 0 → hof (H 0) p = fho F p
theorem hHo.of {B : Int} {F H : fS} (hO : jOk B F) (h : hIn F (H 0) 24 24) : hHo F H := by
  obtain ⟨h1, h2, h3, h4⟩ := h
  have hn := hO.n
  refine ⟨h1, fun p p0 p1 => ((isHo.fix hO (H := hof (H 0)) (fun p a b => hof_con h1 h2 (by omega)) (fun p a b => (hof_rg h1 (by omega)).2) (fun x y x0 x1 y0 e => ?_) ⟨p0, p1⟩).is).symm⟩
  rcases e with e | e
  · rw [← e]; exact h3 x x0 (by omega) (by omega)
  · rw [← e]; exact h4 x x0 (by omega) (by omega)
set_option maxHeartbeats 4000000 in
/-- Houses.houseOf -/
theorem c2_houseOf {k : Nat} {G : fS} {h : jH} (hG : jOb sH k G h) {p : Int} (hp : -2147483648 ≤ p ∧ p ≤ 2147483647) (hR : hRg (G 0)) : jM mX2_houseOf 1 0 0 [] [.ref k, iv p] h (jRet (iv (if 0 ≤ p ∧ p < 24 then hof (G 0) p else -1)) h) jno := by
  refine j_method (by decide +kernel) rfl (fun _ _ _ => trivial) (Nat.le_of_ble_eq_true rfl) ?_
  generalize hZ : jZ [] 0 0 _ _ = Z
  show J mX2_houseOf (jR 1 0 0) [] Z 0 [(0, .ref k), (1, iv p)] [] h 0 0
  refine j_iload_n dX2_houseOf_0 rfl rfl ?_
  refine j_if_lt (tgt := 10) dX2_houseOf_1 (by decide) (by omega) (fun c1 => ?_) (fun c1 => ?_)
  · refine j_iconst dX2_houseOf_10 ?_
    subst hZ
    exact j_ireturn dX2_houseOf_11 rfl rfl (jRet.i (by rw [if_neg (by omega)])) (Nat.le_refl _) (Nat.le_refl _)
  · refine j_iload_n dX2_houseOf_4 rfl rfl ?_
    refine j_bipush dX2_houseOf_5 (by decide +kernel) ?_
    refine j_icmp_lt (tgt := 12) dX2_houseOf_7 (by decide) (by omega) (fun c2 => ?_) (fun c2 => ?_)
    · refine j_iload_n dX2_houseOf_12 rfl rfl ?_
      refine j_istore_n (L' := [(0, _), (1, _), (2, _)]) dX2_houseOf_13 rfl (by decide) rfl ?_
      refine j_iconst dX2_houseOf_14 ?_
      refine j_istore_n (L' := [(0, _), (1, _), (2, _), (3, _)]) dX2_houseOf_15 rfl (by decide) rfl ?_
      refine jloop (P := fun z9 : Int × Int => J mX2_houseOf (jR 1 0 0) [] Z 16 [(0, .ref k), (1, iv p), (2, iv z9.1), (3, iv z9.2)] [] h 0 0) (fun z9 => 0 ≤ z9.2 ∧ z9.2 ≤ 24 ∧ 0 ≤ z9.1 ∧ z9.1 < 24 ∧ hof (G 0) p = hfo (G 0) (24 - z9.2).toNat z9.1) (fun z9 => (24 - z9.2).toNat) ?_ (p, 0) ?_
      · rintro ⟨a, i⟩ hinv ih
        dsimp only at hinv ih ⊢
        obtain ⟨i1, i2, i3, i4, i5⟩ := hinv
        have r9 := hR a i3 i4
        refine j_iload_n dX2_houseOf_16 rfl rfl ?_
        refine j_bipush dX2_houseOf_17 (by decide +kernel) ?_
        refine j_icmp_ge (tgt := 54) dX2_houseOf_19 (by decide) (by omega) (fun c3 => ?_) (fun c3 => ?_)
        · refine j_iload_n dX2_houseOf_54 rfl rfl ?_
          subst hZ
          exact j_ireturn dX2_houseOf_55 rfl rfl (jRet.i (by rw [if_pos (by omega), i5]; first | (rw [show (24 - i).toNat = 0 by omega]; rfl) | exact (hfo_e (H := G 0) (x := a) (by omega)))) (Nat.le_refl _) (Nat.le_refl _)
        · refine j_aload_n dX2_houseOf_22 rfl rfl ?_
          refine j_getfield (v := .ref (k + 1)) dX2_houseOf_23 jf_X2_9 hG.1 rfl ?_
          refine j_iload_n dX2_houseOf_26 rfl rfl ?_
          refine j_iaload (f := G 0) dX2_houseOf_27 (hG.a 0 1 0 24 rfl) (by omega) (by decide) ?_
          refine j_if_lt (tgt := 54) dX2_houseOf_28 (by decide) (by omega) (fun c4 => ?_) (fun c4 => ?_)
          · refine j_iload_n dX2_houseOf_54 rfl rfl ?_
            subst hZ
            exact j_ireturn dX2_houseOf_55 rfl rfl (jRet.i (by rw [if_pos (by omega), i5]; first | (rw [show (24 - i).toNat = 0 by omega]; rfl) | exact (hfo_e (H := G 0) (x := a) (by omega)))) (Nat.le_refl _) (Nat.le_refl _)
          · refine j_aload_n dX2_houseOf_31 rfl rfl ?_
            refine j_getfield (v := .ref (k + 1)) dX2_houseOf_32 jf_X2_9 hG.1 rfl ?_
            refine j_iload_n dX2_houseOf_35 rfl rfl ?_
            refine j_iaload (f := G 0) dX2_houseOf_36 (hG.a 0 1 0 24 rfl) (by omega) (by decide) ?_
            refine j_iload_n dX2_houseOf_37 rfl rfl ?_
            refine j_icmp_ge (tgt := 54) dX2_houseOf_38 (by decide) (by omega) (fun c5 => ?_) (fun c5 => ?_)
            · refine j_iload_n dX2_houseOf_54 rfl rfl ?_
              subst hZ
              exact j_ireturn dX2_houseOf_55 rfl rfl (jRet.i (by rw [if_pos (by omega), i5]; first | (rw [show (24 - i).toNat = 0 by omega]; rfl) | exact (hfo_e (H := G 0) (x := a) (by omega)))) (Nat.le_refl _) (Nat.le_refl _)
            · refine j_aload_n dX2_houseOf_41 rfl rfl ?_
              refine j_getfield (v := .ref (k + 1)) dX2_houseOf_42 jf_X2_9 hG.1 rfl ?_
              refine j_iload_n dX2_houseOf_45 rfl rfl ?_
              refine j_iaload (f := G 0) dX2_houseOf_46 (hG.a 0 1 0 24 rfl) (by omega) (by decide) ?_
              refine j_istore_n (L' := [(0, _), (1, _), (2, _), (3, _)]) dX2_houseOf_47 rfl (by decide) rfl ?_
              refine j_iinc (L' := [(0, _), (1, _), (2, _), (3, _)]) dX2_houseOf_48 rfl (by decide) rfl ?_
              refine j_goto (tgt := 16) dX2_houseOf_51 (by decide) ?_
              rw [show (24 - i).toNat = (24 - (i + 1)).toNat + 1 by omega, hfo_st (by omega)] at i5
              exact ih (G 0 a, i + 1) ⟨by show 0 ≤ i + 1; omega, by show i + 1 ≤ 24; omega, by show 0 ≤ G 0 a; omega, by show G 0 a < 24; omega, i5⟩ (by show (24 - (i + 1)).toNat < (24 - i).toNat; omega)
      · dsimp only
        exact ⟨by omega, by omega, by omega, by omega, rfl⟩
    · refine j_iconst dX2_houseOf_10 ?_
      subst hZ
      exact j_ireturn dX2_houseOf_11 rfl rfl (jRet.i (by rw [if_neg (by omega)])) (Nat.le_refl _) (Nat.le_refl _)
set_option maxHeartbeats 4000000 in
/-- Houses.join -/
theorem c2_join {k : Nat} {G : fS} {h : jH} (hG : jOb sH k G h) {p o : Int} (hp : 0 ≤ p ∧ p < 24) (ho : -1 ≤ o ∧ o < 24) (hR : hRg (G 0)) : jM mX2_join 2 0 0 [] [.ref k, iv p, iv o] h (jWv sH k (gs G 0 (hjo (G 0) p o)) h) jno := by
  refine j_method (by decide +kernel) rfl (fun _ _ _ => trivial) (Nat.le_of_ble_eq_true rfl) ?_
  generalize hZ : jZ [] 0 0 _ _ = Z
  show J mX2_join (jR 2 0 0) [] Z 0 [(0, .ref k), (1, iv p), (2, iv o)] [] h 0 0
  have hE0 : jEx k 3 h h := jEx.rf
  refine j_aload_n dX2_join_0 rfl rfl ?_
  refine j_iload_n dX2_join_1 rfl rfl ?_
  refine j_callV (c2_houseOf hG (by omega) hR) dX2_join_2 jc_X2_31 jmV_X2_houseOf rfl rfl hG.1 rfl rfl (by simp) jfr_nil (Nat.le_of_ble_eq_true rfl) ⟨Nat.le_of_ble_eq_true rfl, Nat.le_of_ble_eq_true rfl⟩ ⟨Nat.le_of_ble_eq_true rfl, Nat.le_of_ble_eq_true rfl⟩ (fun r h2 hp9 => ?_) (fun E h9 q => q.elim)
  obtain ⟨rfl, rfl⟩ := hp9
  rw [if_pos (show 0 ≤ p ∧ p < 24 by omega)]
  have hrz1 := hof_rg hR (x := p) (by omega)
  refine j_istore_n (L' := [(0, _), (1, _), (2, _), (3, _)]) dX2_join_5 rfl (by decide) rfl ?_
  refine j_aload_n dX2_join_6 rfl rfl ?_
  refine j_iload_n dX2_join_7 rfl rfl ?_
  refine j_callV (c2_houseOf hG (by omega) hR) dX2_join_8 jc_X2_31 jmV_X2_houseOf rfl rfl hG.1 rfl rfl (by simp) jfr_nil (Nat.le_of_ble_eq_true rfl) ⟨Nat.le_of_ble_eq_true rfl, Nat.le_of_ble_eq_true rfl⟩ ⟨Nat.le_of_ble_eq_true rfl, Nat.le_of_ble_eq_true rfl⟩ (fun r h3 hp9 => ?_) (fun E h9 q => q.elim)
  obtain ⟨rfl, rfl⟩ := hp9
  generalize hz9 : (if 0 ≤ o ∧ o < 24 then hof (G 0) o else -1) = z9
  have hz8 : (o < 0 → z9 = -1) ∧ (0 ≤ o → z9 = hof (G 0) o ∧ 0 ≤ z9 ∧ z9 < 24) := by
    refine ⟨fun q => (by rw [← hz9, if_neg (by omega)]), fun q => ?_⟩
    rw [if_pos (by omega)] at hz9
    have := hof_rg hR (x := o) (by omega)
    exact ⟨hz9.symm, by omega, by omega⟩
  refine j_istore (L' := [(0, _), (1, _), (2, _), (3, _), (4, _)]) dX2_join_11 (by decide) rfl ?_
  refine j_iload_n dX2_join_13 rfl rfl ?_
  refine j_iconst dX2_join_14 ?_
  refine j_icmp_eq (tgt := 24) dX2_join_15 (by decide) (by omega) (fun c4 => ?_) (fun c4 => ?_)
  · subst hZ
    exact j_return dX2_join_24 rfl (jWv.i (by unfold hjo; rw [if_pos (by omega), gs_id rfl]) hG hE0) (Nat.le_refl _) (Nat.le_refl _)
  · refine j_iload dX2_join_18 rfl ?_
    refine j_iconst dX2_join_20 ?_
    refine j_icmp_ne (tgt := 25) dX2_join_21 (by decide) (by omega) (fun c5 => ?_) (fun c5 => ?_)
    · refine j_iload_n dX2_join_25 rfl rfl ?_
      refine j_iload dX2_join_26 rfl ?_
      refine j_icmp_ge (tgt := 42) dX2_join_28 (by decide) (by omega) (fun c6 => ?_) (fun c6 => ?_)
      · refine j_aload_n dX2_join_42 rfl rfl ?_
        refine j_getfield (v := .ref (k + 1)) dX2_join_43 jf_X2_9 hG.1 rfl ?_
        refine j_iload_n dX2_join_46 rfl rfl ?_
        refine j_iload dX2_join_47 rfl ?_
        refine jo_ias (S := sH) (k := k) dX2_join_49 okH hG (i := 0) (p := 1) rfl (by omega) (by decide) (fun h7 hG7 hX7 => ?_)
        have hE8 := hE0.tr hX7
        subst hZ
        exact j_return dX2_join_50 rfl (jWv.i (by unfold hjo; have w := hz8.2 (by omega); rw [if_neg (by omega)]; first | rw [if_pos (by omega), w.1] | rw [if_neg (by omega), w.1]) hG7 hE8) (Nat.le_refl _) (Nat.le_refl _)
      · refine j_aload_n dX2_join_31 rfl rfl ?_
        refine j_getfield (v := .ref (k + 1)) dX2_join_32 jf_X2_9 hG.1 rfl ?_
        refine j_iload dX2_join_35 rfl ?_
        refine j_iload_n dX2_join_37 rfl rfl ?_
        refine jo_ias (S := sH) (k := k) dX2_join_38 okH hG (i := 0) (p := 1) rfl (by omega) (by decide) (fun h9 hG9 hX9 => ?_)
        have hE10 := hE0.tr hX9
        refine j_goto (tgt := 50) dX2_join_39 (by decide) ?_
        subst hZ
        exact j_return dX2_join_50 rfl (jWv.i (by unfold hjo; have w := hz8.2 (by omega); rw [if_neg (by omega)]; first | rw [if_pos (by omega), w.1] | rw [if_neg (by omega), w.1]) hG9 hE10) (Nat.le_refl _) (Nat.le_refl _)
    · subst hZ
      exact j_return dX2_join_24 rfl (jWv.i (by unfold hjo; rw [if_pos (by omega), gs_id rfl]) hG hE0) (Nat.le_refl _) (Nat.le_refl _)
theorem hIn_0 {B : Int} {F : fS} (hO : jOk B F) {H : Int → Int} (h : ∀ x, 0 ≤ x → x < 24 → H x = x) : hIn F H 0 0 :=
  ⟨fun x a b => by rw [h x a b]; omega, fun x a b => by rw [h x a b]; exact con.rf, fun x a b => absurd a (by omega), fun x a b => absurd a (by omega)⟩
theorem hf24 {B : Int} {F : fS} (hO : jOk B F) (x : Int) : -1 ≤ F 0 x ∧ F 0 x < 24 ∧ -1 ≤ F 1 x ∧ F 1 x < 24 := by
  have := hO.n
  have := hO.p x
  have := hO.s x
  omega
theorem hIn_p {B : Int} {F : fS} (hO : jOk B F) {H : Int → Int} {i : Int} (hi : 0 ≤ i ∧ i < 24) (h : hIn F H i i) : hIn F (hjo H i (F 0 i)) (i + 1) i := by
  have hf := hf24 hO i
  have q := hjo_in (p := i) (o := F 0 i) h (by omega) hi (by omega) (fun z => ?_) (hf24 hO)
  · refine ⟨q.1.1, q.1.2.1, fun x x0 x1 x2 => ?_, q.1.2.2.2⟩
    by_cases e : x = i
    · rw [e] at x2 ⊢; exact q.2 x2
    · exact q.1.2.2.1 x x0 (by omega) x2
  · by_cases e : i < F 6 0
    · exact con.ed hi.1 e z (.inl rfl)
    · exact absurd (hO.df i (by omega)).1 (by omega)
theorem hIn_s {B : Int} {F : fS} (hO : jOk B F) {H : Int → Int} {i : Int} (hi : 0 ≤ i ∧ i < 24) (h : hIn F H (i + 1) i) : hIn F (hjo H i (F 1 i)) (i + 1) (i + 1) := by
  have hf := hf24 hO i
  have q := hjo_in (p := i) (o := F 1 i) h (by omega) hi (by omega) (fun z => ?_) (hf24 hO)
  · refine ⟨q.1.1, q.1.2.1, q.1.2.2.1, fun x x0 x1 x2 => ?_⟩
    by_cases e : x = i
    · rw [e] at x2 ⊢; exact q.2 x2
    · exact q.1.2.2.2 x x0 (by omega) x2
  · by_cases e : i < F 6 0
    · exact con.ed hi.1 e z (.inr rfl)
    · exact absurd (hO.df i (by omega)).2.1 (by omega)
set_option maxHeartbeats 4000000 in
/-- Houses.renew -/
theorem c2_renew {k : Nat} {G : fS} {h : jH} (hG : jOb sH k G h) {kf : Nat} {F : fS} {B : Int} (hd : k + 3 ≤ kf ∨ kf + 7 ≤ k) (hF : jOb sF kf F h) (hO : jOk B F) : jM mX2_renew 3 0 0 [] [.ref k, .ref kf] h (fun r h' => r = none ∧ ∃ G', jOb sH k G' h' ∧ hHo F G' ∧ jEx k 3 h h') jno := by
  refine j_method (by decide +kernel) rfl (fun _ _ _ => trivial) (Nat.le_of_ble_eq_true rfl) ?_
  generalize hZ : jZ [] 0 0 _ _ = Z
  show J mX2_renew (jR 3 0 0) [] Z 0 [(0, .ref k), (1, .ref kf)] [] h 0 0
  have hE0 : jEx k 3 h h := jEx.rf
  refine j_iconst dX2_renew_0 ?_
  refine j_istore_n (L' := [(0, _), (1, _), (2, _)]) dX2_renew_1 rfl (by decide) rfl ?_
  have hGr : jOb sH k (gs G 0 (G 0)) h := by rw [gs_id rfl]; exact hG
  refine jloop (P := fun z9 : Int × (Int → Int) => ∀ h1 : jH, jOb sH k (gs G 0 z9.2) h1 → jOb sF kf F h1 → jEx k 3 h h1 → J mX2_renew (jR 3 0 0) [] Z 2 [(0, .ref k), (1, .ref kf), (2, iv z9.1)] [] h1 0 0) (fun z9 => 0 ≤ z9.1 ∧ z9.1 ≤ 24 ∧ ∀ p, 0 ≤ p → p < z9.1 → z9.2 p = p) (fun z9 => (24 - z9.1).toNat) ?_ (0, G 0) ?_ _ hGr hF hE0
  · rintro ⟨i, X⟩ hinv ih
    dsimp only at hinv ih ⊢
    intro h2 hG3 hG4 hE5
    obtain ⟨i1, i2, i3⟩ := hinv
    refine j_iload_n dX2_renew_2 rfl rfl ?_
    refine j_bipush dX2_renew_3 (by decide +kernel) ?_
    refine j_icmp_ge (tgt := 21) dX2_renew_5 (by decide) (by omega) (fun c6 => ?_) (fun c6 => ?_)
    · refine j_iconst dX2_renew_21 ?_
      refine j_istore_n (L' := [(0, _), (1, _), (2, _)]) dX2_renew_22 rfl (by decide) rfl ?_
      refine jloop (P := fun z9 : Int × (Int → Int) => ∀ h7 : jH, jOb sH k (gs G 0 z9.2) h7 → jOb sF kf F h7 → jEx k 3 h h7 → J mX2_renew (jR 3 0 0) [] Z 23 [(0, .ref k), (1, .ref kf), (2, iv z9.1)] [] h7 0 0) (fun z9 => 0 ≤ z9.1 ∧ z9.1 ≤ 24 ∧ hIn F z9.2 z9.1 z9.1) (fun z9 => (24 - z9.1).toNat) ?_ (0, X) ?_ _ hG3 hG4 hE5
      · rintro ⟨q, Y⟩ hinv2 ih2
        dsimp only at hinv2 ih2 ⊢
        intro h8 hG9 hG10 hE11
        obtain ⟨l1, l2, l3⟩ := hinv2
        have hff := hf24 hO q
        refine j_iload_n dX2_renew_23 rfl rfl ?_
        refine j_bipush dX2_renew_24 (by decide +kernel) ?_
        refine j_icmp_ge (tgt := 55) dX2_renew_26 (by decide) (by omega) (fun c12 => ?_) (fun c12 => ?_)
        · subst hZ
          exact j_return dX2_renew_55 rfl ⟨rfl, _, hG9, hHo.of hO (by rw [show q = 24 by omega] at l3; exact l3), hE11⟩ (Nat.le_refl _) (Nat.le_refl _)
        · refine j_aload_n dX2_renew_29 rfl rfl ?_
          refine j_iload_n dX2_renew_30 rfl rfl ?_
          refine j_aload_n dX2_renew_31 rfl rfl ?_
          refine j_iload_n dX2_renew_32 rfl rfl ?_
          refine j_callV (c_parentOf hG10.fam hO (by omega)) dX2_renew_33 jc_X2_18 jmV_X1_parentOf rfl rfl hG10.1 rfl rfl (by simp) jfr_nil (Nat.le_of_ble_eq_true rfl) ⟨Nat.le_of_ble_eq_true rfl, Nat.le_of_ble_eq_true rfl⟩ ⟨Nat.le_of_ble_eq_true rfl, Nat.le_of_ble_eq_true rfl⟩ (fun r h13 hp9 => ?_) (fun E h9 q => q.elim)
          obtain ⟨rfl, rfl⟩ := hp9
          refine j_callV (c2_join hG9 (by omega) (by omega) l3.1) dX2_renew_36 jc_X2_24 jmV_X2_join rfl rfl hG9.1 rfl rfl (by simp) jfr_nil (Nat.le_of_ble_eq_true rfl) ⟨Nat.le_of_ble_eq_true rfl, Nat.le_of_ble_eq_true rfl⟩ ⟨Nat.le_of_ble_eq_true rfl, Nat.le_of_ble_eq_true rfl⟩ (fun r h14 hp9 => ?_) (fun E h9 q => q.elim)
          obtain ⟨rfl, hG15, hX16⟩ := hp9
          have hG17 := hG10.ex okF hX16 (by show kf + 7 ≤ k ∨ k + 3 ≤ kf; omega)
          have hE18 := hE11.tr hX16
          have hG19 : jOb sH k (gs G 0 (hjo Y q (F 0 q))) h14 := Eq.mp (congrArg (fun z => jOb sH k z _) gs_gs) hG15
          refine j_aload_n dX2_renew_39 rfl rfl ?_
          refine j_iload_n dX2_renew_40 rfl rfl ?_
          refine j_aload_n dX2_renew_41 rfl rfl ?_
          refine j_iload_n dX2_renew_42 rfl rfl ?_
          refine j_callV (c_spouseOf hG17.fam hO (by omega)) dX2_renew_43 jc_X2_28 jmV_X1_spouseOf rfl rfl hG17.1 rfl rfl (by simp) jfr_nil (Nat.le_of_ble_eq_true rfl) ⟨Nat.le_of_ble_eq_true rfl, Nat.le_of_ble_eq_true rfl⟩ ⟨Nat.le_of_ble_eq_true rfl, Nat.le_of_ble_eq_true rfl⟩ (fun r h20 hp9 => ?_) (fun E h9 q => q.elim)
          obtain ⟨rfl, rfl⟩ := hp9
          refine j_callV (c2_join hG19 (by omega) (by omega) (hIn_p hO (by omega) l3).1) dX2_renew_46 jc_X2_24 jmV_X2_join rfl rfl hG19.1 rfl rfl (by simp) jfr_nil (Nat.le_of_ble_eq_true rfl) ⟨Nat.le_of_ble_eq_true rfl, Nat.le_of_ble_eq_true rfl⟩ ⟨Nat.le_of_ble_eq_true rfl, Nat.le_of_ble_eq_true rfl⟩ (fun r h21 hp9 => ?_) (fun E h9 q => q.elim)
          obtain ⟨rfl, hG22, hX23⟩ := hp9
          have hG24 := hG17.ex okF hX23 (by show kf + 7 ≤ k ∨ k + 3 ≤ kf; omega)
          have hE25 := hE18.tr hX23
          have hG26 : jOb sH k (gs G 0 (hjo (hjo Y q (F 0 q)) q (F 1 q))) h21 := Eq.mp (congrArg (fun z => jOb sH k z _) gs_gs) hG22
          refine j_iinc (L' := [(0, _), (1, _), (2, _)]) dX2_renew_49 rfl (by decide) rfl ?_
          refine j_goto (tgt := 23) dX2_renew_52 (by decide) ?_
          refine ih2 (q + 1, _) ⟨by show 0 ≤ q + 1; omega, by show q + 1 ≤ 24; omega, hIn_s hO (by omega) (hIn_p hO (by omega) l3)⟩ (by show (24 - (q + 1)).toNat < (24 - q).toNat; omega) _ hG26 hG24 hE25
      · dsimp only
        exact ⟨by omega, by omega, hIn_0 hO (fun p a b => i3 p a (by omega))⟩
    · refine j_aload_n dX2_renew_8 rfl rfl ?_
      refine j_getfield (v := .ref (k + 1)) dX2_renew_9 jf_X2_9 hG3.1 rfl ?_
      refine j_iload_n dX2_renew_12 rfl rfl ?_
      refine j_iload_n dX2_renew_13 rfl rfl ?_
      refine jo_ias (S := sH) (k := k) dX2_renew_14 okH hG3 (i := 0) (p := 1) rfl (by omega) (by decide) (fun h27 hG27 hX27 => ?_)
      have hG28 := hG4.ex okF hX27 (by show kf + 7 ≤ k ∨ k + 3 ≤ kf; omega)
      have hE29 := hE5.tr hX27
      refine j_iinc (L' := [(0, _), (1, _), (2, _)]) dX2_renew_15 rfl (by decide) rfl ?_
      refine j_goto (tgt := 2) dX2_renew_18 (by decide) ?_
      have hG9 : jOb sH k (gs G 0 (jfu X i i)) h27 := Eq.mp (congrArg (fun z => jOb sH k z _) gs_gs) hG27
      refine ih (i + 1, jfu X i i) ⟨by show 0 ≤ i + 1; omega, by show i + 1 ≤ 24; omega, fun p p0 p1 => ?_⟩ (by show (24 - (i + 1)).toNat < (24 - i).toNat; omega) _ hG9 hG28 hE29
      have p1 : p < i + 1 := p1
      show jfu X i i p = p
      by_cases hp : p = i
      · rw [hp, jfu_s]
      · rw [jfu_n hp]; exact i3 p p0 (by omega)
  · dsimp only
    exact ⟨by omega, by omega, fun p a b => by omega⟩
set_option maxHeartbeats 4000000 in
/-- Houses.isOneHouse -/
theorem c2_isOneHouse {k : Nat} {G : fS} {h : jH} (hG : jOb sH k G h) {p o : Int} {F : fS} {B : Int} (hO : jOk B F) (hH : hHo F G) (hp : 0 ≤ p ∧ p < F 6 0) (ho : 0 ≤ o ∧ o < F 6 0) : jM mX2_isOneHouse 2 0 0 [] [.ref k, iv p, iv o] h (jRet (iv (bi (fho F p = fho F o))) h) jno := by
  refine j_method (by decide +kernel) rfl (fun _ _ _ => trivial) (Nat.le_of_ble_eq_true rfl) ?_
  generalize hZ : jZ [] 0 0 _ _ = Z
  show J mX2_isOneHouse (jR 2 0 0) [] Z 0 [(0, .ref k), (1, iv p), (2, iv o)] [] h 0 0
  have hn := hO.n
  refine j_aload_n dX2_isOneHouse_0 rfl rfl ?_
  refine j_iload_n dX2_isOneHouse_1 rfl rfl ?_
  refine j_callV (c2_houseOf hG (by omega) hH.1) dX2_isOneHouse_2 jc_X2_31 jmV_X2_houseOf rfl rfl hG.1 rfl rfl (by simp) jfr_nil (Nat.le_of_ble_eq_true rfl) ⟨Nat.le_of_ble_eq_true rfl, Nat.le_of_ble_eq_true rfl⟩ ⟨Nat.le_of_ble_eq_true rfl, Nat.le_of_ble_eq_true rfl⟩ (fun r h2 hp9 => ?_) (fun E h9 q => q.elim)
  obtain ⟨rfl, rfl⟩ := hp9
  rw [(if_pos (show 0 ≤ p ∧ p < 24 by omega)).trans (hH.2 p (by omega) (by omega))]
  have hrz1 := fho_rg hO (p := p) (by omega)
  refine j_aload_n dX2_isOneHouse_5 rfl rfl ?_
  refine j_iload_n dX2_isOneHouse_6 rfl rfl ?_
  refine j_callV (c2_houseOf hG (by omega) hH.1) dX2_isOneHouse_7 jc_X2_31 jmV_X2_houseOf rfl rfl hG.1 rfl rfl (by simp) jfr_nil (Nat.le_of_ble_eq_true rfl) ⟨Nat.le_of_ble_eq_true rfl, Nat.le_of_ble_eq_true rfl⟩ ⟨Nat.le_of_ble_eq_true rfl, Nat.le_of_ble_eq_true rfl⟩ (fun r h4 hp9 => ?_) (fun E h9 q => q.elim)
  obtain ⟨rfl, rfl⟩ := hp9
  rw [(if_pos (show 0 ≤ o ∧ o < 24 by omega)).trans (hH.2 o (by omega) (by omega))]
  have hrz3 := fho_rg hO (p := o) (by omega)
  refine j_icmp_ne (tgt := 17) dX2_isOneHouse_10 (by decide) (by omega) (fun c5 => ?_) (fun c5 => ?_)
  · refine j_iconst dX2_isOneHouse_17 ?_
    subst hZ
    exact j_ireturn dX2_isOneHouse_18 rfl rfl (jRet.i (by first | rw [bi_t (by omega)] | rw [bi_f (by omega)])) (Nat.le_refl _) (Nat.le_refl _)
  · refine j_iconst dX2_isOneHouse_13 ?_
    refine j_goto (tgt := 18) dX2_isOneHouse_14 (by decide) ?_
    subst hZ
    exact j_ireturn dX2_isOneHouse_18 rfl rfl (jRet.i (by first | rw [bi_t (by omega)] | rw [bi_f (by omega)])) (Nat.le_refl _) (Nat.le_refl _)
set_option maxHeartbeats 4000000 in
/-- Houses.count -/
theorem c2_count {k : Nat} {G : fS} {h : jH} (hG : jOb sH k G h) {kf : Nat} {F : fS} {B : Int} (hF : jOb sF kf F h) (hO : jOk B F) (hH : hHo F G) : jM mX2_count 2 0 0 [] [.ref k, .ref kf] h (jRet (iv (csum (fun p => bi (fho F p = p)) (F 6 0).toNat)) h) jno := by
  refine j_method (by decide +kernel) rfl (fun _ _ _ => trivial) (Nat.le_of_ble_eq_true rfl) ?_
  generalize hZ : jZ [] 0 0 _ _ = Z
  show J mX2_count (jR 2 0 0) [] Z 0 [(0, .ref k), (1, .ref kf)] [] h 0 0
  have hn := hO.n
  refine j_iconst dX2_count_0 ?_
  refine j_istore_n (L' := [(0, _), (1, _), (2, _)]) dX2_count_1 rfl (by decide) rfl ?_
  refine j_iconst dX2_count_2 ?_
  refine j_istore_n (L' := [(0, _), (1, _), (2, _), (3, _)]) dX2_count_3 rfl (by decide) rfl ?_
  refine jloop (P := fun z9 : Int × Int => J mX2_count (jR 2 0 0) [] Z 4 [(0, .ref k), (1, .ref kf), (2, iv z9.1), (3, iv z9.2)] [] h 0 0) (fun z9 => 0 ≤ z9.2 ∧ z9.2 ≤ F 6 0 ∧ z9.1 = csum (fun p => bi (fho F p = p)) z9.2.toNat) (fun z9 => (F 6 0 - z9.2).toNat) ?_ (0, 0) ?_
  · rintro ⟨a, i⟩ hinv ih
    dsimp only at hinv ih ⊢
    obtain ⟨i1, i2, i3⟩ := hinv
    refine j_iload_n dX2_count_4 rfl rfl ?_
    refine j_aload_n dX2_count_5 rfl rfl ?_
    refine j_getfield (v := iv (F 6 0)) dX2_count_6 jf_X2_34 hF.1 rfl ?_
    refine j_icmp_ge (tgt := 35) dX2_count_9 (by decide) (by omega) (fun c1 => ?_) (fun c1 => ?_)
    · refine j_iload_n dX2_count_35 rfl rfl ?_
      subst hZ
      exact j_ireturn dX2_count_36 rfl rfl (jRet.i (by rw [i3, show i = F 6 0 by omega])) (Nat.le_refl _) (Nat.le_refl _)
    · refine j_iload_n dX2_count_12 rfl rfl ?_
      refine j_aload_n dX2_count_13 rfl rfl ?_
      refine j_iload_n dX2_count_14 rfl rfl ?_
      refine j_callV (c2_houseOf hG (by omega) hH.1) dX2_count_15 jc_X2_31 jmV_X2_houseOf rfl rfl hG.1 rfl rfl (by simp) jfr_nil (Nat.le_of_ble_eq_true rfl) ⟨Nat.le_of_ble_eq_true rfl, Nat.le_of_ble_eq_true rfl⟩ ⟨Nat.le_of_ble_eq_true rfl, Nat.le_of_ble_eq_true rfl⟩ (fun r h3 hp9 => ?_) (fun E h9 q => q.elim)
      obtain ⟨rfl, rfl⟩ := hp9
      rw [(if_pos (show 0 ≤ i ∧ i < 24 by omega)).trans (hH.2 i (by omega) (by omega))]
      have hrz2 := fho_rg hO (p := i) (by omega)
      refine j_iload_n dX2_count_18 rfl rfl ?_
      refine j_icmp_ne (tgt := 26) dX2_count_19 (by decide) (by omega) (fun c4 => ?_) (fun c4 => ?_)
      · refine j_iconst dX2_count_26 ?_
        refine j_iadd dX2_count_27 ?_
        refine j_istore_n (L' := [(0, _), (1, _), (2, _), (3, _)]) dX2_count_28 rfl (by decide) rfl ?_
        refine j_iinc (L' := [(0, _), (1, _), (2, _), (3, _)]) dX2_count_29 rfl (by decide) rfl ?_
        refine j_goto (tgt := 4) dX2_count_32 (by decide) ?_
        have e9 := csum_s (fun p => bi (fho F p = p)) i1
        rw [bi_f (by omega)] at e9
        exact ih (a + 0, i + 1) ⟨by show 0 ≤ i + 1; omega, by show i + 1 ≤ F 6 0; omega, by rw [e9, i3]⟩ (by show (F 6 0 - (i + 1)).toNat < (F 6 0 - i).toNat; omega)
      · refine j_iconst dX2_count_22 ?_
        refine j_goto (tgt := 27) dX2_count_23 (by decide) ?_
        refine j_iadd dX2_count_27 ?_
        refine j_istore_n (L' := [(0, _), (1, _), (2, _), (3, _)]) dX2_count_28 rfl (by decide) rfl ?_
        refine j_iinc (L' := [(0, _), (1, _), (2, _), (3, _)]) dX2_count_29 rfl (by decide) rfl ?_
        refine j_goto (tgt := 4) dX2_count_32 (by decide) ?_
        have e9 := csum_s (fun p => bi (fho F p = p)) i1
        rw [bi_t (by omega)] at e9
        exact ih (a + 1, i + 1) ⟨by show 0 ≤ i + 1; omega, by show i + 1 ≤ F 6 0; omega, by rw [e9, i3]⟩ (by show (F 6 0 - (i + 1)).toNat < (F 6 0 - i).toNat; omega)
  · dsimp only
    exact ⟨by omega, by omega, rfl⟩
