/-! MORE OF WHAT THE CHECKS REST ON -/
theorem dNx.l {B : Int} {F : fS} (hO : jOk B F) (hA : fAc F) {u v : Int} {j : Nat} (h : dNx F u v j) : j ≤ 24 := by
  rcases h with ⟨_, h, _⟩ | ⟨_, _, h, _⟩
  · omega
  · refine Decidable.not_not.mp fun q => ?_
    rw [upk_stay hO.par1 (hA u) (show 24 ≤ j by omega)] at h
    omega
theorem dNx.a {B : Int} {F : fS} (hO : jOk B F) (hA : fAc F) {u v w : Int} {j k : Nat} (h : dNx F u v j) (hk : k ≤ j) (hw : w = upk (F 0) k u) (h0 : 0 ≤ w) (e : w = F 0 v) : ∀ q, 0 ≤ q → q < v → F 0 q ≠ F 0 v := by
  rcases h with ⟨h1, h2, h3⟩ | ⟨_, _, h3, h4, _⟩
  · rw [h1]; exact h3
  · exfalso
    have e2 : upk (F 0) k u = upk (F 0) (j + 1) u := by rw [upk_s, ← h4, ← hw]; exact e
    have := up_inj hO hA (show k < j + 1 by omega) e2
    omega
theorem dNx.b {B : Int} {F : fS} (hO : jOk B F) (hA : fAc F) {u v w : Int} {j k : Nat} (h : dNx F u v j) (hk : k ≤ j) (hw : w = upk (F 0) k u) (hv : 0 ≤ F 0 v) (ne : ¬ w = F 0 v) (e : F 0 w = F 0 v) : w < v ∧ (∀ q, w < q → q < v → F 0 q ≠ F 0 v) ∧ csum (fun c => bi (F 0 c = u)) (F 6 0).toNat = 0 := by
  rcases h with ⟨h1, h2, h3⟩ | ⟨h1, h2, h3, h4, h5, h6, h7⟩
  · exfalso
    have hk0 : k = 0 := by omega
    rw [hk0] at hw
    exact ne (by rw [h1]; exact hw)
  · have hkj : k = j := by
      refine Decidable.not_not.mp fun q => ?_
      have e2 : upk (F 0) (k + 1) u = upk (F 0) (j + 1) u := by rw [upk_s, upk_s, ← h4, ← hw]; exact e
      have := up_inj hO hA (show k + 1 < j + 1 by omega) e2
      rw [upk_s, ← hw] at this
      omega
    subst hkj
    rw [← hw] at h6 h7
    exact ⟨h6, h7, h1⟩
theorem dNx.s {B : Int} {F : fS} (hO : jOk B F) {u v w : Int} {j k : Nat} (h : dNx F u v j) (hk : k ≤ j) (hw : w = upk (F 0) k u) (ne : ¬ w = F 0 v) (ne2 : ¬ F 0 w = F 0 v) : k < j ∧ 0 ≤ F 0 w ∧ F 0 w = upk (F 0) (k + 1) u := by
  have e : F 0 w = upk (F 0) (k + 1) u := by rw [upk_s, ← hw]
  rcases h with ⟨h1, h2, h3⟩ | ⟨h1, h2, h3, h4, h5, h6, h7⟩
  · exfalso
    have hk0 : k = 0 := by omega
    rw [hk0] at hw
    exact ne (by rw [h1]; exact hw)
  · have hkj : k ≠ j := fun q => ne2 (by rw [hw, q, h4])
    refine ⟨by omega, ?_, e⟩
    have hp := hO.p w
    rw [e] at hp ⊢
    rcases up_ge hO (u := u) (show k + 1 ≤ j by omega) h3 with q | q
    · exact q
    · omega
-- places are forgotten
theorem drop2 {h : jH} {a b : Nat} {c d : jC} (ha : h a = none) (hb : h b = none) : ∀ j, h j = jup (jup h a c) b d j ∨ h j = none := fun j => by
  by_cases h1 : j = b
  · rw [h1]; exact .inr hb
  · by_cases h2 : j = a
    · rw [h2]; exact .inr ha
    · exact .inl ((jup_n h1 (jup_n h2 rfl)).symm)
theorem drop1 {h : jH} {a b : Nat} {c d : jC} (hb : h b = none) : ∀ j, (if j = b then none else jup (jup h a c) b d j) = jup (jup h a c) b d j ∨ (if j = b then none else jup (jup h a c) b d j) = none := fun j => by
  by_cases h1 : j = b
  · rw [if_pos h1]; exact .inr rfl
  · rw [if_neg h1]; exact .inl rfl
theorem drop_a {h : jH} {a : Nat} {c : jC} (ha : h a = none) : ∀ j, h j = jup h a c j ∨ h j = none := fun j => by
  by_cases h2 : j = a
  · rw [h2]; exact .inr ha
  · exact .inl (jup_n h2 rfl).symm
theorem drop_b {h : jH} {a b : Nat} {c d : jC} (hb : h b = none) (hab : a ≠ b) : ∀ j, jup h a c j = jup (jup h a c) b d j ∨ jup h a c j = none := fun j => by
  by_cases h1 : j = b
  · rw [h1]; exact .inr (jup_n (fun e => hab e.symm) hb)
  · exact .inl (jup_n h1 rfl).symm
theorem jCl.arr {h : jH} {a t n : Nat} {f : Int → Int} (hc : jCl h) : jCl (jup h a (jA t n f)) := fun j c hj k hk => by
  by_cases h1 : j = a
  · rw [h1, jup_s] at hj
    cases hj
    exact hk.elim
  · rw [jup_n h1 rfl] at hj
    have := hc j c hj k hk
    by_cases h2 : k = a
    · rw [h2, jup_s]; exact fun z => by cases z
    · rw [jup_n h2 rfl]; exact this
-- descendants, counted
theorem fab_no {B : Int} {F : fS} (hO : jOk B F) (hA : fAc F) {q : Int} (hq : 0 ≤ q) : fab F q (F 0 q) = false := by
  cases h : fab F q (F 0 q) with
  | false => rfl
  | true =>
    obtain ⟨j, hj⟩ := (fab_iff hO hA (show q ≠ -1 by omega)).mp h
    have e : upk (F 0) (j + 1) q = q := hj
    have := upk_acy hO hA (Nat.succ_pos j) e
    omega
theorem dsl_in {F : fS} {D : Int → List Int} {p x c : Int} : ∀ (m : Nat) (c0 : Int), c0 ≤ c → c < c0 + m → F 0 c = p → (x = c ∨ x ∈ D c) → x ∈ dsl F D p m c0
  | 0, c0, h0, h1, _, _ => by omega
  | m + 1, c0, h0, h1, h2, h3 => by
    show x ∈ (if F 0 c0 = p then c0 :: D c0 else []) ++ dsl F D p m (c0 + 1)
    by_cases e : c = c0
    · subst e
      rw [if_pos h2]
      exact List.mem_append_left _ (List.mem_cons.mpr h3)
    · exact List.mem_append_right _ (dsl_in m (c0 + 1) (by omega) (by omega) h2 h3)
theorem des_in {B : Int} {F : fS} (hO : jOk B F) : ∀ (k j : Nat) (y x : Int), 0 < j → j ≤ k → upk (F 0) j y = x → 0 ≤ y → y < F 6 0 → x ≠ -1 → y ∈ des F k x
  | 0, j, _, _, h0, h1, _, _, _, _ => by omega
  | k + 1, j, y, x, h0, h1, h2, h3, h4, h5 => by
    obtain ⟨i, rfl⟩ : ∃ i, j = i + 1 := ⟨j - 1, by omega⟩
    rw [upk_s] at h2
    have hc : 0 ≤ upk (F 0) i y ∧ upk (F 0) i y < F 6 0 := by
      cases i with
      | zero => exact ⟨h3, h4⟩
      | succ i =>
        have hp := hO.p (upk (F 0) i y)
        rw [← upk_s (F 0) i y] at hp
        refine ⟨?_, hp.2⟩
        refine Decidable.not_not.mp fun q => ?_
        rw [show upk (F 0) (i + 1) y = -1 by omega, hO.par1] at h2
        exact h5 h2.symm
    refine dsl_in _ 0 hc.1 (by have := hO.n; omega) h2 ?_
    cases i with
    | zero => exact .inl rfl
    | succ i => exact .inr (des_in hO k (i + 1) y _ (by omega) (by omega) rfl h3 h4 (by omega))
theorem cnt_len {Q : Int → Prop} [inst : ∀ y, Decidable (Q y)] : ∀ (n : Nat) (l : List Int), l.Nodup → (∀ y, y ∈ l ↔ (0 ≤ y ∧ y < n) ∧ Q y) → ((l.length : Nat) : Int) = csum (fun y => bi (Q y)) n
  | 0, l, _, h => by
    cases l with
    | nil => rfl
    | cons a t => have := (h a).mp List.mem_cons_self; omega
  | n + 1, l, hd, h => by
    have ih := cnt_len n (l.erase (n : Int)) (hd.erase _) fun y => by
      rw [List.Nodup.mem_erase_iff hd, h y]
      constructor
      · rintro ⟨a, ⟨b, c⟩, d⟩; exact ⟨⟨b, by omega⟩, d⟩
      · rintro ⟨⟨a, b⟩, c⟩; exact ⟨by omega, ⟨a, by omega⟩, c⟩
    show ((l.length : Nat) : Int) = csum (fun y => bi (Q y)) n + bi (Q (n : Int))
    rw [← ih, List.length_erase]
    by_cases hq : Q (n : Int)
    · have hm : (n : Int) ∈ l := (h _).mpr ⟨⟨by omega, by omega⟩, hq⟩
      have : 0 < l.length := List.length_pos_of_mem hm
      rw [if_pos hm, bi_t hq]
      omega
    · have hm : ¬ (n : Int) ∈ l := fun z => hq ((h _).mp z).2
      rw [if_neg hm, bi_f hq]
      omega
/-- as many are below x as there are whose parent is x, or lies under it -/
theorem des_cnt {B : Int} {F : fS} (hO : jOk B F) (hA : fAc F) {x : Int} (hx : 0 ≤ x ∧ x < F 6 0) : ((des F 24 x).length : Int) = csum (fun y => bi (fab F x (F 0 y) = true)) (F 6 0).toNat := by
  refine cnt_len _ _ (des_nd hO hA 24 x (by omega)) fun y => ?_
  have hn := hO.n
  constructor
  · intro h
    obtain ⟨j, j0, j1, j2, j3⟩ := des_up 24 x h
    obtain ⟨i, rfl⟩ : ∃ i, j = i + 1 := ⟨j - 1, by omega⟩
    exact ⟨⟨j2, by omega⟩, (fab_iff hO hA (by omega)).mpr ⟨i, j1⟩⟩
  · rintro ⟨⟨a, b⟩, c⟩
    obtain ⟨i, hi⟩ := (fab_iff hO hA (show x ≠ -1 by omega)).mp c
    refine des_in hO 24 (i + 1) y x (by omega) ?_ hi a (by omega) (by omega)
    refine Decidable.not_not.mp fun q => ?_
    have e : upk (F 0) (i + 1) y = x := hi
    rw [upk_stay hO.par1 (hA y) (show 24 ≤ i + 1 by omega)] at e
    omega
-- roots along the way up
theorem frt_up {B : Int} {F : fS} (hO : jOk B F) (hA : fAc F) : ∀ (i : Nat) (p : Int), upk (F 0) i p ≠ -1 → frt F p = frt F (upk (F 0) i p)
  | 0, _, _ => rfl
  | i + 1, p, h => by
    have hp : F 0 p ≠ -1 := fun q => h (by show upk (F 0) i (F 0 p) = -1; rw [q, upk_e hO.par1])
    rw [frt_st hO hA hp]
    exact frt_up hO hA i (F 0 p) h
-- how many bits
def andp (x : Int) : Int := (Int32.ofInt x &&& Int32.ofInt (x - 1)).toInt
theorem andp_f : ∀ e : Fin 25, e.val ≠ 0 → 0 ≤ andp ((e.val : Nat) : Int) ∧ andp ((e.val : Nat) : Int) < ((e.val : Nat) : Int) ∧ mlp 5 (andp ((e.val : Nat) : Int)) + 1 = mlp 5 ((e.val : Nat) : Int) := by decide +kernel
theorem andp_s {x : Int} (h : 0 < x ∧ x ≤ 24) : 0 ≤ andp x ∧ andp x < x ∧ mlp 5 (andp x) + 1 = mlp 5 x := by
  have e := andp_f ⟨x.toNat, by omega⟩ (by show x.toNat ≠ 0; omega)
  have e2 : ((x.toNat : Nat) : Int) = x := by omega
  simp only [e2] at e
  exact e
theorem andp_e (x : Int) : Int32.ofInt x &&& Int32.ofInt (x - 1) = Int32.ofInt (andp x) := by unfold andp; rw [Int32.ofInt_toInt]
