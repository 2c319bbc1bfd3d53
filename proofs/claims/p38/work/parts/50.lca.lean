/-! ELDERS: lowest common ones, depths along the way up -/
theorem fdep_up {B : Int} {F : fS} (hO : jOk B F) (hA : fAc F) : ∀ (i : Nat) (p : Int), upk (F 0) i p ≠ -1 → fdep F p = i + fdep F (upk (F 0) i p)
  | 0, p, _ => by show fdep F p = ((0 : Nat) : Int) + fdep F p; omega
  | i + 1, p, h => by
    have hp : F 0 p ≠ -1 := fun q => by
      apply h
      show upk (F 0) i (F 0 p) = -1
      rw [q, upk_e hO.par1]
    have e := fdep_up hO hA i (F 0 p) h
    have e2 := fdep_st hO hA hp
    show fdep F p = ((i + 1 : Nat) : Int) + fdep F (upk (F 0) i (F 0 p))
    omega
theorem upk_ge {B : Int} {F : fS} (hO : jOk B F) (hA : fAc F) : ∀ (i : Nat) (p : Int), 0 ≤ p → (i : Int) ≤ fdep F p → 0 ≤ upk (F 0) i p
  | 0, _, h, _ => h
  | i + 1, p, h, hi => by
    have hp : F 0 p ≠ -1 := fun q => by have := fdep_z hO q; omega
    have e2 := fdep_st hO hA hp
    have := hO.p p
    exact upk_ge hO hA i (F 0 p) (by omega) (by omega)
/-- c is the lowest common elder -/
def isL (F : fS) (p o c : Int) : Prop := c ≠ -1 ∧ fab F c p = true ∧ fab F c o = true ∧ ∀ x, x ≠ -1 → fab F x p = true → fab F x o = true → fdep F x ≤ fdep F c
theorem isL.sy {F : fS} {p o c : Int} (h : isL F p o c) : isL F o p c := ⟨h.1, h.2.2.1, h.2.1, fun x x0 x1 x2 => h.2.2.2 x x0 x2 x1⟩
theorem isL.eq {B : Int} {F : fS} (hO : jOk B F) (hA : fAc F) {p o c c' : Int} (h : isL F p o c) (h' : isL F p o c') : c = c' := by
  obtain ⟨a0, a1, a2, a3⟩ := h
  obtain ⟨b0, b1, b2, b3⟩ := h'
  have d1 := a3 c' b0 b1 b2
  have d2 := b3 c a0 a1 a2
  obtain ⟨i, hi⟩ := (fab_iff hO hA a0).mp a1
  obtain ⟨j, hj⟩ := (fab_iff hO hA b0).mp b1
  have e1 := fdep_up hO hA i p (by rw [hi]; exact a0)
  have e2 := fdep_up hO hA j p (by rw [hj]; exact b0)
  rw [hi] at e1
  rw [hj] at e2
  have : i = j := by omega
  rw [← hi, ← hj, this]
theorem fab_self {B : Int} {F : fS} (hO : jOk B F) (hA : fAc F) {p : Int} (hp : p ≠ -1) : fab F p p = true := (fab_iff hO hA hp).mpr ⟨0, rfl⟩
theorem flc_is {B : Int} {F : fS} (hO : jOk B F) (hA : fAc F) : ∀ (m : Nat) (p o : Int), (fdep F p).toNat < m → 0 ≤ p → 0 ≤ o → frt F p = frt F o → isL F p o (flc F p o)
  | 0, _, _, hm, _, _, _ => absurd hm (Nat.not_lt_zero _)
  | m + 1, p, o, hm, h0, h2, he => by
    cases hq : fab F p o with
    | true =>
      rw [flc_t hO hq]
      refine ⟨by omega, fab_self hO hA (by omega), hq, fun x x0 x1 _ => ?_⟩
      obtain ⟨i, hi⟩ := (fab_iff hO hA x0).mp x1
      have := fdep_up hO hA i p (by rw [hi]; exact x0)
      rw [hi] at this
      omega
    | false =>
      have hp : F 0 p ≠ -1 := fun q => by rw [fab_root hO hA h2 q he] at hq; cases hq
      have hd := fdep_st hO hA hp
      have hr := fdep_rg F (F 0 p)
      have hb := hO.p p
      rw [flc_f hO hA (by omega) hq]
      obtain ⟨c0, c1, c2, c3⟩ := flc_is hO hA m (F 0 p) o (by omega) (by omega) h2 (by rw [← frt_st hO hA hp]; exact he)
      refine ⟨c0, ?_, c2, fun x x0 x1 x2 => ?_⟩
      · rw [fab_st hO hA (by omega : p ≠ -1), c1, Bool.or_true]
      · rw [fab_st hO hA (by omega : p ≠ -1)] at x1
        rcases (Bool.or_eq_true _ _).mp x1 with e | e
        · have : p = x := by simpa using e
          rw [← this, hq] at x2
          cases x2
        · exact c3 x x0 e x2
theorem flc_L {B : Int} {F : fS} (hO : jOk B F) (hA : fAc F) {p o : Int} (hp : 0 ≤ p) (ho : 0 ≤ o) (he : frt F p = frt F o) : isL F p o (flc F p o) := flc_is hO hA _ p o (Nat.lt_succ_self _) hp ho he
theorem flc_sy {B : Int} {F : fS} (hO : jOk B F) (hA : fAc F) {p o : Int} (hp : 0 ≤ p) (ho : 0 ≤ o) (he : frt F p = frt F o) : flc F o p = flc F p o := ((flc_L hO hA ho hp he.symm).eq hO hA (flc_L hO hA hp ho he).sy)
/-- the same common elders -/
def cmE (F : fS) (p o p' o' : Int) : Prop := ∀ x, x ≠ -1 → ((fab F x p = true ∧ fab F x o = true) ↔ (fab F x p' = true ∧ fab F x o' = true))
theorem cmE.rf {F : fS} {p o : Int} : cmE F p o p o := fun _ _ => Iff.rfl
theorem cmE.tr {F : fS} {a b c d e f : Int} (h : cmE F a b c d) (h' : cmE F c d e f) : cmE F a b e f := fun x hx => (h x hx).trans (h' x hx)
theorem cmE.L {F : fS} {p o p' o' c : Int} (h : cmE F p o p' o') (hL : isL F p' o' c) : isL F p o c := by
  obtain ⟨a0, a1, a2, a3⟩ := hL
  have q := (h c a0).mpr ⟨a1, a2⟩
  exact ⟨a0, q.1, q.2, fun x x0 x1 x2 => by have r := (h x x0).mp ⟨x1, x2⟩; exact a3 x x0 r.1 r.2⟩
/-- the deeper one goes up to the other's depth -/
theorem cmE_lev {B : Int} {F : fS} (hO : jOk B F) (hA : fAc F) {p o : Int} {j : Nat} (hp : 0 ≤ p) (hj : fdep F p = fdep F o + j) : cmE F p o (upk (F 0) j p) o := by
  intro x hx
  have hg := upk_ge hO hA j p hp (by have := fdep_rg F o; omega)
  have hju := fdep_up hO hA j p (by omega)
  refine ⟨fun ⟨h1, h2⟩ => ⟨?_, h2⟩, fun ⟨h1, h2⟩ => ⟨?_, h2⟩⟩
  · obtain ⟨i, hi⟩ := (fab_iff hO hA hx).mp h1
    obtain ⟨i', hi'⟩ := (fab_iff hO hA hx).mp h2
    have e1 := fdep_up hO hA i p (by rw [hi]; exact hx)
    have e2 := fdep_up hO hA i' o (by rw [hi']; exact hx)
    rw [hi] at e1
    rw [hi'] at e2
    obtain ⟨d, rfl⟩ : ∃ d, i = j + d := ⟨i - j, by omega⟩
    rw [upk_a] at hi
    exact (fab_iff hO hA hx).mpr ⟨d, hi⟩
  · obtain ⟨i, hi⟩ := (fab_iff hO hA hx).mp h1
    exact (fab_iff hO hA hx).mpr ⟨j + i, by rw [upk_a]; exact hi⟩
theorem cmE.sw {F : fS} {p o p' o' : Int} (h : cmE F p o p' o') : cmE F o p o' p' := fun x hx => ⟨fun q => ((h x hx).mp q.symm).symm, fun q => ((h x hx).mpr q.symm).symm⟩
/-- both go up, as long as they are apart -/
theorem cmE_both {B : Int} {F : fS} (hO : jOk B F) (hA : fAc F) {p o : Int} {j : Nat} (hd : fdep F p = fdep F o) (hne : upk (F 0) j p ≠ upk (F 0) j o) : cmE F p o (upk (F 0) j p) (upk (F 0) j o) := by
  intro x hx
  refine ⟨fun ⟨h1, h2⟩ => ?_, fun ⟨h1, h2⟩ => ?_⟩
  · obtain ⟨i, hi⟩ := (fab_iff hO hA hx).mp h1
    obtain ⟨i', hi'⟩ := (fab_iff hO hA hx).mp h2
    have e1 := fdep_up hO hA i p (by rw [hi]; exact hx)
    have e2 := fdep_up hO hA i' o (by rw [hi']; exact hx)
    rw [hi] at e1
    rw [hi'] at e2
    have hii : i = i' := by omega
    subst hii
    have hij : j < i := by
      refine Nat.lt_of_not_le fun q => hne ?_
      obtain ⟨d, rfl⟩ : ∃ d, j = i + d := ⟨j - i, by omega⟩
      rw [upk_a, upk_a, hi, hi']
    obtain ⟨d, rfl⟩ : ∃ d, i = j + d := ⟨i - j, by omega⟩
    rw [upk_a] at hi hi'
    exact ⟨(fab_iff hO hA hx).mpr ⟨d, hi⟩, (fab_iff hO hA hx).mpr ⟨d, hi'⟩⟩
  · obtain ⟨i, hi⟩ := (fab_iff hO hA hx).mp h1
    obtain ⟨i', hi'⟩ := (fab_iff hO hA hx).mp h2
    exact ⟨(fab_iff hO hA hx).mpr ⟨j + i, by rw [upk_a]; exact hi⟩, (fab_iff hO hA hx).mpr ⟨j + i', by rw [upk_a]; exact hi'⟩⟩
theorem isL_same {B : Int} {F : fS} (hO : jOk B F) (hA : fAc F) {p : Int} (hp : p ≠ -1) : isL F p p p := by
  refine ⟨hp, fab_self hO hA hp, fab_self hO hA hp, fun x x0 x1 _ => ?_⟩
  obtain ⟨i, hi⟩ := (fab_iff hO hA x0).mp x1
  have := fdep_up hO hA i p (by rw [hi]; exact x0)
  rw [hi] at this
  omega
theorem isL_par {B : Int} {F : fS} (hO : jOk B F) (hA : fAc F) {p o : Int} (hd : fdep F p = fdep F o) (hne : p ≠ o) (he : F 0 p = F 0 o) (h1 : F 0 p ≠ -1) : isL F p o (F 0 p) := by
  refine ⟨h1, (fab_iff hO hA h1).mpr ⟨1, rfl⟩, (fab_iff hO hA h1).mpr ⟨1, he.symm⟩, fun x x0 x1 x2 => ?_⟩
  obtain ⟨i, hi⟩ := (fab_iff hO hA x0).mp x1
  obtain ⟨i', hi'⟩ := (fab_iff hO hA x0).mp x2
  have e1 := fdep_up hO hA i p (by rw [hi]; exact x0)
  have e2 := fdep_up hO hA i' o (by rw [hi']; exact x0)
  rw [hi] at e1
  rw [hi'] at e2
  have e3 := fdep_st hO hA h1
  cases i with
  | zero =>
    exfalso
    have : i' = 0 := by omega
    subst this
    exact hne (hi.trans hi'.symm)
  | succ i => omega
/-- the notes of elders are right -/
def eOk (F E : fS) : Prop := (∀ l p : Int, 0 ≤ l → l < 5 → 0 ≤ p → p < 24 → E 0 (l * 24 + p) = upk (F 0) (2 ^ l.toNat) p) ∧ ∀ p : Int, 0 ≤ p → p < 24 → E 1 p = fdep F p
def eNo (E : fS) (l p : Int) : Int := if (0 ≤ l ∧ l < 5) ∧ 0 ≤ p ∧ p < 24 then E 0 (l * 24 + p) else -1
theorem eNo_e {B : Int} {F E : fS} (hO : jOk B F) (h : eOk F E) {l p : Int} (hl : 0 ≤ l ∧ l < 5) (hp : -1 ≤ p ∧ p < 24) : eNo E l p = upk (F 0) (2 ^ l.toNat) p := by
  unfold eNo
  by_cases h0 : 0 ≤ p
  · rw [if_pos ⟨hl, h0, hp.2⟩]
    exact h.1 l p hl.1 hl.2 h0 hp.2
  · rw [if_neg (fun q => h0 q.2.1), show p = -1 by omega, upk_e hO.par1]
theorem pow_s {l : Int} (h : 0 ≤ l) : (2 : Nat) ^ (l + 1).toNat = 2 * 2 ^ l.toNat := by
  rw [show (l + 1).toNat = l.toNat + 1 by omega, Nat.pow_succ]
  omega
theorem pow_b {l : Int} (h : l < 5) : (2 : Nat) ^ l.toNat ≤ 16 := (Nat.pow_le_pow_right (show 2 > 0 by decide) (show l.toNat ≤ 4 by omega) : 2 ^ l.toNat ≤ 2 ^ 4)
theorem pow_p (l : Int) : 0 < (2 : Nat) ^ l.toNat := Nat.pow_pos (by decide)
