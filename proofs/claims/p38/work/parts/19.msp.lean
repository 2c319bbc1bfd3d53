/-! THE REFERENCE'S ROW OF NUMBERS read as families -/
def mK (f : Int → Int) : fS := fun i => match i with
  | 0 => fun p => if 0 ≤ p ∧ p < f 0 then f (5 + p) else -1
  | 1 => fun p => if 0 ≤ p ∧ p < f 0 then f (29 + p) else -1
  | 2 => fun p => if 0 ≤ p ∧ p < f 0 then f (53 + p) else 0
  | 3 => fun p => if 0 ≤ p ∧ p < f 0 then f (77 + p) else 0
  | 4 => fun q => if 0 ≤ q ∧ q < f 1 then f (101 + 2 * q) else -1
  | 5 => fun q => if 0 ≤ q ∧ q < f 1 then f (102 + 2 * q) else -1
  | 6 => fun _ => f 0
  | 7 => fun _ => f 1
  | 8 => fun _ => f 2
  | 9 => fun _ => f 3
  | 10 => fun _ => f 4
  | _ => fun _ => 0
theorem mK_0 {f : Int → Int} {p : Int} (h : 0 ≤ p ∧ p < f 0) : mK f 0 p = f (5 + p) := if_pos h
theorem mK_1 {f : Int → Int} {p : Int} (h : 0 ≤ p ∧ p < f 0) : mK f 1 p = f (29 + p) := if_pos h
theorem mK_2 {f : Int → Int} {p : Int} (h : 0 ≤ p ∧ p < f 0) : mK f 2 p = f (53 + p) := if_pos h
theorem mK_3 {f : Int → Int} {p : Int} (h : 0 ≤ p ∧ p < f 0) : mK f 3 p = f (77 + p) := if_pos h
theorem mK_4 {f : Int → Int} {p : Int} (h : 0 ≤ p ∧ p < f 1) : mK f 4 p = f (101 + 2 * p) := if_pos h
theorem mK_5 {f : Int → Int} {p : Int} (h : 0 ≤ p ∧ p < f 1) : mK f 5 p = f (102 + 2 * p) := if_pos h
theorem mK_n {B : Int} {f : Int → Int} (h : jOk B (mK f)) : 0 ≤ f 0 ∧ f 0 ≤ 24 := h.n
theorem mK_q {B : Int} {f : Int → Int} (h : jOk B (mK f)) : 0 ≤ f 1 ∧ f 1 ≤ 20 := h.q
theorem bi_nz {c : Prop} [Decidable c] (h : ¬ (bi c = 0)) : c := Decidable.not_not.mp fun q => h (bi_f q)
theorem bi_z {c : Prop} [Decidable c] (h : bi c = 0) : ¬ c := fun q => by rw [bi_t q] at h; cases h
theorem bi_pos {c : Prop} [Decidable c] (h : 0 < bi c) : c := bi_nz (by omega)
theorem bi_c {c d : Prop} [Decidable c] [Decidable d] (h : c ↔ d) : bi c = bi d := by
  by_cases hc : c
  · rw [bi_t hc, bi_t (h.mp hc)]
  · rw [bi_f hc, bi_f fun q => hc (h.mpr q)]
-- forests: every walk up ends
def fAc (F : fS) : Prop := ∀ p, upk (F 0) 24 p = -1
theorem upk_s (par : Int → Int) : ∀ (k : Nat) (x : Int), upk par (k + 1) x = par (upk par k x)
  | 0, _ => rfl
  | k + 1, x => upk_s par k (par x)
theorem upk_e {par : Int → Int} (h : par (-1) = -1) : ∀ k : Nat, upk par k (-1) = -1
  | 0 => rfl
  | k + 1 => by show upk par k (par (-1)) = -1; rw [h]; exact upk_e h k
theorem upk_a (par : Int → Int) : ∀ (a b : Nat) (x : Int), upk par (a + b) x = upk par b (upk par a x)
  | 0, b, x => by rw [Nat.zero_add]; rfl
  | a + 1, b, x => by
    rw [show a + 1 + b = (a + b) + 1 by omega]
    exact upk_a par a b (par x)
theorem ucnt_k {par : Int → Int} (h : par (-1) = -1) : ∀ (k : Nat) (x : Int), upk par k x = -1 → ucnt par (k + 1) x = ucnt par k x
  | 0, x, hx => by
    have : x = -1 := hx
    rw [this]
    rfl
  | k + 1, x, hx => by
    by_cases h1 : x = -1
    · rw [h1]; rfl
    · have e := ucnt_k h k (par x) hx
      show (if x = -1 then 0 else 1 + ucnt par (k + 1) (par x)) = (if x = -1 then 0 else 1 + ucnt par k (par x))
      rw [e]
theorem jOk.par1 {B : Int} {F : fS} (h : jOk B F) : F 0 (-1) = -1 := (h.df (-1) (Or.inl (by omega))).1
theorem fdep_z {B : Int} {F : fS} (_ : jOk B F) {x : Int} (hx : F 0 x = -1) : fdep F x = 0 := by
  unfold fdep
  rw [hx]
  rfl
theorem fdep_st {B : Int} {F : fS} (h : jOk B F) (hA : fAc F) {x : Int} (hx : F 0 x ≠ -1) : fdep F x = 1 + fdep F (F 0 x) := by
  unfold fdep
  rw [← ucnt_k h.par1 24 (F 0 x) (hA _)]
  exact ucnt_st hx
theorem urt_k {par : Int → Int} (h : par (-1) = -1) : ∀ (k : Nat) (x : Int), upk par (k + 1) x = -1 → urt par (k + 1) x = urt par k x
  | 0, x, hx => by
    have : par x = -1 := hx
    exact urt_e this 1
  | k + 1, x, hx => by
    by_cases h1 : par x = -1
    · rw [urt_e h1, urt_e h1]
    · rw [urt_st h1, urt_st h1]
      exact urt_k h k (par x) hx
theorem frt_z {F : fS} {x : Int} (hx : F 0 x = -1) : frt F x = x := urt_e hx 24
theorem frt_st {B : Int} {F : fS} (h : jOk B F) (hA : fAc F) {x : Int} (hx : F 0 x ≠ -1) : frt F x = frt F (F 0 x) := by
  unfold frt
  rw [urt_st hx]
  exact (urt_k h.par1 23 (F 0 x) (hA _)).symm
theorem uanc_k {par : Int → Int} (h : par (-1) = -1) : ∀ (k : Nat) (x y : Int), upk par k x = -1 → uanc par (k + 1) x y = uanc par k x y
  | 0, x, y, hx => by
    have : x = -1 := hx
    rw [this]
    rfl
  | k + 1, x, y, hx => by
    by_cases h1 : x = -1
    · rw [h1]; rfl
    · have e := uanc_k h k (par x) y hx
      show (if x = -1 then false else decide (x = y) || uanc par (k + 1) (par x) y) = (if x = -1 then false else decide (x = y) || uanc par k (par x) y)
      rw [e]
/-- a is x, or an elder of it -/
def fab (F : fS) (a x : Int) : Bool := uanc (F 0) 24 x a
theorem fab_e {F : fS} {a : Int} : fab F a (-1) = false := rfl
theorem fab_st {B : Int} {F : fS} (h : jOk B F) (hA : fAc F) {a x : Int} (hx : x ≠ -1) : fab F a x = (decide (x = a) || fab F a (F 0 x)) := by
  unfold fab
  have e : uanc (F 0) 25 x a = uanc (F 0) 24 x a := uanc_k h.par1 24 x a (hA x)
  rw [← e]
  show (if x = -1 then false else decide (x = a) || uanc (F 0) 24 (F 0 x) a) = _
  rw [if_neg hx]
theorem ufst_k {par : Int → Int} {q : Int → Bool} (h : par (-1) = -1) : ∀ (k : Nat) (x : Int), upk par k x = -1 → ufst par q (k + 1) x = ufst par q k x
  | 0, x, hx => by
    have : x = -1 := hx
    rw [this]
    rfl
  | k + 1, x, hx => by
    by_cases h1 : x = -1
    · rw [h1]; rfl
    · have e := ufst_k (q := q) h k (par x) hx
      show (if x = -1 then x else if q x then x else ufst par q (k + 1) (par x)) = (if x = -1 then x else if q x then x else ufst par q k (par x))
      rw [e]
/-- the lowest of p and its elders that is o or an elder of it -/
def flc (F : fS) (p o : Int) : Int := ufst (F 0) (fun x => fab F x o) 24 p
theorem flc_t {B : Int} {F : fS} (_ : jOk B F) {p o : Int} (hq : fab F p o = true) : flc F p o = p := by
  unfold flc
  show (if p = -1 then p else if fab F p o = true then p else _) = p
  split
  · rfl
  · rfl
theorem flc_f {B : Int} {F : fS} (h : jOk B F) (hA : fAc F) {p o : Int} (hp : p ≠ -1) (hq : fab F p o = false) : flc F p o = flc F (F 0 p) o := by
  unfold flc
  rw [← ufst_k (q := fun x => fab F x o) h.par1 24 p (hA p)]
  show (if p = -1 then p else if fab F p o = true then p else ufst (F 0) (fun x => fab F x o) 24 (F 0 p)) = _
  rw [if_neg hp, hq]
  rfl
theorem fab_rt {B : Int} {F : fS} (h : jOk B F) (hA : fAc F) : ∀ (m : Nat) (x : Int), (fdep F x).toNat < m → 0 ≤ x → fab F (frt F x) x = true
  | 0, _, hm, _ => absurd hm (Nat.not_lt_zero _)
  | m + 1, x, hm, h0 => by
    rw [fab_st h hA (by omega : x ≠ -1)]
    by_cases h1 : F 0 x = -1
    · rw [frt_z h1]; simp
    · have hd := fdep_st h hA h1
      have hr := fdep_rg F (F 0 x)
      have hp := h.p x
      rw [frt_st h hA h1, fab_rt h hA m (F 0 x) (by omega) (by omega)]
      simp
theorem fab_root {B : Int} {F : fS} (h : jOk B F) (hA : fAc F) {x o : Int} (ho : 0 ≤ o) (hx : F 0 x = -1) (he : frt F x = frt F o) : fab F x o = true := by
  rw [← frt_z hx, he]
  exact fab_rt h hA _ o (Nat.lt_succ_self _) ho
def faw (F : fS) (p o : Int) : Int := fdep F p + fdep F o - 2 * fdep F (flc F p o)
theorem flc_rg {B : Int} {F : fS} (h : jOk B F) (hA : fAc F) : ∀ (m : Nat) (p o : Int), (fdep F p).toNat < m → 0 ≤ p → p < F 6 0 → 0 ≤ o → frt F p = frt F o → 0 ≤ flc F p o ∧ flc F p o < F 6 0
  | 0, _, _, hm, _, _, _, _ => absurd hm (Nat.not_lt_zero _)
  | m + 1, p, o, hm, h0, h1, h2, he => by
    cases hq : fab F p o with
    | true => rw [flc_t h hq]; exact ⟨h0, h1⟩
    | false =>
      have hp : F 0 p ≠ -1 := fun q => by rw [fab_root h hA h2 q he] at hq; cases hq
      have hd := fdep_st h hA hp
      have hr := fdep_rg F (F 0 p)
      have hb := h.p p
      rw [flc_f h hA (by omega) hq]
      exact flc_rg h hA m (F 0 p) o (by omega) (by omega) (by omega) h2 (by rw [← frt_st h hA hp]; exact he)
/-- who has the greatest degree to p in its oak, of several the lowest -/
def isFar (F : fS) (p r : Int) : Prop := 0 ≤ r ∧ r < F 6 0 ∧ frt F p = frt F r ∧ ((r = p ∧ ∀ o, 0 ≤ o → o < F 6 0 → frt F p = frt F o → faw F p o ≤ 0) ∨ (0 < faw F p r ∧ ∀ o, 0 ≤ o → o < F 6 0 → frt F p = frt F o → faw F p o ≤ faw F p r ∧ (faw F p o = faw F p r → r ≤ o)))
