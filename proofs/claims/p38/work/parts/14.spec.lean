abbrev fS : Type := Nat → Int → Int
/-- the families at the place k: F f i is the i-th of the field f (0 parents, 1 spouses, 2 coins, 3 living, 4 and 5 quarrels); the numbers (6 persons, 7 quarrels, 8 ended, 9 given, 10 lost) stand at 0 -/
def jFam (k : Nat) (F : fS) (h : jH) : Prop :=
  h k = some (jO 1 [.ref (k + 1), .ref (k + 2), .ref (k + 3), .ref (k + 4), .ref (k + 5), .ref (k + 6), iv (F 6 0), iv (F 7 0), iv (F 8 0), iv (F 9 0), iv (F 10 0)]) ∧
  h (k + 1) = some (jA 0 24 (F 0)) ∧ h (k + 2) = some (jA 0 24 (F 1)) ∧ h (k + 3) = some (jA 0 24 (F 2)) ∧ h (k + 4) = some (jA 1 24 (F 3)) ∧ h (k + 5) = some (jA 0 20 (F 4)) ∧ h (k + 6) = some (jA 0 20 (F 5))
/-- answers r and leaves the world -/
def jRet (r : Value) (h : jH) : jPn := fun r' h' => r' = some r ∧ h = h'
theorem jloop {α : Type} {P : α → Prop} (Inv : α → Prop) (μ : α → Nat) (step : ∀ a, Inv a → (∀ b, Inv b → μ b < μ a → P b) → P a) : ∀ a, Inv a → P a := by
  have key : ∀ n a, μ a < n → Inv a → P a := by
    intro n
    induction n with
    | zero => intro a h; exact absurd h (Nat.not_lt_zero _)
    | succ n ih => intro a h hi; exact step a hi fun b hb hlt => ih b (by omega) hb
  exact fun a => key _ a (Nat.lt_succ_self _)
/-- what always holds of families, with coins below B -/
def jOk (B : Int) (F : fS) : Prop :=
  (0 ≤ F 6 0 ∧ F 6 0 ≤ 24) ∧ (0 ≤ F 7 0 ∧ F 7 0 ≤ 20) ∧ (∀ i, (i < 0 ∨ F 6 0 ≤ i) → F 0 i = -1 ∧ F 1 i = -1 ∧ F 2 i = 0 ∧ F 3 i = 0) ∧
  (∀ i, -1 ≤ F 0 i ∧ F 0 i < F 6 0) ∧ (∀ i, -1 ≤ F 1 i ∧ F 1 i < F 6 0) ∧ (∀ i, 0 ≤ F 2 i ∧ F 2 i ≤ B) ∧ (∀ i, F 3 i = 0 ∨ F 3 i = 1) ∧
  (∀ i, 0 ≤ i → i < F 7 0 → (0 ≤ F 4 i ∧ F 4 i < F 6 0) ∧ (0 ≤ F 5 i ∧ F 5 i < F 6 0)) ∧ (0 ≤ F 8 0 ∧ F 8 0 ≤ B) ∧ (0 ≤ F 9 0 ∧ F 9 0 ≤ B) ∧ (0 ≤ F 10 0 ∧ F 10 0 ≤ B) ∧ B ≤ 20000000
theorem jOk.n {B : Int} {F : fS} (h : jOk B F) : 0 ≤ F 6 0 ∧ F 6 0 ≤ 24 := h.1
theorem jOk.q {B : Int} {F : fS} (h : jOk B F) : 0 ≤ F 7 0 ∧ F 7 0 ≤ 20 := h.2.1
theorem jOk.df {B : Int} {F : fS} (h : jOk B F) (i : Int) (hi : i < 0 ∨ F 6 0 ≤ i) : F 0 i = -1 ∧ F 1 i = -1 ∧ F 2 i = 0 ∧ F 3 i = 0 := h.2.2.1 i hi
theorem jOk.df24 {B : Int} {F : fS} (h : jOk B F) (i : Int) (hi : ¬ (0 ≤ i ∧ i < 24)) : F 0 i = -1 ∧ F 1 i = -1 ∧ F 2 i = 0 ∧ F 3 i = 0 := h.2.2.1 i (by have := h.1; omega)
theorem jOk.p {B : Int} {F : fS} (h : jOk B F) (i : Int) : -1 ≤ F 0 i ∧ F 0 i < F 6 0 := h.2.2.2.1 i
theorem jOk.s {B : Int} {F : fS} (h : jOk B F) (i : Int) : -1 ≤ F 1 i ∧ F 1 i < F 6 0 := h.2.2.2.2.1 i
theorem jOk.c {B : Int} {F : fS} (h : jOk B F) (i : Int) : 0 ≤ F 2 i ∧ F 2 i ≤ B := h.2.2.2.2.2.1 i
theorem jOk.l {B : Int} {F : fS} (h : jOk B F) (i : Int) : F 3 i = 0 ∨ F 3 i = 1 := h.2.2.2.2.2.2.1 i
theorem jOk.qq {B : Int} {F : fS} (h : jOk B F) (i : Int) (h0 : 0 ≤ i) (h1 : i < F 7 0) : (0 ≤ F 4 i ∧ F 4 i < F 6 0) ∧ (0 ≤ F 5 i ∧ F 5 i < F 6 0) := h.2.2.2.2.2.2.2.1 i h0 h1
theorem jOk.e {B : Int} {F : fS} (h : jOk B F) : 0 ≤ F 8 0 ∧ F 8 0 ≤ B := h.2.2.2.2.2.2.2.2.1
theorem jOk.g {B : Int} {F : fS} (h : jOk B F) : 0 ≤ F 9 0 ∧ F 9 0 ≤ B := h.2.2.2.2.2.2.2.2.2.1
theorem jOk.o {B : Int} {F : fS} (h : jOk B F) : 0 ≤ F 10 0 ∧ F 10 0 ≤ B := h.2.2.2.2.2.2.2.2.2.2.1
theorem jOk.b {B : Int} {F : fS} (h : jOk B F) : B ≤ 20000000 := h.2.2.2.2.2.2.2.2.2.2.2
-- sums and counts
def csum (f : Int → Int) : Nat → Int
  | 0 => 0
  | k + 1 => csum f k + f k
theorem csum_s (f : Int → Int) {i : Int} (h : 0 ≤ i) : csum f (i + 1).toNat = csum f i.toNat + f i := by
  have e : (i + 1).toNat = i.toNat + 1 := by omega
  rw [e]
  show csum f i.toNat + f ((i.toNat : Nat) : Int) = _
  rw [Int.toNat_of_nonneg h]
theorem csum_rg {f : Int → Int} {a b : Int} (h : ∀ i, a ≤ f i ∧ f i ≤ b) (ha : a ≤ 0) (hb : 0 ≤ b) : ∀ k : Nat, (k : Int) * a ≤ csum f k ∧ csum f k ≤ k * b
  | 0 => ⟨by show (0 : Int) * a ≤ 0; rw [Int.zero_mul]; exact Int.le_refl _, by show (0 : Int) ≤ 0 * b; rw [Int.zero_mul]; exact Int.le_refl _⟩
  | k + 1 => by
    obtain ⟨h1, h2⟩ := csum_rg h ha hb k
    obtain ⟨h3, h4⟩ := h k
    have e1 : ((k + 1 : Nat) : Int) * a = k * a + a := by rw [show ((k + 1 : Nat) : Int) = (k : Int) + 1 from rfl, Int.add_mul, Int.one_mul]
    have e2 : ((k + 1 : Nat) : Int) * b = k * b + b := by rw [show ((k + 1 : Nat) : Int) = (k : Int) + 1 from rfl, Int.add_mul, Int.one_mul]
    rw [e1, e2]
    show _ ≤ csum f k + f k ∧ csum f k + f k ≤ _
    exact ⟨by omega, by omega⟩
def bi (c : Prop) [Decidable c] : Int := if c then 1 else 0
theorem bi_t {c : Prop} [Decidable c] (h : c) : bi c = 1 := if_pos h
theorem bi_f {c : Prop} [Decidable c] (h : ¬ c) : bi c = 0 := if_neg h
theorem bi_rg (c : Prop) [Decidable c] : 0 ≤ bi c ∧ bi c ≤ 1 := by unfold bi; split <;> omega
theorem csum_bi {P : Int → Prop} [inst : ∀ i, Decidable (P i)] (k : Nat) : 0 ≤ csum (fun i => bi (P i)) k ∧ csum (fun i => bi (P i)) k ≤ k := by
  have := csum_rg (f := fun i => bi (P i)) (a := 0) (b := 1) (fun i => bi_rg _) (by omega) (by omega) k
  omega
def cmax (f : Int → Int) : Nat → Int
  | 0 => 0
  | k + 1 => max (cmax f k) (f k)
theorem cmax_s (f : Int → Int) {i : Int} (h : 0 ≤ i) : cmax f (i + 1).toNat = max (cmax f i.toNat) (f i) := by
  have e : (i + 1).toNat = i.toNat + 1 := by omega
  rw [e]
  show max (cmax f i.toNat) (f ((i.toNat : Nat) : Int)) = _
  rw [Int.toNat_of_nonneg h]
-- walks up
/-- how many of x, its parent .. there are, at most k -/
def ucnt (par : Int → Int) : Nat → Int → Int
  | 0, _ => 0
  | k + 1, x => if x = -1 then 0 else 1 + ucnt par k (par x)
def fdep (F : fS) (p : Int) : Int := ucnt (F 0) 24 (F 0 p)
def urt (par : Int → Int) : Nat → Int → Int
  | 0, x => x
  | k + 1, x => if par x = -1 then x else urt par k (par x)
def frt (F : fS) (p : Int) : Int := urt (F 0) 24 p
def upk (par : Int → Int) : Nat → Int → Int
  | 0, x => x
  | k + 1, x => upk par k (par x)
/-- y is x, or above it within k -/
def uanc (par : Int → Int) : Nat → Int → Int → Bool
  | 0, _, _ => false
  | k + 1, x, y => if x = -1 then false else decide (x = y) || uanc par k (par x) y
/-- the first from x upward that q takes -/
def ufst (par : Int → Int) (q : Int → Bool) : Nat → Int → Int
  | 0, x => x
  | k + 1, x => if x = -1 then x else if q x then x else ufst par q k (par x)
/-- the first from c on that q takes, within k, or -1 -/
def nfst (q : Int → Bool) : Nat → Int → Int
  | 0, _ => -1
  | k + 1, c => if q c then c else nfst q k (c + 1)
theorem ucnt_rg (par : Int → Int) : ∀ (k : Nat) (x : Int), 0 ≤ ucnt par k x ∧ ucnt par k x ≤ k
  | 0, _ => ⟨Int.le_refl _, Int.le_refl _⟩
  | k + 1, x => by
    have := ucnt_rg par k (par x)
    unfold ucnt
    split <;> omega
theorem fdep_rg (F : fS) (p : Int) : 0 ≤ fdep F p ∧ fdep F p ≤ 24 := ucnt_rg _ 24 _
theorem nfst_rg (q : Int → Bool) : ∀ (k : Nat) (c : Int), nfst q k c = -1 ∨ (c ≤ nfst q k c ∧ nfst q k c < c + k)
  | 0, c => Or.inl rfl
  | k + 1, c => by
    have := nfst_rg q k (c + 1)
    unfold nfst
    split <;> omega
/-- fewer locals -/
theorem J.keep {M : jMe} {R : Room} {nw : List Nat} {Z : jFin} {pc : Nat} {L L' : List (Nat × Value)} {st : List Value} {h : jH} {nc ns : Nat} (is : List Nat) (he : L.filter (fun q => is.contains q.1) = L') (k : J M R nw Z pc L' st h nc ns) : J M R nw Z pc L st h nc ns := by
  intro p l e s m args below meth c H locs ls D cy ad ad0 bs hX
  obtain ⟨x1, x2, x3, x4, x5, x6, x7, x8, x9⟩ := hX
  subst he
  refine k p l e s m args below meth c H locs ls D cy ad ad0 bs ⟨x1, x2, x3, x4, x5, x6, x7, ⟨x8.1, x8.2.1, fun q hq => x8.2.2 q ?_⟩, x9⟩
  obtain ⟨q0, h0, rfl⟩ := List.mem_map.mp hq
  exact List.mem_map.mpr ⟨q0, (List.mem_filter.mp h0).1, rfl⟩
