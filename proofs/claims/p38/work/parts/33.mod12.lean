theorem fel_in {B : Int} {F : fS} (hO : jOk B F) : ∀ (k : Nat) (x : Int), -1 ≤ x ∧ x < F 6 0 → -1 ≤ fel F k x ∧ fel F k x < F 6 0
  | 0, _, h => h
  | k + 1, x, h => by
    unfold fel
    split
    · exact h
    · exact fel_in hO k _ (hO.p x)
theorem fhe_rg {B : Int} {F : fS} (hO : jOk B F) (hA : fAc F) {p : Int} (_ : 0 ≤ p ∧ p < F 6 0) : -1 ≤ fhe F p ∧ fhe F p < F 6 0 := by
  have _ := hA
  cases hq : (des F 24 p).find? (fun x => decide (F 3 x ≠ 0)) with
  | some x =>
    rw [fhe_s hq]
    obtain ⟨_, _, _, a⟩ := des_up 24 p (List.mem_of_find?_eq_some hq)
    omega
  | none =>
    rw [fhe_n hq]
    have h1 := hO.s p
    have h2 := fel_in hO 24 (F 0 p) (hO.p p)
    split
    · exact h2
    · exact h1
/-- how many stand before p by coins -/
def krk (K : fS) (p : Int) : Int := csum (fun o => bi (K 2 o - K 2 p > 0 ∨ (K 2 o - K 2 p = 0 ∧ o < p))) (K 6 0).toNat
