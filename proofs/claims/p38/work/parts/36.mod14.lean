theorem csum_big {f : Int → Int} {b : Int} (h : ∀ i, 0 ≤ f i ∧ f i ≤ b) (hb : 0 ≤ b) (k : Nat) : 0 ≤ csum f k ∧ csum f k ≤ k * b := by
  have := csum_rg (f := f) (a := 0) (b := b) h (Int.le_refl _) hb k
  rw [Int.mul_zero] at this
  exact this
theorem csum_co {B : Int} {K : fS} (hO : jOk B K) : 0 ≤ csum (fun c => K 2 c) (K 6 0).toNat ∧ csum (fun c => K 2 c) (K 6 0).toNat ≤ 480000000 := by
  have hn := hO.n
  have hb := hO.b
  have h := csum_big (f := fun c => K 2 c) (b := 20000000) (fun i => by have := hO.c i; omega) (by omega) (K 6 0).toNat
  omega
