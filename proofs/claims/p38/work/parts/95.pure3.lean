/-! WHAT THE CHECK OF PERSONS RESTS ON -/
theorem csum_st {f : Int → Int} {q c v : Int} (h0 : 0 ≤ q) (hc : c = csum f q.toNat) (hv : f q = v) : c + v = csum f (q + 1).toNat := by rw [csum_s f h0, hv, hc]
noncomputable def blw (K : fS) (x : Int) : Int → Int := fun y => bi (fab K x (K 0 y) = true)
theorem blw_st {B : Int} {F : fS} (hO : jOk B F) (hA : fAc F) {q x : Int} {G : Int → Int} {T : Int} (hq : 0 ≤ q) (h : G x + bi (fab F x q = true) = T) : jfu G q (G q + 1) x + bi (fab F x (F 0 q) = true) = T := by
  have e := fab_st hO hA (a := x) (show q ≠ -1 by omega)
  by_cases hx : x = q
  · subst hx
    have e2 := fab_no hO hA hq
    rw [jfu_s, e2, bi_f (by decide)]
    rw [e, bi_t (by simp)] at h
    omega
  · rw [jfu_n hx, ← h, e]
    rw [show (decide (q = x) || fab F x (F 0 q)) = fab F x (F 0 q) by rw [decide_eq_false (fun z => hx z.symm), Bool.false_or]]
theorem blw_e {F : fS} {q x : Int} {G : Int → Int} {T : Int} (hq : q = -1) (h : G x + bi (fab F x q = true) = T) : G x = T := by
  rw [← h, hq, fab_e, bi_f (by decide)]
  omega
theorem upk_lt {B : Int} {F : fS} (hO : jOk B F) (hA : fAc F) {q p : Int} {k : Nat} (h : q = upk (F 0) k p) (hq : 0 ≤ q) : k < 24 := by
  refine Decidable.not_not.mp fun z => ?_
  rw [upk_stay hO.par1 (hA p) (show 24 ≤ k by omega)] at h
  omega
