/-- on the way through the digits -/
def gIn (v ix : Int) (g : Int → Int) (x c : Int) (f : Int → Int) : Prop := (0 ≤ x ∧ x ≤ 20000000) ∧ dl x ≤ c ∧ c ≤ ix ∧ dl v = dl x + (ix - c) ∧ x = dvn v (ix - c).toNat ∧ (∀ j : Nat, (j : Int) < ix - c → f (ix - 1 - j) = dgt v j) ∧ (∀ j : Int, j < c → f j = g j) ∧ ∀ j, 0 ≤ f j ∧ f j < 128
theorem jfu_d {v ix c y : Int} {f : Int → Int} (h : ∀ j : Nat, (j : Int) < ix - c → f (ix - 1 - j) = dgt v j) (hc : c ≤ ix) (hy : y = dgt v (ix - c).toNat) : ∀ j : Nat, (j : Int) < ix - (c - 1) → jfu f (c - 1) y (ix - 1 - j) = dgt v j := fun j hj => by
  by_cases e : (j : Int) < ix - c
  · rw [jfu_n (by omega)]; exact h j e
  · rw [show ix - 1 - (j : Int) = c - 1 by omega, jfu_s, hy, show j = (ix - c).toNat by omega]
theorem gIn_2 {v ix x c : Int} {g f : Int → Int} (h : gIn v ix g x c f) (hx : 100 ≤ x) : gIn v ix g (x / 100) (c - 1 - 1) (jfu (jfu f (c - 1) (48 + x % 100 % 10)) (c - 1 - 1) (48 + x % 100 / 10)) := by
  obtain ⟨h1, h2, h3, h4, h5, h6, h7, h8⟩ := h
  have d := dl_100 (v := x) (by omega)
  have r := dl_r (x / 100)
  have e1 : dvn v ((ix - c).toNat + 1) = x / 10 := by
    show dvn v (ix - c).toNat / 10 = _
    rw [← h5]
  have a := jfu_d (y := 48 + x % 100 % 10) h6 h3 (by unfold dgt; rw [← h5]; omega)
  have b := jfu_d (y := 48 + x % 100 / 10) a (by omega) (by unfold dgt; rw [show (ix - (c - 1)).toNat = (ix - c).toNat + 1 by omega, e1]; omega)
  refine ⟨by omega, by omega, by omega, by omega, ?_, b, fun j hj => by rw [jfu_n (by omega), jfu_n (by omega)]; exact h7 j (by omega), jSB_b (jSB_b h8 (by omega)) (by omega)⟩
  rw [show (ix - (c - 1 - 1)).toNat = (ix - c).toNat + 1 + 1 by omega]
  show _ = dvn v ((ix - c).toNat + 1) / 10
  rw [e1]
  omega
/-- the last one or two digits -/
theorem gIn_e {v ix x c : Int} {g f : Int → Int} (h : gIn v ix g x c f) (hx : x < 10) : (∀ j : Nat, (j : Int) < dl v → jfu f (c - 1) (48 + x % 10) (ix - 1 - j) = dgt v j) ∧ c - 1 = ix - dl v ∧ (∀ j : Int, j < c - 1 → jfu f (c - 1) (48 + x % 10) j = g j) ∧ ∀ j, 0 ≤ jfu f (c - 1) (48 + x % 10) j ∧ jfu f (c - 1) (48 + x % 10) j < 128 := by
  obtain ⟨h1, h2, h3, h4, h5, h6, h7, h8⟩ := h
  have d := dl_1 (v := x) (by omega)
  have a := jfu_d (y := 48 + x % 10) h6 h3 (by unfold dgt; rw [← h5])
  exact ⟨fun j hj => a j (by omega), by omega, fun j hj => by rw [jfu_n (by omega)]; exact h7 j (by omega), jSB_b h8 (by omega)⟩
theorem gIn_f {v ix x c : Int} {g f : Int → Int} (h : gIn v ix g x c f) (hx : 10 ≤ x ∧ x < 100) : (∀ j : Nat, (j : Int) < dl v → jfu (jfu f (c - 1) (48 + x % 10)) (c - 1 - 1) (48 + x / 10) (ix - 1 - j) = dgt v j) ∧ c - 1 - 1 = ix - dl v ∧ (∀ j : Int, j < c - 1 - 1 → jfu (jfu f (c - 1) (48 + x % 10)) (c - 1 - 1) (48 + x / 10) j = g j) ∧ ∀ j, 0 ≤ jfu (jfu f (c - 1) (48 + x % 10)) (c - 1 - 1) (48 + x / 10) j ∧ jfu (jfu f (c - 1) (48 + x % 10)) (c - 1 - 1) (48 + x / 10) j < 128 := by
  obtain ⟨h1, h2, h3, h4, h5, h6, h7, h8⟩ := h
  have d := dl_2 (v := x) (by omega)
  have e1 : dvn v ((ix - c).toNat + 1) = x / 10 := by
    show dvn v (ix - c).toNat / 10 = _
    rw [← h5]
  have a := jfu_d (y := 48 + x % 10) h6 h3 (by unfold dgt; rw [← h5])
  have b := jfu_d (y := 48 + x / 10) a (by omega) (by unfold dgt; rw [show (ix - (c - 1)).toNat = (ix - c).toNat + 1 by omega, e1]; omega)
  exact ⟨fun j hj => b j (by omega), by omega, fun j hj => by rw [jfu_n (by omega), jfu_n (by omega)]; exact h7 j (by omega), jSB_b (jSB_b h8 (by omega)) (by omega)⟩
