/-- the families at the place k: F f i is the i-th of the field f; the numbers stand at 0 -/
def jFam (k : Nat) (F : Nat → Int → Int) (h : jH) : Prop :=
  h k = some (jO 1 [.ref (k + 1), .ref (k + 2), .ref (k + 3), .ref (k + 4), .ref (k + 5), .ref (k + 6), iv (F 6 0), iv (F 7 0), iv (F 8 0), iv (F 9 0), iv (F 10 0)]) ∧
  h (k + 1) = some (jA 0 24 (F 0)) ∧ h (k + 2) = some (jA 0 24 (F 1)) ∧ h (k + 3) = some (jA 0 24 (F 2)) ∧ h (k + 4) = some (jA 1 24 (F 3)) ∧ h (k + 5) = some (jA 0 20 (F 4)) ∧ h (k + 6) = some (jA 0 20 (F 5))
/-- answers r and leaves the world -/
def jRet (r : Value) (h : jH) : jPn := fun r' h' => r' = some r ∧ h' = h
def fpa (F : Nat → Int → Int) (p : Int) : Int := if 0 ≤ p ∧ p < 24 then F 0 p else -1
theorem jloop {α : Type} {P : α → Prop} (Inv : α → Prop) (μ : α → Nat) (step : ∀ a, Inv a → (∀ b, Inv b → μ b < μ a → P b) → P a) : ∀ a, Inv a → P a := by
  have key : ∀ n a, μ a < n → Inv a → P a := by
    intro n
    induction n with
    | zero => intro a h; exact absurd h (Nat.not_lt_zero _)
    | succ n ih => intro a h hi; exact step a hi fun b hb hlt => ih b (by omega) hb
  exact fun a => key _ a (Nat.lt_succ_self _)
set_option maxHeartbeats 4000000 in
theorem c_parentOf {k : Nat} {F : Nat → Int → Int} {h : jH} (hF : jFam k F h) {p : Int} (hp : -2147483648 ≤ p ∧ p ≤ 2147483647) : jM mX1_parentOf 0 0 0 [] [.ref k, iv p] h (jRet (iv (fpa F p)) h) jno := by
  refine j_method (by decide +kernel) rfl (fun _ _ _ => trivial) (Nat.le_of_ble_eq_true rfl) ?_
  show J mX1_parentOf (jR 0 0 0) [] (jZ [] 0 0 _ _) 0 [(0, .ref k), (1, iv p)] [] h 0 0
  refine j_iload_n dX1_parentOf_0 rfl rfl ?_
  refine j_if_lt (tgt := 19) dX1_parentOf_1 (by decide) (by omega) (fun c1 => ?_) (fun c1 => ?_)
  · refine j_iconst dX1_parentOf_19 ?_
    exact j_ireturn dX1_parentOf_20 rfl rfl ⟨by rw [fpa, if_neg (by omega)], rfl⟩ (Nat.le_refl _) (Nat.le_refl _)
  · refine j_iload_n dX1_parentOf_4 rfl rfl ?_
    refine j_bipush dX1_parentOf_5 (by decide +kernel) ?_
    refine j_icmp_ge (tgt := 19) dX1_parentOf_7 (by decide) (by omega) (fun c2 => ?_) (fun c2 => ?_)
    · refine j_iconst dX1_parentOf_19 ?_
      exact j_ireturn dX1_parentOf_20 rfl rfl ⟨by rw [fpa, if_neg (by omega)], rfl⟩ (Nat.le_refl _) (Nat.le_refl _)
    · refine j_aload_n dX1_parentOf_10 rfl rfl ?_
      refine j_getfield dX1_parentOf_11 jf_X1_9 hF.1 rfl ?_
      refine j_iload_n dX1_parentOf_14 rfl rfl ?_
      refine j_iaload dX1_parentOf_15 hF.2.1 (by omega) (by decide) ?_
      refine j_goto (tgt := 20) dX1_parentOf_16 (by decide) ?_
      exact j_ireturn dX1_parentOf_20 rfl rfl ⟨by rw [fpa, if_pos (by omega)], rfl⟩ (Nat.le_refl _) (Nat.le_refl _)
/-- what is known of families: parents are -1 or persons -/
def jOkP (F : Nat → Int → Int) : Prop := ∀ i, -1 ≤ F 0 i ∧ F 0 i < 24
theorem fpa_rg {F : Nat → Int → Int} (hO : jOkP F) (p : Int) : -1 ≤ fpa F p ∧ fpa F p < 24 := by
  unfold fpa
  have := hO p
  split <;> omega
def fdep (F : Nat → Int → Int) : Nat → Int → Int
  | 0, _ => 0
  | n + 1, p => if fpa F p = -1 then 0 else 1 + fdep F n (fpa F p)
set_option maxHeartbeats 4000000 in
theorem c_depthOf {k : Nat} {F : Nat → Int → Int} {h : jH} (hF : jFam k F h) (hO : jOkP F) {p : Int} (hp : -2147483648 ≤ p ∧ p ≤ 2147483647) : jM mX1_depthOf 1 0 0 [] [.ref k, iv p] h (jRet (iv (fdep F 24 p)) h) jno := by
  refine j_method (by decide +kernel) rfl (fun _ _ _ => trivial) (Nat.le_of_ble_eq_true rfl) ?_
  generalize hZ : jZ [] 0 0 _ _ = Z
  show J mX1_depthOf (jR 1 0 0) [] Z 0 [(0, .ref k), (1, iv p)] [] h 0 0
  refine j_iconst dX1_depthOf_0 ?_
  refine j_istore_n (L' := [(0, _), (1, _), (2, _)]) dX1_depthOf_1 rfl (by decide) rfl ?_
  refine j_aload_n dX1_depthOf_2 rfl rfl ?_
  refine j_iload_n dX1_depthOf_3 rfl rfl ?_
  refine j_callV (c_parentOf hF (by omega)) dX1_depthOf_4 jc_X1_65 jmV_X1_parentOf rfl rfl hF.1 rfl rfl (by simp) jfr_nil (by decide) (by decide) (by decide) (fun r h' hp9 => ?_) (fun E h' q => q.elim)
  obtain ⟨rfl, rfl⟩ := hp9
  refine j_istore_n (L' := [(0, _), (1, _), (2, _), (3, _)]) dX1_depthOf_7 rfl (by decide) rfl ?_
  refine jloop (P := fun a : Int × Int => J mX1_depthOf (jR 1 0 0) [] Z 8 [(0, .ref k), (1, iv p), (2, iv a.1), (3, iv a.2)] [] h 0 0) (fun a => 0 ≤ a.1 ∧ a.1 ≤ 24 ∧ -1 ≤ a.2 ∧ a.2 < 24 ∧ fdep F 24 p = a.1 + (if a.2 = -1 then 0 else 1 + fdep F (23 - a.1.toNat) a.2)) (fun a => (24 - a.1).toNat) ?_ (0, fpa F p) ?_
  · rintro ⟨d, x⟩ ⟨i1, i2, i3, i4, i5⟩ ih
    dsimp only at i1 i2 i3 i4 i5 ih ⊢
    sorry
  · sorry
