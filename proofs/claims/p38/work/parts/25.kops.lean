theorem jfu_s {f : Int → Int} {i x : Int} : jfu f i x i = x := if_pos rfl
theorem jfu_n {f : Int → Int} {i j x : Int} (h : j ≠ i) : jfu f i x j = f j := if_neg h
theorem fS_ext {F F' : fS} (h : ∀ i, i < 11 → F i = F' i) (hr : ∀ i, 11 ≤ i → F i = F' i) : F = F' := funext fun i => if q : i < 11 then h i q else hr i (by omega)
theorem mK_u0 {f : Int → Int} {p v : Int} (hn : 0 ≤ f 0 ∧ f 0 ≤ 24) (hq : 0 ≤ f 1 ∧ f 1 ≤ 20) (hp : 0 ≤ p ∧ p < f 0) : mK (jfu f (5 + p) v) = gs (mK f) 0 (jfu (mK f 0) p v) := by
  have e0 : jfu f (5 + p) v 0 = f 0 := jfu_n (by omega)
  have e1 : jfu f (5 + p) v 1 = f 1 := jfu_n (by omega)
  have e2 : jfu f (5 + p) v 2 = f 2 := jfu_n (by omega)
  have e3 : jfu f (5 + p) v 3 = f 3 := jfu_n (by omega)
  have e4 : jfu f (5 + p) v 4 = f 4 := jfu_n (by omega)
  funext i
  match i with
  | 0 =>
    funext x
    show (if 0 ≤ x ∧ x < jfu f (5 + p) v 0 then jfu f (5 + p) v (5 + x) else -1) = jfu (mK f 0) p v x
    rw [e0]
    by_cases hx : 0 ≤ x ∧ x < f 0
    · rw [if_pos hx]
      by_cases hxp : x = p
      · subst hxp
        rw [jfu_s, jfu_s]
      · rw [jfu_n (by omega : 5 + x ≠ 5 + p), jfu_n hxp, mK_0 hx]
    · rw [if_neg hx, jfu_n (by omega)]
      exact (if_neg hx).symm
  | 1 =>
    funext x
    show (if 0 ≤ x ∧ x < jfu f (5 + p) v 0 then jfu f (5 + p) v (29 + x) else -1) = mK f 1 x
    rw [e0]
    by_cases hx : 0 ≤ x ∧ x < f 0
    · rw [if_pos hx, mK_1 hx]
      exact jfu_n (by omega)
    · rw [if_neg hx]
      exact (if_neg hx).symm
  | 2 =>
    funext x
    show (if 0 ≤ x ∧ x < jfu f (5 + p) v 0 then jfu f (5 + p) v (53 + x) else 0) = mK f 2 x
    rw [e0]
    by_cases hx : 0 ≤ x ∧ x < f 0
    · rw [if_pos hx, mK_2 hx]
      exact jfu_n (by omega)
    · rw [if_neg hx]
      exact (if_neg hx).symm
  | 3 =>
    funext x
    show (if 0 ≤ x ∧ x < jfu f (5 + p) v 0 then jfu f (5 + p) v (77 + x) else 0) = mK f 3 x
    rw [e0]
    by_cases hx : 0 ≤ x ∧ x < f 0
    · rw [if_pos hx, mK_3 hx]
      exact jfu_n (by omega)
    · rw [if_neg hx]
      exact (if_neg hx).symm
  | 4 =>
    funext x
    show (if 0 ≤ x ∧ x < jfu f (5 + p) v 1 then jfu f (5 + p) v (101 + 2 * x) else -1) = mK f 4 x
    rw [e1]
    by_cases hx : 0 ≤ x ∧ x < f 1
    · rw [if_pos hx, mK_4 hx]
      exact jfu_n (by omega)
    · rw [if_neg hx]
      exact (if_neg hx).symm
  | 5 =>
    funext x
    show (if 0 ≤ x ∧ x < jfu f (5 + p) v 1 then jfu f (5 + p) v (102 + 2 * x) else -1) = mK f 5 x
    rw [e1]
    by_cases hx : 0 ≤ x ∧ x < f 1
    · rw [if_pos hx, mK_5 hx]
      exact jfu_n (by omega)
    · rw [if_neg hx]
      exact (if_neg hx).symm
  | 6 => exact funext fun _ => e0
  | 7 => exact funext fun _ => e1
  | 8 => exact funext fun _ => e2
  | 9 => exact funext fun _ => e3
  | 10 => exact funext fun _ => e4
  | n + 11 => rfl
theorem mK_u1 {f : Int → Int} {p v : Int} (hn : 0 ≤ f 0 ∧ f 0 ≤ 24) (hq : 0 ≤ f 1 ∧ f 1 ≤ 20) (hp : 0 ≤ p ∧ p < f 0) : mK (jfu f (29 + p) v) = gs (mK f) 1 (jfu (mK f 1) p v) := by
  have e0 : jfu f (29 + p) v 0 = f 0 := jfu_n (by omega)
  have e1 : jfu f (29 + p) v 1 = f 1 := jfu_n (by omega)
  have e2 : jfu f (29 + p) v 2 = f 2 := jfu_n (by omega)
  have e3 : jfu f (29 + p) v 3 = f 3 := jfu_n (by omega)
  have e4 : jfu f (29 + p) v 4 = f 4 := jfu_n (by omega)
  funext i
  match i with
  | 0 =>
    funext x
    show (if 0 ≤ x ∧ x < jfu f (29 + p) v 0 then jfu f (29 + p) v (5 + x) else -1) = mK f 0 x
    rw [e0]
    by_cases hx : 0 ≤ x ∧ x < f 0
    · rw [if_pos hx, mK_0 hx]
      exact jfu_n (by omega)
    · rw [if_neg hx]
      exact (if_neg hx).symm
  | 1 =>
    funext x
    show (if 0 ≤ x ∧ x < jfu f (29 + p) v 0 then jfu f (29 + p) v (29 + x) else -1) = jfu (mK f 1) p v x
    rw [e0]
    by_cases hx : 0 ≤ x ∧ x < f 0
    · rw [if_pos hx]
      by_cases hxp : x = p
      · subst hxp
        rw [jfu_s, jfu_s]
      · rw [jfu_n (by omega : 29 + x ≠ 29 + p), jfu_n hxp, mK_1 hx]
    · rw [if_neg hx, jfu_n (by omega)]
      exact (if_neg hx).symm
  | 2 =>
    funext x
    show (if 0 ≤ x ∧ x < jfu f (29 + p) v 0 then jfu f (29 + p) v (53 + x) else 0) = mK f 2 x
    rw [e0]
    by_cases hx : 0 ≤ x ∧ x < f 0
    · rw [if_pos hx, mK_2 hx]
      exact jfu_n (by omega)
    · rw [if_neg hx]
      exact (if_neg hx).symm
  | 3 =>
    funext x
    show (if 0 ≤ x ∧ x < jfu f (29 + p) v 0 then jfu f (29 + p) v (77 + x) else 0) = mK f 3 x
    rw [e0]
    by_cases hx : 0 ≤ x ∧ x < f 0
    · rw [if_pos hx, mK_3 hx]
      exact jfu_n (by omega)
    · rw [if_neg hx]
      exact (if_neg hx).symm
  | 4 =>
    funext x
    show (if 0 ≤ x ∧ x < jfu f (29 + p) v 1 then jfu f (29 + p) v (101 + 2 * x) else -1) = mK f 4 x
    rw [e1]
    by_cases hx : 0 ≤ x ∧ x < f 1
    · rw [if_pos hx, mK_4 hx]
      exact jfu_n (by omega)
    · rw [if_neg hx]
      exact (if_neg hx).symm
  | 5 =>
    funext x
    show (if 0 ≤ x ∧ x < jfu f (29 + p) v 1 then jfu f (29 + p) v (102 + 2 * x) else -1) = mK f 5 x
    rw [e1]
    by_cases hx : 0 ≤ x ∧ x < f 1
    · rw [if_pos hx, mK_5 hx]
      exact jfu_n (by omega)
    · rw [if_neg hx]
      exact (if_neg hx).symm
  | 6 => exact funext fun _ => e0
  | 7 => exact funext fun _ => e1
  | 8 => exact funext fun _ => e2
  | 9 => exact funext fun _ => e3
  | 10 => exact funext fun _ => e4
  | n + 11 => rfl
theorem mK_u2 {f : Int → Int} {p v : Int} (hn : 0 ≤ f 0 ∧ f 0 ≤ 24) (hq : 0 ≤ f 1 ∧ f 1 ≤ 20) (hp : 0 ≤ p ∧ p < f 0) : mK (jfu f (53 + p) v) = gs (mK f) 2 (jfu (mK f 2) p v) := by
  have e0 : jfu f (53 + p) v 0 = f 0 := jfu_n (by omega)
  have e1 : jfu f (53 + p) v 1 = f 1 := jfu_n (by omega)
  have e2 : jfu f (53 + p) v 2 = f 2 := jfu_n (by omega)
  have e3 : jfu f (53 + p) v 3 = f 3 := jfu_n (by omega)
  have e4 : jfu f (53 + p) v 4 = f 4 := jfu_n (by omega)
  funext i
  match i with
  | 0 =>
    funext x
    show (if 0 ≤ x ∧ x < jfu f (53 + p) v 0 then jfu f (53 + p) v (5 + x) else -1) = mK f 0 x
    rw [e0]
    by_cases hx : 0 ≤ x ∧ x < f 0
    · rw [if_pos hx, mK_0 hx]
      exact jfu_n (by omega)
    · rw [if_neg hx]
      exact (if_neg hx).symm
  | 1 =>
    funext x
    show (if 0 ≤ x ∧ x < jfu f (53 + p) v 0 then jfu f (53 + p) v (29 + x) else -1) = mK f 1 x
    rw [e0]
    by_cases hx : 0 ≤ x ∧ x < f 0
    · rw [if_pos hx, mK_1 hx]
      exact jfu_n (by omega)
    · rw [if_neg hx]
      exact (if_neg hx).symm
  | 2 =>
    funext x
    show (if 0 ≤ x ∧ x < jfu f (53 + p) v 0 then jfu f (53 + p) v (53 + x) else 0) = jfu (mK f 2) p v x
    rw [e0]
    by_cases hx : 0 ≤ x ∧ x < f 0
    · rw [if_pos hx]
      by_cases hxp : x = p
      · subst hxp
        rw [jfu_s, jfu_s]
      · rw [jfu_n (by omega : 53 + x ≠ 53 + p), jfu_n hxp, mK_2 hx]
    · rw [if_neg hx, jfu_n (by omega)]
      exact (if_neg hx).symm
  | 3 =>
    funext x
    show (if 0 ≤ x ∧ x < jfu f (53 + p) v 0 then jfu f (53 + p) v (77 + x) else 0) = mK f 3 x
    rw [e0]
    by_cases hx : 0 ≤ x ∧ x < f 0
    · rw [if_pos hx, mK_3 hx]
      exact jfu_n (by omega)
    · rw [if_neg hx]
      exact (if_neg hx).symm
  | 4 =>
    funext x
    show (if 0 ≤ x ∧ x < jfu f (53 + p) v 1 then jfu f (53 + p) v (101 + 2 * x) else -1) = mK f 4 x
    rw [e1]
    by_cases hx : 0 ≤ x ∧ x < f 1
    · rw [if_pos hx, mK_4 hx]
      exact jfu_n (by omega)
    · rw [if_neg hx]
      exact (if_neg hx).symm
  | 5 =>
    funext x
    show (if 0 ≤ x ∧ x < jfu f (53 + p) v 1 then jfu f (53 + p) v (102 + 2 * x) else -1) = mK f 5 x
    rw [e1]
    by_cases hx : 0 ≤ x ∧ x < f 1
    · rw [if_pos hx, mK_5 hx]
      exact jfu_n (by omega)
    · rw [if_neg hx]
      exact (if_neg hx).symm
  | 6 => exact funext fun _ => e0
  | 7 => exact funext fun _ => e1
  | 8 => exact funext fun _ => e2
  | 9 => exact funext fun _ => e3
  | 10 => exact funext fun _ => e4
  | n + 11 => rfl
theorem mK_u3 {f : Int → Int} {p v : Int} (hn : 0 ≤ f 0 ∧ f 0 ≤ 24) (hq : 0 ≤ f 1 ∧ f 1 ≤ 20) (hp : 0 ≤ p ∧ p < f 0) : mK (jfu f (77 + p) v) = gs (mK f) 3 (jfu (mK f 3) p v) := by
  have e0 : jfu f (77 + p) v 0 = f 0 := jfu_n (by omega)
  have e1 : jfu f (77 + p) v 1 = f 1 := jfu_n (by omega)
  have e2 : jfu f (77 + p) v 2 = f 2 := jfu_n (by omega)
  have e3 : jfu f (77 + p) v 3 = f 3 := jfu_n (by omega)
  have e4 : jfu f (77 + p) v 4 = f 4 := jfu_n (by omega)
  funext i
  match i with
  | 0 =>
    funext x
    show (if 0 ≤ x ∧ x < jfu f (77 + p) v 0 then jfu f (77 + p) v (5 + x) else -1) = mK f 0 x
    rw [e0]
    by_cases hx : 0 ≤ x ∧ x < f 0
    · rw [if_pos hx, mK_0 hx]
      exact jfu_n (by omega)
    · rw [if_neg hx]
      exact (if_neg hx).symm
  | 1 =>
    funext x
    show (if 0 ≤ x ∧ x < jfu f (77 + p) v 0 then jfu f (77 + p) v (29 + x) else -1) = mK f 1 x
    rw [e0]
    by_cases hx : 0 ≤ x ∧ x < f 0
    · rw [if_pos hx, mK_1 hx]
      exact jfu_n (by omega)
    · rw [if_neg hx]
      exact (if_neg hx).symm
  | 2 =>
    funext x
    show (if 0 ≤ x ∧ x < jfu f (77 + p) v 0 then jfu f (77 + p) v (53 + x) else 0) = mK f 2 x
    rw [e0]
    by_cases hx : 0 ≤ x ∧ x < f 0
    · rw [if_pos hx, mK_2 hx]
      exact jfu_n (by omega)
    · rw [if_neg hx]
      exact (if_neg hx).symm
  | 3 =>
    funext x
    show (if 0 ≤ x ∧ x < jfu f (77 + p) v 0 then jfu f (77 + p) v (77 + x) else 0) = jfu (mK f 3) p v x
    rw [e0]
    by_cases hx : 0 ≤ x ∧ x < f 0
    · rw [if_pos hx]
      by_cases hxp : x = p
      · subst hxp
        rw [jfu_s, jfu_s]
      · rw [jfu_n (by omega : 77 + x ≠ 77 + p), jfu_n hxp, mK_3 hx]
    · rw [if_neg hx, jfu_n (by omega)]
      exact (if_neg hx).symm
  | 4 =>
    funext x
    show (if 0 ≤ x ∧ x < jfu f (77 + p) v 1 then jfu f (77 + p) v (101 + 2 * x) else -1) = mK f 4 x
    rw [e1]
    by_cases hx : 0 ≤ x ∧ x < f 1
    · rw [if_pos hx, mK_4 hx]
      exact jfu_n (by omega)
    · rw [if_neg hx]
      exact (if_neg hx).symm
  | 5 =>
    funext x
    show (if 0 ≤ x ∧ x < jfu f (77 + p) v 1 then jfu f (77 + p) v (102 + 2 * x) else -1) = mK f 5 x
    rw [e1]
    by_cases hx : 0 ≤ x ∧ x < f 1
    · rw [if_pos hx, mK_5 hx]
      exact jfu_n (by omega)
    · rw [if_neg hx]
      exact (if_neg hx).symm
  | 6 => exact funext fun _ => e0
  | 7 => exact funext fun _ => e1
  | 8 => exact funext fun _ => e2
  | 9 => exact funext fun _ => e3
  | 10 => exact funext fun _ => e4
  | n + 11 => rfl
theorem mK_w2 {f : Int → Int} {v : Int} : mK (jfu f 2 v) = gn (mK f) 8 v := by
  have e0 : jfu f 2 v 0 = f 0 := jfu_n (by omega)
  have e1 : jfu f 2 v 1 = f 1 := jfu_n (by omega)
  funext i
  match i with
  | 0 =>
    funext x
    show (if 0 ≤ x ∧ x < jfu f 2 v 0 then jfu f 2 v (5 + x) else -1) = mK f 0 x
    rw [e0]
    by_cases hx : 0 ≤ x ∧ x < f 0
    · rw [if_pos hx, mK_0 hx]
      exact jfu_n (by omega)
    · rw [if_neg hx]
      exact (if_neg hx).symm
  | 1 =>
    funext x
    show (if 0 ≤ x ∧ x < jfu f 2 v 0 then jfu f 2 v (29 + x) else -1) = mK f 1 x
    rw [e0]
    by_cases hx : 0 ≤ x ∧ x < f 0
    · rw [if_pos hx, mK_1 hx]
      exact jfu_n (by omega)
    · rw [if_neg hx]
      exact (if_neg hx).symm
  | 2 =>
    funext x
    show (if 0 ≤ x ∧ x < jfu f 2 v 0 then jfu f 2 v (53 + x) else 0) = mK f 2 x
    rw [e0]
    by_cases hx : 0 ≤ x ∧ x < f 0
    · rw [if_pos hx, mK_2 hx]
      exact jfu_n (by omega)
    · rw [if_neg hx]
      exact (if_neg hx).symm
  | 3 =>
    funext x
    show (if 0 ≤ x ∧ x < jfu f 2 v 0 then jfu f 2 v (77 + x) else 0) = mK f 3 x
    rw [e0]
    by_cases hx : 0 ≤ x ∧ x < f 0
    · rw [if_pos hx, mK_3 hx]
      exact jfu_n (by omega)
    · rw [if_neg hx]
      exact (if_neg hx).symm
  | 4 =>
    funext x
    show (if 0 ≤ x ∧ x < jfu f 2 v 1 then jfu f 2 v (101 + 2 * x) else -1) = mK f 4 x
    rw [e1]
    by_cases hx : 0 ≤ x ∧ x < f 1
    · rw [if_pos hx, mK_4 hx]
      exact jfu_n (by omega)
    · rw [if_neg hx]
      exact (if_neg hx).symm
  | 5 =>
    funext x
    show (if 0 ≤ x ∧ x < jfu f 2 v 1 then jfu f 2 v (102 + 2 * x) else -1) = mK f 5 x
    rw [e1]
    by_cases hx : 0 ≤ x ∧ x < f 1
    · rw [if_pos hx, mK_5 hx]
      exact jfu_n (by omega)
    · rw [if_neg hx]
      exact (if_neg hx).symm
  | 6 => exact funext fun _ => jfu_n (by omega)
  | 7 => exact funext fun _ => jfu_n (by omega)
  | 8 => exact funext fun _ => jfu_s
  | 9 => exact funext fun _ => jfu_n (by omega)
  | 10 => exact funext fun _ => jfu_n (by omega)
  | n + 11 => rfl
theorem mK_w3 {f : Int → Int} {v : Int} : mK (jfu f 3 v) = gn (mK f) 9 v := by
  have e0 : jfu f 3 v 0 = f 0 := jfu_n (by omega)
  have e1 : jfu f 3 v 1 = f 1 := jfu_n (by omega)
  funext i
  match i with
  | 0 =>
    funext x
    show (if 0 ≤ x ∧ x < jfu f 3 v 0 then jfu f 3 v (5 + x) else -1) = mK f 0 x
    rw [e0]
    by_cases hx : 0 ≤ x ∧ x < f 0
    · rw [if_pos hx, mK_0 hx]
      exact jfu_n (by omega)
    · rw [if_neg hx]
      exact (if_neg hx).symm
  | 1 =>
    funext x
    show (if 0 ≤ x ∧ x < jfu f 3 v 0 then jfu f 3 v (29 + x) else -1) = mK f 1 x
    rw [e0]
    by_cases hx : 0 ≤ x ∧ x < f 0
    · rw [if_pos hx, mK_1 hx]
      exact jfu_n (by omega)
    · rw [if_neg hx]
      exact (if_neg hx).symm
  | 2 =>
    funext x
    show (if 0 ≤ x ∧ x < jfu f 3 v 0 then jfu f 3 v (53 + x) else 0) = mK f 2 x
    rw [e0]
    by_cases hx : 0 ≤ x ∧ x < f 0
    · rw [if_pos hx, mK_2 hx]
      exact jfu_n (by omega)
    · rw [if_neg hx]
      exact (if_neg hx).symm
  | 3 =>
    funext x
    show (if 0 ≤ x ∧ x < jfu f 3 v 0 then jfu f 3 v (77 + x) else 0) = mK f 3 x
    rw [e0]
    by_cases hx : 0 ≤ x ∧ x < f 0
    · rw [if_pos hx, mK_3 hx]
      exact jfu_n (by omega)
    · rw [if_neg hx]
      exact (if_neg hx).symm
  | 4 =>
    funext x
    show (if 0 ≤ x ∧ x < jfu f 3 v 1 then jfu f 3 v (101 + 2 * x) else -1) = mK f 4 x
    rw [e1]
    by_cases hx : 0 ≤ x ∧ x < f 1
    · rw [if_pos hx, mK_4 hx]
      exact jfu_n (by omega)
    · rw [if_neg hx]
      exact (if_neg hx).symm
  | 5 =>
    funext x
    show (if 0 ≤ x ∧ x < jfu f 3 v 1 then jfu f 3 v (102 + 2 * x) else -1) = mK f 5 x
    rw [e1]
    by_cases hx : 0 ≤ x ∧ x < f 1
    · rw [if_pos hx, mK_5 hx]
      exact jfu_n (by omega)
    · rw [if_neg hx]
      exact (if_neg hx).symm
  | 6 => exact funext fun _ => jfu_n (by omega)
  | 7 => exact funext fun _ => jfu_n (by omega)
  | 8 => exact funext fun _ => jfu_n (by omega)
  | 9 => exact funext fun _ => jfu_s
  | 10 => exact funext fun _ => jfu_n (by omega)
  | n + 11 => rfl
theorem mK_w4 {f : Int → Int} {v : Int} : mK (jfu f 4 v) = gn (mK f) 10 v := by
  have e0 : jfu f 4 v 0 = f 0 := jfu_n (by omega)
  have e1 : jfu f 4 v 1 = f 1 := jfu_n (by omega)
  funext i
  match i with
  | 0 =>
    funext x
    show (if 0 ≤ x ∧ x < jfu f 4 v 0 then jfu f 4 v (5 + x) else -1) = mK f 0 x
    rw [e0]
    by_cases hx : 0 ≤ x ∧ x < f 0
    · rw [if_pos hx, mK_0 hx]
      exact jfu_n (by omega)
    · rw [if_neg hx]
      exact (if_neg hx).symm
  | 1 =>
    funext x
    show (if 0 ≤ x ∧ x < jfu f 4 v 0 then jfu f 4 v (29 + x) else -1) = mK f 1 x
    rw [e0]
    by_cases hx : 0 ≤ x ∧ x < f 0
    · rw [if_pos hx, mK_1 hx]
      exact jfu_n (by omega)
    · rw [if_neg hx]
      exact (if_neg hx).symm
  | 2 =>
    funext x
    show (if 0 ≤ x ∧ x < jfu f 4 v 0 then jfu f 4 v (53 + x) else 0) = mK f 2 x
    rw [e0]
    by_cases hx : 0 ≤ x ∧ x < f 0
    · rw [if_pos hx, mK_2 hx]
      exact jfu_n (by omega)
    · rw [if_neg hx]
      exact (if_neg hx).symm
  | 3 =>
    funext x
    show (if 0 ≤ x ∧ x < jfu f 4 v 0 then jfu f 4 v (77 + x) else 0) = mK f 3 x
    rw [e0]
    by_cases hx : 0 ≤ x ∧ x < f 0
    · rw [if_pos hx, mK_3 hx]
      exact jfu_n (by omega)
    · rw [if_neg hx]
      exact (if_neg hx).symm
  | 4 =>
    funext x
    show (if 0 ≤ x ∧ x < jfu f 4 v 1 then jfu f 4 v (101 + 2 * x) else -1) = mK f 4 x
    rw [e1]
    by_cases hx : 0 ≤ x ∧ x < f 1
    · rw [if_pos hx, mK_4 hx]
      exact jfu_n (by omega)
    · rw [if_neg hx]
      exact (if_neg hx).symm
  | 5 =>
    funext x
    show (if 0 ≤ x ∧ x < jfu f 4 v 1 then jfu f 4 v (102 + 2 * x) else -1) = mK f 5 x
    rw [e1]
    by_cases hx : 0 ≤ x ∧ x < f 1
    · rw [if_pos hx, mK_5 hx]
      exact jfu_n (by omega)
    · rw [if_neg hx]
      exact (if_neg hx).symm
  | 6 => exact funext fun _ => jfu_n (by omega)
  | 7 => exact funext fun _ => jfu_n (by omega)
  | 8 => exact funext fun _ => jfu_n (by omega)
  | 9 => exact funext fun _ => jfu_n (by omega)
  | 10 => exact funext fun _ => jfu_s
  | n + 11 => rfl
theorem jOk_par {B : Int} {K : fS} {p v : Int} (h : jOk B K) (hp : 0 ≤ p ∧ p < K 6 0) (hv : -1 ≤ v ∧ v < K 6 0) : jOk B (gs K 0 (jfu (K 0) p v)) := by
  obtain ⟨a1, a2, a3, a4, a5, a6, a7, a8, a9, a10, a11, a12⟩ := h
  refine ⟨a1, a2, fun i hi => ?_, fun i => ?_, a5, a6, a7, a8, a9, a10, a11, a12⟩
  · have : _ ∧ _ := a3 i hi
    have hi2 : i < 0 ∨ K 6 0 ≤ i := hi
    exact ⟨(jfu_n (by omega)).trans this.1, this.2.1, this.2.2.1, this.2.2.2⟩
  · show -1 ≤ jfu (K 0) p v i ∧ jfu (K 0) p v i < K 6 0
    by_cases hi : i = p
    · rw [hi, jfu_s]; exact hv
    · rw [jfu_n hi]; exact a4 i
theorem jOk_spo {B : Int} {K : fS} {p v : Int} (h : jOk B K) (hp : 0 ≤ p ∧ p < K 6 0) (hv : -1 ≤ v ∧ v < K 6 0) : jOk B (gs K 1 (jfu (K 1) p v)) := by
  obtain ⟨a1, a2, a3, a4, a5, a6, a7, a8, a9, a10, a11, a12⟩ := h
  refine ⟨a1, a2, fun i hi => ?_, a4, fun i => ?_, a6, a7, a8, a9, a10, a11, a12⟩
  · have : _ ∧ _ := a3 i hi
    have hi2 : i < 0 ∨ K 6 0 ≤ i := hi
    exact ⟨this.1, (jfu_n (by omega)).trans this.2.1, this.2.2.1, this.2.2.2⟩
  · show -1 ≤ jfu (K 1) p v i ∧ jfu (K 1) p v i < K 6 0
    by_cases hi : i = p
    · rw [hi, jfu_s]; exact hv
    · rw [jfu_n hi]; exact a5 i
theorem jOk_coi {B : Int} {K : fS} {p v : Int} (h : jOk B K) (hp : 0 ≤ p ∧ p < K 6 0) (hv : 0 ≤ v ∧ v ≤ B) : jOk B (gs K 2 (jfu (K 2) p v)) := by
  obtain ⟨a1, a2, a3, a4, a5, a6, a7, a8, a9, a10, a11, a12⟩ := h
  refine ⟨a1, a2, fun i hi => ?_, a4, a5, fun i => ?_, a7, a8, a9, a10, a11, a12⟩
  · have : _ ∧ _ := a3 i hi
    have hi2 : i < 0 ∨ K 6 0 ≤ i := hi
    exact ⟨this.1, this.2.1, (jfu_n (by omega)).trans this.2.2.1, this.2.2.2⟩
  · show 0 ≤ jfu (K 2) p v i ∧ jfu (K 2) p v i ≤ B
    by_cases hi : i = p
    · rw [hi, jfu_s]; exact hv
    · rw [jfu_n hi]; exact a6 i
theorem jOk_liv {B : Int} {K : fS} {p v : Int} (h : jOk B K) (hp : 0 ≤ p ∧ p < K 6 0) (hv : v = 0 ∨ v = 1) : jOk B (gs K 3 (jfu (K 3) p v)) := by
  obtain ⟨a1, a2, a3, a4, a5, a6, a7, a8, a9, a10, a11, a12⟩ := h
  refine ⟨a1, a2, fun i hi => ?_, a4, a5, a6, fun i => ?_, a8, a9, a10, a11, a12⟩
  · have : _ ∧ _ := a3 i hi
    have hi2 : i < 0 ∨ K 6 0 ≤ i := hi
    exact ⟨this.1, this.2.1, this.2.2.1, (jfu_n (by omega)).trans this.2.2.2⟩
  · show jfu (K 3) p v i = 0 ∨ jfu (K 3) p v i = 1
    by_cases hi : i = p
    · rw [hi, jfu_s]; exact hv
    · rw [jfu_n hi]; exact a7 i
theorem mok_par {B : Int} {f : Int → Int} {p v : Int} (h : jOk B (mK f)) (hp : 0 ≤ p ∧ p < f 0) (hv : -1 ≤ v ∧ v < f 0) : jOk B (mK (jfu f (5 + p) v)) := by
  rw [mK_u0 (mK_n h) (mK_q h) hp]
  exact jOk_par h hp hv
theorem mok_spo {B : Int} {f : Int → Int} {p v : Int} (h : jOk B (mK f)) (hp : 0 ≤ p ∧ p < f 0) (hv : -1 ≤ v ∧ v < f 0) : jOk B (mK (jfu f (29 + p) v)) := by
  rw [mK_u1 (mK_n h) (mK_q h) hp]
  exact jOk_spo h hp hv
/-- b hangs together with a: it is in whatever holds a and goes along parents and marriages -/
def con (F : fS) (a b : Int) : Prop := ∀ P : Int → Prop, P a → (∀ x y, 0 ≤ x → x < F 6 0 → 0 ≤ y → (F 0 x = y ∨ F 1 x = y) → (P x ↔ P y)) → P b
theorem con.rf {F : fS} {a : Int} : con F a a := fun _ h _ => h
theorem con.tr {F : fS} {a b c : Int} (h1 : con F a b) (h2 : con F b c) : con F a c := fun P h hc => h2 P (h1 P h hc) hc
theorem con.ed {F : fS} {x y : Int} (h0 : 0 ≤ x) (h1 : x < F 6 0) (h2 : 0 ≤ y) (h3 : F 0 x = y ∨ F 1 x = y) : con F x y := fun _ h hc => (hc x y h0 h1 h2 h3).mp h
theorem con.de {F : fS} {x y : Int} (h0 : 0 ≤ x) (h1 : x < F 6 0) (h2 : 0 ≤ y) (h3 : F 0 x = y ∨ F 1 x = y) : con F y x := fun _ h hc => (hc x y h0 h1 h2 h3).mpr h
theorem con.sy {F : fS} {a b : Int} (h : con F a b) : con F b a :=
  h (fun z => con F z a) con.rf fun _ _ h0 h1 h2 h3 => ⟨fun q => (con.de h0 h1 h2 h3).tr q, fun q => (con.ed h0 h1 h2 h3).tr q⟩
theorem con.rg {B : Int} {F : fS} (hO : jOk B F) {a b : Int} (h : con F a b) (ha : 0 ≤ a ∧ a < F 6 0) : 0 ≤ b ∧ b < F 6 0 :=
  h (fun z => 0 ≤ z ∧ z < F 6 0) ha fun x y h0 h1 h2 h3 => ⟨fun _ => ⟨h2, by have := hO.p x; have := hO.s x; omega⟩, fun _ => ⟨h0, h1⟩⟩
/-- r is the house of p -/
def isHo (F : fS) (p r : Int) : Prop := con F p r ∧ ∀ q, con F p q → r ≤ q
theorem isHo.eq {F : fS} {p r r' : Int} (h : isHo F p r) (h' : isHo F p r') : r = r' := Int.le_antisymm (h.2 r' h'.1) (h'.2 r h.1)
noncomputable def fho (F : fS) (p : Int) : Int := Classical.epsilon (isHo F p)
theorem isHo.is {F : fS} {p r : Int} (h : isHo F p r) : fho F p = r := (Classical.epsilon_spec ⟨r, h⟩ : isHo F p (fho F p)).eq h
theorem isHo.fix {B : Int} {F : fS} (hO : jOk B F) {H : Int → Int} (ha : ∀ p, 0 ≤ p → p < F 6 0 → con F p (H p)) (hb : ∀ p, 0 ≤ p → p < F 6 0 → H p ≤ p) (hc : ∀ x y, 0 ≤ x → x < F 6 0 → 0 ≤ y → (F 0 x = y ∨ F 1 x = y) → H x = H y) {p : Int} (hp : 0 ≤ p ∧ p < F 6 0) : isHo F p (H p) := by
  refine ⟨ha p hp.1 hp.2, fun q hq => ?_⟩
  have e : H q = H p := hq (fun z => H z = H p) rfl fun x y h0 h1 h2 h3 => by rw [hc x y h0 h1 h2 h3]
  have r := hq.rg hO hp
  rw [← e]
  exact hb q r.1 r.2
theorem csum_u {f : Int → Int} {p v : Int} (hp : 0 ≤ p) : ∀ k : Nat, p < k → csum (jfu f p v) k = csum f k + (v - f p)
  | 0, h => absurd h (by omega)
  | k + 1, h => by
    show csum (jfu f p v) k + jfu f p v k = csum f k + f k + (v - f p)
    by_cases hk : (k : Int) = p
    · have e : csum (jfu f p v) k = csum f k := by
        have g : ∀ m : Nat, (m : Int) ≤ p → csum (jfu f p v) m = csum f m := by
          intro m
          induction m with
          | zero => intro _; rfl
          | succ m ih =>
            intro hm
            show csum (jfu f p v) m + jfu f p v m = csum f m + f m
            rw [ih (by omega), jfu_n (by omega)]
        exact g k (by omega)
      rw [e, hk, jfu_s]
      omega
    · rw [csum_u hp k (by omega), jfu_n hk]
      omega
theorem csum_p {f : Int → Int} : ∀ k : Nat, (∀ i : Int, 0 ≤ i → i < k → 0 ≤ f i) → 0 ≤ csum f k
  | 0, _ => Int.le_refl _
  | k + 1, h => by
    have h1 := csum_p k fun i h0 h1 => h i h0 (by omega)
    have h2 := h k (by omega) (by omega)
    show 0 ≤ csum f k + f k
    omega
/-- the children among c .. c + m - 1, each with what D says behind it -/
def dsl (F : fS) (D : Int → List Int) (p : Int) : Nat → Int → List Int
  | 0, _ => []
  | m + 1, c => (if F 0 c = p then c :: D c else []) ++ dsl F D p m (c + 1)
def des (F : fS) : Nat → Int → List Int
  | 0, _ => []
  | k + 1, p => dsl F (des F k) p (F 6 0).toNat 0
theorem dsl_mem {F : fS} {D : Int → List Int} {p x : Int} : ∀ (m : Nat) (c : Int), x ∈ dsl F D p m c → ∃ y, c ≤ y ∧ y < c + m ∧ F 0 y = p ∧ (x = y ∨ x ∈ D y)
  | 0, _, h => by cases h
  | m + 1, c, h => by
    rcases List.mem_append.mp h with h1 | h1
    · by_cases hc : F 0 c = p
      · rw [if_pos hc] at h1
        rcases List.mem_cons.mp h1 with h2 | h2
        · exact ⟨c, by omega, by omega, hc, Or.inl h2⟩
        · exact ⟨c, by omega, by omega, hc, Or.inr h2⟩
      · rw [if_neg hc] at h1
        cases h1
    · obtain ⟨y, a, b, d⟩ := dsl_mem m (c + 1) h1
      exact ⟨y, by omega, by omega, d⟩
/-- a descendant is some steps below -/
theorem des_up {F : fS} {x : Int} : ∀ (k : Nat) (p : Int), x ∈ des F k p → ∃ j : Nat, 0 < j ∧ upk (F 0) j x = p ∧ 0 ≤ x ∧ x < F 6 0
  | 0, _, h => by cases h
  | k + 1, p, h => by
    obtain ⟨y, a, b, d, e⟩ := dsl_mem _ _ h
    rcases e with e | e
    · exact ⟨1, by omega, by rw [e]; exact d, by omega, by omega⟩
    · obtain ⟨j, j0, j1, j2⟩ := des_up k y e
      exact ⟨j + 1, by omega, by rw [upk_s, j1]; exact d, j2⟩
theorem upk_cyc {par : Int → Int} {x : Int} {j : Nat} (h : upk par j x = x) : ∀ m : Nat, upk par (j * m) x = x
  | 0 => rfl
  | m + 1 => by
    rw [show j * (m + 1) = j * m + j by rw [Nat.mul_succ], upk_a, upk_cyc h m, h]
theorem upk_acy {B : Int} {F : fS} (hO : jOk B F) (hA : fAc F) {x : Int} {j : Nat} (hj : 0 < j) (hx : upk (F 0) j x = x) : x = -1 := by
  have e := upk_cyc hx 24
  have l : 24 ≤ j * 24 := Nat.le_mul_of_pos_left 24 hj
  obtain ⟨d, hd⟩ : ∃ d, j * 24 = 24 + d := ⟨j * 24 - 24, by omega⟩
  rw [hd, upk_a, hA x, upk_e hO.par1] at e
  exact e.symm
/-- no two children have a descendant in common -/
theorem up_meet {B : Int} {F : fS} (hO : jOk B F) (hA : fAc F) {x y z p : Int} {i j : Nat} (hi : upk (F 0) i x = y) (hj : upk (F 0) j x = z) (hy : F 0 y = p) (hz : F 0 z = p) (hp : p ≠ -1) : y = z := by
  have key : ∀ (i j : Nat), i ≤ j → ∀ y z, upk (F 0) i x = y → upk (F 0) j x = z → F 0 y = p → F 0 z = p → y = z := by
    intro i j hij y z hi hj hy hz
    obtain ⟨d, rfl⟩ : ∃ d, j = i + d := ⟨j - i, by omega⟩
    rw [upk_a, hi] at hj
    cases d with
    | zero => exact hj
    | succ d =>
      exfalso
      apply hp
      have e : upk (F 0) (d + 1) p = p := by
        have e1 : upk (F 0) (d + 1) y = z := hj
        have e2 : upk (F 0) d p = z := by rw [← hy]; exact e1
        rw [upk_s, e2, hz]
      exact upk_acy hO hA (Nat.succ_pos d) e
  rcases Nat.le_total i j with h | h
  · exact key i j h y z hi hj hy hz
  · exact (key j i h z y hj hi hz hy).symm
theorem dsl_nd {B : Int} {F : fS} (hO : jOk B F) (hA : fAc F) {D : Int → List Int} {p : Int} (hp : p ≠ -1) (hD : ∀ c x, x ∈ D c → ∃ j : Nat, 0 < j ∧ upk (F 0) j x = c) (hN : ∀ c, 0 ≤ c → F 0 c = p → (D c).Nodup) : ∀ (m : Nat) (c : Int), 0 ≤ c → (dsl F D p m c).Nodup
  | 0, _, _ => List.nodup_nil
  | m + 1, c, h0 => by
    have ih := dsl_nd hO hA hp hD hN m (c + 1) (by omega)
    show ((if F 0 c = p then c :: D c else []) ++ dsl F D p m (c + 1)).Nodup
    by_cases hc : F 0 c = p
    · rw [if_pos hc]
      refine List.nodup_append.mpr ⟨List.nodup_cons.mpr ⟨fun q => ?_, hN c h0 hc⟩, ih, ?_⟩
      · obtain ⟨j, j0, j1⟩ := hD c c q
        have := upk_acy hO hA j0 j1
        omega
      · intro a ha b hb hab
        subst hab
        obtain ⟨y, y1, y2, y3, y4⟩ := dsl_mem m (c + 1) hb
        have u1 : ∃ i : Nat, upk (F 0) i a = c := by
          rcases List.mem_cons.mp ha with q | q
          · exact ⟨0, q⟩
          · obtain ⟨i, _, i1⟩ := hD c a q; exact ⟨i, i1⟩
        have u2 : ∃ i : Nat, upk (F 0) i a = y := by
          rcases y4 with q | q
          · exact ⟨0, q⟩
          · obtain ⟨i, _, i1⟩ := hD y a q; exact ⟨i, i1⟩
        obtain ⟨i, i1⟩ := u1
        obtain ⟨j, j1⟩ := u2
        have := up_meet hO hA i1 j1 hc y3 hp
        omega
    · rw [if_neg hc]
      exact ih
theorem des_nd {B : Int} {F : fS} (hO : jOk B F) (hA : fAc F) : ∀ (k : Nat) (p : Int), p ≠ -1 → (des F k p).Nodup
  | 0, _, _ => List.nodup_nil
  | k + 1, p, hp => dsl_nd hO hA hp (fun c x hx => by obtain ⟨j, a, b, _⟩ := des_up k c hx; exact ⟨j, a, b⟩) (fun c h0 _ => des_nd hO hA k c (by omega)) _ 0 (Int.le_refl _)
theorem nodup_len : ∀ (n : Nat) (l : List Int), l.Nodup → (∀ x ∈ l, 0 ≤ x ∧ x < n) → l.length ≤ n
  | 0, l, _, h => by
    cases l with
    | nil => exact Nat.le_refl _
    | cons a t => have := h a List.mem_cons_self; omega
  | n + 1, l, hd, h => by
    have h1 : (l.erase (n : Int)).length ≤ n := by
      refine nodup_len n _ (hd.erase _) fun x hx => ?_
      have hm := List.mem_of_mem_erase hx
      have hne : x ≠ (n : Int) := fun e => by
        subst e
        exact (List.Nodup.mem_erase_iff hd).mp hx |>.1 rfl
      have := h x hm
      omega
    rw [List.length_erase] at h1
    split at h1 <;> omega
theorem des_len {B : Int} {F : fS} (hO : jOk B F) (hA : fAc F) (k : Nat) {p : Int} (hp : p ≠ -1) : (des F k p).length ≤ 24 := by
  have hn := hO.n
  have := nodup_len 24 _ (des_nd hO hA k p hp) fun x hx => by
    obtain ⟨_, _, _, a, b⟩ := des_up k p hx
    omega
  exact this
/-- a list written from i on -/
def jwl (R : Int → Int) (i : Int) : List Int → Int → Int
  | [] => R
  | x :: t => jwl (jfu R i x) (i + 1) t
theorem jwl_app (R : Int → Int) : ∀ (l l' : List Int) (i : Int) (R : Int → Int), jwl R i (l ++ l') = jwl (jwl R i l) (i + l.length) l'
  | [], l', i, R => by
    show jwl R i l' = jwl R (i + (0 : Nat)) l'
    rw [show i + ((0 : Nat) : Int) = i by omega]
  | x :: t, l', i, R => by
    show jwl (jfu R i x) (i + 1) (t ++ l') = jwl (jwl (jfu R i x) (i + 1) t) (i + ((t.length + 1 : Nat) : Int)) l'
    rw [jwl_app R t l' (i + 1) (jfu R i x), show i + 1 + (t.length : Int) = i + ((t.length + 1 : Nat) : Int) by omega]
theorem jwl_lo : ∀ (l : List Int) (i : Int) (R : Int → Int) (j : Int), j < i → jwl R i l j = R j
  | [], _, _, _, _ => rfl
  | x :: t, i, R, j, h => by
    show jwl (jfu R i x) (i + 1) t j = R j
    rw [jwl_lo t (i + 1) _ j (by omega), jfu_n (by omega)]
theorem jwl_at : ∀ (l : List Int) (i : Int) (R : Int → Int) (k : Nat) (x : Int), l[k]? = some x → jwl R i l (i + k) = x
  | [], _, _, _, _, h => by simp at h
  | y :: t, i, R, 0, x, h => by
    show jwl (jfu R i y) (i + 1) t (i + (0 : Nat)) = x
    rw [jwl_lo t (i + 1) _ _ (by omega), show i + ((0 : Nat) : Int) = i by omega, jfu_s]
    simpa using h
  | y :: t, i, R, k + 1, x, h => by
    show jwl (jfu R i y) (i + 1) t (i + ((k + 1 : Nat) : Int)) = x
    rw [show i + ((k + 1 : Nat) : Int) = i + 1 + (k : Int) by omega]
    exact jwl_at t (i + 1) _ k x (by simpa using h)
