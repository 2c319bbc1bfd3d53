/-- v without its last j digits -/
def dvn (v : Int) : Nat → Int
  | 0 => v
  | j + 1 => dvn v j / 10
def dgt (v : Int) (j : Nat) : Int := 48 + dvn v j % 10
def dl (v : Int) : Int := if v < 10 then 1 else if v < 100 then 2 else if v < 1000 then 3 else if v < 10000 then 4 else if v < 100000 then 5 else if v < 1000000 then 6 else if v < 10000000 then 7 else 8
theorem dl_r (v : Int) : 1 ≤ dl v ∧ dl v ≤ 8 := by
  unfold dl
  repeat' split
  all_goals omega
theorem dl_100 {v : Int} (h : 100 ≤ v ∧ v ≤ 20000000) : dl v = dl (v / 100) + 2 := by
  unfold dl
  repeat' split
  all_goals omega
theorem dl_1 {v : Int} (h : 0 ≤ v ∧ v < 10) : dl v = 1 := if_pos h.2
theorem dl_2 {v : Int} (h : 10 ≤ v ∧ v < 100) : dl v = 2 := by
  unfold dl
  rw [if_neg (by omega), if_pos h.2]
theorem dvn_s (v : Int) : ∀ j : Nat, dvn (v / 10) j = dvn v (j + 1)
  | 0 => rfl
  | j + 1 => by
    show dvn (v / 10) j / 10 = dvn v (j + 1) / 10
    rw [dvn_s v j]
theorem dgt_s (v : Int) (j : Nat) : dgt (v / 10) j = dgt v (j + 1) := by
  unfold dgt
  rw [dvn_s]
theorem dvn_r {v : Int} (h : 0 ≤ v) : ∀ j : Nat, 0 ≤ dvn v j
  | 0 => h
  | j + 1 => by
    have := dvn_r h j
    show 0 ≤ dvn v j / 10
    omega
theorem dgt_r {v : Int} (h : 0 ≤ v) (j : Nat) : 48 ≤ dgt v j ∧ dgt v j ≤ 57 := by
  have := dvn_r h j
  unfold dgt
  omega
theorem dl_s {v : Int} (h : 10 ≤ v ∧ v ≤ 20000000) : dl v = dl (v / 10) + 1 := by
  unfold dl
  repeat' split
  all_goals omega
/-- the digits as the reference writes them -/
theorem dgs_e : ∀ (k : Nat) (v : Int), 0 ≤ v → v ≤ 20000000 → dl v ≤ k + 1 → ((dgs k v).length : Int) = dl v ∧ ∀ j : Nat, (j : Int) < dl v → (dgs k v)[j]? = some (dgt v ((dl v).toNat - 1 - j))
  | 0, v, h0, h1, h2 => by
    have r := dl_r v
    have e : dl v = 1 := by omega
    have hv : v < 10 := by
      refine Decidable.not_not.mp fun q => ?_
      have := dl_s (v := v) ⟨by omega, h1⟩
      have := dl_r (v / 10)
      omega
    refine ⟨by rw [e]; rfl, fun j hj => ?_⟩
    have : j = 0 := by omega
    subst this
    rw [e]
    show some (48 + v) = some (48 + v % 10)
    rw [show v % 10 = v by omega]
  | k + 1, v, h0, h1, h2 => by
    by_cases hv : 9 < v
    · have e : dgs (k + 1) v = dgs k (v / 10) ++ [48 + v % 10] := by
        show (if 9 < v then dgs k (Int.tdiv v 10) ++ [48 + (v - Int.tdiv v 10 * 10)] else [48 + v]) = _
        rw [if_pos hv, Int.tdiv_eq_ediv_of_nonneg h0, show v - v / 10 * 10 = v % 10 by omega]
      have s := dl_s (v := v) ⟨by omega, h1⟩
      obtain ⟨i1, i2⟩ := dgs_e k (v / 10) (by omega) (by omega) (by omega)
      have r := dl_r (v / 10)
      rw [e]
      refine ⟨by rw [List.length_append, s, ← i1]; rfl, fun j hj => ?_⟩
      by_cases hj2 : (j : Int) < dl (v / 10)
      · rw [List.getElem?_append_left (by omega), i2 j hj2, dgt_s, show (dl (v / 10)).toNat - 1 - j + 1 = (dl v).toNat - 1 - j by omega]
      · have : j = (dgs k (v / 10)).length := by omega
        subst this
        rw [List.getElem?_append_right (Nat.le_refl _), Nat.sub_self, show (dl v).toNat - 1 - (dgs k (v / 10)).length = 0 by omega]
        rfl
    · have e : dgs (k + 1) v = [48 + v] := if_neg hv
      have d1 := dl_1 (v := v) (by omega)
      rw [e, d1]
      refine ⟨rfl, fun j hj => ?_⟩
      have : j = 0 := by omega
      subst this
      show some (48 + v) = some (48 + v % 10)
      rw [show v % 10 = v by omega]
section JB3
variable {M : jMe} {R : Room} {nw : List Nat} {Z : jFin} {pc : Nat} {L : List (Nat × Value)} {st : List Value} {h : jH} {nc ns : Nat}
/-- a byte of a static row of Integer, at a place that a local holds -/
theorem j_sldB {i9 i : Nat} {n : String} {x : Int} {f : Nat → Int} (hq : ("java/lang/Integer", n, "[B", 3, 100, f) ∈ jRows) (hl : Cond.fieldLink M.1.cls i9 "java/lang/Integer" n "[B" ∈ jWL) (hd : decode M.2.1 pc = .ok (.getstatic i9, 3)) (hd2 : decode M.2.1 (pc + 3) = .ok (.iload i, 2)) (hd3 : decode M.2.1 (pc + 5) = .ok (.baload, 1)) (hv : L.lookup i = some (iv x)) (hx : 0 ≤ x ∧ x < 100) (kk : J M R nw Z (pc + 6) L (iv (f x.toNat) :: st) h nc ns) : J M R nw Z pc L st h nc ns := by
  intro p l e s m args below meth c H locs ls D cy ad ad0 bs hX
  have w := kk p l e s m args below meth c H locs ls D cy ad ad0 bs hX
  obtain ⟨⟨y1, y2, y3, y4, y5⟩, x2, x3, x4, x5, x6, x7, x8, -⟩ := hX
  obtain ⟨-, -, s3, -⟩ := x3
  obtain ⟨tA, hZ, hT⟩ := s3 _ hq
  refine va_gets y1 y2 (v := .ref tA) hZ x5 y4 (y5 _ hl) (fun _ q => q) hd ?_
  refine lv_iload y1 y2 hd2 (jL_at x8 hv) ?_
  obtain ⟨cell, c1, c2, c3, c4, c5, c6, c7⟩ := hT
  have hlt : x.toNat < 100 := by omega
  have hn := j_nat hx.1 (by omega : x ≤ 2147483647)
  refine W.bald (v := iv (f x.toNat)) y1 y2 (by rw [x5.2.1 tA (Array.getElem?_eq_some_iff.mp c1).1 c7]; exact c1) c2 c3 (fun q => ?_) (by rw [hn]; exact c6 x.toNat hlt) rfl rfl hd3 w
  rcases q with q | q
  · rw [Int32.lt_iff_toInt_lt, j_toI (by omega)] at q
    have := hx.1
    simp at q
    omega
  · rw [hn] at q
    have := hx.2
    have : 100 ≤ cell.slots.size := c4
    omega
end JB3
set_option maxHeartbeats 4000000 in
/-- J6_stringSize_0f7a4 -/
theorem cb_stringSize  {h : jH} {v : Int} (hv : 0 ≤ v ∧ v ≤ 20000000) : jM mJ6_stringSize_0f7a4 0 0 0 [] [iv v] h (jRet (iv (dl v)) h) jno := by
  refine j_method (by decide +kernel) rfl (fun _ _ _ => trivial) (Nat.le_of_ble_eq_true rfl) ?_
  generalize hZ : jZ [] 0 0 _ _ = Z
  show J mJ6_stringSize_0f7a4 (jR 0 0 0) [] Z 0 [(0, iv v)] [] h 0 0
  refine j_iconst dJ6_stringSize_0f7a4_0 ?_
  refine j_istore_n (L' := [(0, _), (1, _)]) dJ6_stringSize_0f7a4_1 rfl (by decide) rfl ?_
  refine j_iload_n dJ6_stringSize_0f7a4_2 rfl rfl ?_
  refine j_if_lt (tgt := 11) dJ6_stringSize_0f7a4_3 (by decide) (by omega) (fun c1 => (by omega)) (fun c1 => ?_)
  refine j_iconst dJ6_stringSize_0f7a4_6 ?_
  refine j_istore_n (L' := [(0, _), (1, _)]) dJ6_stringSize_0f7a4_7 rfl (by decide) rfl ?_
  refine j_iload_n dJ6_stringSize_0f7a4_8 rfl rfl ?_
  refine j_ineg dJ6_stringSize_0f7a4_9 ?_
  refine j_istore_n (L' := [(0, _), (1, _)]) dJ6_stringSize_0f7a4_10 rfl (by decide) rfl ?_
  refine j_bipush dJ6_stringSize_0f7a4_11 (by decide +kernel) ?_
  refine j_istore_n (L' := [(0, _), (1, _), (2, _)]) dJ6_stringSize_0f7a4_13 rfl (by decide) rfl ?_
  refine j_iconst dJ6_stringSize_0f7a4_14 ?_
  refine j_istore_n (L' := [(0, _), (1, _), (2, _), (3, _)]) dJ6_stringSize_0f7a4_15 rfl (by decide) rfl ?_
  refine j_iload_n dJ6_stringSize_0f7a4_16 rfl rfl ?_
  refine j_bipush dJ6_stringSize_0f7a4_17 (by decide +kernel) ?_
  refine j_icmp_ge (tgt := 42) dJ6_stringSize_0f7a4_19 (by decide) (by omega) (fun c2 => absurd c2 (by decide)) (fun c2 => ?_)
  refine j_iload_n dJ6_stringSize_0f7a4_22 rfl rfl ?_
  refine j_iload_n dJ6_stringSize_0f7a4_23 rfl rfl ?_
  refine j_icmp_le (tgt := 31) dJ6_stringSize_0f7a4_24 (by decide) (by omega) (fun c3 => ?_) (fun c3 => ?_)
  · refine j_bipush dJ6_stringSize_0f7a4_31 (by decide +kernel) ?_
    refine j_iload_n dJ6_stringSize_0f7a4_33 rfl rfl ?_
    refine j_imul dJ6_stringSize_0f7a4_34 ?_
    refine j_istore_n (L' := [(0, _), (1, _), (2, _), (3, _)]) dJ6_stringSize_0f7a4_35 rfl (by decide) rfl ?_
    refine j_iinc (L' := [(0, _), (1, _), (2, _), (3, _)]) dJ6_stringSize_0f7a4_36 rfl (by decide) rfl ?_
    refine j_goto (tgt := 16) dJ6_stringSize_0f7a4_39 (by decide) ?_
    refine j_iload_n dJ6_stringSize_0f7a4_16 rfl rfl ?_
    refine j_bipush dJ6_stringSize_0f7a4_17 (by decide +kernel) ?_
    refine j_icmp_ge (tgt := 42) dJ6_stringSize_0f7a4_19 (by decide) (by omega) (fun c4 => absurd c4 (by decide)) (fun c4 => ?_)
    refine j_iload_n dJ6_stringSize_0f7a4_22 rfl rfl ?_
    refine j_iload_n dJ6_stringSize_0f7a4_23 rfl rfl ?_
    refine j_icmp_le (tgt := 31) dJ6_stringSize_0f7a4_24 (by decide) (by omega) (fun c5 => ?_) (fun c5 => ?_)
    · refine j_bipush dJ6_stringSize_0f7a4_31 (by decide +kernel) ?_
      refine j_iload_n dJ6_stringSize_0f7a4_33 rfl rfl ?_
      refine j_imul dJ6_stringSize_0f7a4_34 ?_
      refine j_istore_n (L' := [(0, _), (1, _), (2, _), (3, _)]) dJ6_stringSize_0f7a4_35 rfl (by decide) rfl ?_
      refine j_iinc (L' := [(0, _), (1, _), (2, _), (3, _)]) dJ6_stringSize_0f7a4_36 rfl (by decide) rfl ?_
      refine j_goto (tgt := 16) dJ6_stringSize_0f7a4_39 (by decide) ?_
      refine j_iload_n dJ6_stringSize_0f7a4_16 rfl rfl ?_
      refine j_bipush dJ6_stringSize_0f7a4_17 (by decide +kernel) ?_
      refine j_icmp_ge (tgt := 42) dJ6_stringSize_0f7a4_19 (by decide) (by omega) (fun c6 => absurd c6 (by decide)) (fun c6 => ?_)
      refine j_iload_n dJ6_stringSize_0f7a4_22 rfl rfl ?_
      refine j_iload_n dJ6_stringSize_0f7a4_23 rfl rfl ?_
      refine j_icmp_le (tgt := 31) dJ6_stringSize_0f7a4_24 (by decide) (by omega) (fun c7 => ?_) (fun c7 => ?_)
      · refine j_bipush dJ6_stringSize_0f7a4_31 (by decide +kernel) ?_
        refine j_iload_n dJ6_stringSize_0f7a4_33 rfl rfl ?_
        refine j_imul dJ6_stringSize_0f7a4_34 ?_
        refine j_istore_n (L' := [(0, _), (1, _), (2, _), (3, _)]) dJ6_stringSize_0f7a4_35 rfl (by decide) rfl ?_
        refine j_iinc (L' := [(0, _), (1, _), (2, _), (3, _)]) dJ6_stringSize_0f7a4_36 rfl (by decide) rfl ?_
        refine j_goto (tgt := 16) dJ6_stringSize_0f7a4_39 (by decide) ?_
        refine j_iload_n dJ6_stringSize_0f7a4_16 rfl rfl ?_
        refine j_bipush dJ6_stringSize_0f7a4_17 (by decide +kernel) ?_
        refine j_icmp_ge (tgt := 42) dJ6_stringSize_0f7a4_19 (by decide) (by omega) (fun c8 => absurd c8 (by decide)) (fun c8 => ?_)
        refine j_iload_n dJ6_stringSize_0f7a4_22 rfl rfl ?_
        refine j_iload_n dJ6_stringSize_0f7a4_23 rfl rfl ?_
        refine j_icmp_le (tgt := 31) dJ6_stringSize_0f7a4_24 (by decide) (by omega) (fun c9 => ?_) (fun c9 => ?_)
        · refine j_bipush dJ6_stringSize_0f7a4_31 (by decide +kernel) ?_
          refine j_iload_n dJ6_stringSize_0f7a4_33 rfl rfl ?_
          refine j_imul dJ6_stringSize_0f7a4_34 ?_
          refine j_istore_n (L' := [(0, _), (1, _), (2, _), (3, _)]) dJ6_stringSize_0f7a4_35 rfl (by decide) rfl ?_
          refine j_iinc (L' := [(0, _), (1, _), (2, _), (3, _)]) dJ6_stringSize_0f7a4_36 rfl (by decide) rfl ?_
          refine j_goto (tgt := 16) dJ6_stringSize_0f7a4_39 (by decide) ?_
          refine j_iload_n dJ6_stringSize_0f7a4_16 rfl rfl ?_
          refine j_bipush dJ6_stringSize_0f7a4_17 (by decide +kernel) ?_
          refine j_icmp_ge (tgt := 42) dJ6_stringSize_0f7a4_19 (by decide) (by omega) (fun c10 => absurd c10 (by decide)) (fun c10 => ?_)
          refine j_iload_n dJ6_stringSize_0f7a4_22 rfl rfl ?_
          refine j_iload_n dJ6_stringSize_0f7a4_23 rfl rfl ?_
          refine j_icmp_le (tgt := 31) dJ6_stringSize_0f7a4_24 (by decide) (by omega) (fun c11 => ?_) (fun c11 => ?_)
          · refine j_bipush dJ6_stringSize_0f7a4_31 (by decide +kernel) ?_
            refine j_iload_n dJ6_stringSize_0f7a4_33 rfl rfl ?_
            refine j_imul dJ6_stringSize_0f7a4_34 ?_
            refine j_istore_n (L' := [(0, _), (1, _), (2, _), (3, _)]) dJ6_stringSize_0f7a4_35 rfl (by decide) rfl ?_
            refine j_iinc (L' := [(0, _), (1, _), (2, _), (3, _)]) dJ6_stringSize_0f7a4_36 rfl (by decide) rfl ?_
            refine j_goto (tgt := 16) dJ6_stringSize_0f7a4_39 (by decide) ?_
            refine j_iload_n dJ6_stringSize_0f7a4_16 rfl rfl ?_
            refine j_bipush dJ6_stringSize_0f7a4_17 (by decide +kernel) ?_
            refine j_icmp_ge (tgt := 42) dJ6_stringSize_0f7a4_19 (by decide) (by omega) (fun c12 => absurd c12 (by decide)) (fun c12 => ?_)
            refine j_iload_n dJ6_stringSize_0f7a4_22 rfl rfl ?_
            refine j_iload_n dJ6_stringSize_0f7a4_23 rfl rfl ?_
            refine j_icmp_le (tgt := 31) dJ6_stringSize_0f7a4_24 (by decide) (by omega) (fun c13 => ?_) (fun c13 => ?_)
            · refine j_bipush dJ6_stringSize_0f7a4_31 (by decide +kernel) ?_
              refine j_iload_n dJ6_stringSize_0f7a4_33 rfl rfl ?_
              refine j_imul dJ6_stringSize_0f7a4_34 ?_
              refine j_istore_n (L' := [(0, _), (1, _), (2, _), (3, _)]) dJ6_stringSize_0f7a4_35 rfl (by decide) rfl ?_
              refine j_iinc (L' := [(0, _), (1, _), (2, _), (3, _)]) dJ6_stringSize_0f7a4_36 rfl (by decide) rfl ?_
              refine j_goto (tgt := 16) dJ6_stringSize_0f7a4_39 (by decide) ?_
              refine j_iload_n dJ6_stringSize_0f7a4_16 rfl rfl ?_
              refine j_bipush dJ6_stringSize_0f7a4_17 (by decide +kernel) ?_
              refine j_icmp_ge (tgt := 42) dJ6_stringSize_0f7a4_19 (by decide) (by omega) (fun c14 => absurd c14 (by decide)) (fun c14 => ?_)
              refine j_iload_n dJ6_stringSize_0f7a4_22 rfl rfl ?_
              refine j_iload_n dJ6_stringSize_0f7a4_23 rfl rfl ?_
              refine j_icmp_le (tgt := 31) dJ6_stringSize_0f7a4_24 (by decide) (by omega) (fun c15 => ?_) (fun c15 => ?_)
              · refine j_bipush dJ6_stringSize_0f7a4_31 (by decide +kernel) ?_
                refine j_iload_n dJ6_stringSize_0f7a4_33 rfl rfl ?_
                refine j_imul dJ6_stringSize_0f7a4_34 ?_
                refine j_istore_n (L' := [(0, _), (1, _), (2, _), (3, _)]) dJ6_stringSize_0f7a4_35 rfl (by decide) rfl ?_
                refine j_iinc (L' := [(0, _), (1, _), (2, _), (3, _)]) dJ6_stringSize_0f7a4_36 rfl (by decide) rfl ?_
                refine j_goto (tgt := 16) dJ6_stringSize_0f7a4_39 (by decide) ?_
                refine j_iload_n dJ6_stringSize_0f7a4_16 rfl rfl ?_
                refine j_bipush dJ6_stringSize_0f7a4_17 (by decide +kernel) ?_
                refine j_icmp_ge (tgt := 42) dJ6_stringSize_0f7a4_19 (by decide) (by omega) (fun c16 => absurd c16 (by decide)) (fun c16 => ?_)
                refine j_iload_n dJ6_stringSize_0f7a4_22 rfl rfl ?_
                refine j_iload_n dJ6_stringSize_0f7a4_23 rfl rfl ?_
                refine j_icmp_le (tgt := 31) dJ6_stringSize_0f7a4_24 (by decide) (by omega) (fun c17 => ?_) (fun c17 => ?_)
                · refine j_bipush dJ6_stringSize_0f7a4_31 (by decide +kernel) ?_
                  refine j_iload_n dJ6_stringSize_0f7a4_33 rfl rfl ?_
                  refine j_imul dJ6_stringSize_0f7a4_34 ?_
                  refine j_istore_n (L' := [(0, _), (1, _), (2, _), (3, _)]) dJ6_stringSize_0f7a4_35 rfl (by decide) rfl ?_
                  refine j_iinc (L' := [(0, _), (1, _), (2, _), (3, _)]) dJ6_stringSize_0f7a4_36 rfl (by decide) rfl ?_
                  refine j_goto (tgt := 16) dJ6_stringSize_0f7a4_39 (by decide) ?_
                  refine j_iload_n dJ6_stringSize_0f7a4_16 rfl rfl ?_
                  refine j_bipush dJ6_stringSize_0f7a4_17 (by decide +kernel) ?_
                  refine j_icmp_ge (tgt := 42) dJ6_stringSize_0f7a4_19 (by decide) (by omega) (fun c18 => absurd c18 (by decide)) (fun c18 => ?_)
                  refine j_iload_n dJ6_stringSize_0f7a4_22 rfl rfl ?_
                  refine j_iload_n dJ6_stringSize_0f7a4_23 rfl rfl ?_
                  refine j_icmp_le (tgt := 31) dJ6_stringSize_0f7a4_24 (by decide) (by omega) (fun c19 => ?_) (fun c19 => ?_)
                  · refine j_bipush dJ6_stringSize_0f7a4_31 (by decide +kernel) ?_
                    refine j_iload_n dJ6_stringSize_0f7a4_33 rfl rfl ?_
                    refine j_imul dJ6_stringSize_0f7a4_34 ?_
                    refine j_istore_n (L' := [(0, _), (1, _), (2, _), (3, _)]) dJ6_stringSize_0f7a4_35 rfl (by decide) rfl ?_
                    refine j_iinc (L' := [(0, _), (1, _), (2, _), (3, _)]) dJ6_stringSize_0f7a4_36 rfl (by decide) rfl ?_
                    refine j_goto (tgt := 16) dJ6_stringSize_0f7a4_39 (by decide) ?_
                    refine j_iload_n dJ6_stringSize_0f7a4_16 rfl rfl ?_
                    refine j_bipush dJ6_stringSize_0f7a4_17 (by decide +kernel) ?_
                    refine j_icmp_ge (tgt := 42) dJ6_stringSize_0f7a4_19 (by decide) (by omega) (fun c20 => ?_) (fun c20 => absurd (by decide) c20)
                    refine j_bipush dJ6_stringSize_0f7a4_42 (by decide +kernel) ?_
                    refine j_iload_n dJ6_stringSize_0f7a4_44 rfl rfl ?_
                    refine j_iadd dJ6_stringSize_0f7a4_45 ?_
                    subst hZ
                    exact j_ireturn dJ6_stringSize_0f7a4_46 rfl rfl (jRet.i (by first | (exfalso; omega) | (unfold dl; repeat' split; all_goals omega))) (Nat.le_refl _) (Nat.le_refl _)
                  · refine j_iload_n dJ6_stringSize_0f7a4_27 rfl rfl ?_
                    refine j_iload_n dJ6_stringSize_0f7a4_28 rfl rfl ?_
                    refine j_iadd dJ6_stringSize_0f7a4_29 ?_
                    subst hZ
                    exact j_ireturn dJ6_stringSize_0f7a4_30 rfl rfl (jRet.i (by first | (exfalso; omega) | (unfold dl; repeat' split; all_goals omega))) (Nat.le_refl _) (Nat.le_refl _)
                · refine j_iload_n dJ6_stringSize_0f7a4_27 rfl rfl ?_
                  refine j_iload_n dJ6_stringSize_0f7a4_28 rfl rfl ?_
                  refine j_iadd dJ6_stringSize_0f7a4_29 ?_
                  subst hZ
                  exact j_ireturn dJ6_stringSize_0f7a4_30 rfl rfl (jRet.i (by first | (exfalso; omega) | (unfold dl; repeat' split; all_goals omega))) (Nat.le_refl _) (Nat.le_refl _)
              · refine j_iload_n dJ6_stringSize_0f7a4_27 rfl rfl ?_
                refine j_iload_n dJ6_stringSize_0f7a4_28 rfl rfl ?_
                refine j_iadd dJ6_stringSize_0f7a4_29 ?_
                subst hZ
                exact j_ireturn dJ6_stringSize_0f7a4_30 rfl rfl (jRet.i (by first | (exfalso; omega) | (unfold dl; repeat' split; all_goals omega))) (Nat.le_refl _) (Nat.le_refl _)
            · refine j_iload_n dJ6_stringSize_0f7a4_27 rfl rfl ?_
              refine j_iload_n dJ6_stringSize_0f7a4_28 rfl rfl ?_
              refine j_iadd dJ6_stringSize_0f7a4_29 ?_
              subst hZ
              exact j_ireturn dJ6_stringSize_0f7a4_30 rfl rfl (jRet.i (by first | (exfalso; omega) | (unfold dl; repeat' split; all_goals omega))) (Nat.le_refl _) (Nat.le_refl _)
          · refine j_iload_n dJ6_stringSize_0f7a4_27 rfl rfl ?_
            refine j_iload_n dJ6_stringSize_0f7a4_28 rfl rfl ?_
            refine j_iadd dJ6_stringSize_0f7a4_29 ?_
            subst hZ
            exact j_ireturn dJ6_stringSize_0f7a4_30 rfl rfl (jRet.i (by first | (exfalso; omega) | (unfold dl; repeat' split; all_goals omega))) (Nat.le_refl _) (Nat.le_refl _)
        · refine j_iload_n dJ6_stringSize_0f7a4_27 rfl rfl ?_
          refine j_iload_n dJ6_stringSize_0f7a4_28 rfl rfl ?_
          refine j_iadd dJ6_stringSize_0f7a4_29 ?_
          subst hZ
          exact j_ireturn dJ6_stringSize_0f7a4_30 rfl rfl (jRet.i (by first | (exfalso; omega) | (unfold dl; repeat' split; all_goals omega))) (Nat.le_refl _) (Nat.le_refl _)
      · refine j_iload_n dJ6_stringSize_0f7a4_27 rfl rfl ?_
        refine j_iload_n dJ6_stringSize_0f7a4_28 rfl rfl ?_
        refine j_iadd dJ6_stringSize_0f7a4_29 ?_
        subst hZ
        exact j_ireturn dJ6_stringSize_0f7a4_30 rfl rfl (jRet.i (by first | (exfalso; omega) | (unfold dl; repeat' split; all_goals omega))) (Nat.le_refl _) (Nat.le_refl _)
    · refine j_iload_n dJ6_stringSize_0f7a4_27 rfl rfl ?_
      refine j_iload_n dJ6_stringSize_0f7a4_28 rfl rfl ?_
      refine j_iadd dJ6_stringSize_0f7a4_29 ?_
      subst hZ
      exact j_ireturn dJ6_stringSize_0f7a4_30 rfl rfl (jRet.i (by first | (exfalso; omega) | (unfold dl; repeat' split; all_goals omega))) (Nat.le_refl _) (Nat.le_refl _)
  · refine j_iload_n dJ6_stringSize_0f7a4_27 rfl rfl ?_
    refine j_iload_n dJ6_stringSize_0f7a4_28 rfl rfl ?_
    refine j_iadd dJ6_stringSize_0f7a4_29 ?_
    subst hZ
    exact j_ireturn dJ6_stringSize_0f7a4_30 rfl rfl (jRet.i (by first | (exfalso; omega) | (unfold dl; repeat' split; all_goals omega))) (Nat.le_refl _) (Nat.le_refl _)
