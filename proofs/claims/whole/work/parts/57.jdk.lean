section JGR
variable {M : jMe} {R : Room} {nw : List Nat} {Z : jFin} {pc : Nat} {L : List (Nat × Value)} {st : List Value} {h : jH} {nc ns : Nat}
/-- the static that the JDK's checks hand on: null, or some reference that is not ours -/
theorem j_getstR {i9 k : Nat} (hl : Cond.fieldLink M.1.cls i9 "jdk/internal/util/Preconditions" "SIOOBE_FORMATTER" "Ljava/util/function/BiFunction;" ∈ jWL) (hd : decode M.2.1 pc = .ok (.getstatic i9, 3)) (hk : h k = none) (hn : k ∈ nw) (hfr : jfr [k] L st)
    (kk : ∀ v : Value, (v = .null ∨ v = .ref k) → J M R nw Z (pc + 3) L (v :: st) h nc ns) : J M R nw Z pc L st h nc ns := by
  intro p l e s m args below meth c H locs ls D cy ad ad0 bs hX
  obtain ⟨x1, x2, x3, x4, x5, x6, x7, x8, x9⟩ := id hX
  obtain ⟨y1, y2, y3, y4, y5⟩ := x1
  rcases x3.1.2.2 with hz | ⟨t, hz⟩
  · exact va_gets y1 y2 hz x5 y4 (y5 _ hl) (fun _ q => q) hd (kk .null (.inl rfl) p l e s m args below meth c H locs ls D cy ad ad0 bs hX)
  · sorry
end JGR
