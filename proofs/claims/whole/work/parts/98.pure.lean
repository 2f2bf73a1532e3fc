/-! the pure side: all calls agree -/
theorem pure_ok : ∃ (N : Nat) (Rel : Nat → St → St → Prop), PureOK N Rel := by
  have hN : (1000000 : Nat) ≤ 1000000 := Nat.le_refl _
  refine ⟨1000000, Rel, Rel_0, ?_, ?_, ?_, ?_, ?_, ?_, ?_, ?_, ?_, ?_⟩
  · intro j ν μ p0 p1 hj h; exact ok_words (N := 1000000) (by omega) p0 p1 h
  · intro j ν μ hj h; exact ok_compile (N := 1000000) (by omega) h
  · intro j ν μ hj h; exact ok_start (N := 1000000) (by omega) h
  · intro j ν μ p0 hj h; exact ok_key p0 h
  · intro j ν μ p0 hj h; exact ok_run (N := 1000000) hN p0 hj h
  · intro j ν μ p0 hj h; exact ok_shown p0 hj h
  · intro j ν μ p0 hj h; exact ok_global p0 h
  · intro j ν μ p0 p1 hj h; exact ok_array p0 p1 h
  · intro j ν μ p0 hj h; exact ok_about p0 h
  · intro j ν μ hj h; exact Rel_no h
