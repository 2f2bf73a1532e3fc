theorem pure_ok : ∃ (N : Nat) (Rel : Nat → St → St → Prop), PureOK N Rel := sorry
