theorem sim_ok : ∃ (N : Nat) (Rel : S7 → S8 → Prop), Sim N Rel := sorry
