theorem all_X3_readChoice : ∀ lev : Nat, PS_X3_readChoice lev := by
  intro lev
  induction lev with
  | zero => exact r_X3_readChoice 0 (r_X3_readPart 0 (r_X3_readTest 0 (fun m h => absurd h (by omega))))
  | succ n ih => exact r_X3_readChoice _ (r_X3_readPart _ (r_X3_readTest _ (fun m h => by
      obtain rfl : n = m := by omega
      exact ih)))
