theorem all_X3_readSum : ∀ lev : Nat, PS_X3_readSum lev := by
  intro lev
  induction lev with
  | zero => exact r_X3_readSum 0 (r_X3_readTerm 0 (r_X3_readFactor 0 (fun m h => absurd h (by omega))))
  | succ n ih => exact r_X3_readSum _ (r_X3_readTerm _ (r_X3_readFactor _ (fun m h => by
      obtain rfl : n = m := by omega
      exact ih)))
theorem all_X0_waysToWeigh : ∀ lev : Nat, PS_X0_waysToWeigh lev := by
  intro lev
  induction lev with
  | zero => exact r_X0_waysToWeigh 0 (fun m h => absurd h (by omega))
  | succ n ih => exact r_X0_waysToWeigh _ (fun m h => by
      obtain rfl : n = m := by omega
      exact ih)
theorem all_X8_grow : ∀ lev : Nat, PS_X8_grow lev := by
  intro lev
  induction lev with
  | zero => exact r_X8_grow 0 (fun m h => absurd h (by omega))
  | succ n ih => exact r_X8_grow _ (fun m h => by
      obtain rfl : n = m := by omega
      exact ih)
