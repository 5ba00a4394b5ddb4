theorem law_run (L : Nat) (xs : Nat → Int32) (hL : L ≤ 256) : ∃ (d : Nat) (h' : AHp) (cn sn : Nat), d ≤ 1000 ∧ cn ≤ 600000 ∧ sn ≤ 7302250 ∧ Ek (L, xs) d m_W_law 0 (iniL 4 [.ref 1000]) [] [] (some (.int 1)) h' cn sn := by
  sorry
