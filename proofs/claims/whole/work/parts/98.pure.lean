theorem zz_law {L : Nat} (hL : L ≤ 2048) (xs : Nat → Int32) : zm_wp 12 0 0 (zm_lo [.ref 0] 4) [] (zm_h0 L xs) (fun r h' => r = some (.int 1) ∧ zm_nx h' ≤ 600001 ∧ zm_sl h' ≤ 7302250) := sorry
