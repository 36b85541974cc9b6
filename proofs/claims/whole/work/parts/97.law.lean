theorem sk_law_walk {Γ : sk_T} (hL : sk_len Γ ≤ 2560) : sk_W Γ m_law 1101 25936 0 [(0, .ref sk_scr)] [] sk_g0 sk_i0 sk_j0 0 0 (fun r _ _ _ => r = .inl (some (.int 1))) := by
  sorry
