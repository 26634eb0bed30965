theorem op_never {h : Hp} (I : Inv h) : Step (f_X7_never h) (fun h1 => f_X8_never h1) := by
  obtain ⟨m, M, C, P⟩ := I
  refine comb P M (c_never M C) (r_X7_never h) (fun h1 P1 => ?_) (fun h1 => r_X8_never h1)
  unfold f_X8_never
  refine ok_bdv (m_find M P1) (fun h2 H2 => ?_)
  exact ok_bnd (m_neverNow M H2.1) (fun h4 x H => ok_some ⟨H.1, H.2.1⟩)
