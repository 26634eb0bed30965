theorem tk_n {s : Nat} (hs : s ≤ 23) : jmin ((nI s + 1) / (4 : Int32)) 6 = nI ((s + 1) / 4) := (show ∀ s, s < 24 → jmin ((nI s + 1) / (4 : Int32)) 6 = nI ((s + 1) / 4) by decide +kernel) s (by omega)
theorem p_takeWalkers {h : Hp} {sz : Nat} (hs : sz ≤ 23) (t : h.1 1 1 = nI sz) : Ok (f_X5_takeWalkers h) (fun h' => tkH sz (h.1 2) h h') := by
  unfold f_X5_takeWalkers
  refine ok_bdr (p_faultOfWalkers hs t) (fun x1 hx => ?_)
  rw [t, tk_n hs, lt1_if, lt1_if]
  by_cases er : wkR sz (h.1 2) = -1
  · rw [if_pos (hx.trans er), if_neg one_ne, nm_eq]
    exact tk_loop hs t ((sz + 1) / 4) _ rfl (by omega) (by rw [if_pos er]) (fun _ => ⟨er, rfl⟩) (fun _ => rfl)
  · rw [if_neg (fun q => er (hx.symm.trans q)), if_pos rfl, nm_eq]
    exact tk_loop hs t 0 _ rfl (by omega) (by rw [if_neg er]) (fun q => by omega) (fun q => absurd q er)
